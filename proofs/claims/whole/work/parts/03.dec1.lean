theorem dX9_height_4 : decode cX9_height 4 = .ok (.ifCond .eq 8, 3) := by decide +kernel
theorem dX9_height_7 : decode cX9_height 7 = .ok (.bipush (-4), 2) := by decide +kernel
theorem dX9_height_9 : decode cX9_height 9 = .ok (.goto 10, 3) := by decide +kernel
theorem dX9_height_12 : decode cX9_height 12 = .ok (.aload_n 0, 1) := by decide +kernel
theorem dX9_height_13 : decode cX9_height 13 = .ok (.getfield 26, 3) := by decide +kernel
theorem dX9_height_16 : decode cX9_height 16 = .ok (.invokevirtual 115, 3) := by decide +kernel
theorem dX9_height_19 : decode cX9_height 19 = .ok (.ireturn, 1) := by decide +kernel
theorem dX9_letters_0 : decode cX9_letters 0 = .ok (.aload_n 0, 1) := by decide +kernel
theorem dX9_letters_1 : decode cX9_letters 1 = .ok (.getfield 71, 3) := by decide +kernel
theorem dX9_letters_4 : decode cX9_letters 4 = .ok (.ifCond .eq 8, 3) := by decide +kernel
theorem dX9_letters_7 : decode cX9_letters 7 = .ok (.bipush (-4), 2) := by decide +kernel
theorem dX9_letters_9 : decode cX9_letters 9 = .ok (.goto 14, 3) := by decide +kernel
theorem dX9_letters_12 : decode cX9_letters 12 = .ok (.aload_n 0, 1) := by decide +kernel
theorem dX9_letters_13 : decode cX9_letters 13 = .ok (.getfield 26, 3) := by decide +kernel
theorem dX9_letters_16 : decode cX9_letters 16 = .ok (.getfield 107, 3) := by decide +kernel
theorem dX9_letters_19 : decode cX9_letters 19 = .ok (.iconst 0, 1) := by decide +kernel
theorem dX9_letters_20 : decode cX9_letters 20 = .ok (.invokestatic 118, 3) := by decide +kernel
theorem dX9_letters_23 : decode cX9_letters 23 = .ok (.ireturn, 1) := by decide +kernel
theorem dX9_page_0 : decode cX9_page 0 = .ok (.aload_n 0, 1) := by decide +kernel
theorem dX9_page_1 : decode cX9_page 1 = .ok (.getfield 71, 3) := by decide +kernel
theorem dX9_page_4 : decode cX9_page 4 = .ok (.ifCond .eq 6, 3) := by decide +kernel
theorem dX9_page_7 : decode cX9_page 7 = .ok (.bipush (-4), 2) := by decide +kernel
theorem dX9_page_9 : decode cX9_page 9 = .ok (.ireturn, 1) := by decide +kernel
theorem dX9_page_10 : decode cX9_page 10 = .ok (.aload_n 0, 1) := by decide +kernel
theorem dX9_page_11 : decode cX9_page 11 = .ok (.getfield 26, 3) := by decide +kernel
theorem dX9_page_14 : decode cX9_page 14 = .ok (.getfield 107, 3) := by decide +kernel
theorem dX9_page_17 : decode cX9_page 17 = .ok (.iload_n 1, 1) := by decide +kernel
theorem dX9_page_18 : decode cX9_page 18 = .ok (.iconst 0, 1) := by decide +kernel
theorem dX9_page_19 : decode cX9_page 19 = .ok (.invokestatic 121, 3) := by decide +kernel
theorem dX9_page_22 : decode cX9_page 22 = .ok (.astore_n 3, 1) := by decide +kernel
theorem dX9_page_23 : decode cX9_page 23 = .ok (.aload_n 3, 1) := by decide +kernel
theorem dX9_page_24 : decode cX9_page 24 = .ok (.ifnonnull 5, 3) := by decide +kernel
theorem dX9_page_27 : decode cX9_page 27 = .ok (.iconst (-1), 1) := by decide +kernel
theorem dX9_page_28 : decode cX9_page 28 = .ok (.ireturn, 1) := by decide +kernel
theorem dX9_page_29 : decode cX9_page 29 = .ok (.iload_n 2, 1) := by decide +kernel
theorem dX9_page_30 : decode cX9_page 30 = .ok (.tableswitch 61 0 3 #[30, 43, 48, 56], 30) := by decide +kernel
theorem dX9_page_60 : decode cX9_page 60 = .ok (.aload_n 3, 1) := by decide +kernel
theorem dX9_page_61 : decode cX9_page 61 = .ok (.invokevirtual 125, 3) := by decide +kernel
theorem dX9_page_64 : decode cX9_page 64 = .ok (.ifCond .eq 7, 3) := by decide +kernel
theorem dX9_page_67 : decode cX9_page 67 = .ok (.iconst 0, 1) := by decide +kernel
theorem dX9_page_68 : decode cX9_page 68 = .ok (.goto 4, 3) := by decide +kernel
theorem dX9_page_71 : decode cX9_page 71 = .ok (.iconst 1, 1) := by decide +kernel
theorem dX9_page_72 : decode cX9_page 72 = .ok (.ireturn, 1) := by decide +kernel
theorem dX9_page_73 : decode cX9_page 73 = .ok (.aload_n 3, 1) := by decide +kernel
theorem dX9_page_74 : decode cX9_page 74 = .ok (.invokevirtual 131, 3) := by decide +kernel
theorem dX9_page_77 : decode cX9_page 77 = .ok (.ireturn, 1) := by decide +kernel
theorem dX9_page_78 : decode cX9_page 78 = .ok (.aload_n 3, 1) := by decide +kernel
theorem dX9_page_79 : decode cX9_page 79 = .ok (.getfield 134, 3) := by decide +kernel
theorem dX9_page_82 : decode cX9_page 82 = .ok (.invokevirtual 98, 3) := by decide +kernel
theorem dX9_page_85 : decode cX9_page 85 = .ok (.ireturn, 1) := by decide +kernel
theorem dX9_page_86 : decode cX9_page 86 = .ok (.aload_n 3, 1) := by decide +kernel
theorem dX9_page_87 : decode cX9_page 87 = .ok (.getfield 137, 3) := by decide +kernel
theorem dX9_page_90 : decode cX9_page 90 = .ok (.ireturn, 1) := by decide +kernel
theorem dX9_page_91 : decode cX9_page 91 = .ok (.iconst (-1), 1) := by decide +kernel
theorem dX9_page_92 : decode cX9_page 92 = .ok (.ireturn, 1) := by decide +kernel
theorem dX9_border_0 : decode cX9_border 0 = .ok (.aload_n 0, 1) := by decide +kernel
theorem dX9_border_1 : decode cX9_border 1 = .ok (.getfield 71, 3) := by decide +kernel
theorem dX9_border_4 : decode cX9_border 4 = .ok (.ifCond .eq 6, 3) := by decide +kernel
theorem dX9_border_7 : decode cX9_border 7 = .ok (.bipush (-4), 2) := by decide +kernel
theorem dX9_border_9 : decode cX9_border 9 = .ok (.ireturn, 1) := by decide +kernel
theorem dX9_border_10 : decode cX9_border 10 = .ok (.aload_n 0, 1) := by decide +kernel
theorem dX9_border_11 : decode cX9_border 11 = .ok (.getfield 26, 3) := by decide +kernel
theorem dX9_border_14 : decode cX9_border 14 = .ok (.getfield 107, 3) := by decide +kernel
theorem dX9_border_17 : decode cX9_border 17 = .ok (.iload_n 1, 1) := by decide +kernel
theorem dX9_border_18 : decode cX9_border 18 = .ok (.iconst 0, 1) := by decide +kernel
theorem dX9_border_19 : decode cX9_border 19 = .ok (.invokestatic 121, 3) := by decide +kernel
theorem dX9_border_22 : decode cX9_border 22 = .ok (.astore_n 3, 1) := by decide +kernel
theorem dX9_border_23 : decode cX9_border 23 = .ok (.aload_n 3, 1) := by decide +kernel
theorem dX9_border_24 : decode cX9_border 24 = .ok (.ifnull 8, 3) := by decide +kernel
theorem dX9_border_27 : decode cX9_border 27 = .ok (.iload_n 2, 1) := by decide +kernel
theorem dX9_border_28 : decode cX9_border 28 = .ok (.iconst 1, 1) := by decide +kernel
theorem dX9_border_29 : decode cX9_border 29 = .ok (.if_icmp .ge 5, 3) := by decide +kernel
theorem dX9_border_32 : decode cX9_border 32 = .ok (.iconst (-1), 1) := by decide +kernel
theorem dX9_border_33 : decode cX9_border 33 = .ok (.ireturn, 1) := by decide +kernel
theorem dX9_border_34 : decode cX9_border 34 = .ok (.aload_n 3, 1) := by decide +kernel
theorem dX9_border_35 : decode cX9_border 35 = .ok (.invokevirtual 125, 3) := by decide +kernel
theorem dX9_border_38 : decode cX9_border 38 = .ok (.ifCond .eq 42, 3) := by decide +kernel
theorem dX9_border_41 : decode cX9_border 41 = .ok (.iload_n 2, 1) := by decide +kernel
theorem dX9_border_42 : decode cX9_border 42 = .ok (.aload_n 3, 1) := by decide +kernel
theorem dX9_border_43 : decode cX9_border 43 = .ok (.getfield 140, 3) := by decide +kernel
theorem dX9_border_46 : decode cX9_border 46 = .ok (.getfield 95, 3) := by decide +kernel
theorem dX9_border_49 : decode cX9_border 49 = .ok (.invokevirtual 98, 3) := by decide +kernel
theorem dX9_border_52 : decode cX9_border 52 = .ok (.if_icmp .gt 28, 3) := by decide +kernel
theorem dX9_border_55 : decode cX9_border 55 = .ok (.aload_n 0, 1) := by decide +kernel
theorem dX9_border_56 : decode cX9_border 56 = .ok (.aload_n 3, 1) := by decide +kernel
theorem dX9_border_57 : decode cX9_border 57 = .ok (.getfield 140, 3) := by decide +kernel
theorem dX9_border_60 : decode cX9_border 60 = .ok (.getfield 95, 3) := by decide +kernel
theorem dX9_border_63 : decode cX9_border 63 = .ok (.iload_n 2, 1) := by decide +kernel
theorem dX9_border_64 : decode cX9_border 64 = .ok (.iconst 1, 1) := by decide +kernel
theorem dX9_border_65 : decode cX9_border 65 = .ok (.isub, 1) := by decide +kernel
theorem dX9_border_66 : decode cX9_border 66 = .ok (.invokevirtual 143, 3) := by decide +kernel
theorem dX9_border_69 : decode cX9_border 69 = .ok (.checkcast 147, 3) := by decide +kernel
theorem dX9_border_72 : decode cX9_border 72 = .ok (.getfield 149, 3) := by decide +kernel
theorem dX9_border_75 : decode cX9_border 75 = .ok (.putfield 91, 3) := by decide +kernel
theorem dX9_border_78 : decode cX9_border 78 = .ok (.iconst 1, 1) := by decide +kernel
theorem dX9_border_79 : decode cX9_border 79 = .ok (.ireturn, 1) := by decide +kernel
theorem dX9_border_80 : decode cX9_border 80 = .ok (.iload_n 2, 1) := by decide +kernel
theorem dX9_border_81 : decode cX9_border 81 = .ok (.aload_n 3, 1) := by decide +kernel
theorem dX9_border_82 : decode cX9_border 82 = .ok (.getfield 152, 3) := by decide +kernel
theorem dX9_border_85 : decode cX9_border 85 = .ok (.invokevirtual 98, 3) := by decide +kernel
theorem dX9_border_88 : decode cX9_border 88 = .ok (.if_icmp .ge 23, 3) := by decide +kernel
theorem dX9_border_91 : decode cX9_border 91 = .ok (.aload_n 0, 1) := by decide +kernel
theorem dX9_border_92 : decode cX9_border 92 = .ok (.aload_n 3, 1) := by decide +kernel
theorem dX9_border_93 : decode cX9_border 93 = .ok (.getfield 152, 3) := by decide +kernel
theorem dX9_border_96 : decode cX9_border 96 = .ok (.iload_n 2, 1) := by decide +kernel
theorem dX9_border_97 : decode cX9_border 97 = .ok (.invokevirtual 143, 3) := by decide +kernel
theorem dX9_border_100 : decode cX9_border 100 = .ok (.checkcast 126, 3) := by decide +kernel
theorem dX9_border_103 : decode cX9_border 103 = .ok (.getfield 155, 3) := by decide +kernel
theorem dX9_border_106 : decode cX9_border 106 = .ok (.putfield 91, 3) := by decide +kernel
theorem dX9_border_109 : decode cX9_border 109 = .ok (.iconst 1, 1) := by decide +kernel
theorem dX9_border_110 : decode cX9_border 110 = .ok (.ireturn, 1) := by decide +kernel
theorem dX9_border_111 : decode cX9_border 111 = .ok (.iconst (-1), 1) := by decide +kernel
theorem dX9_border_112 : decode cX9_border 112 = .ok (.ireturn, 1) := by decide +kernel
theorem dX9_letter_0 : decode cX9_letter 0 = .ok (.aload_n 0, 1) := by decide +kernel
theorem dX9_letter_1 : decode cX9_letter 1 = .ok (.getfield 71, 3) := by decide +kernel
theorem dX9_letter_4 : decode cX9_letter 4 = .ok (.ifCond .eq 6, 3) := by decide +kernel
theorem dX9_letter_7 : decode cX9_letter 7 = .ok (.bipush (-4), 2) := by decide +kernel
theorem dX9_letter_9 : decode cX9_letter 9 = .ok (.ireturn, 1) := by decide +kernel
theorem dX9_letter_10 : decode cX9_letter 10 = .ok (.aload_n 0, 1) := by decide +kernel
theorem dX9_letter_11 : decode cX9_letter 11 = .ok (.getfield 26, 3) := by decide +kernel
theorem dX9_letter_14 : decode cX9_letter 14 = .ok (.getfield 107, 3) := by decide +kernel
theorem dX9_letter_17 : decode cX9_letter 17 = .ok (.iload_n 1, 1) := by decide +kernel
theorem dX9_letter_18 : decode cX9_letter 18 = .ok (.iconst 0, 1) := by decide +kernel
theorem dX9_letter_19 : decode cX9_letter 19 = .ok (.invokestatic 121, 3) := by decide +kernel
theorem dX9_letter_22 : decode cX9_letter 22 = .ok (.astore 4, 2) := by decide +kernel
theorem dX9_letter_24 : decode cX9_letter 24 = .ok (.aload 4, 2) := by decide +kernel
theorem dX9_letter_26 : decode cX9_letter 26 = .ok (.ifnull 19, 3) := by decide +kernel
theorem dX9_letter_29 : decode cX9_letter 29 = .ok (.iload_n 2, 1) := by decide +kernel
theorem dX9_letter_30 : decode cX9_letter 30 = .ok (.ifCond .lt 15, 3) := by decide +kernel
theorem dX9_letter_33 : decode cX9_letter 33 = .ok (.iload_n 2, 1) := by decide +kernel
theorem dX9_letter_34 : decode cX9_letter 34 = .ok (.aload 4, 2) := by decide +kernel
theorem dX9_letter_36 : decode cX9_letter 36 = .ok (.getfield 134, 3) := by decide +kernel
theorem dX9_letter_39 : decode cX9_letter 39 = .ok (.invokevirtual 98, 3) := by decide +kernel
theorem dX9_letter_42 : decode cX9_letter 42 = .ok (.if_icmp .lt 5, 3) := by decide +kernel
theorem dX9_letter_45 : decode cX9_letter 45 = .ok (.iconst (-1), 1) := by decide +kernel
theorem dX9_letter_46 : decode cX9_letter 46 = .ok (.ireturn, 1) := by decide +kernel
theorem dX9_letter_47 : decode cX9_letter 47 = .ok (.aload 4, 2) := by decide +kernel
theorem dX9_letter_49 : decode cX9_letter 49 = .ok (.getfield 134, 3) := by decide +kernel
theorem dX9_letter_52 : decode cX9_letter 52 = .ok (.iload_n 2, 1) := by decide +kernel
theorem dX9_letter_53 : decode cX9_letter 53 = .ok (.invokevirtual 143, 3) := by decide +kernel
theorem dX9_letter_56 : decode cX9_letter 56 = .ok (.checkcast 158, 3) := by decide +kernel
theorem dX9_letter_59 : decode cX9_letter 59 = .ok (.astore 5, 2) := by decide +kernel
theorem dX9_letter_61 : decode cX9_letter 61 = .ok (.iload_n 3, 1) := by decide +kernel
theorem dX9_letter_62 : decode cX9_letter 62 = .ok (.ifCond .ne 9, 3) := by decide +kernel
theorem dX9_letter_65 : decode cX9_letter 65 = .ok (.aload 5, 2) := by decide +kernel
theorem dX9_letter_67 : decode cX9_letter 67 = .ok (.getfield 160, 3) := by decide +kernel
theorem dX9_letter_70 : decode cX9_letter 70 = .ok (.ireturn, 1) := by decide +kernel
theorem dX9_letter_71 : decode cX9_letter 71 = .ok (.iload_n 3, 1) := by decide +kernel
theorem dX9_letter_72 : decode cX9_letter 72 = .ok (.iconst 1, 1) := by decide +kernel
theorem dX9_letter_73 : decode cX9_letter 73 = .ok (.if_icmp .ne 11, 3) := by decide +kernel
theorem dX9_letter_76 : decode cX9_letter 76 = .ok (.aload 5, 2) := by decide +kernel
theorem dX9_letter_78 : decode cX9_letter 78 = .ok (.getfield 163, 3) := by decide +kernel
theorem dX9_letter_81 : decode cX9_letter 81 = .ok (.goto 4, 3) := by decide +kernel
theorem dX9_letter_84 : decode cX9_letter 84 = .ok (.iconst (-1), 1) := by decide +kernel
theorem dX9_letter_85 : decode cX9_letter 85 = .ok (.ireturn, 1) := by decide +kernel
theorem dX9_met_0 : decode cX9_met 0 = .ok (.aload_n 0, 1) := by decide +kernel
theorem dX9_met_1 : decode cX9_met 1 = .ok (.getfield 71, 3) := by decide +kernel
theorem dX9_met_4 : decode cX9_met 4 = .ok (.ifCond .eq 8, 3) := by decide +kernel
theorem dX9_met_7 : decode cX9_met 7 = .ok (.bipush (-4), 2) := by decide +kernel
theorem dX9_met_9 : decode cX9_met 9 = .ok (.goto 11, 3) := by decide +kernel
theorem dX9_met_12 : decode cX9_met 12 = .ok (.aload_n 0, 1) := by decide +kernel
theorem dX9_met_13 : decode cX9_met 13 = .ok (.getfield 26, 3) := by decide +kernel
theorem dX9_met_16 : decode cX9_met 16 = .ok (.lload_n 1, 1) := by decide +kernel
theorem dX9_met_17 : decode cX9_met 17 = .ok (.invokevirtual 166, 3) := by decide +kernel
theorem dX9_met_20 : decode cX9_met 20 = .ok (.ireturn, 1) := by decide +kernel
theorem dX9_sync_0 : decode cX9_sync 0 = .ok (.aload_n 0, 1) := by decide +kernel
theorem dX9_sync_1 : decode cX9_sync 1 = .ok (.getfield 71, 3) := by decide +kernel
theorem dX9_sync_4 : decode cX9_sync 4 = .ok (.ifCond .eq 6, 3) := by decide +kernel
theorem dX9_sync_7 : decode cX9_sync 7 = .ok (.bipush (-4), 2) := by decide +kernel
theorem dX9_sync_9 : decode cX9_sync 9 = .ok (.ireturn, 1) := by decide +kernel
theorem dX9_sync_10 : decode cX9_sync 10 = .ok (.aload_n 0, 1) := by decide +kernel
theorem dX9_sync_11 : decode cX9_sync 11 = .ok (.getfield 26, 3) := by decide +kernel
theorem dX9_sync_14 : decode cX9_sync 14 = .ok (.getfield 107, 3) := by decide +kernel
theorem dX9_sync_17 : decode cX9_sync 17 = .ok (.iconst 0, 1) := by decide +kernel
theorem dX9_sync_18 : decode cX9_sync 18 = .ok (.invokestatic 169, 3) := by decide +kernel
theorem dX9_sync_21 : decode cX9_sync 21 = .ok (.istore_n 1, 1) := by decide +kernel
theorem dX9_sync_22 : decode cX9_sync 22 = .ok (.aload_n 0, 1) := by decide +kernel
theorem dX9_sync_23 : decode cX9_sync 23 = .ok (.invokevirtual 172, 3) := by decide +kernel
theorem dX9_sync_26 : decode cX9_sync 26 = .ok (.iload_n 1, 1) := by decide +kernel
theorem dX9_sync_27 : decode cX9_sync 27 = .ok (.if_icmp .ge 6, 3) := by decide +kernel
theorem dX9_sync_30 : decode cX9_sync 30 = .ok (.bipush (-3), 2) := by decide +kernel
theorem dX9_sync_32 : decode cX9_sync 32 = .ok (.ireturn, 1) := by decide +kernel
theorem dX9_sync_33 : decode cX9_sync 33 = .ok (.aload_n 0, 1) := by decide +kernel
theorem dX9_sync_34 : decode cX9_sync 34 = .ok (.invokevirtual 175, 3) := by decide +kernel
theorem dX9_sync_37 : decode cX9_sync 37 = .ok (.ifCond .eq 9, 3) := by decide +kernel
theorem dX9_sync_40 : decode cX9_sync 40 = .ok (.iload_n 1, 1) := by decide +kernel
theorem dX9_sync_41 : decode cX9_sync 41 = .ok (.iconst 1, 1) := by decide +kernel
theorem dX9_sync_42 : decode cX9_sync 42 = .ok (.iadd, 1) := by decide +kernel
theorem dX9_sync_43 : decode cX9_sync 43 = .ok (.goto 5, 3) := by decide +kernel
theorem dX9_sync_46 : decode cX9_sync 46 = .ok (.bipush (-5), 2) := by decide +kernel
theorem dX9_sync_48 : decode cX9_sync 48 = .ok (.ireturn, 1) := by decide +kernel
theorem dX9_picture_0 : decode cX9_picture 0 = .ok (.aload_n 0, 1) := by decide +kernel
theorem dX9_picture_1 : decode cX9_picture 1 = .ok (.getfield 71, 3) := by decide +kernel
theorem dX9_picture_4 : decode cX9_picture 4 = .ok (.ifCond .eq 6, 3) := by decide +kernel
theorem dX9_picture_7 : decode cX9_picture 7 = .ok (.bipush (-4), 2) := by decide +kernel
theorem dX9_picture_9 : decode cX9_picture 9 = .ok (.ireturn, 1) := by decide +kernel
theorem dX9_picture_10 : decode cX9_picture 10 = .ok (.aload_n 0, 1) := by decide +kernel
theorem dX9_picture_11 : decode cX9_picture 11 = .ok (.getfield 40, 3) := by decide +kernel
theorem dX9_picture_14 : decode cX9_picture 14 = .ok (.invokevirtual 98, 3) := by decide +kernel
theorem dX9_picture_17 : decode cX9_picture 17 = .ok (.bipush 12, 2) := by decide +kernel
theorem dX9_picture_19 : decode cX9_picture 19 = .ok (.if_icmp .ge 21, 3) := by decide +kernel
theorem dX9_picture_22 : decode cX9_picture 22 = .ok (.aload_n 0, 1) := by decide +kernel
theorem dX9_picture_23 : decode cX9_picture 23 = .ok (.invokevirtual 172, 3) := by decide +kernel
theorem dX9_picture_26 : decode cX9_picture 26 = .ok (.aload_n 0, 1) := by decide +kernel
theorem dX9_picture_27 : decode cX9_picture 27 = .ok (.getfield 26, 3) := by decide +kernel
theorem dX9_picture_30 : decode cX9_picture 30 = .ok (.getfield 107, 3) := by decide +kernel
theorem dX9_picture_33 : decode cX9_picture 33 = .ok (.iconst 0, 1) := by decide +kernel
theorem dX9_picture_34 : decode cX9_picture 34 = .ok (.invokestatic 169, 3) := by decide +kernel
theorem dX9_picture_37 : decode cX9_picture 37 = .ok (.if_icmp .ge 6, 3) := by decide +kernel
theorem dX9_picture_40 : decode cX9_picture 40 = .ok (.bipush (-3), 2) := by decide +kernel
theorem dX9_picture_42 : decode cX9_picture 42 = .ok (.ireturn, 1) := by decide +kernel
theorem dX9_picture_43 : decode cX9_picture 43 = .ok (.aload_n 0, 1) := by decide +kernel
theorem dX9_picture_44 : decode cX9_picture 44 = .ok (.dup, 1) := by decide +kernel
theorem dX9_picture_45 : decode cX9_picture 45 = .ok (.getfield 178, 3) := by decide +kernel
theorem dX9_picture_48 : decode cX9_picture 48 = .ok (.iconst 1, 1) := by decide +kernel
theorem dX9_picture_49 : decode cX9_picture 49 = .ok (.iadd, 1) := by decide +kernel
theorem dX9_picture_50 : decode cX9_picture 50 = .ok (.putfield 178, 3) := by decide +kernel
theorem dX9_picture_53 : decode cX9_picture 53 = .ok (.aload_n 0, 1) := by decide +kernel
theorem dX9_picture_54 : decode cX9_picture 54 = .ok (.getfield 40, 3) := by decide +kernel
theorem dX9_picture_57 : decode cX9_picture 57 = .ok (.new 181, 3) := by decide +kernel
theorem dX9_picture_60 : decode cX9_picture 60 = .ok (.dup, 1) := by decide +kernel
theorem dX9_picture_61 : decode cX9_picture 61 = .ok (.aload_n 0, 1) := by decide +kernel
theorem dX9_picture_62 : decode cX9_picture 62 = .ok (.getfield 178, 3) := by decide +kernel
theorem dX9_picture_65 : decode cX9_picture 65 = .ok (.aload_n 0, 1) := by decide +kernel
theorem dX9_picture_66 : decode cX9_picture 66 = .ok (.getfield 26, 3) := by decide +kernel
theorem dX9_picture_69 : decode cX9_picture 69 = .ok (.getfield 107, 3) := by decide +kernel
theorem dX9_picture_72 : decode cX9_picture 72 = .ok (.invokespecial 183, 3) := by decide +kernel
theorem dX9_picture_75 : decode cX9_picture 75 = .ok (.invokevirtual 186, 3) := by decide +kernel
theorem dX9_picture_78 : decode cX9_picture 78 = .ok (.pop, 1) := by decide +kernel
theorem dX9_picture_79 : decode cX9_picture 79 = .ok (.aload_n 0, 1) := by decide +kernel
theorem dX9_picture_80 : decode cX9_picture 80 = .ok (.invokevirtual 175, 3) := by decide +kernel
theorem dX9_picture_83 : decode cX9_picture 83 = .ok (.ifCond .eq 10, 3) := by decide +kernel
theorem dX9_picture_86 : decode cX9_picture 86 = .ok (.aload_n 0, 1) := by decide +kernel
theorem dX9_picture_87 : decode cX9_picture 87 = .ok (.getfield 178, 3) := by decide +kernel
theorem dX9_picture_90 : decode cX9_picture 90 = .ok (.goto 5, 3) := by decide +kernel
theorem dX9_picture_93 : decode cX9_picture 93 = .ok (.bipush (-5), 2) := by decide +kernel
theorem dX9_picture_95 : decode cX9_picture 95 = .ok (.ireturn, 1) := by decide +kernel
theorem dX9_look_0 : decode cX9_look 0 = .ok (.aload_n 0, 1) := by decide +kernel
theorem dX9_look_1 : decode cX9_look 1 = .ok (.getfield 71, 3) := by decide +kernel
theorem dX9_look_4 : decode cX9_look 4 = .ok (.ifCond .eq 6, 3) := by decide +kernel
theorem dX9_look_7 : decode cX9_look 7 = .ok (.bipush (-4), 2) := by decide +kernel
theorem dX9_look_9 : decode cX9_look 9 = .ok (.ireturn, 1) := by decide +kernel
theorem dX9_look_10 : decode cX9_look 10 = .ok (.aload_n 0, 1) := by decide +kernel
theorem dX9_look_11 : decode cX9_look 11 = .ok (.iload_n 1, 1) := by decide +kernel
theorem dX9_look_12 : decode cX9_look 12 = .ok (.invokevirtual 190, 3) := by decide +kernel
theorem dX9_look_15 : decode cX9_look 15 = .ok (.istore 4, 2) := by decide +kernel
theorem dX9_look_17 : decode cX9_look 17 = .ok (.iload 4, 2) := by decide +kernel
theorem dX9_look_19 : decode cX9_look 19 = .ok (.ifCond .ge 6, 3) := by decide +kernel
theorem dX9_look_22 : decode cX9_look 22 = .ok (.bipush (-2), 2) := by decide +kernel
theorem dX9_look_24 : decode cX9_look 24 = .ok (.ireturn, 1) := by decide +kernel
theorem dX9_look_25 : decode cX9_look 25 = .ok (.aload_n 0, 1) := by decide +kernel
theorem dX9_look_26 : decode cX9_look 26 = .ok (.aload_n 0, 1) := by decide +kernel
theorem dX9_look_27 : decode cX9_look 27 = .ok (.getfield 40, 3) := by decide +kernel
theorem dX9_look_30 : decode cX9_look 30 = .ok (.iload 4, 2) := by decide +kernel
theorem dX9_look_32 : decode cX9_look 32 = .ok (.invokevirtual 143, 3) := by decide +kernel
theorem dX9_look_35 : decode cX9_look 35 = .ok (.checkcast 181, 3) := by decide +kernel
theorem dX9_look_38 : decode cX9_look 38 = .ok (.getfield 193, 3) := by decide +kernel
theorem dX9_look_41 : decode cX9_look 41 = .ok (.lload_n 2, 1) := by decide +kernel
theorem dX9_look_42 : decode cX9_look 42 = .ok (.iconst 0, 1) := by decide +kernel
theorem dX9_look_43 : decode cX9_look 43 = .ok (.invokestatic 194, 3) := by decide +kernel
theorem dX9_look_46 : decode cX9_look 46 = .ok (.invokevirtual 75, 3) := by decide +kernel
theorem dX9_look_49 : decode cX9_look 49 = .ok (.ireturn, 1) := by decide +kernel
theorem dX9_release_0 : decode cX9_release 0 = .ok (.aload_n 0, 1) := by decide +kernel
theorem dX9_release_1 : decode cX9_release 1 = .ok (.getfield 71, 3) := by decide +kernel
theorem dX9_release_4 : decode cX9_release 4 = .ok (.ifCond .eq 6, 3) := by decide +kernel
theorem dX9_release_7 : decode cX9_release 7 = .ok (.bipush (-4), 2) := by decide +kernel
theorem dX9_release_9 : decode cX9_release 9 = .ok (.ireturn, 1) := by decide +kernel
theorem dX9_release_10 : decode cX9_release 10 = .ok (.aload_n 0, 1) := by decide +kernel
theorem dX9_release_11 : decode cX9_release 11 = .ok (.iload_n 1, 1) := by decide +kernel
theorem dX9_release_12 : decode cX9_release 12 = .ok (.invokevirtual 190, 3) := by decide +kernel
theorem dX9_release_15 : decode cX9_release 15 = .ok (.istore_n 2, 1) := by decide +kernel
theorem dX9_release_16 : decode cX9_release 16 = .ok (.iload_n 2, 1) := by decide +kernel
theorem dX9_release_17 : decode cX9_release 17 = .ok (.ifCond .ge 5, 3) := by decide +kernel
theorem dX9_release_20 : decode cX9_release 20 = .ok (.iconst (-1), 1) := by decide +kernel
theorem dX9_release_21 : decode cX9_release 21 = .ok (.ireturn, 1) := by decide +kernel
theorem dX9_release_22 : decode cX9_release 22 = .ok (.aload_n 0, 1) := by decide +kernel
theorem dX9_release_23 : decode cX9_release 23 = .ok (.getfield 40, 3) := by decide +kernel
theorem dX9_release_26 : decode cX9_release 26 = .ok (.iload_n 2, 1) := by decide +kernel
theorem dX9_release_27 : decode cX9_release 27 = .ok (.invokevirtual 198, 3) := by decide +kernel
theorem dX9_release_30 : decode cX9_release 30 = .ok (.pop, 1) := by decide +kernel
theorem dX9_release_31 : decode cX9_release 31 = .ok (.aload_n 0, 1) := by decide +kernel
theorem dX9_release_32 : decode cX9_release 32 = .ok (.getfield 40, 3) := by decide +kernel
theorem dX9_release_35 : decode cX9_release 35 = .ok (.invokevirtual 98, 3) := by decide +kernel
theorem dX9_release_38 : decode cX9_release 38 = .ok (.ireturn, 1) := by decide +kernel
theorem dX9_pictured_0 : decode cX9_pictured 0 = .ok (.aload_n 0, 1) := by decide +kernel
theorem dX9_pictured_1 : decode cX9_pictured 1 = .ok (.getfield 71, 3) := by decide +kernel
theorem dX9_pictured_4 : decode cX9_pictured 4 = .ok (.ifCond .eq 6, 3) := by decide +kernel
theorem dX9_pictured_7 : decode cX9_pictured 7 = .ok (.bipush (-4), 2) := by decide +kernel
theorem dX9_pictured_9 : decode cX9_pictured 9 = .ok (.ireturn, 1) := by decide +kernel
theorem dX9_pictured_10 : decode cX9_pictured 10 = .ok (.iload_n 1, 1) := by decide +kernel
theorem dX9_pictured_11 : decode cX9_pictured 11 = .ok (.ifCond .lt 14, 3) := by decide +kernel
theorem dX9_pictured_14 : decode cX9_pictured 14 = .ok (.iload_n 1, 1) := by decide +kernel
theorem dX9_pictured_15 : decode cX9_pictured 15 = .ok (.aload_n 0, 1) := by decide +kernel
theorem dX9_pictured_16 : decode cX9_pictured 16 = .ok (.getfield 40, 3) := by decide +kernel
theorem dX9_pictured_19 : decode cX9_pictured 19 = .ok (.invokevirtual 98, 3) := by decide +kernel
theorem dX9_pictured_22 : decode cX9_pictured 22 = .ok (.if_icmp .lt 5, 3) := by decide +kernel
theorem dX9_pictured_25 : decode cX9_pictured 25 = .ok (.iconst (-1), 1) := by decide +kernel
theorem dX9_pictured_26 : decode cX9_pictured 26 = .ok (.ireturn, 1) := by decide +kernel
theorem dX9_pictured_27 : decode cX9_pictured 27 = .ok (.aload_n 0, 1) := by decide +kernel
theorem dX9_pictured_28 : decode cX9_pictured 28 = .ok (.getfield 40, 3) := by decide +kernel
theorem dX9_pictured_31 : decode cX9_pictured 31 = .ok (.iload_n 1, 1) := by decide +kernel
theorem dX9_pictured_32 : decode cX9_pictured 32 = .ok (.invokevirtual 143, 3) := by decide +kernel
theorem dX9_pictured_35 : decode cX9_pictured 35 = .ok (.checkcast 181, 3) := by decide +kernel
theorem dX9_pictured_38 : decode cX9_pictured 38 = .ok (.getfield 201, 3) := by decide +kernel
theorem dX9_pictured_41 : decode cX9_pictured 41 = .ok (.ireturn, 1) := by decide +kernel
theorem dX9_free_0 : decode cX9_free 0 = .ok (.aload_n 0, 1) := by decide +kernel
theorem dX9_free_1 : decode cX9_free 1 = .ok (.getfield 71, 3) := by decide +kernel
theorem dX9_free_4 : decode cX9_free 4 = .ok (.ifCond .eq 8, 3) := by decide +kernel
theorem dX9_free_7 : decode cX9_free 7 = .ok (.bipush (-4), 2) := by decide +kernel
theorem dX9_free_9 : decode cX9_free 9 = .ok (.goto 7, 3) := by decide +kernel
theorem dX9_free_12 : decode cX9_free 12 = .ok (.aload_n 0, 1) := by decide +kernel
theorem dX9_free_13 : decode cX9_free 13 = .ok (.invokevirtual 172, 3) := by decide +kernel
theorem dX9_free_16 : decode cX9_free 16 = .ok (.ireturn, 1) := by decide +kernel
theorem dX9_fall_0 : decode cX9_fall 0 = .ok (.iload_n 1, 1) := by decide +kernel
theorem dX9_fall_1 : decode cX9_fall 1 = .ok (.ifCond .lt 10, 3) := by decide +kernel
theorem dX9_fall_4 : decode cX9_fall 4 = .ok (.iload_n 1, 1) := by decide +kernel
theorem dX9_fall_5 : decode cX9_fall 5 = .ok (.sipush 10000, 3) := by decide +kernel
theorem dX9_fall_8 : decode cX9_fall 8 = .ok (.if_icmp .le 6, 3) := by decide +kernel
theorem dX9_fall_11 : decode cX9_fall 11 = .ok (.bipush (-2), 2) := by decide +kernel
theorem dX9_fall_13 : decode cX9_fall 13 = .ok (.ireturn, 1) := by decide +kernel
theorem dX9_fall_14 : decode cX9_fall 14 = .ok (.aload_n 0, 1) := by decide +kernel
theorem dX9_fall_15 : decode cX9_fall 15 = .ok (.getfield 19, 3) := by decide +kernel
theorem dX9_fall_18 : decode cX9_fall 18 = .ok (.iload_n 1, 1) := by decide +kernel
theorem dX9_fall_19 : decode cX9_fall 19 = .ok (.putfield 202, 3) := by decide +kernel
theorem dX9_fall_22 : decode cX9_fall 22 = .ok (.iload_n 1, 1) := by decide +kernel
theorem dX9_fall_23 : decode cX9_fall 23 = .ok (.ireturn, 1) := by decide +kernel
theorem dX9_crash_0 : decode cX9_crash 0 = .ok (.aload_n 0, 1) := by decide +kernel
theorem dX9_crash_1 : decode cX9_crash 1 = .ok (.getfield 71, 3) := by decide +kernel
theorem dX9_crash_4 : decode cX9_crash 4 = .ok (.ifCond .eq 6, 3) := by decide +kernel
theorem dX9_crash_7 : decode cX9_crash 7 = .ok (.bipush (-4), 2) := by decide +kernel
theorem dX9_crash_9 : decode cX9_crash 9 = .ok (.ireturn, 1) := by decide +kernel
theorem dX9_crash_10 : decode cX9_crash 10 = .ok (.aload_n 0, 1) := by decide +kernel
theorem dX9_crash_11 : decode cX9_crash 11 = .ok (.invokevirtual 205, 3) := by decide +kernel
theorem dX9_crash_14 : decode cX9_crash 14 = .ok (.iconst 0, 1) := by decide +kernel
theorem dX9_crash_15 : decode cX9_crash 15 = .ok (.ireturn, 1) := by decide +kernel
theorem dX9_rise_0 : decode cX9_rise 0 = .ok (.aload_n 0, 1) := by decide +kernel
theorem dX9_rise_1 : decode cX9_rise 1 = .ok (.getfield 71, 3) := by decide +kernel
theorem dX9_rise_4 : decode cX9_rise 4 = .ok (.ifCond .ne 6, 3) := by decide +kernel
theorem dX9_rise_7 : decode cX9_rise 7 = .ok (.bipush (-2), 2) := by decide +kernel
theorem dX9_rise_9 : decode cX9_rise 9 = .ok (.ireturn, 1) := by decide +kernel
theorem dX9_rise_10 : decode cX9_rise 10 = .ok (.aload_n 0, 1) := by decide +kernel
theorem dX9_rise_11 : decode cX9_rise 11 = .ok (.invokevirtual 44, 3) := by decide +kernel
theorem dX9_rise_14 : decode cX9_rise 14 = .ok (.aload_n 0, 1) := by decide +kernel
theorem dX9_rise_15 : decode cX9_rise 15 = .ok (.getfield 19, 3) := by decide +kernel
theorem dX9_rise_18 : decode cX9_rise 18 = .ok (.invokevirtual 208, 3) := by decide +kernel
theorem dX9_rise_21 : decode cX9_rise 21 = .ok (.astore_n 1, 1) := by decide +kernel
theorem dX9_rise_22 : decode cX9_rise 22 = .ok (.aload_n 1, 1) := by decide +kernel
theorem dX9_rise_23 : decode cX9_rise 23 = .ok (.ifnull 19, 3) := by decide +kernel
theorem dX9_rise_26 : decode cX9_rise 26 = .ok (.aload_n 0, 1) := by decide +kernel
theorem dX9_rise_27 : decode cX9_rise 27 = .ok (.aload_n 1, 1) := by decide +kernel
theorem dX9_rise_28 : decode cX9_rise 28 = .ok (.invokevirtual 212, 3) := by decide +kernel
theorem dX9_rise_31 : decode cX9_rise 31 = .ok (.aload_n 0, 1) := by decide +kernel
theorem dX9_rise_32 : decode cX9_rise 32 = .ok (.aload_n 0, 1) := by decide +kernel
theorem dX9_rise_33 : decode cX9_rise 33 = .ok (.getfield 19, 3) := by decide +kernel
theorem dX9_rise_36 : decode cX9_rise 36 = .ok (.invokevirtual 216, 3) := by decide +kernel
theorem dX9_rise_39 : decode cX9_rise 39 = .ok (.putfield 178, 3) := by decide +kernel
theorem dX9_rise_42 : decode cX9_rise 42 = .ok (.aload_n 0, 1) := by decide +kernel
theorem dX9_rise_43 : decode cX9_rise 43 = .ok (.getfield 219, 3) := by decide +kernel
theorem dX9_rise_46 : decode cX9_rise 46 = .ok (.ireturn, 1) := by decide +kernel
theorem dX9_disk_0 : decode cX9_disk 0 = .ok (.iload_n 1, 1) := by decide +kernel
theorem dX9_disk_1 : decode cX9_disk 1 = .ok (.ifCond .lt 17, 3) := by decide +kernel
theorem dX9_disk_4 : decode cX9_disk 4 = .ok (.iload_n 1, 1) := by decide +kernel
theorem dX9_disk_5 : decode cX9_disk 5 = .ok (.iconst 1, 1) := by decide +kernel
theorem dX9_disk_6 : decode cX9_disk 6 = .ok (.if_icmp .gt 12, 3) := by decide +kernel
theorem dX9_disk_9 : decode cX9_disk 9 = .ok (.iload_n 2, 1) := by decide +kernel
theorem dX9_disk_10 : decode cX9_disk 10 = .ok (.ifCond .lt 8, 3) := by decide +kernel
theorem dX9_disk_13 : decode cX9_disk 13 = .ok (.iload_n 2, 1) := by decide +kernel
theorem dX9_disk_14 : decode cX9_disk 14 = .ok (.iconst 3, 1) := by decide +kernel
theorem dX9_disk_15 : decode cX9_disk 15 = .ok (.if_icmp .le 5, 3) := by decide +kernel
theorem dX9_disk_18 : decode cX9_disk 18 = .ok (.iconst (-1), 1) := by decide +kernel
theorem dX9_disk_19 : decode cX9_disk 19 = .ok (.ireturn, 1) := by decide +kernel
theorem dX9_disk_20 : decode cX9_disk 20 = .ok (.aload_n 0, 1) := by decide +kernel
theorem dX9_disk_21 : decode cX9_disk 21 = .ok (.getfield 19, 3) := by decide +kernel
theorem dX9_disk_24 : decode cX9_disk 24 = .ok (.getfield 222, 3) := by decide +kernel
theorem dX9_disk_27 : decode cX9_disk 27 = .ok (.iload_n 1, 1) := by decide +kernel
theorem dX9_disk_28 : decode cX9_disk 28 = .ok (.aaload, 1) := by decide +kernel
theorem dX9_disk_29 : decode cX9_disk 29 = .ok (.astore_n 3, 1) := by decide +kernel
theorem dX9_disk_30 : decode cX9_disk 30 = .ok (.aload_n 3, 1) := by decide +kernel
theorem dX9_disk_31 : decode cX9_disk 31 = .ok (.ifnonnull 5, 3) := by decide +kernel
theorem dX9_disk_34 : decode cX9_disk 34 = .ok (.iconst 0, 1) := by decide +kernel
theorem dX9_disk_35 : decode cX9_disk 35 = .ok (.ireturn, 1) := by decide +kernel
theorem dX9_disk_36 : decode cX9_disk 36 = .ok (.iload_n 2, 1) := by decide +kernel
theorem dX9_disk_37 : decode cX9_disk 37 = .ok (.tableswitch 45 0 2 #[27, 32, 37], 27) := by decide +kernel
theorem dX9_disk_64 : decode cX9_disk 64 = .ok (.aload_n 3, 1) := by decide +kernel
theorem dX9_disk_65 : decode cX9_disk 65 = .ok (.getfield 226, 3) := by decide +kernel
theorem dX9_disk_68 : decode cX9_disk 68 = .ok (.ireturn, 1) := by decide +kernel
theorem dX9_disk_69 : decode cX9_disk 69 = .ok (.aload_n 3, 1) := by decide +kernel
theorem dX9_disk_70 : decode cX9_disk 70 = .ok (.getfield 229, 3) := by decide +kernel
theorem dX9_disk_73 : decode cX9_disk 73 = .ok (.ireturn, 1) := by decide +kernel
theorem dX9_disk_74 : decode cX9_disk 74 = .ok (.aload_n 3, 1) := by decide +kernel
theorem dX9_disk_75 : decode cX9_disk 75 = .ok (.getfield 230, 3) := by decide +kernel
theorem dX9_disk_78 : decode cX9_disk 78 = .ok (.invokevirtual 98, 3) := by decide +kernel
theorem dX9_disk_81 : decode cX9_disk 81 = .ok (.ireturn, 1) := by decide +kernel
theorem dX9_disk_82 : decode cX9_disk 82 = .ok (.aload_n 3, 1) := by decide +kernel
theorem dX9_disk_83 : decode cX9_disk 83 = .ok (.getfield 231, 3) := by decide +kernel
theorem dX9_disk_86 : decode cX9_disk 86 = .ok (.iconst 0, 1) := by decide +kernel
theorem dX9_disk_87 : decode cX9_disk 87 = .ok (.invokestatic 111, 3) := by decide +kernel
theorem dX9_disk_90 : decode cX9_disk 90 = .ok (.ireturn, 1) := by decide +kernel
theorem dX9_bend_0 : decode cX9_bend 0 = .ok (.iload_n 1, 1) := by decide +kernel
theorem dX9_bend_1 : decode cX9_bend 1 = .ok (.ifCond .lt 8, 3) := by decide +kernel
theorem dX9_bend_4 : decode cX9_bend 4 = .ok (.iload_n 1, 1) := by decide +kernel
theorem dX9_bend_5 : decode cX9_bend 5 = .ok (.iconst 1, 1) := by decide +kernel
theorem dX9_bend_6 : decode cX9_bend 6 = .ok (.if_icmp .le 5, 3) := by decide +kernel
theorem dX9_bend_9 : decode cX9_bend 9 = .ok (.iconst (-1), 1) := by decide +kernel
theorem dX9_bend_10 : decode cX9_bend 10 = .ok (.ireturn, 1) := by decide +kernel
theorem dX9_bend_11 : decode cX9_bend 11 = .ok (.aload_n 0, 1) := by decide +kernel
theorem dX9_bend_12 : decode cX9_bend 12 = .ok (.getfield 19, 3) := by decide +kernel
theorem dX9_bend_15 : decode cX9_bend 15 = .ok (.getfield 222, 3) := by decide +kernel
theorem dX9_bend_18 : decode cX9_bend 18 = .ok (.iload_n 1, 1) := by decide +kernel
theorem dX9_bend_19 : decode cX9_bend 19 = .ok (.aaload, 1) := by decide +kernel
theorem dX9_bend_20 : decode cX9_bend 20 = .ok (.ifnonnull 7, 3) := by decide +kernel
theorem dX9_bend_23 : decode cX9_bend 23 = .ok (.iconst 0, 1) := by decide +kernel
theorem dX9_bend_24 : decode cX9_bend 24 = .ok (.goto 4, 3) := by decide +kernel
theorem dX9_bend_27 : decode cX9_bend 27 = .ok (.iconst 1, 1) := by decide +kernel
theorem dX9_bend_28 : decode cX9_bend 28 = .ok (.istore_n 2, 1) := by decide +kernel
theorem dX9_bend_29 : decode cX9_bend 29 = .ok (.aload_n 0, 1) := by decide +kernel
theorem dX9_bend_30 : decode cX9_bend 30 = .ok (.getfield 19, 3) := by decide +kernel
theorem dX9_bend_33 : decode cX9_bend 33 = .ok (.getfield 222, 3) := by decide +kernel
theorem dX9_bend_36 : decode cX9_bend 36 = .ok (.iload_n 1, 1) := by decide +kernel
theorem dX9_bend_37 : decode cX9_bend 37 = .ok (.aconst_null, 1) := by decide +kernel
theorem dX9_bend_38 : decode cX9_bend 38 = .ok (.aastore, 1) := by decide +kernel
theorem dX9_bend_39 : decode cX9_bend 39 = .ok (.iload_n 2, 1) := by decide +kernel
theorem dX9_bend_40 : decode cX9_bend 40 = .ok (.ireturn, 1) := by decide +kernel
theorem dX9_writes_0 : decode cX9_writes 0 = .ok (.iload_n 1, 1) := by decide +kernel
theorem dX9_writes_1 : decode cX9_writes 1 = .ok (.ifCond .lt 15, 3) := by decide +kernel
theorem dX9_writes_4 : decode cX9_writes 4 = .ok (.iload_n 1, 1) := by decide +kernel
theorem dX9_writes_5 : decode cX9_writes 5 = .ok (.aload_n 0, 1) := by decide +kernel
theorem dX9_writes_6 : decode cX9_writes 6 = .ok (.getfield 19, 3) := by decide +kernel
theorem dX9_writes_9 : decode cX9_writes 9 = .ok (.getfield 232, 3) := by decide +kernel
theorem dX9_writes_12 : decode cX9_writes 12 = .ok (.arraylength, 1) := by decide +kernel
theorem dX9_writes_13 : decode cX9_writes 13 = .ok (.if_icmp .lt 5, 3) := by decide +kernel
theorem dX9_writes_16 : decode cX9_writes 16 = .ok (.iconst (-1), 1) := by decide +kernel
theorem dX9_writes_17 : decode cX9_writes 17 = .ok (.ireturn, 1) := by decide +kernel
theorem dX9_writes_18 : decode cX9_writes 18 = .ok (.aload_n 0, 1) := by decide +kernel
theorem dX9_writes_19 : decode cX9_writes 19 = .ok (.getfield 19, 3) := by decide +kernel
theorem dX9_writes_22 : decode cX9_writes 22 = .ok (.getfield 232, 3) := by decide +kernel
theorem dX9_writes_25 : decode cX9_writes 25 = .ok (.iload_n 1, 1) := by decide +kernel
theorem dX9_writes_26 : decode cX9_writes 26 = .ok (.iaload, 1) := by decide +kernel
theorem dX9_writes_27 : decode cX9_writes 27 = .ok (.ireturn, 1) := by decide +kernel
theorem dX9_number_0 : decode cX9_number 0 = .ok (.aload_n 0, 1) := by decide +kernel
theorem dX9_number_1 : decode cX9_number 1 = .ok (.getfield 71, 3) := by decide +kernel
theorem dX9_number_4 : decode cX9_number 4 = .ok (.ifCond .eq 6, 3) := by decide +kernel
theorem dX9_number_7 : decode cX9_number 7 = .ok (.bipush (-4), 2) := by decide +kernel
theorem dX9_number_9 : decode cX9_number 9 = .ok (.ireturn, 1) := by decide +kernel
theorem dX9_number_10 : decode cX9_number 10 = .ok (.iload_n 1, 1) := by decide +kernel
theorem dX9_number_11 : decode cX9_number 11 = .ok (.ifCond .ne 8, 3) := by decide +kernel
theorem dX9_number_14 : decode cX9_number 14 = .ok (.aload_n 0, 1) := by decide +kernel
theorem dX9_number_15 : decode cX9_number 15 = .ok (.getfield 236, 3) := by decide +kernel
theorem dX9_number_18 : decode cX9_number 18 = .ok (.ireturn, 1) := by decide +kernel
theorem dX9_number_19 : decode cX9_number 19 = .ok (.iload_n 1, 1) := by decide +kernel
theorem dX9_number_20 : decode cX9_number 20 = .ok (.iconst 1, 1) := by decide +kernel
theorem dX9_number_21 : decode cX9_number 21 = .ok (.if_icmp .ne 10, 3) := by decide +kernel
theorem dX9_number_24 : decode cX9_number 24 = .ok (.aload_n 0, 1) := by decide +kernel
theorem dX9_number_25 : decode cX9_number 25 = .ok (.getfield 219, 3) := by decide +kernel
theorem dX9_number_28 : decode cX9_number 28 = .ok (.goto 4, 3) := by decide +kernel
theorem dX9_number_31 : decode cX9_number 31 = .ok (.iconst (-1), 1) := by decide +kernel
theorem dX9_number_32 : decode cX9_number 32 = .ok (.ireturn, 1) := by decide +kernel
theorem dX9_writeRefusal_0 : decode cX9_writeRefusal 0 = .ok (.aload_n 0, 1) := by decide +kernel
theorem dX9_writeRefusal_1 : decode cX9_writeRefusal 1 = .ok (.getfield 71, 3) := by decide +kernel
theorem dX9_writeRefusal_4 : decode cX9_writeRefusal 4 = .ok (.ifCond .eq 6, 3) := by decide +kernel
theorem dX9_writeRefusal_7 : decode cX9_writeRefusal 7 = .ok (.bipush (-4), 2) := by decide +kernel
theorem dX9_writeRefusal_9 : decode cX9_writeRefusal 9 = .ok (.ireturn, 1) := by decide +kernel
theorem dX9_writeRefusal_10 : decode cX9_writeRefusal 10 = .ok (.iload_n 1, 1) := by decide +kernel
theorem dX9_writeRefusal_11 : decode cX9_writeRefusal 11 = .ok (.ifCond .eq 6, 3) := by decide +kernel
theorem dX9_writeRefusal_14 : decode cX9_writeRefusal 14 = .ok (.bipush (-2), 2) := by decide +kernel
theorem dX9_writeRefusal_16 : decode cX9_writeRefusal 16 = .ok (.ireturn, 1) := by decide +kernel
theorem dX9_writeRefusal_17 : decode cX9_writeRefusal 17 = .ok (.aload_n 0, 1) := by decide +kernel
theorem dX9_writeRefusal_18 : decode cX9_writeRefusal 18 = .ok (.getfield 236, 3) := by decide +kernel
theorem dX9_writeRefusal_21 : decode cX9_writeRefusal 21 = .ok (.sipush 512, 3) := by decide +kernel
theorem dX9_writeRefusal_24 : decode cX9_writeRefusal 24 = .ok (.if_icmp .lt 8, 3) := by decide +kernel
theorem dX9_writeRefusal_27 : decode cX9_writeRefusal 27 = .ok (.bipush (-3), 2) := by decide +kernel
theorem dX9_writeRefusal_29 : decode cX9_writeRefusal 29 = .ok (.goto 4, 3) := by decide +kernel
theorem dX9_writeRefusal_32 : decode cX9_writeRefusal 32 = .ok (.iconst 0, 1) := by decide +kernel
theorem dX9_writeRefusal_33 : decode cX9_writeRefusal 33 = .ok (.ireturn, 1) := by decide +kernel
theorem dX9_write_0 : decode cX9_write 0 = .ok (.getstatic 239, 3) := by decide +kernel
theorem dX9_write_3 : decode cX9_write 3 = .ok (.astore 7, 2) := by decide +kernel
theorem dX9_write_5 : decode cX9_write 5 = .ok (.getstatic 239, 3) := by decide +kernel
theorem dX9_write_8 : decode cX9_write 8 = .ok (.astore 8, 2) := by decide +kernel
theorem dX9_write_10 : decode cX9_write 10 = .ok (.iload_n 1, 1) := by decide +kernel
theorem dX9_write_11 : decode cX9_write 11 = .ok (.iconst 1, 1) := by decide +kernel
theorem dX9_write_12 : decode cX9_write 12 = .ok (.if_icmp .eq 13, 3) := by decide +kernel
theorem dX9_write_15 : decode cX9_write 15 = .ok (.iload_n 1, 1) := by decide +kernel
theorem dX9_write_16 : decode cX9_write 16 = .ok (.iconst 2, 1) := by decide +kernel
theorem dX9_write_17 : decode cX9_write 17 = .ok (.if_icmp .eq 8, 3) := by decide +kernel
theorem dX9_write_20 : decode cX9_write 20 = .ok (.iload_n 1, 1) := by decide +kernel
theorem dX9_write_21 : decode cX9_write 21 = .ok (.iconst 3, 1) := by decide +kernel
theorem dX9_write_22 : decode cX9_write 22 = .ok (.if_icmp .ne 41, 3) := by decide +kernel
theorem dX9_write_25 : decode cX9_write 25 = .ok (.aload_n 0, 1) := by decide +kernel
theorem dX9_write_26 : decode cX9_write 26 = .ok (.getfield 10, 3) := by decide +kernel
theorem dX9_write_29 : decode cX9_write 29 = .ok (.iconst 0, 1) := by decide +kernel
theorem dX9_write_30 : decode cX9_write 30 = .ok (.iload 6, 2) := by decide +kernel
theorem dX9_write_32 : decode cX9_write 32 = .ok (.invokevirtual 242, 3) := by decide +kernel
theorem dX9_write_35 : decode cX9_write 35 = .ok (.astore 7, 2) := by decide +kernel
theorem dX9_write_37 : decode cX9_write 37 = .ok (.aload_n 0, 1) := by decide +kernel
theorem dX9_write_38 : decode cX9_write 38 = .ok (.getfield 10, 3) := by decide +kernel
theorem dX9_write_41 : decode cX9_write 41 = .ok (.iload 6, 2) := by decide +kernel
theorem dX9_write_43 : decode cX9_write 43 = .ok (.aload_n 0, 1) := by decide +kernel
theorem dX9_write_44 : decode cX9_write 44 = .ok (.getfield 10, 3) := by decide +kernel
theorem dX9_write_47 : decode cX9_write 47 = .ok (.getfield 47, 3) := by decide +kernel
theorem dX9_write_50 : decode cX9_write 50 = .ok (.invokevirtual 242, 3) := by decide +kernel
theorem dX9_write_53 : decode cX9_write 53 = .ok (.astore 8, 2) := by decide +kernel
theorem dX9_write_55 : decode cX9_write 55 = .ok (.aload_n 0, 1) := by decide +kernel
theorem dX9_write_56 : decode cX9_write 56 = .ok (.getfield 10, 3) := by decide +kernel
theorem dX9_write_59 : decode cX9_write 59 = .ok (.iconst 0, 1) := by decide +kernel
theorem dX9_write_60 : decode cX9_write 60 = .ok (.putfield 47, 3) := by decide +kernel
theorem dX9_write_63 : decode cX9_write 63 = .ok (.aload_n 0, 1) := by decide +kernel
theorem dX9_write_64 : decode cX9_write 64 = .ok (.dup, 1) := by decide +kernel
theorem dX9_write_65 : decode cX9_write 65 = .ok (.getfield 236, 3) := by decide +kernel
theorem dX9_write_68 : decode cX9_write 68 = .ok (.iconst 1, 1) := by decide +kernel
theorem dX9_write_69 : decode cX9_write 69 = .ok (.iadd, 1) := by decide +kernel
theorem dX9_write_70 : decode cX9_write 70 = .ok (.putfield 236, 3) := by decide +kernel
theorem dX9_write_73 : decode cX9_write 73 = .ok (.new 158, 3) := by decide +kernel
theorem dX9_write_76 : decode cX9_write 76 = .ok (.dup, 1) := by decide +kernel
theorem dX9_write_77 : decode cX9_write 77 = .ok (.iload_n 1, 1) := by decide +kernel
theorem dX9_write_78 : decode cX9_write 78 = .ok (.aload_n 0, 1) := by decide +kernel
theorem dX9_write_79 : decode cX9_write 79 = .ok (.getfield 236, 3) := by decide +kernel
theorem dX9_write_82 : decode cX9_write 82 = .ok (.lload_n 2, 1) := by decide +kernel
theorem dX9_write_83 : decode cX9_write 83 = .ok (.lload 4, 2) := by decide +kernel
theorem dX9_write_85 : decode cX9_write 85 = .ok (.aload 7, 2) := by decide +kernel
theorem dX9_write_87 : decode cX9_write 87 = .ok (.aload 8, 2) := by decide +kernel
theorem dX9_write_89 : decode cX9_write 89 = .ok (.invokespecial 246, 3) := by decide +kernel
theorem dX9_write_92 : decode cX9_write 92 = .ok (.astore 9, 2) := by decide +kernel
theorem dX9_write_94 : decode cX9_write 94 = .ok (.new 37, 3) := by decide +kernel
theorem dX9_write_97 : decode cX9_write 97 = .ok (.dup, 1) := by decide +kernel
theorem dX9_write_98 : decode cX9_write 98 = .ok (.invokespecial 39, 3) := by decide +kernel
theorem dX9_write_101 : decode cX9_write 101 = .ok (.astore 10, 2) := by decide +kernel
theorem dX9_write_103 : decode cX9_write 103 = .ok (.aload 10, 2) := by decide +kernel
theorem dX9_write_105 : decode cX9_write 105 = .ok (.aload 9, 2) := by decide +kernel
theorem dX9_write_107 : decode cX9_write 107 = .ok (.invokevirtual 186, 3) := by decide +kernel
theorem dX9_write_110 : decode cX9_write 110 = .ok (.pop, 1) := by decide +kernel
theorem dX9_write_111 : decode cX9_write 111 = .ok (.aload_n 0, 1) := by decide +kernel
theorem dX9_write_112 : decode cX9_write 112 = .ok (.getfield 26, 3) := by decide +kernel
theorem dX9_write_115 : decode cX9_write 115 = .ok (.aload_n 0, 1) := by decide +kernel
theorem dX9_write_116 : decode cX9_write 116 = .ok (.getfield 26, 3) := by decide +kernel
theorem dX9_write_119 : decode cX9_write 119 = .ok (.getfield 107, 3) := by decide +kernel
theorem dX9_write_122 : decode cX9_write 122 = .ok (.aload 10, 2) := by decide +kernel
theorem dX9_write_124 : decode cX9_write 124 = .ok (.iconst 0, 1) := by decide +kernel
theorem dX9_write_125 : decode cX9_write 125 = .ok (.invokestatic 249, 3) := by decide +kernel
theorem dX9_write_128 : decode cX9_write 128 = .ok (.putfield 107, 3) := by decide +kernel
theorem dX9_write_131 : decode cX9_write 131 = .ok (.aload_n 0, 1) := by decide +kernel
theorem dX9_write_132 : decode cX9_write 132 = .ok (.getfield 26, 3) := by decide +kernel
theorem dX9_write_135 : decode cX9_write 135 = .ok (.invokevirtual 253, 3) := by decide +kernel
theorem dX9_write_138 : decode cX9_write 138 = .ok (.aload_n 0, 1) := by decide +kernel
theorem dX9_write_139 : decode cX9_write 139 = .ok (.getfield 33, 3) := by decide +kernel
theorem dX9_write_142 : decode cX9_write 142 = .ok (.aload 9, 2) := by decide +kernel
theorem dX9_write_144 : decode cX9_write 144 = .ok (.invokevirtual 256, 3) := by decide +kernel
theorem dX9_write_147 : decode cX9_write 147 = .ok (.ireturn, 1) := by decide +kernel
theorem dX9_load_0 : decode cX9_load 0 = .ok (.aload_n 1, 1) := by decide +kernel
theorem dX9_load_1 : decode cX9_load 1 = .ok (.ifnonnull 5, 3) := by decide +kernel
theorem dX9_load_4 : decode cX9_load 4 = .ok (.iconst (-1), 1) := by decide +kernel
theorem dX9_load_5 : decode cX9_load 5 = .ok (.ireturn, 1) := by decide +kernel
theorem dX9_load_6 : decode cX9_load 6 = .ok (.aload_n 0, 1) := by decide +kernel
theorem dX9_load_7 : decode cX9_load 7 = .ok (.getfield 10, 3) := by decide +kernel
theorem dX9_load_10 : decode cX9_load 10 = .ok (.aload_n 1, 1) := by decide +kernel
theorem dX9_load_11 : decode cX9_load 11 = .ok (.invokevirtual 260, 3) := by decide +kernel
theorem dX9_load_14 : decode cX9_load 14 = .ok (.aload_n 0, 1) := by decide +kernel
theorem dX9_load_15 : decode cX9_load 15 = .ok (.getfield 10, 3) := by decide +kernel
theorem dX9_load_18 : decode cX9_load 18 = .ok (.getfield 47, 3) := by decide +kernel
theorem dX9_load_21 : decode cX9_load 21 = .ok (.ireturn, 1) := by decide +kernel
theorem dX9_findEntry_0 : decode cX9_findEntry 0 = .ok (.iload_n 1, 1) := by decide +kernel
theorem dX9_findEntry_1 : decode cX9_findEntry 1 = .ok (.ifCond .lt 17, 3) := by decide +kernel
theorem dX9_findEntry_4 : decode cX9_findEntry 4 = .ok (.iload_n 1, 1) := by decide +kernel
theorem dX9_findEntry_5 : decode cX9_findEntry 5 = .ok (.aload_n 0, 1) := by decide +kernel
theorem dX9_findEntry_6 : decode cX9_findEntry 6 = .ok (.getfield 33, 3) := by decide +kernel
theorem dX9_findEntry_9 : decode cX9_findEntry 9 = .ok (.getfield 95, 3) := by decide +kernel
theorem dX9_findEntry_12 : decode cX9_findEntry 12 = .ok (.invokevirtual 98, 3) := by decide +kernel
theorem dX9_findEntry_15 : decode cX9_findEntry 15 = .ok (.if_icmp .lt 5, 3) := by decide +kernel
theorem dX9_findEntry_18 : decode cX9_findEntry 18 = .ok (.iconst 0, 1) := by decide +kernel
theorem dX9_findEntry_19 : decode cX9_findEntry 19 = .ok (.ireturn, 1) := by decide +kernel
theorem dX9_findEntry_20 : decode cX9_findEntry 20 = .ok (.aload_n 0, 1) := by decide +kernel
theorem dX9_findEntry_21 : decode cX9_findEntry 21 = .ok (.aload_n 0, 1) := by decide +kernel
theorem dX9_findEntry_22 : decode cX9_findEntry 22 = .ok (.getfield 33, 3) := by decide +kernel
theorem dX9_findEntry_25 : decode cX9_findEntry 25 = .ok (.getfield 95, 3) := by decide +kernel
theorem dX9_findEntry_28 : decode cX9_findEntry 28 = .ok (.iload_n 1, 1) := by decide +kernel
theorem dX9_findEntry_29 : decode cX9_findEntry 29 = .ok (.invokevirtual 143, 3) := by decide +kernel
theorem dX9_findEntry_32 : decode cX9_findEntry 32 = .ok (.checkcast 147, 3) := by decide +kernel
theorem dX9_findEntry_35 : decode cX9_findEntry 35 = .ok (.getfield 149, 3) := by decide +kernel
theorem dX9_findEntry_38 : decode cX9_findEntry 38 = .ok (.putfield 91, 3) := by decide +kernel
theorem dX9_findEntry_41 : decode cX9_findEntry 41 = .ok (.iconst 1, 1) := by decide +kernel
theorem dX9_findEntry_42 : decode cX9_findEntry 42 = .ok (.ireturn, 1) := by decide +kernel
theorem dX9_pictureIndex_0 : decode cX9_pictureIndex 0 = .ok (.iconst 0, 1) := by decide +kernel
theorem dX9_pictureIndex_1 : decode cX9_pictureIndex 1 = .ok (.istore_n 2, 1) := by decide +kernel
theorem dX9_pictureIndex_2 : decode cX9_pictureIndex 2 = .ok (.iload_n 2, 1) := by decide +kernel
theorem dX9_pictureIndex_3 : decode cX9_pictureIndex 3 = .ok (.aload_n 0, 1) := by decide +kernel
theorem dX9_pictureIndex_4 : decode cX9_pictureIndex 4 = .ok (.getfield 40, 3) := by decide +kernel
theorem dX9_pictureIndex_7 : decode cX9_pictureIndex 7 = .ok (.invokevirtual 98, 3) := by decide +kernel
theorem dX9_pictureIndex_10 : decode cX9_pictureIndex 10 = .ok (.if_icmp .ge 29, 3) := by decide +kernel
theorem dX9_pictureIndex_13 : decode cX9_pictureIndex 13 = .ok (.aload_n 0, 1) := by decide +kernel
theorem dX9_pictureIndex_14 : decode cX9_pictureIndex 14 = .ok (.getfield 40, 3) := by decide +kernel
theorem dX9_pictureIndex_17 : decode cX9_pictureIndex 17 = .ok (.iload_n 2, 1) := by decide +kernel
theorem dX9_pictureIndex_18 : decode cX9_pictureIndex 18 = .ok (.invokevirtual 143, 3) := by decide +kernel
theorem dX9_pictureIndex_21 : decode cX9_pictureIndex 21 = .ok (.checkcast 181, 3) := by decide +kernel
theorem dX9_pictureIndex_24 : decode cX9_pictureIndex 24 = .ok (.getfield 201, 3) := by decide +kernel
theorem dX9_pictureIndex_27 : decode cX9_pictureIndex 27 = .ok (.iload_n 1, 1) := by decide +kernel
theorem dX9_pictureIndex_28 : decode cX9_pictureIndex 28 = .ok (.if_icmp .ne 5, 3) := by decide +kernel
theorem dX9_pictureIndex_31 : decode cX9_pictureIndex 31 = .ok (.iload_n 2, 1) := by decide +kernel
theorem dX9_pictureIndex_32 : decode cX9_pictureIndex 32 = .ok (.ireturn, 1) := by decide +kernel
theorem dX9_pictureIndex_33 : decode cX9_pictureIndex 33 = .ok (.iinc 2 1, 3) := by decide +kernel
theorem dX9_pictureIndex_36 : decode cX9_pictureIndex 36 = .ok (.goto (-34), 3) := by decide +kernel
theorem dX9_pictureIndex_39 : decode cX9_pictureIndex 39 = .ok (.iconst (-1), 1) := by decide +kernel
theorem dX9_pictureIndex_40 : decode cX9_pictureIndex 40 = .ok (.ireturn, 1) := by decide +kernel
theorem dX9_freePlaces_0 : decode cX9_freePlaces 0 = .ok (.aload_n 0, 1) := by decide +kernel
theorem dX9_freePlaces_1 : decode cX9_freePlaces 1 = .ok (.getfield 19, 3) := by decide +kernel
theorem dX9_freePlaces_4 : decode cX9_freePlaces 4 = .ok (.aload_n 0, 1) := by decide +kernel
theorem dX9_freePlaces_5 : decode cX9_freePlaces 5 = .ok (.getfield 26, 3) := by decide +kernel
theorem dX9_freePlaces_8 : decode cX9_freePlaces 8 = .ok (.getfield 107, 3) := by decide +kernel
theorem dX9_freePlaces_11 : decode cX9_freePlaces 11 = .ok (.aload_n 0, 1) := by decide +kernel
theorem dX9_freePlaces_12 : decode cX9_freePlaces 12 = .ok (.getfield 40, 3) := by decide +kernel
theorem dX9_freePlaces_15 : decode cX9_freePlaces 15 = .ok (.invokevirtual 264, 3) := by decide +kernel
theorem dX9_freePlaces_18 : decode cX9_freePlaces 18 = .ok (.sipush 1000, 3) := by decide +kernel
theorem dX9_freePlaces_21 : decode cX9_freePlaces 21 = .ok (.aload_n 0, 1) := by decide +kernel
theorem dX9_freePlaces_22 : decode cX9_freePlaces 22 = .ok (.getfield 19, 3) := by decide +kernel
theorem dX9_freePlaces_25 : decode cX9_freePlaces 25 = .ok (.getfield 268, 3) := by decide +kernel
theorem dX9_freePlaces_28 : decode cX9_freePlaces 28 = .ok (.isub, 1) := by decide +kernel
theorem dX9_freePlaces_29 : decode cX9_freePlaces 29 = .ok (.ireturn, 1) := by decide +kernel
theorem dX9_writeAll_0 : decode cX9_writeAll 0 = .ok (.aload_n 0, 1) := by decide +kernel
theorem dX9_writeAll_1 : decode cX9_writeAll 1 = .ok (.getfield 19, 3) := by decide +kernel
theorem dX9_writeAll_4 : decode cX9_writeAll 4 = .ok (.aload_n 0, 1) := by decide +kernel
theorem dX9_writeAll_5 : decode cX9_writeAll 5 = .ok (.getfield 26, 3) := by decide +kernel
theorem dX9_writeAll_8 : decode cX9_writeAll 8 = .ok (.getfield 107, 3) := by decide +kernel
theorem dX9_writeAll_11 : decode cX9_writeAll 11 = .ok (.iconst 0, 1) := by decide +kernel
theorem dX9_writeAll_12 : decode cX9_writeAll 12 = .ok (.invokestatic 271, 3) := by decide +kernel
theorem dX9_writeAll_15 : decode cX9_writeAll 15 = .ok (.ifCond .ne 9, 3) := by decide +kernel
theorem dX9_writeAll_18 : decode cX9_writeAll 18 = .ok (.aload_n 0, 1) := by decide +kernel
theorem dX9_writeAll_19 : decode cX9_writeAll 19 = .ok (.invokevirtual 205, 3) := by decide +kernel
theorem dX9_writeAll_22 : decode cX9_writeAll 22 = .ok (.iconst 0, 1) := by decide +kernel
theorem dX9_writeAll_23 : decode cX9_writeAll 23 = .ok (.ireturn, 1) := by decide +kernel
theorem dX9_writeAll_24 : decode cX9_writeAll 24 = .ok (.new 227, 3) := by decide +kernel
theorem dX9_writeAll_27 : decode cX9_writeAll 27 = .ok (.dup, 1) := by decide +kernel
theorem dX9_writeAll_28 : decode cX9_writeAll 28 = .ok (.aload_n 0, 1) := by decide +kernel
theorem dX9_writeAll_29 : decode cX9_writeAll 29 = .ok (.getfield 219, 3) := by decide +kernel
theorem dX9_writeAll_32 : decode cX9_writeAll 32 = .ok (.iconst 1, 1) := by decide +kernel
theorem dX9_writeAll_33 : decode cX9_writeAll 33 = .ok (.iadd, 1) := by decide +kernel
theorem dX9_writeAll_34 : decode cX9_writeAll 34 = .ok (.aload_n 0, 1) := by decide +kernel
theorem dX9_writeAll_35 : decode cX9_writeAll 35 = .ok (.getfield 236, 3) := by decide +kernel
theorem dX9_writeAll_38 : decode cX9_writeAll 38 = .ok (.aload_n 0, 1) := by decide +kernel
theorem dX9_writeAll_39 : decode cX9_writeAll 39 = .ok (.getfield 26, 3) := by decide +kernel
theorem dX9_writeAll_42 : decode cX9_writeAll 42 = .ok (.getfield 107, 3) := by decide +kernel
theorem dX9_writeAll_45 : decode cX9_writeAll 45 = .ok (.aload_n 0, 1) := by decide +kernel
theorem dX9_writeAll_46 : decode cX9_writeAll 46 = .ok (.getfield 178, 3) := by decide +kernel
theorem dX9_writeAll_49 : decode cX9_writeAll 49 = .ok (.invokespecial 275, 3) := by decide +kernel
theorem dX9_writeAll_52 : decode cX9_writeAll 52 = .ok (.astore_n 1, 1) := by decide +kernel
theorem dX9_writeAll_53 : decode cX9_writeAll 53 = .ok (.aload_n 0, 1) := by decide +kernel
theorem dX9_writeAll_54 : decode cX9_writeAll 54 = .ok (.getfield 40, 3) := by decide +kernel
theorem dX9_writeAll_57 : decode cX9_writeAll 57 = .ok (.aload_n 1, 1) := by decide +kernel
theorem dX9_writeAll_58 : decode cX9_writeAll 58 = .ok (.getfield 230, 3) := by decide +kernel
theorem dX9_writeAll_61 : decode cX9_writeAll 61 = .ok (.invokestatic 278, 3) := by decide +kernel
theorem dX9_writeAll_64 : decode cX9_writeAll 64 = .ok (.aload_n 0, 1) := by decide +kernel
theorem dX9_writeAll_65 : decode cX9_writeAll 65 = .ok (.getfield 19, 3) := by decide +kernel
theorem dX9_writeAll_68 : decode cX9_writeAll 68 = .ok (.aload_n 1, 1) := by decide +kernel
theorem dX9_writeAll_69 : decode cX9_writeAll 69 = .ok (.invokevirtual 282, 3) := by decide +kernel
theorem dX9_writeAll_72 : decode cX9_writeAll 72 = .ok (.ifCond .ne 9, 3) := by decide +kernel
theorem dX9_writeAll_75 : decode cX9_writeAll 75 = .ok (.aload_n 0, 1) := by decide +kernel
theorem dX9_writeAll_76 : decode cX9_writeAll 76 = .ok (.invokevirtual 205, 3) := by decide +kernel
theorem dX9_writeAll_79 : decode cX9_writeAll 79 = .ok (.iconst 0, 1) := by decide +kernel
theorem dX9_writeAll_80 : decode cX9_writeAll 80 = .ok (.ireturn, 1) := by decide +kernel
theorem dX9_writeAll_81 : decode cX9_writeAll 81 = .ok (.aload_n 0, 1) := by decide +kernel
theorem dX9_writeAll_82 : decode cX9_writeAll 82 = .ok (.dup, 1) := by decide +kernel
theorem dX9_writeAll_83 : decode cX9_writeAll 83 = .ok (.getfield 219, 3) := by decide +kernel
theorem dX9_writeAll_86 : decode cX9_writeAll 86 = .ok (.iconst 1, 1) := by decide +kernel
theorem dX9_writeAll_87 : decode cX9_writeAll 87 = .ok (.iadd, 1) := by decide +kernel
theorem dX9_writeAll_88 : decode cX9_writeAll 88 = .ok (.putfield 219, 3) := by decide +kernel
theorem dX9_writeAll_91 : decode cX9_writeAll 91 = .ok (.iconst 1, 1) := by decide +kernel
theorem dX9_writeAll_92 : decode cX9_writeAll 92 = .ok (.ireturn, 1) := by decide +kernel
theorem dX9_goDown_0 : decode cX9_goDown 0 = .ok (.aload_n 0, 1) := by decide +kernel
theorem dX9_goDown_1 : decode cX9_goDown 1 = .ok (.invokevirtual 44, 3) := by decide +kernel
theorem dX9_goDown_4 : decode cX9_goDown 4 = .ok (.aload_n 0, 1) := by decide +kernel
theorem dX9_goDown_5 : decode cX9_goDown 5 = .ok (.iconst 1, 1) := by decide +kernel
theorem dX9_goDown_6 : decode cX9_goDown 6 = .ok (.putfield 71, 3) := by decide +kernel
theorem dX9_goDown_9 : decode cX9_goDown 9 = .ok (.return_, 1) := by decide +kernel
theorem dX9_startAnew_0 : decode cX9_startAnew 0 = .ok (.aload_n 0, 1) := by decide +kernel
theorem dX9_startAnew_1 : decode cX9_startAnew 1 = .ok (.getfield 26, 3) := by decide +kernel
theorem dX9_startAnew_4 : decode cX9_startAnew 4 = .ok (.new 126, 3) := by decide +kernel
theorem dX9_startAnew_7 : decode cX9_startAnew 7 = .ok (.dup, 1) := by decide +kernel
theorem dX9_startAnew_8 : decode cX9_startAnew 8 = .ok (.ldc2_w 286, 3) := by decide +kernel
theorem dX9_startAnew_11 : decode cX9_startAnew 11 = .ok (.new 30, 3) := by decide +kernel
theorem dX9_startAnew_14 : decode cX9_startAnew 14 = .ok (.dup, 1) := by decide +kernel
theorem dX9_startAnew_15 : decode cX9_startAnew 15 = .ok (.invokespecial 32, 3) := by decide +kernel
theorem dX9_startAnew_18 : decode cX9_startAnew 18 = .ok (.invokespecial 288, 3) := by decide +kernel
theorem dX9_startAnew_21 : decode cX9_startAnew 21 = .ok (.putfield 107, 3) := by decide +kernel
theorem dX9_startAnew_24 : decode cX9_startAnew 24 = .ok (.aload_n 0, 1) := by decide +kernel
theorem dX9_startAnew_25 : decode cX9_startAnew 25 = .ok (.getfield 33, 3) := by decide +kernel
theorem dX9_startAnew_28 : decode cX9_startAnew 28 = .ok (.getfield 95, 3) := by decide +kernel
theorem dX9_startAnew_31 : decode cX9_startAnew 31 = .ok (.invokevirtual 291, 3) := by decide +kernel
theorem dX9_startAnew_34 : decode cX9_startAnew 34 = .ok (.aload_n 0, 1) := by decide +kernel
theorem dX9_startAnew_35 : decode cX9_startAnew 35 = .ok (.getfield 40, 3) := by decide +kernel
theorem dX9_startAnew_38 : decode cX9_startAnew 38 = .ok (.invokevirtual 291, 3) := by decide +kernel
theorem dX9_startAnew_41 : decode cX9_startAnew 41 = .ok (.aload_n 0, 1) := by decide +kernel
theorem dX9_startAnew_42 : decode cX9_startAnew 42 = .ok (.iconst 0, 1) := by decide +kernel
theorem dX9_startAnew_43 : decode cX9_startAnew 43 = .ok (.putfield 178, 3) := by decide +kernel
theorem dX9_startAnew_46 : decode cX9_startAnew 46 = .ok (.aload_n 0, 1) := by decide +kernel
theorem dX9_startAnew_47 : decode cX9_startAnew 47 = .ok (.iconst 0, 1) := by decide +kernel
theorem dX9_startAnew_48 : decode cX9_startAnew 48 = .ok (.putfield 236, 3) := by decide +kernel
theorem dX9_startAnew_51 : decode cX9_startAnew 51 = .ok (.aload_n 0, 1) := by decide +kernel
theorem dX9_startAnew_52 : decode cX9_startAnew 52 = .ok (.iconst 0, 1) := by decide +kernel
theorem dX9_startAnew_53 : decode cX9_startAnew 53 = .ok (.putfield 219, 3) := by decide +kernel
theorem dX9_startAnew_56 : decode cX9_startAnew 56 = .ok (.aload_n 0, 1) := by decide +kernel
theorem dX9_startAnew_57 : decode cX9_startAnew 57 = .ok (.iconst 0, 1) := by decide +kernel
theorem dX9_startAnew_58 : decode cX9_startAnew 58 = .ok (.putfield 71, 3) := by decide +kernel
theorem dX9_startAnew_61 : decode cX9_startAnew 61 = .ok (.return_, 1) := by decide +kernel
theorem dX9_adopt_0 : decode cX9_adopt 0 = .ok (.aload_n 0, 1) := by decide +kernel
theorem dX9_adopt_1 : decode cX9_adopt 1 = .ok (.getfield 26, 3) := by decide +kernel
theorem dX9_adopt_4 : decode cX9_adopt 4 = .ok (.aload_n 1, 1) := by decide +kernel
theorem dX9_adopt_5 : decode cX9_adopt 5 = .ok (.getfield 231, 3) := by decide +kernel
theorem dX9_adopt_8 : decode cX9_adopt 8 = .ok (.putfield 107, 3) := by decide +kernel
theorem dX9_adopt_11 : decode cX9_adopt 11 = .ok (.aload_n 1, 1) := by decide +kernel
theorem dX9_adopt_12 : decode cX9_adopt 12 = .ok (.getfield 231, 3) := by decide +kernel
theorem dX9_adopt_15 : decode cX9_adopt 15 = .ok (.aload_n 0, 1) := by decide +kernel
theorem dX9_adopt_16 : decode cX9_adopt 16 = .ok (.getfield 33, 3) := by decide +kernel
theorem dX9_adopt_19 : decode cX9_adopt 19 = .ok (.iconst 0, 1) := by decide +kernel
theorem dX9_adopt_20 : decode cX9_adopt 20 = .ok (.invokestatic 294, 3) := by decide +kernel
theorem dX9_adopt_23 : decode cX9_adopt 23 = .ok (.aload_n 1, 1) := by decide +kernel
theorem dX9_adopt_24 : decode cX9_adopt 24 = .ok (.getfield 230, 3) := by decide +kernel
theorem dX9_adopt_27 : decode cX9_adopt 27 = .ok (.aload_n 0, 1) := by decide +kernel
theorem dX9_adopt_28 : decode cX9_adopt 28 = .ok (.getfield 40, 3) := by decide +kernel
theorem dX9_adopt_31 : decode cX9_adopt 31 = .ok (.invokestatic 278, 3) := by decide +kernel
theorem dX9_adopt_34 : decode cX9_adopt 34 = .ok (.aload_n 0, 1) := by decide +kernel
theorem dX9_adopt_35 : decode cX9_adopt 35 = .ok (.aload_n 1, 1) := by decide +kernel
theorem dX9_adopt_36 : decode cX9_adopt 36 = .ok (.getfield 229, 3) := by decide +kernel
theorem dX9_adopt_39 : decode cX9_adopt 39 = .ok (.putfield 236, 3) := by decide +kernel
theorem dX9_adopt_42 : decode cX9_adopt 42 = .ok (.aload_n 0, 1) := by decide +kernel
theorem dX9_adopt_43 : decode cX9_adopt 43 = .ok (.aload_n 1, 1) := by decide +kernel
theorem dX9_adopt_44 : decode cX9_adopt 44 = .ok (.getfield 226, 3) := by decide +kernel
theorem dX9_adopt_47 : decode cX9_adopt 47 = .ok (.putfield 219, 3) := by decide +kernel
theorem dX9_adopt_50 : decode cX9_adopt 50 = .ok (.return_, 1) := by decide +kernel
theorem dX9_copyPictures_0 : decode cX9_copyPictures 0 = .ok (.iconst 0, 1) := by decide +kernel
theorem dX9_copyPictures_1 : decode cX9_copyPictures 1 = .ok (.istore_n 2, 1) := by decide +kernel
theorem dX9_copyPictures_2 : decode cX9_copyPictures 2 = .ok (.iload_n 2, 1) := by decide +kernel
theorem dX9_copyPictures_3 : decode cX9_copyPictures 3 = .ok (.aload_n 0, 1) := by decide +kernel
theorem dX9_copyPictures_4 : decode cX9_copyPictures 4 = .ok (.invokevirtual 98, 3) := by decide +kernel
theorem dX9_copyPictures_7 : decode cX9_copyPictures 7 = .ok (.if_icmp .ge 22, 3) := by decide +kernel
theorem dX9_copyPictures_10 : decode cX9_copyPictures 10 = .ok (.aload_n 1, 1) := by decide +kernel
theorem dX9_copyPictures_11 : decode cX9_copyPictures 11 = .ok (.aload_n 0, 1) := by decide +kernel
theorem dX9_copyPictures_12 : decode cX9_copyPictures 12 = .ok (.iload_n 2, 1) := by decide +kernel
theorem dX9_copyPictures_13 : decode cX9_copyPictures 13 = .ok (.invokevirtual 143, 3) := by decide +kernel
theorem dX9_copyPictures_16 : decode cX9_copyPictures 16 = .ok (.checkcast 181, 3) := by decide +kernel
theorem dX9_copyPictures_19 : decode cX9_copyPictures 19 = .ok (.invokevirtual 186, 3) := by decide +kernel
theorem dX9_copyPictures_22 : decode cX9_copyPictures 22 = .ok (.pop, 1) := by decide +kernel
theorem dX9_copyPictures_23 : decode cX9_copyPictures 23 = .ok (.iinc 2 1, 3) := by decide +kernel
theorem dX9_copyPictures_26 : decode cX9_copyPictures 26 = .ok (.goto (-24), 3) := by decide +kernel
theorem dX9_copyPictures_29 : decode cX9_copyPictures 29 = .ok (.return_, 1) := by decide +kernel
theorem dX10_feed_0 : decode cX10_feed 0 = .ok (.iload_n 3, 1) := by decide +kernel
theorem dX10_feed_1 : decode cX10_feed 1 = .ok (.iconst 1, 1) := by decide +kernel
theorem dX10_feed_2 : decode cX10_feed 2 = .ok (.if_icmp .lt 20, 3) := by decide +kernel
theorem dX10_feed_5 : decode cX10_feed 5 = .ok (.iload_n 3, 1) := by decide +kernel
theorem dX10_feed_6 : decode cX10_feed 6 = .ok (.bipush 8, 2) := by decide +kernel
theorem dX10_feed_8 : decode cX10_feed 8 = .ok (.if_icmp .gt 14, 3) := by decide +kernel
theorem dX10_feed_11 : decode cX10_feed 11 = .ok (.aload_n 0, 1) := by decide +kernel
theorem dX10_feed_12 : decode cX10_feed 12 = .ok (.getfield 9, 3) := by decide +kernel
theorem dX10_feed_15 : decode cX10_feed 15 = .ok (.iload_n 3, 1) := by decide +kernel
theorem dX10_feed_16 : decode cX10_feed 16 = .ok (.iadd, 1) := by decide +kernel
theorem dX10_feed_17 : decode cX10_feed 17 = .ok (.bipush 40, 2) := by decide +kernel
theorem dX10_feed_19 : decode cX10_feed 19 = .ok (.if_icmp .le 6, 3) := by decide +kernel
theorem dX10_feed_22 : decode cX10_feed 22 = .ok (.bipush (-2), 2) := by decide +kernel
theorem dX10_feed_24 : decode cX10_feed 24 = .ok (.ireturn, 1) := by decide +kernel
theorem dX10_feed_25 : decode cX10_feed 25 = .ok (.iload_n 3, 1) := by decide +kernel
theorem dX10_feed_26 : decode cX10_feed 26 = .ok (.iconst 1, 1) := by decide +kernel
theorem dX10_feed_27 : decode cX10_feed 27 = .ok (.isub, 1) := by decide +kernel
theorem dX10_feed_28 : decode cX10_feed 28 = .ok (.istore 4, 2) := by decide +kernel
theorem dX10_feed_30 : decode cX10_feed 30 = .ok (.iload 4, 2) := by decide +kernel
theorem dX10_feed_32 : decode cX10_feed 32 = .ok (.ifCond .lt 37, 3) := by decide +kernel
theorem dX10_feed_35 : decode cX10_feed 35 = .ok (.aload_n 0, 1) := by decide +kernel
theorem dX10_feed_36 : decode cX10_feed 36 = .ok (.getfield 12, 3) := by decide +kernel
theorem dX10_feed_39 : decode cX10_feed 39 = .ok (.aload_n 0, 1) := by decide +kernel
theorem dX10_feed_40 : decode cX10_feed 40 = .ok (.getfield 9, 3) := by decide +kernel
theorem dX10_feed_43 : decode cX10_feed 43 = .ok (.lload_n 1, 1) := by decide +kernel
theorem dX10_feed_44 : decode cX10_feed 44 = .ok (.bipush 8, 2) := by decide +kernel
theorem dX10_feed_46 : decode cX10_feed 46 = .ok (.iload 4, 2) := by decide +kernel
theorem dX10_feed_48 : decode cX10_feed 48 = .ok (.imul, 1) := by decide +kernel
theorem dX10_feed_49 : decode cX10_feed 49 = .ok (.lshr, 1) := by decide +kernel
theorem dX10_feed_50 : decode cX10_feed 50 = .ok (.l2i, 1) := by decide +kernel
theorem dX10_feed_51 : decode cX10_feed 51 = .ok (.i2b, 1) := by decide +kernel
theorem dX10_feed_52 : decode cX10_feed 52 = .ok (.bastore, 1) := by decide +kernel
theorem dX10_feed_53 : decode cX10_feed 53 = .ok (.aload_n 0, 1) := by decide +kernel
theorem dX10_feed_54 : decode cX10_feed 54 = .ok (.dup, 1) := by decide +kernel
theorem dX10_feed_55 : decode cX10_feed 55 = .ok (.getfield 9, 3) := by decide +kernel
theorem dX10_feed_58 : decode cX10_feed 58 = .ok (.iconst 1, 1) := by decide +kernel
theorem dX10_feed_59 : decode cX10_feed 59 = .ok (.iadd, 1) := by decide +kernel
theorem dX10_feed_60 : decode cX10_feed 60 = .ok (.putfield 9, 3) := by decide +kernel
theorem dX10_feed_63 : decode cX10_feed 63 = .ok (.iinc 4 (-1), 3) := by decide +kernel
theorem dX10_feed_66 : decode cX10_feed 66 = .ok (.goto (-36), 3) := by decide +kernel
theorem dX10_feed_69 : decode cX10_feed 69 = .ok (.aload_n 0, 1) := by decide +kernel
theorem dX10_feed_70 : decode cX10_feed 70 = .ok (.getfield 9, 3) := by decide +kernel
theorem dX10_feed_73 : decode cX10_feed 73 = .ok (.ireturn, 1) := by decide +kernel
theorem dX10_cut_0 : decode cX10_cut 0 = .ok (.iload_n 1, 1) := by decide +kernel
theorem dX10_cut_1 : decode cX10_cut 1 = .ok (.ifCond .lt 11, 3) := by decide +kernel
theorem dX10_cut_4 : decode cX10_cut 4 = .ok (.iload_n 1, 1) := by decide +kernel
theorem dX10_cut_5 : decode cX10_cut 5 = .ok (.aload_n 0, 1) := by decide +kernel
theorem dX10_cut_6 : decode cX10_cut 6 = .ok (.getfield 9, 3) := by decide +kernel
theorem dX10_cut_9 : decode cX10_cut 9 = .ok (.if_icmp .le 6, 3) := by decide +kernel
theorem dX10_cut_12 : decode cX10_cut 12 = .ok (.bipush (-2), 2) := by decide +kernel
theorem dX10_cut_14 : decode cX10_cut 14 = .ok (.ireturn, 1) := by decide +kernel
theorem dX10_cut_15 : decode cX10_cut 15 = .ok (.aload_n 0, 1) := by decide +kernel
theorem dX10_cut_16 : decode cX10_cut 16 = .ok (.iload_n 1, 1) := by decide +kernel
theorem dX10_cut_17 : decode cX10_cut 17 = .ok (.putfield 9, 3) := by decide +kernel
theorem dX10_cut_20 : decode cX10_cut 20 = .ok (.iload_n 1, 1) := by decide +kernel
theorem dX10_cut_21 : decode cX10_cut 21 = .ok (.ireturn, 1) := by decide +kernel
theorem dX10_byteAt_0 : decode cX10_byteAt 0 = .ok (.iload_n 1, 1) := by decide +kernel
theorem dX10_byteAt_1 : decode cX10_byteAt 1 = .ok (.ifCond .lt 24, 3) := by decide +kernel
theorem dX10_byteAt_4 : decode cX10_byteAt 4 = .ok (.iload_n 1, 1) := by decide +kernel
theorem dX10_byteAt_5 : decode cX10_byteAt 5 = .ok (.aload_n 0, 1) := by decide +kernel
theorem dX10_byteAt_6 : decode cX10_byteAt 6 = .ok (.getfield 9, 3) := by decide +kernel
theorem dX10_byteAt_9 : decode cX10_byteAt 9 = .ok (.if_icmp .ge 16, 3) := by decide +kernel
theorem dX10_byteAt_12 : decode cX10_byteAt 12 = .ok (.aload_n 0, 1) := by decide +kernel
theorem dX10_byteAt_13 : decode cX10_byteAt 13 = .ok (.getfield 12, 3) := by decide +kernel
theorem dX10_byteAt_16 : decode cX10_byteAt 16 = .ok (.iload_n 1, 1) := by decide +kernel
theorem dX10_byteAt_17 : decode cX10_byteAt 17 = .ok (.baload, 1) := by decide +kernel
theorem dX10_byteAt_18 : decode cX10_byteAt 18 = .ok (.sipush 255, 3) := by decide +kernel
theorem dX10_byteAt_21 : decode cX10_byteAt 21 = .ok (.iand, 1) := by decide +kernel
theorem dX10_byteAt_22 : decode cX10_byteAt 22 = .ok (.goto 4, 3) := by decide +kernel
theorem dX10_byteAt_25 : decode cX10_byteAt 25 = .ok (.iconst (-1), 1) := by decide +kernel
theorem dX10_byteAt_26 : decode cX10_byteAt 26 = .ok (.ireturn, 1) := by decide +kernel
theorem dX10_place_0 : decode cX10_place 0 = .ok (.iconst 0, 1) := by decide +kernel
theorem dX10_place_1 : decode cX10_place 1 = .ok (.istore_n 3, 1) := by decide +kernel
theorem dX10_place_2 : decode cX10_place 2 = .ok (.aload_n 0, 1) := by decide +kernel
theorem dX10_place_3 : decode cX10_place 3 = .ok (.getfield 16, 3) := by decide +kernel
theorem dX10_place_6 : decode cX10_place 6 = .ok (.istore 4, 2) := by decide +kernel
theorem dX10_place_8 : decode cX10_place 8 = .ok (.iload_n 3, 1) := by decide +kernel
theorem dX10_place_9 : decode cX10_place 9 = .ok (.iload 4, 2) := by decide +kernel
theorem dX10_place_11 : decode cX10_place 11 = .ok (.if_icmp .ge 38, 3) := by decide +kernel
theorem dX10_place_14 : decode cX10_place 14 = .ok (.iload_n 3, 1) := by decide +kernel
theorem dX10_place_15 : decode cX10_place 15 = .ok (.iload 4, 2) := by decide +kernel
theorem dX10_place_17 : decode cX10_place 17 = .ok (.iadd, 1) := by decide +kernel
theorem dX10_place_18 : decode cX10_place 18 = .ok (.iconst 2, 1) := by decide +kernel
theorem dX10_place_19 : decode cX10_place 19 = .ok (.idiv, 1) := by decide +kernel
theorem dX10_place_20 : decode cX10_place 20 = .ok (.istore 5, 2) := by decide +kernel
theorem dX10_place_22 : decode cX10_place 22 = .ok (.aload_n 0, 1) := by decide +kernel
theorem dX10_place_23 : decode cX10_place 23 = .ok (.getfield 19, 3) := by decide +kernel
theorem dX10_place_26 : decode cX10_place 26 = .ok (.iload 5, 2) := by decide +kernel
theorem dX10_place_28 : decode cX10_place 28 = .ok (.laload, 1) := by decide +kernel
theorem dX10_place_29 : decode cX10_place 29 = .ok (.lload_n 1, 1) := by decide +kernel
theorem dX10_place_30 : decode cX10_place 30 = .ok (.lcmp, 1) := by decide +kernel
theorem dX10_place_31 : decode cX10_place 31 = .ok (.ifCond .ge 11, 3) := by decide +kernel
theorem dX10_place_34 : decode cX10_place 34 = .ok (.iload 5, 2) := by decide +kernel
theorem dX10_place_36 : decode cX10_place 36 = .ok (.iconst 1, 1) := by decide +kernel
theorem dX10_place_37 : decode cX10_place 37 = .ok (.iadd, 1) := by decide +kernel
theorem dX10_place_38 : decode cX10_place 38 = .ok (.istore_n 3, 1) := by decide +kernel
theorem dX10_place_39 : decode cX10_place 39 = .ok (.goto 7, 3) := by decide +kernel
theorem dX10_place_42 : decode cX10_place 42 = .ok (.iload 5, 2) := by decide +kernel
theorem dX10_place_44 : decode cX10_place 44 = .ok (.istore 4, 2) := by decide +kernel
theorem dX10_place_46 : decode cX10_place 46 = .ok (.goto (-38), 3) := by decide +kernel
theorem dX10_place_49 : decode cX10_place 49 = .ok (.iload_n 3, 1) := by decide +kernel
theorem dX10_place_50 : decode cX10_place 50 = .ok (.ireturn, 1) := by decide +kernel
theorem dX10_isAt_0 : decode cX10_isAt 0 = .ok (.iload_n 1, 1) := by decide +kernel
theorem dX10_isAt_1 : decode cX10_isAt 1 = .ok (.aload_n 0, 1) := by decide +kernel
theorem dX10_isAt_2 : decode cX10_isAt 2 = .ok (.getfield 16, 3) := by decide +kernel
theorem dX10_isAt_5 : decode cX10_isAt 5 = .ok (.if_icmp .ge 18, 3) := by decide +kernel
theorem dX10_isAt_8 : decode cX10_isAt 8 = .ok (.aload_n 0, 1) := by decide +kernel
theorem dX10_isAt_9 : decode cX10_isAt 9 = .ok (.getfield 19, 3) := by decide +kernel
theorem dX10_isAt_12 : decode cX10_isAt 12 = .ok (.iload_n 1, 1) := by decide +kernel
theorem dX10_isAt_13 : decode cX10_isAt 13 = .ok (.laload, 1) := by decide +kernel
theorem dX10_isAt_14 : decode cX10_isAt 14 = .ok (.lload_n 2, 1) := by decide +kernel
theorem dX10_isAt_15 : decode cX10_isAt 15 = .ok (.lcmp, 1) := by decide +kernel
theorem dX10_isAt_16 : decode cX10_isAt 16 = .ok (.ifCond .ne 7, 3) := by decide +kernel
theorem dX10_isAt_19 : decode cX10_isAt 19 = .ok (.iconst 1, 1) := by decide +kernel
theorem dX10_isAt_20 : decode cX10_isAt 20 = .ok (.goto 4, 3) := by decide +kernel
theorem dX10_isAt_23 : decode cX10_isAt 23 = .ok (.iconst 0, 1) := by decide +kernel
theorem dX10_isAt_24 : decode cX10_isAt 24 = .ok (.ireturn, 1) := by decide +kernel
theorem dX10_open_0 : decode cX10_open 0 = .ok (.aload_n 0, 1) := by decide +kernel
theorem dX10_open_1 : decode cX10_open 1 = .ok (.getfield 16, 3) := by decide +kernel
theorem dX10_open_4 : decode cX10_open 4 = .ok (.istore 4, 2) := by decide +kernel
theorem dX10_open_6 : decode cX10_open 6 = .ok (.iload 4, 2) := by decide +kernel
theorem dX10_open_8 : decode cX10_open 8 = .ok (.iload_n 1, 1) := by decide +kernel
theorem dX10_open_9 : decode cX10_open 9 = .ok (.if_icmp .le 19, 3) := by decide +kernel
theorem dX10_open_12 : decode cX10_open 12 = .ok (.aload_n 0, 1) := by decide +kernel
theorem dX10_open_13 : decode cX10_open 13 = .ok (.iload 4, 2) := by decide +kernel
theorem dX10_open_15 : decode cX10_open 15 = .ok (.iconst 1, 1) := by decide +kernel
theorem dX10_open_16 : decode cX10_open 16 = .ok (.isub, 1) := by decide +kernel
theorem dX10_open_17 : decode cX10_open 17 = .ok (.iload 4, 2) := by decide +kernel
theorem dX10_open_19 : decode cX10_open 19 = .ok (.invokevirtual 23, 3) := by decide +kernel
theorem dX10_open_22 : decode cX10_open 22 = .ok (.iinc 4 (-1), 3) := by decide +kernel
theorem dX10_open_25 : decode cX10_open 25 = .ok (.goto (-19), 3) := by decide +kernel
theorem dX10_open_28 : decode cX10_open 28 = .ok (.aload_n 0, 1) := by decide +kernel
theorem dX10_open_29 : decode cX10_open 29 = .ok (.getfield 19, 3) := by decide +kernel
theorem dX10_open_32 : decode cX10_open 32 = .ok (.iload_n 1, 1) := by decide +kernel
theorem dX10_open_33 : decode cX10_open 33 = .ok (.lload_n 2, 1) := by decide +kernel
theorem dX10_open_34 : decode cX10_open 34 = .ok (.lastore, 1) := by decide +kernel
theorem dX10_open_35 : decode cX10_open 35 = .ok (.aload_n 0, 1) := by decide +kernel
theorem dX10_open_36 : decode cX10_open 36 = .ok (.getfield 27, 3) := by decide +kernel
theorem dX10_open_39 : decode cX10_open 39 = .ok (.iload_n 1, 1) := by decide +kernel
theorem dX10_open_40 : decode cX10_open 40 = .ok (.iconst 0, 1) := by decide +kernel
theorem dX10_open_41 : decode cX10_open 41 = .ok (.iastore, 1) := by decide +kernel
theorem dX10_open_42 : decode cX10_open 42 = .ok (.aload_n 0, 1) := by decide +kernel
theorem dX10_open_43 : decode cX10_open 43 = .ok (.dup, 1) := by decide +kernel
theorem dX10_open_44 : decode cX10_open 44 = .ok (.getfield 16, 3) := by decide +kernel
theorem dX10_open_47 : decode cX10_open 47 = .ok (.iconst 1, 1) := by decide +kernel
theorem dX10_open_48 : decode cX10_open 48 = .ok (.iadd, 1) := by decide +kernel
theorem dX10_open_49 : decode cX10_open 49 = .ok (.putfield 16, 3) := by decide +kernel
theorem dX10_open_52 : decode cX10_open 52 = .ok (.return_, 1) := by decide +kernel
theorem dX10_move_0 : decode cX10_move 0 = .ok (.aload_n 0, 1) := by decide +kernel
theorem dX10_move_1 : decode cX10_move 1 = .ok (.getfield 19, 3) := by decide +kernel
theorem dX10_move_4 : decode cX10_move 4 = .ok (.iload_n 2, 1) := by decide +kernel
theorem dX10_move_5 : decode cX10_move 5 = .ok (.aload_n 0, 1) := by decide +kernel
theorem dX10_move_6 : decode cX10_move 6 = .ok (.getfield 19, 3) := by decide +kernel
theorem dX10_move_9 : decode cX10_move 9 = .ok (.iload_n 1, 1) := by decide +kernel
theorem dX10_move_10 : decode cX10_move 10 = .ok (.laload, 1) := by decide +kernel
theorem dX10_move_11 : decode cX10_move 11 = .ok (.lastore, 1) := by decide +kernel
theorem dX10_move_12 : decode cX10_move 12 = .ok (.aload_n 0, 1) := by decide +kernel
theorem dX10_move_13 : decode cX10_move 13 = .ok (.getfield 27, 3) := by decide +kernel
theorem dX10_move_16 : decode cX10_move 16 = .ok (.iload_n 2, 1) := by decide +kernel
theorem dX10_move_17 : decode cX10_move 17 = .ok (.aload_n 0, 1) := by decide +kernel
theorem dX10_move_18 : decode cX10_move 18 = .ok (.getfield 27, 3) := by decide +kernel
theorem dX10_move_21 : decode cX10_move 21 = .ok (.iload_n 1, 1) := by decide +kernel
theorem dX10_move_22 : decode cX10_move 22 = .ok (.iaload, 1) := by decide +kernel
theorem dX10_move_23 : decode cX10_move 23 = .ok (.iastore, 1) := by decide +kernel
theorem dX10_move_24 : decode cX10_move 24 = .ok (.iconst 0, 1) := by decide +kernel
theorem dX10_move_25 : decode cX10_move 25 = .ok (.istore_n 3, 1) := by decide +kernel
theorem dX10_move_26 : decode cX10_move 26 = .ok (.iload_n 3, 1) := by decide +kernel
theorem dX10_move_27 : decode cX10_move 27 = .ok (.bipush 20, 2) := by decide +kernel
theorem dX10_move_29 : decode cX10_move 29 = .ok (.if_icmp .ge 31, 3) := by decide +kernel
theorem dX10_move_32 : decode cX10_move 32 = .ok (.aload_n 0, 1) := by decide +kernel
theorem dX10_move_33 : decode cX10_move 33 = .ok (.getfield 31, 3) := by decide +kernel
theorem dX10_move_36 : decode cX10_move 36 = .ok (.bipush 20, 2) := by decide +kernel
theorem dX10_move_38 : decode cX10_move 38 = .ok (.iload_n 2, 1) := by decide +kernel
theorem dX10_move_39 : decode cX10_move 39 = .ok (.imul, 1) := by decide +kernel
theorem dX10_move_40 : decode cX10_move 40 = .ok (.iload_n 3, 1) := by decide +kernel
theorem dX10_move_41 : decode cX10_move 41 = .ok (.iadd, 1) := by decide +kernel
theorem dX10_move_42 : decode cX10_move 42 = .ok (.aload_n 0, 1) := by decide +kernel
theorem dX10_move_43 : decode cX10_move 43 = .ok (.getfield 31, 3) := by decide +kernel
theorem dX10_move_46 : decode cX10_move 46 = .ok (.bipush 20, 2) := by decide +kernel
theorem dX10_move_48 : decode cX10_move 48 = .ok (.iload_n 1, 1) := by decide +kernel
theorem dX10_move_49 : decode cX10_move 49 = .ok (.imul, 1) := by decide +kernel
theorem dX10_move_50 : decode cX10_move 50 = .ok (.iload_n 3, 1) := by decide +kernel
theorem dX10_move_51 : decode cX10_move 51 = .ok (.iadd, 1) := by decide +kernel
theorem dX10_move_52 : decode cX10_move 52 = .ok (.baload, 1) := by decide +kernel
theorem dX10_move_53 : decode cX10_move 53 = .ok (.bastore, 1) := by decide +kernel
theorem dX10_move_54 : decode cX10_move 54 = .ok (.iinc 3 1, 3) := by decide +kernel
theorem dX10_move_57 : decode cX10_move 57 = .ok (.goto (-31), 3) := by decide +kernel
theorem dX10_move_60 : decode cX10_move 60 = .ok (.return_, 1) := by decide +kernel
theorem dX10_shut_0 : decode cX10_shut 0 = .ok (.iload_n 2, 1) := by decide +kernel
theorem dX10_shut_1 : decode cX10_shut 1 = .ok (.istore_n 3, 1) := by decide +kernel
theorem dX10_shut_2 : decode cX10_shut 2 = .ok (.iload_n 3, 1) := by decide +kernel
theorem dX10_shut_3 : decode cX10_shut 3 = .ok (.aload_n 0, 1) := by decide +kernel
theorem dX10_shut_4 : decode cX10_shut 4 = .ok (.getfield 16, 3) := by decide +kernel
theorem dX10_shut_7 : decode cX10_shut 7 = .ok (.if_icmp .ge 19, 3) := by decide +kernel
theorem dX10_shut_10 : decode cX10_shut 10 = .ok (.aload_n 0, 1) := by decide +kernel
theorem dX10_shut_11 : decode cX10_shut 11 = .ok (.iload_n 3, 1) := by decide +kernel
theorem dX10_shut_12 : decode cX10_shut 12 = .ok (.iload_n 1, 1) := by decide +kernel
theorem dX10_shut_13 : decode cX10_shut 13 = .ok (.iload_n 3, 1) := by decide +kernel
theorem dX10_shut_14 : decode cX10_shut 14 = .ok (.iadd, 1) := by decide +kernel
theorem dX10_shut_15 : decode cX10_shut 15 = .ok (.iload_n 2, 1) := by decide +kernel
theorem dX10_shut_16 : decode cX10_shut 16 = .ok (.isub, 1) := by decide +kernel
theorem dX10_shut_17 : decode cX10_shut 17 = .ok (.invokevirtual 23, 3) := by decide +kernel
theorem dX10_shut_20 : decode cX10_shut 20 = .ok (.iinc 3 1, 3) := by decide +kernel
theorem dX10_shut_23 : decode cX10_shut 23 = .ok (.goto (-21), 3) := by decide +kernel
theorem dX10_shut_26 : decode cX10_shut 26 = .ok (.aload_n 0, 1) := by decide +kernel
theorem dX10_shut_27 : decode cX10_shut 27 = .ok (.dup, 1) := by decide +kernel
theorem dX10_shut_28 : decode cX10_shut 28 = .ok (.getfield 16, 3) := by decide +kernel
theorem dX10_shut_31 : decode cX10_shut 31 = .ok (.iload_n 2, 1) := by decide +kernel
theorem dX10_shut_32 : decode cX10_shut 32 = .ok (.iload_n 1, 1) := by decide +kernel
theorem dX10_shut_33 : decode cX10_shut 33 = .ok (.isub, 1) := by decide +kernel
theorem dX10_shut_34 : decode cX10_shut 34 = .ok (.isub, 1) := by decide +kernel
theorem dX10_shut_35 : decode cX10_shut 35 = .ok (.putfield 16, 3) := by decide +kernel
theorem dX10_shut_38 : decode cX10_shut 38 = .ok (.return_, 1) := by decide +kernel
theorem dX10_begins_0 : decode cX10_begins 0 = .ok (.aload_n 0, 1) := by decide +kernel
theorem dX10_begins_1 : decode cX10_begins 1 = .ok (.getfield 34, 3) := by decide +kernel
theorem dX10_begins_4 : decode cX10_begins 4 = .ok (.aload_n 0, 1) := by decide +kernel
theorem dX10_begins_5 : decode cX10_begins 5 = .ok (.getfield 37, 3) := by decide +kernel
theorem dX10_begins_8 : decode cX10_begins 8 = .ok (.iload_n 1, 1) := by decide +kernel
theorem dX10_begins_9 : decode cX10_begins 9 = .ok (.iaload, 1) := by decide +kernel
theorem dX10_begins_10 : decode cX10_begins 10 = .ok (.if_icmp .ne 7, 3) := by decide +kernel
theorem dX10_begins_13 : decode cX10_begins 13 = .ok (.iconst 1, 1) := by decide +kernel
theorem dX10_begins_14 : decode cX10_begins 14 = .ok (.goto 4, 3) := by decide +kernel
theorem dX10_begins_17 : decode cX10_begins 17 = .ok (.iconst 0, 1) := by decide +kernel
theorem dX10_begins_18 : decode cX10_begins 18 = .ok (.istore_n 2, 1) := by decide +kernel
theorem dX10_begins_19 : decode cX10_begins 19 = .ok (.iconst 0, 1) := by decide +kernel
theorem dX10_begins_20 : decode cX10_begins 20 = .ok (.istore_n 3, 1) := by decide +kernel
theorem dX10_begins_21 : decode cX10_begins 21 = .ok (.iload_n 3, 1) := by decide +kernel
theorem dX10_begins_22 : decode cX10_begins 22 = .ok (.aload_n 0, 1) := by decide +kernel
theorem dX10_begins_23 : decode cX10_begins 23 = .ok (.getfield 34, 3) := by decide +kernel
theorem dX10_begins_26 : decode cX10_begins 26 = .ok (.if_icmp .ge 39, 3) := by decide +kernel
theorem dX10_begins_29 : decode cX10_begins 29 = .ok (.iload_n 2, 1) := by decide +kernel
theorem dX10_begins_30 : decode cX10_begins 30 = .ok (.ifCond .eq 35, 3) := by decide +kernel
theorem dX10_begins_33 : decode cX10_begins 33 = .ok (.aload_n 0, 1) := by decide +kernel
theorem dX10_begins_34 : decode cX10_begins 34 = .ok (.getfield 40, 3) := by decide +kernel
theorem dX10_begins_37 : decode cX10_begins 37 = .ok (.iload_n 3, 1) := by decide +kernel
theorem dX10_begins_38 : decode cX10_begins 38 = .ok (.baload, 1) := by decide +kernel
theorem dX10_begins_39 : decode cX10_begins 39 = .ok (.aload_n 0, 1) := by decide +kernel
theorem dX10_begins_40 : decode cX10_begins 40 = .ok (.getfield 43, 3) := by decide +kernel
theorem dX10_begins_43 : decode cX10_begins 43 = .ok (.bipush 40, 2) := by decide +kernel
theorem dX10_begins_45 : decode cX10_begins 45 = .ok (.iload_n 1, 1) := by decide +kernel
theorem dX10_begins_46 : decode cX10_begins 46 = .ok (.imul, 1) := by decide +kernel
theorem dX10_begins_47 : decode cX10_begins 47 = .ok (.iload_n 3, 1) := by decide +kernel
theorem dX10_begins_48 : decode cX10_begins 48 = .ok (.iadd, 1) := by decide +kernel
theorem dX10_begins_49 : decode cX10_begins 49 = .ok (.baload, 1) := by decide +kernel
theorem dX10_begins_50 : decode cX10_begins 50 = .ok (.if_icmp .ne 7, 3) := by decide +kernel
theorem dX10_begins_53 : decode cX10_begins 53 = .ok (.iconst 1, 1) := by decide +kernel
theorem dX10_begins_54 : decode cX10_begins 54 = .ok (.goto 4, 3) := by decide +kernel
theorem dX10_begins_57 : decode cX10_begins 57 = .ok (.iconst 0, 1) := by decide +kernel
theorem dX10_begins_58 : decode cX10_begins 58 = .ok (.istore_n 2, 1) := by decide +kernel
theorem dX10_begins_59 : decode cX10_begins 59 = .ok (.iinc 3 1, 3) := by decide +kernel
theorem dX10_begins_62 : decode cX10_begins 62 = .ok (.goto (-41), 3) := by decide +kernel
theorem dX10_begins_65 : decode cX10_begins 65 = .ok (.iload_n 2, 1) := by decide +kernel
theorem dX10_begins_66 : decode cX10_begins 66 = .ok (.ireturn, 1) := by decide +kernel
theorem dX10_acts_0 : decode cX10_acts 0 = .ok (.aload_n 0, 1) := by decide +kernel
theorem dX10_acts_1 : decode cX10_acts 1 = .ok (.getfield 46, 3) := by decide +kernel
theorem dX10_acts_4 : decode cX10_acts 4 = .ok (.iload_n 1, 1) := by decide +kernel
theorem dX10_acts_5 : decode cX10_acts 5 = .ok (.iaload, 1) := by decide +kernel
theorem dX10_acts_6 : decode cX10_acts 6 = .ok (.tableswitch 156 1 3 #[26, 49, 111], 26) := by decide +kernel
theorem dX10_acts_32 : decode cX10_acts 32 = .ok (.aload_n 0, 1) := by decide +kernel
theorem dX10_acts_33 : decode cX10_acts 33 = .ok (.aload_n 0, 1) := by decide +kernel
theorem dX10_acts_34 : decode cX10_acts 34 = .ok (.getfield 49, 3) := by decide +kernel
theorem dX10_acts_37 : decode cX10_acts 37 = .ok (.iload_n 1, 1) := by decide +kernel
theorem dX10_acts_38 : decode cX10_acts 38 = .ok (.iaload, 1) := by decide +kernel
theorem dX10_acts_39 : decode cX10_acts 39 = .ok (.putfield 34, 3) := by decide +kernel
theorem dX10_acts_42 : decode cX10_acts 42 = .ok (.aload_n 0, 1) := by decide +kernel
theorem dX10_acts_43 : decode cX10_acts 43 = .ok (.iload_n 1, 1) := by decide +kernel
theorem dX10_acts_44 : decode cX10_acts 44 = .ok (.iconst 0, 1) := by decide +kernel
theorem dX10_acts_45 : decode cX10_acts 45 = .ok (.iconst 0, 1) := by decide +kernel
theorem dX10_acts_46 : decode cX10_acts 46 = .ok (.aload_n 0, 1) := by decide +kernel
theorem dX10_acts_47 : decode cX10_acts 47 = .ok (.getfield 34, 3) := by decide +kernel
theorem dX10_acts_50 : decode cX10_acts 50 = .ok (.invokevirtual 52, 3) := by decide +kernel
theorem dX10_acts_53 : decode cX10_acts 53 = .ok (.iconst 1, 1) := by decide +kernel
theorem dX10_acts_54 : decode cX10_acts 54 = .ok (.ireturn, 1) := by decide +kernel
theorem dX10_acts_55 : decode cX10_acts 55 = .ok (.aload_n 0, 1) := by decide +kernel
theorem dX10_acts_56 : decode cX10_acts 56 = .ok (.getfield 34, 3) := by decide +kernel
theorem dX10_acts_59 : decode cX10_acts 59 = .ok (.iconst (-1), 1) := by decide +kernel
theorem dX10_acts_60 : decode cX10_acts 60 = .ok (.if_icmp .ne 7, 3) := by decide +kernel
theorem dX10_acts_63 : decode cX10_acts 63 = .ok (.iconst 0, 1) := by decide +kernel
theorem dX10_acts_64 : decode cX10_acts 64 = .ok (.goto 7, 3) := by decide +kernel
theorem dX10_acts_67 : decode cX10_acts 67 = .ok (.aload_n 0, 1) := by decide +kernel
theorem dX10_acts_68 : decode cX10_acts 68 = .ok (.getfield 34, 3) := by decide +kernel
theorem dX10_acts_71 : decode cX10_acts 71 = .ok (.istore_n 2, 1) := by decide +kernel
theorem dX10_acts_72 : decode cX10_acts 72 = .ok (.aload_n 0, 1) := by decide +kernel
theorem dX10_acts_73 : decode cX10_acts 73 = .ok (.iload_n 2, 1) := by decide +kernel
theorem dX10_acts_74 : decode cX10_acts 74 = .ok (.aload_n 0, 1) := by decide +kernel
theorem dX10_acts_75 : decode cX10_acts 75 = .ok (.getfield 49, 3) := by decide +kernel
theorem dX10_acts_78 : decode cX10_acts 78 = .ok (.iload_n 1, 1) := by decide +kernel
theorem dX10_acts_79 : decode cX10_acts 79 = .ok (.iaload, 1) := by decide +kernel
theorem dX10_acts_80 : decode cX10_acts 80 = .ok (.iadd, 1) := by decide +kernel
theorem dX10_acts_81 : decode cX10_acts 81 = .ok (.bipush 20, 2) := by decide +kernel
theorem dX10_acts_83 : decode cX10_acts 83 = .ok (.if_icmp .le 8, 3) := by decide +kernel
theorem dX10_acts_86 : decode cX10_acts 86 = .ok (.bipush 20, 2) := by decide +kernel
theorem dX10_acts_88 : decode cX10_acts 88 = .ok (.goto 11, 3) := by decide +kernel
theorem dX10_acts_91 : decode cX10_acts 91 = .ok (.iload_n 2, 1) := by decide +kernel
theorem dX10_acts_92 : decode cX10_acts 92 = .ok (.aload_n 0, 1) := by decide +kernel
theorem dX10_acts_93 : decode cX10_acts 93 = .ok (.getfield 49, 3) := by decide +kernel
theorem dX10_acts_96 : decode cX10_acts 96 = .ok (.iload_n 1, 1) := by decide +kernel
theorem dX10_acts_97 : decode cX10_acts 97 = .ok (.iaload, 1) := by decide +kernel
theorem dX10_acts_98 : decode cX10_acts 98 = .ok (.iadd, 1) := by decide +kernel
theorem dX10_acts_99 : decode cX10_acts 99 = .ok (.putfield 34, 3) := by decide +kernel
theorem dX10_acts_102 : decode cX10_acts 102 = .ok (.aload_n 0, 1) := by decide +kernel
theorem dX10_acts_103 : decode cX10_acts 103 = .ok (.iload_n 1, 1) := by decide +kernel
theorem dX10_acts_104 : decode cX10_acts 104 = .ok (.iconst 0, 1) := by decide +kernel
theorem dX10_acts_105 : decode cX10_acts 105 = .ok (.iload_n 2, 1) := by decide +kernel
theorem dX10_acts_106 : decode cX10_acts 106 = .ok (.aload_n 0, 1) := by decide +kernel
theorem dX10_acts_107 : decode cX10_acts 107 = .ok (.getfield 34, 3) := by decide +kernel
theorem dX10_acts_110 : decode cX10_acts 110 = .ok (.iload_n 2, 1) := by decide +kernel
theorem dX10_acts_111 : decode cX10_acts 111 = .ok (.isub, 1) := by decide +kernel
theorem dX10_acts_112 : decode cX10_acts 112 = .ok (.invokevirtual 52, 3) := by decide +kernel
theorem dX10_acts_115 : decode cX10_acts 115 = .ok (.iconst 1, 1) := by decide +kernel
theorem dX10_acts_116 : decode cX10_acts 116 = .ok (.ireturn, 1) := by decide +kernel
theorem dX10_acts_117 : decode cX10_acts 117 = .ok (.aload_n 0, 1) := by decide +kernel
theorem dX10_acts_118 : decode cX10_acts 118 = .ok (.iload_n 1, 1) := by decide +kernel
theorem dX10_acts_119 : decode cX10_acts 119 = .ok (.invokevirtual 56, 3) := by decide +kernel
theorem dX10_acts_122 : decode cX10_acts 122 = .ok (.ifCond .ne 5, 3) := by decide +kernel
theorem dX10_acts_125 : decode cX10_acts 125 = .ok (.iconst 0, 1) := by decide +kernel
theorem dX10_acts_126 : decode cX10_acts 126 = .ok (.ireturn, 1) := by decide +kernel
theorem dX10_acts_127 : decode cX10_acts 127 = .ok (.aload_n 0, 1) := by decide +kernel
theorem dX10_acts_128 : decode cX10_acts 128 = .ok (.aload_n 0, 1) := by decide +kernel
theorem dX10_acts_129 : decode cX10_acts 129 = .ok (.getfield 49, 3) := by decide +kernel
theorem dX10_acts_132 : decode cX10_acts 132 = .ok (.iload_n 1, 1) := by decide +kernel
theorem dX10_acts_133 : decode cX10_acts 133 = .ok (.iaload, 1) := by decide +kernel
theorem dX10_acts_134 : decode cX10_acts 134 = .ok (.aload_n 0, 1) := by decide +kernel
theorem dX10_acts_135 : decode cX10_acts 135 = .ok (.getfield 37, 3) := by decide +kernel
theorem dX10_acts_138 : decode cX10_acts 138 = .ok (.iload_n 1, 1) := by decide +kernel
theorem dX10_acts_139 : decode cX10_acts 139 = .ok (.iaload, 1) := by decide +kernel
theorem dX10_acts_140 : decode cX10_acts 140 = .ok (.isub, 1) := by decide +kernel
theorem dX10_acts_141 : decode cX10_acts 141 = .ok (.putfield 34, 3) := by decide +kernel
theorem dX10_acts_144 : decode cX10_acts 144 = .ok (.aload_n 0, 1) := by decide +kernel
theorem dX10_acts_145 : decode cX10_acts 145 = .ok (.iload_n 1, 1) := by decide +kernel
theorem dX10_acts_146 : decode cX10_acts 146 = .ok (.aload_n 0, 1) := by decide +kernel
theorem dX10_acts_147 : decode cX10_acts 147 = .ok (.getfield 37, 3) := by decide +kernel
theorem dX10_acts_150 : decode cX10_acts 150 = .ok (.iload_n 1, 1) := by decide +kernel
theorem dX10_acts_151 : decode cX10_acts 151 = .ok (.iaload, 1) := by decide +kernel
theorem dX10_acts_152 : decode cX10_acts 152 = .ok (.iconst 0, 1) := by decide +kernel
theorem dX10_acts_153 : decode cX10_acts 153 = .ok (.aload_n 0, 1) := by decide +kernel
theorem dX10_acts_154 : decode cX10_acts 154 = .ok (.getfield 34, 3) := by decide +kernel
theorem dX10_acts_157 : decode cX10_acts 157 = .ok (.invokevirtual 52, 3) := by decide +kernel
theorem dX10_acts_160 : decode cX10_acts 160 = .ok (.iconst 1, 1) := by decide +kernel
theorem dX10_acts_161 : decode cX10_acts 161 = .ok (.ireturn, 1) := by decide +kernel
theorem dX10_acts_162 : decode cX10_acts 162 = .ok (.aload_n 0, 1) := by decide +kernel
theorem dX10_acts_163 : decode cX10_acts 163 = .ok (.getfield 34, 3) := by decide +kernel
theorem dX10_acts_166 : decode cX10_acts 166 = .ok (.iconst (-1), 1) := by decide +kernel
theorem dX10_acts_167 : decode cX10_acts 167 = .ok (.if_icmp .eq 7, 3) := by decide +kernel
theorem dX10_acts_170 : decode cX10_acts 170 = .ok (.iconst 1, 1) := by decide +kernel
theorem dX10_acts_171 : decode cX10_acts 171 = .ok (.goto 4, 3) := by decide +kernel
theorem dX10_acts_174 : decode cX10_acts 174 = .ok (.iconst 0, 1) := by decide +kernel
theorem dX10_acts_175 : decode cX10_acts 175 = .ok (.istore_n 3, 1) := by decide +kernel
theorem dX10_acts_176 : decode cX10_acts 176 = .ok (.aload_n 0, 1) := by decide +kernel
theorem dX10_acts_177 : decode cX10_acts 177 = .ok (.iconst (-1), 1) := by decide +kernel
theorem dX10_acts_178 : decode cX10_acts 178 = .ok (.putfield 34, 3) := by decide +kernel
theorem dX10_acts_181 : decode cX10_acts 181 = .ok (.iload_n 3, 1) := by decide +kernel
theorem dX10_acts_182 : decode cX10_acts 182 = .ok (.ireturn, 1) := by decide +kernel
theorem dX10_copy_0 : decode cX10_copy 0 = .ok (.iconst 0, 1) := by decide +kernel
theorem dX10_copy_1 : decode cX10_copy 1 = .ok (.istore 5, 2) := by decide +kernel
theorem dX10_copy_3 : decode cX10_copy 3 = .ok (.iload 5, 2) := by decide +kernel
theorem dX10_copy_5 : decode cX10_copy 5 = .ok (.iload 4, 2) := by decide +kernel
theorem dX10_copy_7 : decode cX10_copy 7 = .ok (.if_icmp .ge 32, 3) := by decide +kernel
theorem dX10_copy_10 : decode cX10_copy 10 = .ok (.aload_n 0, 1) := by decide +kernel
theorem dX10_copy_11 : decode cX10_copy 11 = .ok (.getfield 40, 3) := by decide +kernel
theorem dX10_copy_14 : decode cX10_copy 14 = .ok (.iload_n 3, 1) := by decide +kernel
theorem dX10_copy_15 : decode cX10_copy 15 = .ok (.iload 5, 2) := by decide +kernel
theorem dX10_copy_17 : decode cX10_copy 17 = .ok (.iadd, 1) := by decide +kernel
theorem dX10_copy_18 : decode cX10_copy 18 = .ok (.aload_n 0, 1) := by decide +kernel
theorem dX10_copy_19 : decode cX10_copy 19 = .ok (.getfield 43, 3) := by decide +kernel
theorem dX10_copy_22 : decode cX10_copy 22 = .ok (.bipush 40, 2) := by decide +kernel
theorem dX10_copy_24 : decode cX10_copy 24 = .ok (.iload_n 1, 1) := by decide +kernel
theorem dX10_copy_25 : decode cX10_copy 25 = .ok (.imul, 1) := by decide +kernel
theorem dX10_copy_26 : decode cX10_copy 26 = .ok (.iload_n 2, 1) := by decide +kernel
theorem dX10_copy_27 : decode cX10_copy 27 = .ok (.iadd, 1) := by decide +kernel
theorem dX10_copy_28 : decode cX10_copy 28 = .ok (.iload 5, 2) := by decide +kernel
theorem dX10_copy_30 : decode cX10_copy 30 = .ok (.iadd, 1) := by decide +kernel
theorem dX10_copy_31 : decode cX10_copy 31 = .ok (.baload, 1) := by decide +kernel
theorem dX10_copy_32 : decode cX10_copy 32 = .ok (.bastore, 1) := by decide +kernel
theorem dX10_copy_33 : decode cX10_copy 33 = .ok (.iinc 5 1, 3) := by decide +kernel
theorem dX10_copy_36 : decode cX10_copy 36 = .ok (.goto (-33), 3) := by decide +kernel
theorem dX10_copy_39 : decode cX10_copy 39 = .ok (.return_, 1) := by decide +kernel
theorem dX10_write_0 : decode cX10_write 0 = .ok (.aload_n 0, 1) := by decide +kernel
theorem dX10_write_1 : decode cX10_write 1 = .ok (.getfield 60, 3) := by decide +kernel
theorem dX10_write_4 : decode cX10_write 4 = .ok (.istore 5, 2) := by decide +kernel
theorem dX10_write_6 : decode cX10_write 6 = .ok (.aload_n 0, 1) := by decide +kernel
theorem dX10_write_7 : decode cX10_write 7 = .ok (.dup, 1) := by decide +kernel
theorem dX10_write_8 : decode cX10_write 8 = .ok (.getfield 60, 3) := by decide +kernel
theorem dX10_write_11 : decode cX10_write 11 = .ok (.iconst 1, 1) := by decide +kernel
theorem dX10_write_12 : decode cX10_write 12 = .ok (.iadd, 1) := by decide +kernel
theorem dX10_write_13 : decode cX10_write 13 = .ok (.putfield 60, 3) := by decide +kernel
theorem dX10_write_16 : decode cX10_write 16 = .ok (.aload_n 0, 1) := by decide +kernel
theorem dX10_write_17 : decode cX10_write 17 = .ok (.dup, 1) := by decide +kernel
theorem dX10_write_18 : decode cX10_write 18 = .ok (.getfield 63, 3) := by decide +kernel
theorem dX10_write_21 : decode cX10_write 21 = .ok (.iconst 1, 1) := by decide +kernel
theorem dX10_write_22 : decode cX10_write 22 = .ok (.iadd, 1) := by decide +kernel
theorem dX10_write_23 : decode cX10_write 23 = .ok (.putfield 63, 3) := by decide +kernel
theorem dX10_write_26 : decode cX10_write 26 = .ok (.aload_n 0, 1) := by decide +kernel
theorem dX10_write_27 : decode cX10_write 27 = .ok (.getfield 46, 3) := by decide +kernel
theorem dX10_write_30 : decode cX10_write 30 = .ok (.iload 5, 2) := by decide +kernel
theorem dX10_write_32 : decode cX10_write 32 = .ok (.iload_n 1, 1) := by decide +kernel
theorem dX10_write_33 : decode cX10_write 33 = .ok (.iastore, 1) := by decide +kernel
theorem dX10_write_34 : decode cX10_write 34 = .ok (.aload_n 0, 1) := by decide +kernel
theorem dX10_write_35 : decode cX10_write 35 = .ok (.getfield 66, 3) := by decide +kernel
theorem dX10_write_38 : decode cX10_write 38 = .ok (.iload 5, 2) := by decide +kernel
theorem dX10_write_40 : decode cX10_write 40 = .ok (.lload_n 2, 1) := by decide +kernel
theorem dX10_write_41 : decode cX10_write 41 = .ok (.lastore, 1) := by decide +kernel
theorem dX10_write_42 : decode cX10_write 42 = .ok (.aload_n 0, 1) := by decide +kernel
theorem dX10_write_43 : decode cX10_write 43 = .ok (.getfield 37, 3) := by decide +kernel
theorem dX10_write_46 : decode cX10_write 46 = .ok (.iload 5, 2) := by decide +kernel
theorem dX10_write_48 : decode cX10_write 48 = .ok (.iload 4, 2) := by decide +kernel
theorem dX10_write_50 : decode cX10_write 50 = .ok (.iastore, 1) := by decide +kernel
theorem dX10_write_51 : decode cX10_write 51 = .ok (.aload_n 0, 1) := by decide +kernel
theorem dX10_write_52 : decode cX10_write 52 = .ok (.getfield 49, 3) := by decide +kernel
theorem dX10_write_55 : decode cX10_write 55 = .ok (.iload 5, 2) := by decide +kernel
theorem dX10_write_57 : decode cX10_write 57 = .ok (.iload_n 1, 1) := by decide +kernel
theorem dX10_write_58 : decode cX10_write 58 = .ok (.iconst 4, 1) := by decide +kernel
theorem dX10_write_59 : decode cX10_write 59 = .ok (.if_icmp .eq 8, 3) := by decide +kernel
theorem dX10_write_62 : decode cX10_write 62 = .ok (.iload_n 1, 1) := by decide +kernel
theorem dX10_write_63 : decode cX10_write 63 = .ok (.iconst 5, 1) := by decide +kernel
theorem dX10_write_64 : decode cX10_write 64 = .ok (.if_icmp .ne 7, 3) := by decide +kernel
theorem dX10_write_67 : decode cX10_write 67 = .ok (.iconst 0, 1) := by decide +kernel
theorem dX10_write_68 : decode cX10_write 68 = .ok (.goto 7, 3) := by decide +kernel
theorem dX10_write_71 : decode cX10_write 71 = .ok (.aload_n 0, 1) := by decide +kernel
theorem dX10_write_72 : decode cX10_write 72 = .ok (.getfield 9, 3) := by decide +kernel
theorem dX10_write_75 : decode cX10_write 75 = .ok (.iastore, 1) := by decide +kernel
theorem dX10_write_76 : decode cX10_write 76 = .ok (.aload_n 0, 1) := by decide +kernel
theorem dX10_write_77 : decode cX10_write 77 = .ok (.getfield 69, 3) := by decide +kernel
theorem dX10_write_80 : decode cX10_write 80 = .ok (.iload 5, 2) := by decide +kernel
theorem dX10_write_82 : decode cX10_write 82 = .ok (.aload_n 0, 1) := by decide +kernel
theorem dX10_write_83 : decode cX10_write 83 = .ok (.getfield 63, 3) := by decide +kernel
theorem dX10_write_86 : decode cX10_write 86 = .ok (.iastore, 1) := by decide +kernel
theorem dX10_write_87 : decode cX10_write 87 = .ok (.iconst 0, 1) := by decide +kernel
theorem dX10_write_88 : decode cX10_write 88 = .ok (.istore 6, 2) := by decide +kernel
theorem dX10_write_90 : decode cX10_write 90 = .ok (.iload 6, 2) := by decide +kernel
theorem dX10_write_92 : decode cX10_write 92 = .ok (.aload_n 0, 1) := by decide +kernel
theorem dX10_write_93 : decode cX10_write 93 = .ok (.getfield 49, 3) := by decide +kernel
theorem dX10_write_96 : decode cX10_write 96 = .ok (.iload 5, 2) := by decide +kernel
theorem dX10_write_98 : decode cX10_write 98 = .ok (.iaload, 1) := by decide +kernel
theorem dX10_write_99 : decode cX10_write 99 = .ok (.if_icmp .ge 29, 3) := by decide +kernel
theorem dX10_write_102 : decode cX10_write 102 = .ok (.aload_n 0, 1) := by decide +kernel
theorem dX10_write_103 : decode cX10_write 103 = .ok (.getfield 43, 3) := by decide +kernel
theorem dX10_write_106 : decode cX10_write 106 = .ok (.bipush 40, 2) := by decide +kernel
theorem dX10_write_108 : decode cX10_write 108 = .ok (.iload 5, 2) := by decide +kernel
theorem dX10_write_110 : decode cX10_write 110 = .ok (.imul, 1) := by decide +kernel
theorem dX10_write_111 : decode cX10_write 111 = .ok (.iload 6, 2) := by decide +kernel
theorem dX10_write_113 : decode cX10_write 113 = .ok (.iadd, 1) := by decide +kernel
theorem dX10_write_114 : decode cX10_write 114 = .ok (.aload_n 0, 1) := by decide +kernel
theorem dX10_write_115 : decode cX10_write 115 = .ok (.getfield 12, 3) := by decide +kernel
theorem dX10_write_118 : decode cX10_write 118 = .ok (.iload 6, 2) := by decide +kernel
theorem dX10_write_120 : decode cX10_write 120 = .ok (.baload, 1) := by decide +kernel
theorem dX10_write_121 : decode cX10_write 121 = .ok (.bastore, 1) := by decide +kernel
theorem dX10_write_122 : decode cX10_write 122 = .ok (.iinc 6 1, 3) := by decide +kernel
theorem dX10_write_125 : decode cX10_write 125 = .ok (.goto (-35), 3) := by decide +kernel
theorem dX10_write_128 : decode cX10_write 128 = .ok (.iload_n 1, 1) := by decide +kernel
theorem dX10_write_129 : decode cX10_write 129 = .ok (.iconst 4, 1) := by decide +kernel
theorem dX10_write_130 : decode cX10_write 130 = .ok (.if_icmp .eq 13, 3) := by decide +kernel
theorem dX10_write_133 : decode cX10_write 133 = .ok (.iload_n 1, 1) := by decide +kernel
theorem dX10_write_134 : decode cX10_write 134 = .ok (.iconst 5, 1) := by decide +kernel
theorem dX10_write_135 : decode cX10_write 135 = .ok (.if_icmp .eq 8, 3) := by decide +kernel
theorem dX10_write_138 : decode cX10_write 138 = .ok (.aload_n 0, 1) := by decide +kernel
theorem dX10_write_139 : decode cX10_write 139 = .ok (.iconst 0, 1) := by decide +kernel
theorem dX10_write_140 : decode cX10_write 140 = .ok (.putfield 9, 3) := by decide +kernel
theorem dX10_write_143 : decode cX10_write 143 = .ok (.iload 5, 2) := by decide +kernel
theorem dX10_write_145 : decode cX10_write 145 = .ok (.ireturn, 1) := by decide +kernel
theorem dX10_actsOnMap_0 : decode cX10_actsOnMap 0 = .ok (.aload_n 0, 1) := by decide +kernel
theorem dX10_actsOnMap_1 : decode cX10_actsOnMap 1 = .ok (.aload_n 0, 1) := by decide +kernel
theorem dX10_actsOnMap_2 : decode cX10_actsOnMap 2 = .ok (.getfield 66, 3) := by decide +kernel
theorem dX10_actsOnMap_5 : decode cX10_actsOnMap 5 = .ok (.iload_n 1, 1) := by decide +kernel
theorem dX10_actsOnMap_6 : decode cX10_actsOnMap 6 = .ok (.laload, 1) := by decide +kernel
theorem dX10_actsOnMap_7 : decode cX10_actsOnMap 7 = .ok (.invokevirtual 72, 3) := by decide +kernel
theorem dX10_actsOnMap_10 : decode cX10_actsOnMap 10 = .ok (.istore_n 2, 1) := by decide +kernel
theorem dX10_actsOnMap_11 : decode cX10_actsOnMap 11 = .ok (.aload_n 0, 1) := by decide +kernel
theorem dX10_actsOnMap_12 : decode cX10_actsOnMap 12 = .ok (.iload_n 2, 1) := by decide +kernel
theorem dX10_actsOnMap_13 : decode cX10_actsOnMap 13 = .ok (.aload_n 0, 1) := by decide +kernel
theorem dX10_actsOnMap_14 : decode cX10_actsOnMap 14 = .ok (.getfield 66, 3) := by decide +kernel
theorem dX10_actsOnMap_17 : decode cX10_actsOnMap 17 = .ok (.iload_n 1, 1) := by decide +kernel
theorem dX10_actsOnMap_18 : decode cX10_actsOnMap 18 = .ok (.laload, 1) := by decide +kernel
theorem dX10_actsOnMap_19 : decode cX10_actsOnMap 19 = .ok (.invokevirtual 76, 3) := by decide +kernel
theorem dX10_actsOnMap_22 : decode cX10_actsOnMap 22 = .ok (.istore_n 3, 1) := by decide +kernel
theorem dX10_actsOnMap_23 : decode cX10_actsOnMap 23 = .ok (.aload_n 0, 1) := by decide +kernel
theorem dX10_actsOnMap_24 : decode cX10_actsOnMap 24 = .ok (.iload_n 3, 1) := by decide +kernel
theorem dX10_actsOnMap_25 : decode cX10_actsOnMap 25 = .ok (.ifCond .eq 12, 3) := by decide +kernel
theorem dX10_actsOnMap_28 : decode cX10_actsOnMap 28 = .ok (.aload_n 0, 1) := by decide +kernel
theorem dX10_actsOnMap_29 : decode cX10_actsOnMap 29 = .ok (.getfield 27, 3) := by decide +kernel
theorem dX10_actsOnMap_32 : decode cX10_actsOnMap 32 = .ok (.iload_n 2, 1) := by decide +kernel
theorem dX10_actsOnMap_33 : decode cX10_actsOnMap 33 = .ok (.iaload, 1) := by decide +kernel
theorem dX10_actsOnMap_34 : decode cX10_actsOnMap 34 = .ok (.goto 4, 3) := by decide +kernel
theorem dX10_actsOnMap_37 : decode cX10_actsOnMap 37 = .ok (.iconst (-1), 1) := by decide +kernel
theorem dX10_actsOnMap_38 : decode cX10_actsOnMap 38 = .ok (.putfield 34, 3) := by decide +kernel
theorem dX10_actsOnMap_41 : decode cX10_actsOnMap 41 = .ok (.iconst 0, 1) := by decide +kernel
theorem dX10_actsOnMap_42 : decode cX10_actsOnMap 42 = .ok (.istore 4, 2) := by decide +kernel
theorem dX10_actsOnMap_44 : decode cX10_actsOnMap 44 = .ok (.iload 4, 2) := by decide +kernel
theorem dX10_actsOnMap_46 : decode cX10_actsOnMap 46 = .ok (.bipush 20, 2) := by decide +kernel
theorem dX10_actsOnMap_48 : decode cX10_actsOnMap 48 = .ok (.if_icmp .ge 32, 3) := by decide +kernel
theorem dX10_actsOnMap_51 : decode cX10_actsOnMap 51 = .ok (.iload_n 3, 1) := by decide +kernel
theorem dX10_actsOnMap_52 : decode cX10_actsOnMap 52 = .ok (.ifCond .eq 28, 3) := by decide +kernel
theorem dX10_actsOnMap_55 : decode cX10_actsOnMap 55 = .ok (.aload_n 0, 1) := by decide +kernel
theorem dX10_actsOnMap_56 : decode cX10_actsOnMap 56 = .ok (.getfield 40, 3) := by decide +kernel
theorem dX10_actsOnMap_59 : decode cX10_actsOnMap 59 = .ok (.iload 4, 2) := by decide +kernel
theorem dX10_actsOnMap_61 : decode cX10_actsOnMap 61 = .ok (.aload_n 0, 1) := by decide +kernel
theorem dX10_actsOnMap_62 : decode cX10_actsOnMap 62 = .ok (.getfield 31, 3) := by decide +kernel
theorem dX10_actsOnMap_65 : decode cX10_actsOnMap 65 = .ok (.bipush 20, 2) := by decide +kernel
theorem dX10_actsOnMap_67 : decode cX10_actsOnMap 67 = .ok (.iload_n 2, 1) := by decide +kernel
theorem dX10_actsOnMap_68 : decode cX10_actsOnMap 68 = .ok (.imul, 1) := by decide +kernel
theorem dX10_actsOnMap_69 : decode cX10_actsOnMap 69 = .ok (.iload 4, 2) := by decide +kernel
theorem dX10_actsOnMap_71 : decode cX10_actsOnMap 71 = .ok (.iadd, 1) := by decide +kernel
theorem dX10_actsOnMap_72 : decode cX10_actsOnMap 72 = .ok (.baload, 1) := by decide +kernel
theorem dX10_actsOnMap_73 : decode cX10_actsOnMap 73 = .ok (.bastore, 1) := by decide +kernel
theorem dX10_actsOnMap_74 : decode cX10_actsOnMap 74 = .ok (.iinc 4 1, 3) := by decide +kernel
theorem dX10_actsOnMap_77 : decode cX10_actsOnMap 77 = .ok (.goto (-33), 3) := by decide +kernel
theorem dX10_actsOnMap_80 : decode cX10_actsOnMap 80 = .ok (.aload_n 0, 1) := by decide +kernel
theorem dX10_actsOnMap_81 : decode cX10_actsOnMap 81 = .ok (.iload_n 1, 1) := by decide +kernel
theorem dX10_actsOnMap_82 : decode cX10_actsOnMap 82 = .ok (.invokevirtual 80, 3) := by decide +kernel
theorem dX10_actsOnMap_85 : decode cX10_actsOnMap 85 = .ok (.istore 4, 2) := by decide +kernel
theorem dX10_actsOnMap_87 : decode cX10_actsOnMap 87 = .ok (.aload_n 0, 1) := by decide +kernel
theorem dX10_actsOnMap_88 : decode cX10_actsOnMap 88 = .ok (.getfield 34, 3) := by decide +kernel
theorem dX10_actsOnMap_91 : decode cX10_actsOnMap 91 = .ok (.iconst (-1), 1) := by decide +kernel
theorem dX10_actsOnMap_92 : decode cX10_actsOnMap 92 = .ok (.if_icmp .ne 18, 3) := by decide +kernel
theorem dX10_actsOnMap_95 : decode cX10_actsOnMap 95 = .ok (.iload_n 3, 1) := by decide +kernel
theorem dX10_actsOnMap_96 : decode cX10_actsOnMap 96 = .ok (.ifCond .eq 11, 3) := by decide +kernel
theorem dX10_actsOnMap_99 : decode cX10_actsOnMap 99 = .ok (.aload_n 0, 1) := by decide +kernel
theorem dX10_actsOnMap_100 : decode cX10_actsOnMap 100 = .ok (.iload_n 2, 1) := by decide +kernel
theorem dX10_actsOnMap_101 : decode cX10_actsOnMap 101 = .ok (.iload_n 2, 1) := by decide +kernel
theorem dX10_actsOnMap_102 : decode cX10_actsOnMap 102 = .ok (.iconst 1, 1) := by decide +kernel
theorem dX10_actsOnMap_103 : decode cX10_actsOnMap 103 = .ok (.iadd, 1) := by decide +kernel
theorem dX10_actsOnMap_104 : decode cX10_actsOnMap 104 = .ok (.invokevirtual 83, 3) := by decide +kernel
theorem dX10_actsOnMap_107 : decode cX10_actsOnMap 107 = .ok (.iload 4, 2) := by decide +kernel
theorem dX10_actsOnMap_109 : decode cX10_actsOnMap 109 = .ok (.ireturn, 1) := by decide +kernel
theorem dX10_actsOnMap_110 : decode cX10_actsOnMap 110 = .ok (.iload_n 3, 1) := by decide +kernel
theorem dX10_actsOnMap_111 : decode cX10_actsOnMap 111 = .ok (.ifCond .ne 14, 3) := by decide +kernel
theorem dX10_actsOnMap_114 : decode cX10_actsOnMap 114 = .ok (.aload_n 0, 1) := by decide +kernel
theorem dX10_actsOnMap_115 : decode cX10_actsOnMap 115 = .ok (.iload_n 2, 1) := by decide +kernel
theorem dX10_actsOnMap_116 : decode cX10_actsOnMap 116 = .ok (.aload_n 0, 1) := by decide +kernel
theorem dX10_actsOnMap_117 : decode cX10_actsOnMap 117 = .ok (.getfield 66, 3) := by decide +kernel
theorem dX10_actsOnMap_120 : decode cX10_actsOnMap 120 = .ok (.iload_n 1, 1) := by decide +kernel
theorem dX10_actsOnMap_121 : decode cX10_actsOnMap 121 = .ok (.laload, 1) := by decide +kernel
theorem dX10_actsOnMap_122 : decode cX10_actsOnMap 122 = .ok (.invokevirtual 86, 3) := by decide +kernel
theorem dX10_actsOnMap_125 : decode cX10_actsOnMap 125 = .ok (.aload_n 0, 1) := by decide +kernel
theorem dX10_actsOnMap_126 : decode cX10_actsOnMap 126 = .ok (.getfield 27, 3) := by decide +kernel
theorem dX10_actsOnMap_129 : decode cX10_actsOnMap 129 = .ok (.iload_n 2, 1) := by decide +kernel
theorem dX10_actsOnMap_130 : decode cX10_actsOnMap 130 = .ok (.aload_n 0, 1) := by decide +kernel
theorem dX10_actsOnMap_131 : decode cX10_actsOnMap 131 = .ok (.getfield 34, 3) := by decide +kernel
theorem dX10_actsOnMap_134 : decode cX10_actsOnMap 134 = .ok (.iastore, 1) := by decide +kernel
theorem dX10_actsOnMap_135 : decode cX10_actsOnMap 135 = .ok (.iconst 0, 1) := by decide +kernel
theorem dX10_actsOnMap_136 : decode cX10_actsOnMap 136 = .ok (.istore 5, 2) := by decide +kernel
theorem dX10_actsOnMap_138 : decode cX10_actsOnMap 138 = .ok (.iload 5, 2) := by decide +kernel
theorem dX10_actsOnMap_140 : decode cX10_actsOnMap 140 = .ok (.bipush 20, 2) := by decide +kernel
theorem dX10_actsOnMap_142 : decode cX10_actsOnMap 142 = .ok (.if_icmp .ge 28, 3) := by decide +kernel
theorem dX10_actsOnMap_145 : decode cX10_actsOnMap 145 = .ok (.aload_n 0, 1) := by decide +kernel
theorem dX10_actsOnMap_146 : decode cX10_actsOnMap 146 = .ok (.getfield 31, 3) := by decide +kernel
theorem dX10_actsOnMap_149 : decode cX10_actsOnMap 149 = .ok (.bipush 20, 2) := by decide +kernel
theorem dX10_actsOnMap_151 : decode cX10_actsOnMap 151 = .ok (.iload_n 2, 1) := by decide +kernel
theorem dX10_actsOnMap_152 : decode cX10_actsOnMap 152 = .ok (.imul, 1) := by decide +kernel
theorem dX10_actsOnMap_153 : decode cX10_actsOnMap 153 = .ok (.iload 5, 2) := by decide +kernel
theorem dX10_actsOnMap_155 : decode cX10_actsOnMap 155 = .ok (.iadd, 1) := by decide +kernel
theorem dX10_actsOnMap_156 : decode cX10_actsOnMap 156 = .ok (.aload_n 0, 1) := by decide +kernel
theorem dX10_actsOnMap_157 : decode cX10_actsOnMap 157 = .ok (.getfield 40, 3) := by decide +kernel
theorem dX10_actsOnMap_160 : decode cX10_actsOnMap 160 = .ok (.iload 5, 2) := by decide +kernel
theorem dX10_actsOnMap_162 : decode cX10_actsOnMap 162 = .ok (.baload, 1) := by decide +kernel
theorem dX10_actsOnMap_163 : decode cX10_actsOnMap 163 = .ok (.bastore, 1) := by decide +kernel
theorem dX10_actsOnMap_164 : decode cX10_actsOnMap 164 = .ok (.iinc 5 1, 3) := by decide +kernel
theorem dX10_actsOnMap_167 : decode cX10_actsOnMap 167 = .ok (.goto (-29), 3) := by decide +kernel
theorem dX10_actsOnMap_170 : decode cX10_actsOnMap 170 = .ok (.iload 4, 2) := by decide +kernel
theorem dX10_actsOnMap_172 : decode cX10_actsOnMap 172 = .ok (.ireturn, 1) := by decide +kernel
theorem dX10_put_0 : decode cX10_put 0 = .ok (.aload_n 0, 1) := by decide +kernel
theorem dX10_put_1 : decode cX10_put 1 = .ok (.getfield 90, 3) := by decide +kernel
theorem dX10_put_4 : decode cX10_put 4 = .ok (.ifCond .eq 6, 3) := by decide +kernel
theorem dX10_put_7 : decode cX10_put 7 = .ok (.bipush (-4), 2) := by decide +kernel
theorem dX10_put_9 : decode cX10_put 9 = .ok (.ireturn, 1) := by decide +kernel
theorem dX10_put_10 : decode cX10_put 10 = .ok (.aload_n 0, 1) := by decide +kernel
theorem dX10_put_11 : decode cX10_put 11 = .ok (.getfield 9, 3) := by decide +kernel
theorem dX10_put_14 : decode cX10_put 14 = .ok (.bipush 20, 2) := by decide +kernel
theorem dX10_put_16 : decode cX10_put 16 = .ok (.if_icmp .le 6, 3) := by decide +kernel
theorem dX10_put_19 : decode cX10_put 19 = .ok (.bipush (-2), 2) := by decide +kernel
theorem dX10_put_21 : decode cX10_put 21 = .ok (.ireturn, 1) := by decide +kernel
theorem dX10_put_22 : decode cX10_put 22 = .ok (.aload_n 0, 1) := by decide +kernel
theorem dX10_put_23 : decode cX10_put 23 = .ok (.aload_n 0, 1) := by decide +kernel
theorem dX10_put_24 : decode cX10_put 24 = .ok (.lload_n 1, 1) := by decide +kernel
theorem dX10_put_25 : decode cX10_put 25 = .ok (.invokevirtual 72, 3) := by decide +kernel
theorem dX10_put_28 : decode cX10_put 28 = .ok (.lload_n 1, 1) := by decide +kernel
theorem dX10_put_29 : decode cX10_put 29 = .ok (.invokevirtual 76, 3) := by decide +kernel
theorem dX10_put_32 : decode cX10_put 32 = .ok (.ifCond .eq 7, 3) := by decide +kernel
theorem dX10_put_35 : decode cX10_put 35 = .ok (.iconst 1, 1) := by decide +kernel
theorem dX10_put_36 : decode cX10_put 36 = .ok (.goto 4, 3) := by decide +kernel
theorem dX10_put_39 : decode cX10_put 39 = .ok (.iconst 0, 1) := by decide +kernel
theorem dX10_put_40 : decode cX10_put 40 = .ok (.istore_n 3, 1) := by decide +kernel
theorem dX10_put_41 : decode cX10_put 41 = .ok (.aload_n 0, 1) := by decide +kernel
theorem dX10_put_42 : decode cX10_put 42 = .ok (.iconst 1, 1) := by decide +kernel
theorem dX10_put_43 : decode cX10_put 43 = .ok (.lload_n 1, 1) := by decide +kernel
theorem dX10_put_44 : decode cX10_put 44 = .ok (.iconst 0, 1) := by decide +kernel
theorem dX10_put_45 : decode cX10_put 45 = .ok (.invokevirtual 94, 3) := by decide +kernel
theorem dX10_put_48 : decode cX10_put 48 = .ok (.istore 4, 2) := by decide +kernel
theorem dX10_put_50 : decode cX10_put 50 = .ok (.aload_n 0, 1) := by decide +kernel
theorem dX10_put_51 : decode cX10_put 51 = .ok (.iload 4, 2) := by decide +kernel
theorem dX10_put_53 : decode cX10_put 53 = .ok (.invokevirtual 98, 3) := by decide +kernel
theorem dX10_put_56 : decode cX10_put 56 = .ok (.istore 5, 2) := by decide +kernel
theorem dX10_put_58 : decode cX10_put 58 = .ok (.aload_n 0, 1) := by decide +kernel
theorem dX10_put_59 : decode cX10_put 59 = .ok (.iload 4, 2) := by decide +kernel
theorem dX10_put_61 : decode cX10_put 61 = .ok (.lload_n 1, 1) := by decide +kernel
theorem dX10_put_62 : decode cX10_put 62 = .ok (.lload_n 1, 1) := by decide +kernel
theorem dX10_put_63 : decode cX10_put 63 = .ok (.invokevirtual 101, 3) := by decide +kernel
theorem dX10_put_66 : decode cX10_put 66 = .ok (.iload_n 3, 1) := by decide +kernel
theorem dX10_put_67 : decode cX10_put 67 = .ok (.ireturn, 1) := by decide +kernel
theorem dX10_append_0 : decode cX10_append 0 = .ok (.aload_n 0, 1) := by decide +kernel
theorem dX10_append_1 : decode cX10_append 1 = .ok (.getfield 90, 3) := by decide +kernel
theorem dX10_append_4 : decode cX10_append 4 = .ok (.ifCond .eq 6, 3) := by decide +kernel
theorem dX10_append_7 : decode cX10_append 7 = .ok (.bipush (-4), 2) := by decide +kernel
theorem dX10_append_9 : decode cX10_append 9 = .ok (.ireturn, 1) := by decide +kernel
theorem dX10_append_10 : decode cX10_append 10 = .ok (.aload_n 0, 1) := by decide +kernel
theorem dX10_append_11 : decode cX10_append 11 = .ok (.getfield 9, 3) := by decide +kernel
theorem dX10_append_14 : decode cX10_append 14 = .ok (.bipush 20, 2) := by decide +kernel
theorem dX10_append_16 : decode cX10_append 16 = .ok (.if_icmp .le 6, 3) := by decide +kernel
theorem dX10_append_19 : decode cX10_append 19 = .ok (.bipush (-2), 2) := by decide +kernel
theorem dX10_append_21 : decode cX10_append 21 = .ok (.ireturn, 1) := by decide +kernel
theorem dX10_append_22 : decode cX10_append 22 = .ok (.aload_n 0, 1) := by decide +kernel
theorem dX10_append_23 : decode cX10_append 23 = .ok (.iconst 2, 1) := by decide +kernel
theorem dX10_append_24 : decode cX10_append 24 = .ok (.lload_n 1, 1) := by decide +kernel
theorem dX10_append_25 : decode cX10_append 25 = .ok (.iconst 0, 1) := by decide +kernel
theorem dX10_append_26 : decode cX10_append 26 = .ok (.invokevirtual 94, 3) := by decide +kernel
theorem dX10_append_29 : decode cX10_append 29 = .ok (.istore_n 3, 1) := by decide +kernel
theorem dX10_append_30 : decode cX10_append 30 = .ok (.aload_n 0, 1) := by decide +kernel
theorem dX10_append_31 : decode cX10_append 31 = .ok (.iload_n 3, 1) := by decide +kernel
theorem dX10_append_32 : decode cX10_append 32 = .ok (.invokevirtual 98, 3) := by decide +kernel
theorem dX10_append_35 : decode cX10_append 35 = .ok (.istore 4, 2) := by decide +kernel
theorem dX10_append_37 : decode cX10_append 37 = .ok (.aload_n 0, 1) := by decide +kernel
theorem dX10_append_38 : decode cX10_append 38 = .ok (.iload_n 3, 1) := by decide +kernel
theorem dX10_append_39 : decode cX10_append 39 = .ok (.lload_n 1, 1) := by decide +kernel
theorem dX10_append_40 : decode cX10_append 40 = .ok (.lload_n 1, 1) := by decide +kernel
theorem dX10_append_41 : decode cX10_append 41 = .ok (.invokevirtual 101, 3) := by decide +kernel
theorem dX10_append_44 : decode cX10_append 44 = .ok (.aload_n 0, 1) := by decide +kernel
theorem dX10_append_45 : decode cX10_append 45 = .ok (.getfield 27, 3) := by decide +kernel
theorem dX10_append_48 : decode cX10_append 48 = .ok (.aload_n 0, 1) := by decide +kernel
theorem dX10_append_49 : decode cX10_append 49 = .ok (.lload_n 1, 1) := by decide +kernel
theorem dX10_append_50 : decode cX10_append 50 = .ok (.invokevirtual 72, 3) := by decide +kernel
theorem dX10_append_53 : decode cX10_append 53 = .ok (.iaload, 1) := by decide +kernel
theorem dX10_append_54 : decode cX10_append 54 = .ok (.ireturn, 1) := by decide +kernel
theorem dX10_swap_0 : decode cX10_swap 0 = .ok (.aload_n 0, 1) := by decide +kernel
theorem dX10_swap_1 : decode cX10_swap 1 = .ok (.getfield 90, 3) := by decide +kernel
theorem dX10_swap_4 : decode cX10_swap 4 = .ok (.ifCond .eq 6, 3) := by decide +kernel
theorem dX10_swap_7 : decode cX10_swap 7 = .ok (.bipush (-4), 2) := by decide +kernel
theorem dX10_swap_9 : decode cX10_swap 9 = .ok (.ireturn, 1) := by decide +kernel
theorem dX10_swap_10 : decode cX10_swap 10 = .ok (.iload_n 3, 1) := by decide +kernel
theorem dX10_swap_11 : decode cX10_swap 11 = .ok (.ifCond .lt 28, 3) := by decide +kernel
theorem dX10_swap_14 : decode cX10_swap 14 = .ok (.iload_n 3, 1) := by decide +kernel
theorem dX10_swap_15 : decode cX10_swap 15 = .ok (.bipush 20, 2) := by decide +kernel
theorem dX10_swap_17 : decode cX10_swap 17 = .ok (.if_icmp .gt 22, 3) := by decide +kernel
theorem dX10_swap_20 : decode cX10_swap 20 = .ok (.aload_n 0, 1) := by decide +kernel
theorem dX10_swap_21 : decode cX10_swap 21 = .ok (.getfield 9, 3) := by decide +kernel
theorem dX10_swap_24 : decode cX10_swap 24 = .ok (.iload_n 3, 1) := by decide +kernel
theorem dX10_swap_25 : decode cX10_swap 25 = .ok (.if_icmp .lt 14, 3) := by decide +kernel
theorem dX10_swap_28 : decode cX10_swap 28 = .ok (.aload_n 0, 1) := by decide +kernel
theorem dX10_swap_29 : decode cX10_swap 29 = .ok (.getfield 9, 3) := by decide +kernel
theorem dX10_swap_32 : decode cX10_swap 32 = .ok (.iload_n 3, 1) := by decide +kernel
theorem dX10_swap_33 : decode cX10_swap 33 = .ok (.isub, 1) := by decide +kernel
theorem dX10_swap_34 : decode cX10_swap 34 = .ok (.bipush 20, 2) := by decide +kernel
theorem dX10_swap_36 : decode cX10_swap 36 = .ok (.if_icmp .le 6, 3) := by decide +kernel
theorem dX10_swap_39 : decode cX10_swap 39 = .ok (.bipush (-2), 2) := by decide +kernel
theorem dX10_swap_41 : decode cX10_swap 41 = .ok (.ireturn, 1) := by decide +kernel
theorem dX10_swap_42 : decode cX10_swap 42 = .ok (.aload_n 0, 1) := by decide +kernel
theorem dX10_swap_43 : decode cX10_swap 43 = .ok (.iconst 3, 1) := by decide +kernel
theorem dX10_swap_44 : decode cX10_swap 44 = .ok (.lload_n 1, 1) := by decide +kernel
theorem dX10_swap_45 : decode cX10_swap 45 = .ok (.iload_n 3, 1) := by decide +kernel
theorem dX10_swap_46 : decode cX10_swap 46 = .ok (.invokevirtual 94, 3) := by decide +kernel
theorem dX10_swap_49 : decode cX10_swap 49 = .ok (.istore 4, 2) := by decide +kernel
theorem dX10_swap_51 : decode cX10_swap 51 = .ok (.aload_n 0, 1) := by decide +kernel
theorem dX10_swap_52 : decode cX10_swap 52 = .ok (.iload 4, 2) := by decide +kernel
theorem dX10_swap_54 : decode cX10_swap 54 = .ok (.invokevirtual 98, 3) := by decide +kernel
theorem dX10_swap_57 : decode cX10_swap 57 = .ok (.ifCond .eq 7, 3) := by decide +kernel
theorem dX10_swap_60 : decode cX10_swap 60 = .ok (.iconst 1, 1) := by decide +kernel
theorem dX10_swap_61 : decode cX10_swap 61 = .ok (.goto 4, 3) := by decide +kernel
theorem dX10_swap_64 : decode cX10_swap 64 = .ok (.iconst 0, 1) := by decide +kernel
theorem dX10_swap_65 : decode cX10_swap 65 = .ok (.istore 5, 2) := by decide +kernel
theorem dX10_swap_67 : decode cX10_swap 67 = .ok (.aload_n 0, 1) := by decide +kernel
theorem dX10_swap_68 : decode cX10_swap 68 = .ok (.iload 4, 2) := by decide +kernel
theorem dX10_swap_70 : decode cX10_swap 70 = .ok (.lload_n 1, 1) := by decide +kernel
theorem dX10_swap_71 : decode cX10_swap 71 = .ok (.lload_n 1, 1) := by decide +kernel
theorem dX10_swap_72 : decode cX10_swap 72 = .ok (.invokevirtual 101, 3) := by decide +kernel
theorem dX10_swap_75 : decode cX10_swap 75 = .ok (.iload 5, 2) := by decide +kernel
theorem dX10_swap_77 : decode cX10_swap 77 = .ok (.ireturn, 1) := by decide +kernel
theorem dX10_drop_0 : decode cX10_drop 0 = .ok (.aload_n 0, 1) := by decide +kernel
theorem dX10_drop_1 : decode cX10_drop 1 = .ok (.getfield 90, 3) := by decide +kernel
theorem dX10_drop_4 : decode cX10_drop 4 = .ok (.ifCond .eq 6, 3) := by decide +kernel
theorem dX10_drop_7 : decode cX10_drop 7 = .ok (.bipush (-4), 2) := by decide +kernel
theorem dX10_drop_9 : decode cX10_drop 9 = .ok (.ireturn, 1) := by decide +kernel
theorem dX10_drop_10 : decode cX10_drop 10 = .ok (.aload_n 0, 1) := by decide +kernel
theorem dX10_drop_11 : decode cX10_drop 11 = .ok (.iconst 4, 1) := by decide +kernel
theorem dX10_drop_12 : decode cX10_drop 12 = .ok (.lload_n 1, 1) := by decide +kernel
theorem dX10_drop_13 : decode cX10_drop 13 = .ok (.iconst 0, 1) := by decide +kernel
theorem dX10_drop_14 : decode cX10_drop 14 = .ok (.invokevirtual 94, 3) := by decide +kernel
theorem dX10_drop_17 : decode cX10_drop 17 = .ok (.istore_n 3, 1) := by decide +kernel
theorem dX10_drop_18 : decode cX10_drop 18 = .ok (.aload_n 0, 1) := by decide +kernel
theorem dX10_drop_19 : decode cX10_drop 19 = .ok (.iload_n 3, 1) := by decide +kernel
theorem dX10_drop_20 : decode cX10_drop 20 = .ok (.invokevirtual 98, 3) := by decide +kernel
theorem dX10_drop_23 : decode cX10_drop 23 = .ok (.ifCond .eq 7, 3) := by decide +kernel
theorem dX10_drop_26 : decode cX10_drop 26 = .ok (.iconst 1, 1) := by decide +kernel
theorem dX10_drop_27 : decode cX10_drop 27 = .ok (.goto 4, 3) := by decide +kernel
theorem dX10_drop_30 : decode cX10_drop 30 = .ok (.iconst 0, 1) := by decide +kernel
theorem dX10_drop_31 : decode cX10_drop 31 = .ok (.istore 4, 2) := by decide +kernel
theorem dX10_drop_33 : decode cX10_drop 33 = .ok (.aload_n 0, 1) := by decide +kernel
theorem dX10_drop_34 : decode cX10_drop 34 = .ok (.iload_n 3, 1) := by decide +kernel
theorem dX10_drop_35 : decode cX10_drop 35 = .ok (.lload_n 1, 1) := by decide +kernel
theorem dX10_drop_36 : decode cX10_drop 36 = .ok (.lload_n 1, 1) := by decide +kernel
theorem dX10_drop_37 : decode cX10_drop 37 = .ok (.invokevirtual 101, 3) := by decide +kernel
theorem dX10_drop_40 : decode cX10_drop 40 = .ok (.iload 4, 2) := by decide +kernel
theorem dX10_drop_42 : decode cX10_drop 42 = .ok (.ireturn, 1) := by decide +kernel
theorem dX10_sweep_0 : decode cX10_sweep 0 = .ok (.aload_n 0, 1) := by decide +kernel
theorem dX10_sweep_1 : decode cX10_sweep 1 = .ok (.getfield 90, 3) := by decide +kernel
theorem dX10_sweep_4 : decode cX10_sweep 4 = .ok (.ifCond .eq 6, 3) := by decide +kernel
theorem dX10_sweep_7 : decode cX10_sweep 7 = .ok (.bipush (-4), 2) := by decide +kernel
theorem dX10_sweep_9 : decode cX10_sweep 9 = .ok (.ireturn, 1) := by decide +kernel
theorem dX10_sweep_10 : decode cX10_sweep 10 = .ok (.lload_n 3, 1) := by decide +kernel
theorem dX10_sweep_11 : decode cX10_sweep 11 = .ok (.lload_n 1, 1) := by decide +kernel
theorem dX10_sweep_12 : decode cX10_sweep 12 = .ok (.lcmp, 1) := by decide +kernel
theorem dX10_sweep_13 : decode cX10_sweep 13 = .ok (.ifCond .ge 6, 3) := by decide +kernel
theorem dX10_sweep_16 : decode cX10_sweep 16 = .ok (.bipush (-2), 2) := by decide +kernel
theorem dX10_sweep_18 : decode cX10_sweep 18 = .ok (.ireturn, 1) := by decide +kernel
theorem dX10_sweep_19 : decode cX10_sweep 19 = .ok (.aload_n 0, 1) := by decide +kernel
theorem dX10_sweep_20 : decode cX10_sweep 20 = .ok (.iconst 5, 1) := by decide +kernel
theorem dX10_sweep_21 : decode cX10_sweep 21 = .ok (.lload_n 1, 1) := by decide +kernel
theorem dX10_sweep_22 : decode cX10_sweep 22 = .ok (.iconst 0, 1) := by decide +kernel
theorem dX10_sweep_23 : decode cX10_sweep 23 = .ok (.invokevirtual 94, 3) := by decide +kernel
theorem dX10_sweep_26 : decode cX10_sweep 26 = .ok (.istore 5, 2) := by decide +kernel
theorem dX10_sweep_28 : decode cX10_sweep 28 = .ok (.aload_n 0, 1) := by decide +kernel
theorem dX10_sweep_29 : decode cX10_sweep 29 = .ok (.lload_n 1, 1) := by decide +kernel
theorem dX10_sweep_30 : decode cX10_sweep 30 = .ok (.invokevirtual 72, 3) := by decide +kernel
theorem dX10_sweep_33 : decode cX10_sweep 33 = .ok (.istore 6, 2) := by decide +kernel
theorem dX10_sweep_35 : decode cX10_sweep 35 = .ok (.lload_n 3, 1) := by decide +kernel
theorem dX10_sweep_36 : decode cX10_sweep 36 = .ok (.ldc2_w 105, 3) := by decide +kernel
theorem dX10_sweep_39 : decode cX10_sweep 39 = .ok (.lcmp, 1) := by decide +kernel
theorem dX10_sweep_40 : decode cX10_sweep 40 = .ok (.ifCond .ne 10, 3) := by decide +kernel
theorem dX10_sweep_43 : decode cX10_sweep 43 = .ok (.aload_n 0, 1) := by decide +kernel
theorem dX10_sweep_44 : decode cX10_sweep 44 = .ok (.getfield 16, 3) := by decide +kernel
theorem dX10_sweep_47 : decode cX10_sweep 47 = .ok (.goto 10, 3) := by decide +kernel
theorem dX10_sweep_50 : decode cX10_sweep 50 = .ok (.aload_n 0, 1) := by decide +kernel
theorem dX10_sweep_51 : decode cX10_sweep 51 = .ok (.lload_n 3, 1) := by decide +kernel
theorem dX10_sweep_52 : decode cX10_sweep 52 = .ok (.lconst 1, 1) := by decide +kernel
theorem dX10_sweep_53 : decode cX10_sweep 53 = .ok (.ladd, 1) := by decide +kernel
theorem dX10_sweep_54 : decode cX10_sweep 54 = .ok (.invokevirtual 72, 3) := by decide +kernel
theorem dX10_sweep_57 : decode cX10_sweep 57 = .ok (.istore 7, 2) := by decide +kernel
theorem dX10_sweep_59 : decode cX10_sweep 59 = .ok (.aload_n 0, 1) := by decide +kernel
theorem dX10_sweep_60 : decode cX10_sweep 60 = .ok (.iload 6, 2) := by decide +kernel
theorem dX10_sweep_62 : decode cX10_sweep 62 = .ok (.iload 7, 2) := by decide +kernel
theorem dX10_sweep_64 : decode cX10_sweep 64 = .ok (.invokevirtual 83, 3) := by decide +kernel
theorem dX10_sweep_67 : decode cX10_sweep 67 = .ok (.aload_n 0, 1) := by decide +kernel
theorem dX10_sweep_68 : decode cX10_sweep 68 = .ok (.iload 5, 2) := by decide +kernel
theorem dX10_sweep_70 : decode cX10_sweep 70 = .ok (.lload_n 1, 1) := by decide +kernel
theorem dX10_sweep_71 : decode cX10_sweep 71 = .ok (.lload_n 3, 1) := by decide +kernel
theorem dX10_sweep_72 : decode cX10_sweep 72 = .ok (.invokevirtual 101, 3) := by decide +kernel
theorem dX10_sweep_75 : decode cX10_sweep 75 = .ok (.iload 7, 2) := by decide +kernel
theorem dX10_sweep_77 : decode cX10_sweep 77 = .ok (.iload 6, 2) := by decide +kernel
theorem dX10_sweep_79 : decode cX10_sweep 79 = .ok (.isub, 1) := by decide +kernel
theorem dX10_sweep_80 : decode cX10_sweep 80 = .ok (.ireturn, 1) := by decide +kernel
theorem dX10_get_0 : decode cX10_get 0 = .ok (.aload_n 0, 1) := by decide +kernel
theorem dX10_get_1 : decode cX10_get 1 = .ok (.getfield 90, 3) := by decide +kernel
theorem dX10_get_4 : decode cX10_get 4 = .ok (.ifCond .eq 6, 3) := by decide +kernel
theorem dX10_get_7 : decode cX10_get 7 = .ok (.bipush (-4), 2) := by decide +kernel
theorem dX10_get_9 : decode cX10_get 9 = .ok (.ireturn, 1) := by decide +kernel
theorem dX10_get_10 : decode cX10_get 10 = .ok (.aload_n 0, 1) := by decide +kernel
theorem dX10_get_11 : decode cX10_get 11 = .ok (.lload_n 1, 1) := by decide +kernel
theorem dX10_get_12 : decode cX10_get 12 = .ok (.invokevirtual 72, 3) := by decide +kernel
theorem dX10_get_15 : decode cX10_get 15 = .ok (.istore_n 3, 1) := by decide +kernel
theorem dX10_get_16 : decode cX10_get 16 = .ok (.aload_n 0, 1) := by decide +kernel
theorem dX10_get_17 : decode cX10_get 17 = .ok (.iload_n 3, 1) := by decide +kernel
theorem dX10_get_18 : decode cX10_get 18 = .ok (.lload_n 1, 1) := by decide +kernel
theorem dX10_get_19 : decode cX10_get 19 = .ok (.invokevirtual 76, 3) := by decide +kernel
theorem dX10_get_22 : decode cX10_get 22 = .ok (.ifCond .ne 5, 3) := by decide +kernel
theorem dX10_get_25 : decode cX10_get 25 = .ok (.iconst (-1), 1) := by decide +kernel
theorem dX10_get_26 : decode cX10_get 26 = .ok (.ireturn, 1) := by decide +kernel
theorem dX10_get_27 : decode cX10_get 27 = .ok (.aload_n 0, 1) := by decide +kernel
theorem dX10_get_28 : decode cX10_get 28 = .ok (.aload_n 0, 1) := by decide +kernel
theorem dX10_get_29 : decode cX10_get 29 = .ok (.getfield 27, 3) := by decide +kernel
theorem dX10_get_32 : decode cX10_get 32 = .ok (.iload_n 3, 1) := by decide +kernel
theorem dX10_get_33 : decode cX10_get 33 = .ok (.iaload, 1) := by decide +kernel
theorem dX10_get_34 : decode cX10_get 34 = .ok (.putfield 9, 3) := by decide +kernel
theorem dX10_get_37 : decode cX10_get 37 = .ok (.iconst 0, 1) := by decide +kernel
theorem dX10_get_38 : decode cX10_get 38 = .ok (.istore 4, 2) := by decide +kernel
theorem dX10_get_40 : decode cX10_get 40 = .ok (.iload 4, 2) := by decide +kernel
theorem dX10_get_42 : decode cX10_get 42 = .ok (.aload_n 0, 1) := by decide +kernel
theorem dX10_get_43 : decode cX10_get 43 = .ok (.getfield 9, 3) := by decide +kernel
theorem dX10_get_46 : decode cX10_get 46 = .ok (.if_icmp .ge 28, 3) := by decide +kernel
theorem dX10_get_49 : decode cX10_get 49 = .ok (.aload_n 0, 1) := by decide +kernel
theorem dX10_get_50 : decode cX10_get 50 = .ok (.getfield 12, 3) := by decide +kernel
theorem dX10_get_53 : decode cX10_get 53 = .ok (.iload 4, 2) := by decide +kernel
theorem dX10_get_55 : decode cX10_get 55 = .ok (.aload_n 0, 1) := by decide +kernel
theorem dX10_get_56 : decode cX10_get 56 = .ok (.getfield 31, 3) := by decide +kernel
theorem dX10_get_59 : decode cX10_get 59 = .ok (.bipush 20, 2) := by decide +kernel
theorem dX10_get_61 : decode cX10_get 61 = .ok (.iload_n 3, 1) := by decide +kernel
theorem dX10_get_62 : decode cX10_get 62 = .ok (.imul, 1) := by decide +kernel
theorem dX10_get_63 : decode cX10_get 63 = .ok (.iload 4, 2) := by decide +kernel
theorem dX10_get_65 : decode cX10_get 65 = .ok (.iadd, 1) := by decide +kernel
theorem dX10_get_66 : decode cX10_get 66 = .ok (.baload, 1) := by decide +kernel
theorem dX10_get_67 : decode cX10_get 67 = .ok (.bastore, 1) := by decide +kernel
theorem dX10_get_68 : decode cX10_get 68 = .ok (.iinc 4 1, 3) := by decide +kernel
theorem dX10_get_71 : decode cX10_get 71 = .ok (.goto (-31), 3) := by decide +kernel
theorem dX10_get_74 : decode cX10_get 74 = .ok (.aload_n 0, 1) := by decide +kernel
theorem dX10_get_75 : decode cX10_get 75 = .ok (.getfield 9, 3) := by decide +kernel
theorem dX10_get_78 : decode cX10_get 78 = .ok (.ireturn, 1) := by decide +kernel
theorem dX10_has_0 : decode cX10_has 0 = .ok (.aload_n 0, 1) := by decide +kernel
theorem dX10_has_1 : decode cX10_has 1 = .ok (.getfield 90, 3) := by decide +kernel
theorem dX10_has_4 : decode cX10_has 4 = .ok (.ifCond .eq 6, 3) := by decide +kernel
theorem dX10_has_7 : decode cX10_has 7 = .ok (.bipush (-4), 2) := by decide +kernel
theorem dX10_has_9 : decode cX10_has 9 = .ok (.ireturn, 1) := by decide +kernel
theorem dX10_has_10 : decode cX10_has 10 = .ok (.aload_n 0, 1) := by decide +kernel
theorem dX10_has_11 : decode cX10_has 11 = .ok (.aload_n 0, 1) := by decide +kernel
theorem dX10_has_12 : decode cX10_has 12 = .ok (.lload_n 1, 1) := by decide +kernel
theorem dX10_has_13 : decode cX10_has 13 = .ok (.invokevirtual 72, 3) := by decide +kernel
theorem dX10_has_16 : decode cX10_has 16 = .ok (.lload_n 1, 1) := by decide +kernel
theorem dX10_has_17 : decode cX10_has 17 = .ok (.invokevirtual 76, 3) := by decide +kernel
theorem dX10_has_20 : decode cX10_has 20 = .ok (.ifCond .eq 7, 3) := by decide +kernel
theorem dX10_has_23 : decode cX10_has 23 = .ok (.iconst 1, 1) := by decide +kernel
theorem dX10_has_24 : decode cX10_has 24 = .ok (.goto 4, 3) := by decide +kernel
theorem dX10_has_27 : decode cX10_has 27 = .ok (.iconst 0, 1) := by decide +kernel
theorem dX10_has_28 : decode cX10_has 28 = .ok (.ireturn, 1) := by decide +kernel
theorem dX10_next_0 : decode cX10_next 0 = .ok (.aload_n 0, 1) := by decide +kernel
theorem dX10_next_1 : decode cX10_next 1 = .ok (.getfield 90, 3) := by decide +kernel
theorem dX10_next_4 : decode cX10_next 4 = .ok (.ifCond .eq 6, 3) := by decide +kernel
theorem dX10_next_7 : decode cX10_next 7 = .ok (.bipush (-4), 2) := by decide +kernel
theorem dX10_next_9 : decode cX10_next 9 = .ok (.ireturn, 1) := by decide +kernel
theorem dX10_next_10 : decode cX10_next 10 = .ok (.aload_n 0, 1) := by decide +kernel
theorem dX10_next_11 : decode cX10_next 11 = .ok (.lload_n 1, 1) := by decide +kernel
theorem dX10_next_12 : decode cX10_next 12 = .ok (.invokevirtual 72, 3) := by decide +kernel
theorem dX10_next_15 : decode cX10_next 15 = .ok (.istore_n 3, 1) := by decide +kernel
theorem dX10_next_16 : decode cX10_next 16 = .ok (.iload_n 3, 1) := by decide +kernel
theorem dX10_next_17 : decode cX10_next 17 = .ok (.aload_n 0, 1) := by decide +kernel
theorem dX10_next_18 : decode cX10_next 18 = .ok (.getfield 16, 3) := by decide +kernel
theorem dX10_next_21 : decode cX10_next 21 = .ok (.if_icmp .ne 5, 3) := by decide +kernel
theorem dX10_next_24 : decode cX10_next 24 = .ok (.iconst 0, 1) := by decide +kernel
theorem dX10_next_25 : decode cX10_next 25 = .ok (.ireturn, 1) := by decide +kernel
theorem dX10_next_26 : decode cX10_next 26 = .ok (.aload_n 0, 1) := by decide +kernel
theorem dX10_next_27 : decode cX10_next 27 = .ok (.aload_n 0, 1) := by decide +kernel
theorem dX10_next_28 : decode cX10_next 28 = .ok (.getfield 19, 3) := by decide +kernel
theorem dX10_next_31 : decode cX10_next 31 = .ok (.iload_n 3, 1) := by decide +kernel
theorem dX10_next_32 : decode cX10_next 32 = .ok (.laload, 1) := by decide +kernel
theorem dX10_next_33 : decode cX10_next 33 = .ok (.putfield 107, 3) := by decide +kernel
theorem dX10_next_36 : decode cX10_next 36 = .ok (.iconst 1, 1) := by decide +kernel
theorem dX10_next_37 : decode cX10_next 37 = .ok (.ireturn, 1) := by decide +kernel
theorem dX10_prior_0 : decode cX10_prior 0 = .ok (.aload_n 0, 1) := by decide +kernel
theorem dX10_prior_1 : decode cX10_prior 1 = .ok (.getfield 90, 3) := by decide +kernel
theorem dX10_prior_4 : decode cX10_prior 4 = .ok (.ifCond .eq 6, 3) := by decide +kernel
theorem dX10_prior_7 : decode cX10_prior 7 = .ok (.bipush (-4), 2) := by decide +kernel
theorem dX10_prior_9 : decode cX10_prior 9 = .ok (.ireturn, 1) := by decide +kernel
theorem dX10_prior_10 : decode cX10_prior 10 = .ok (.aload_n 0, 1) := by decide +kernel
theorem dX10_prior_11 : decode cX10_prior 11 = .ok (.lload_n 1, 1) := by decide +kernel
theorem dX10_prior_12 : decode cX10_prior 12 = .ok (.invokevirtual 72, 3) := by decide +kernel
theorem dX10_prior_15 : decode cX10_prior 15 = .ok (.istore_n 3, 1) := by decide +kernel
theorem dX10_prior_16 : decode cX10_prior 16 = .ok (.aload_n 0, 1) := by decide +kernel
theorem dX10_prior_17 : decode cX10_prior 17 = .ok (.iload_n 3, 1) := by decide +kernel
theorem dX10_prior_18 : decode cX10_prior 18 = .ok (.lload_n 1, 1) := by decide +kernel
theorem dX10_prior_19 : decode cX10_prior 19 = .ok (.invokevirtual 76, 3) := by decide +kernel
theorem dX10_prior_22 : decode cX10_prior 22 = .ok (.ifCond .ne 6, 3) := by decide +kernel
theorem dX10_prior_25 : decode cX10_prior 25 = .ok (.iinc 3 (-1), 3) := by decide +kernel
theorem dX10_prior_28 : decode cX10_prior 28 = .ok (.iload_n 3, 1) := by decide +kernel
theorem dX10_prior_29 : decode cX10_prior 29 = .ok (.ifCond .ge 5, 3) := by decide +kernel
theorem dX10_prior_32 : decode cX10_prior 32 = .ok (.iconst 0, 1) := by decide +kernel
theorem dX10_prior_33 : decode cX10_prior 33 = .ok (.ireturn, 1) := by decide +kernel
theorem dX10_prior_34 : decode cX10_prior 34 = .ok (.aload_n 0, 1) := by decide +kernel
theorem dX10_prior_35 : decode cX10_prior 35 = .ok (.aload_n 0, 1) := by decide +kernel
theorem dX10_prior_36 : decode cX10_prior 36 = .ok (.getfield 19, 3) := by decide +kernel
theorem dX10_prior_39 : decode cX10_prior 39 = .ok (.iload_n 3, 1) := by decide +kernel
theorem dX10_prior_40 : decode cX10_prior 40 = .ok (.laload, 1) := by decide +kernel
theorem dX10_prior_41 : decode cX10_prior 41 = .ok (.putfield 107, 3) := by decide +kernel
theorem dX10_prior_44 : decode cX10_prior 44 = .ok (.iconst 1, 1) := by decide +kernel
theorem dX10_prior_45 : decode cX10_prior 45 = .ok (.ireturn, 1) := by decide +kernel
theorem dX10_found_0 : decode cX10_found 0 = .ok (.aload_n 0, 1) := by decide +kernel
theorem dX10_found_1 : decode cX10_found 1 = .ok (.getfield 107, 3) := by decide +kernel
theorem dX10_found_4 : decode cX10_found 4 = .ok (.lreturn, 1) := by decide +kernel
theorem dX10_count_0 : decode cX10_count 0 = .ok (.aload_n 0, 1) := by decide +kernel
theorem dX10_count_1 : decode cX10_count 1 = .ok (.getfield 90, 3) := by decide +kernel
theorem dX10_count_4 : decode cX10_count 4 = .ok (.ifCond .eq 8, 3) := by decide +kernel
theorem dX10_count_7 : decode cX10_count 7 = .ok (.bipush (-4), 2) := by decide +kernel
theorem dX10_count_9 : decode cX10_count 9 = .ok (.goto 7, 3) := by decide +kernel
theorem dX10_count_12 : decode cX10_count 12 = .ok (.aload_n 0, 1) := by decide +kernel
theorem dX10_count_13 : decode cX10_count 13 = .ok (.getfield 16, 3) := by decide +kernel
theorem dX10_count_16 : decode cX10_count 16 = .ok (.ireturn, 1) := by decide +kernel
theorem dX10_init_0 : decode cX10_init 0 = .ok (.aload_n 0, 1) := by decide +kernel
theorem dX10_init_1 : decode cX10_init 1 = .ok (.invokespecial 111, 3) := by decide +kernel
theorem dX10_init_4 : decode cX10_init 4 = .ok (.aload_n 0, 1) := by decide +kernel
theorem dX10_init_5 : decode cX10_init 5 = .ok (.bipush 40, 2) := by decide +kernel
theorem dX10_init_7 : decode cX10_init 7 = .ok (.newarray .byte, 2) := by decide +kernel
theorem dX10_init_9 : decode cX10_init 9 = .ok (.putfield 12, 3) := by decide +kernel
theorem dX10_init_12 : decode cX10_init 12 = .ok (.aload_n 0, 1) := by decide +kernel
theorem dX10_init_13 : decode cX10_init 13 = .ok (.sipush 4200, 3) := by decide +kernel
theorem dX10_init_16 : decode cX10_init 16 = .ok (.newarray .long, 2) := by decide +kernel
theorem dX10_init_18 : decode cX10_init 18 = .ok (.putfield 19, 3) := by decide +kernel
theorem dX10_init_21 : decode cX10_init 21 = .ok (.aload_n 0, 1) := by decide +kernel
theorem dX10_init_22 : decode cX10_init 22 = .ok (.sipush 4200, 3) := by decide +kernel
theorem dX10_init_25 : decode cX10_init 25 = .ok (.newarray .int, 2) := by decide +kernel
theorem dX10_init_27 : decode cX10_init 27 = .ok (.putfield 27, 3) := by decide +kernel
theorem dX10_init_30 : decode cX10_init 30 = .ok (.aload_n 0, 1) := by decide +kernel
theorem dX10_init_31 : decode cX10_init 31 = .ok (.ldc 117, 2) := by decide +kernel
theorem dX10_init_33 : decode cX10_init 33 = .ok (.newarray .byte, 2) := by decide +kernel
theorem dX10_init_35 : decode cX10_init 35 = .ok (.putfield 31, 3) := by decide +kernel
theorem dX10_init_38 : decode cX10_init 38 = .ok (.aload_n 0, 1) := by decide +kernel
theorem dX10_init_39 : decode cX10_init 39 = .ok (.sipush 4200, 3) := by decide +kernel
theorem dX10_init_42 : decode cX10_init 42 = .ok (.newarray .int, 2) := by decide +kernel
theorem dX10_init_44 : decode cX10_init 44 = .ok (.putfield 46, 3) := by decide +kernel
theorem dX10_init_47 : decode cX10_init 47 = .ok (.aload_n 0, 1) := by decide +kernel
theorem dX10_init_48 : decode cX10_init 48 = .ok (.sipush 4200, 3) := by decide +kernel
theorem dX10_init_51 : decode cX10_init 51 = .ok (.newarray .long, 2) := by decide +kernel
theorem dX10_init_53 : decode cX10_init 53 = .ok (.putfield 66, 3) := by decide +kernel
theorem dX10_init_56 : decode cX10_init 56 = .ok (.aload_n 0, 1) := by decide +kernel
theorem dX10_init_57 : decode cX10_init 57 = .ok (.sipush 4200, 3) := by decide +kernel
theorem dX10_init_60 : decode cX10_init 60 = .ok (.newarray .int, 2) := by decide +kernel
theorem dX10_init_62 : decode cX10_init 62 = .ok (.putfield 37, 3) := by decide +kernel
theorem dX10_init_65 : decode cX10_init 65 = .ok (.aload_n 0, 1) := by decide +kernel
theorem dX10_init_66 : decode cX10_init 66 = .ok (.sipush 4200, 3) := by decide +kernel
theorem dX10_init_69 : decode cX10_init 69 = .ok (.newarray .int, 2) := by decide +kernel
theorem dX10_init_71 : decode cX10_init 71 = .ok (.putfield 49, 3) := by decide +kernel
theorem dX10_init_74 : decode cX10_init 74 = .ok (.aload_n 0, 1) := by decide +kernel
theorem dX10_init_75 : decode cX10_init 75 = .ok (.ldc 118, 2) := by decide +kernel
theorem dX10_init_77 : decode cX10_init 77 = .ok (.newarray .byte, 2) := by decide +kernel
theorem dX10_init_79 : decode cX10_init 79 = .ok (.putfield 43, 3) := by decide +kernel
theorem dX10_init_82 : decode cX10_init 82 = .ok (.aload_n 0, 1) := by decide +kernel
theorem dX10_init_83 : decode cX10_init 83 = .ok (.sipush 4200, 3) := by decide +kernel
theorem dX10_init_86 : decode cX10_init 86 = .ok (.newarray .int, 2) := by decide +kernel
theorem dX10_init_88 : decode cX10_init 88 = .ok (.putfield 69, 3) := by decide +kernel
theorem dX10_init_91 : decode cX10_init 91 = .ok (.aload_n 0, 1) := by decide +kernel
theorem dX10_init_92 : decode cX10_init 92 = .ok (.bipush 20, 2) := by decide +kernel
theorem dX10_init_94 : decode cX10_init 94 = .ok (.newarray .byte, 2) := by decide +kernel
theorem dX10_init_96 : decode cX10_init 96 = .ok (.putfield 40, 3) := by decide +kernel
theorem dX10_init_99 : decode cX10_init 99 = .ok (.aload_n 0, 1) := by decide +kernel
theorem dX10_init_100 : decode cX10_init 100 = .ok (.sipush 2700, 3) := by decide +kernel
theorem dX10_init_103 : decode cX10_init 103 = .ok (.newarray .boolean, 2) := by decide +kernel
theorem dX10_init_105 : decode cX10_init 105 = .ok (.putfield 119, 3) := by decide +kernel
theorem dX10_init_108 : decode cX10_init 108 = .ok (.aload_n 0, 1) := by decide +kernel
theorem dX10_init_109 : decode cX10_init 109 = .ok (.sipush 2700, 3) := by decide +kernel
theorem dX10_init_112 : decode cX10_init 112 = .ok (.newarray .int, 2) := by decide +kernel
theorem dX10_init_114 : decode cX10_init 114 = .ok (.putfield 123, 3) := by decide +kernel
theorem dX10_init_117 : decode cX10_init 117 = .ok (.aload_n 0, 1) := by decide +kernel
theorem dX10_init_118 : decode cX10_init 118 = .ok (.sipush 2700, 3) := by decide +kernel
theorem dX10_init_121 : decode cX10_init 121 = .ok (.newarray .int, 2) := by decide +kernel
theorem dX10_init_123 : decode cX10_init 123 = .ok (.putfield 126, 3) := by decide +kernel
theorem dX10_init_126 : decode cX10_init 126 = .ok (.aload_n 0, 1) := by decide +kernel
theorem dX10_init_127 : decode cX10_init 127 = .ok (.sipush 2700, 3) := by decide +kernel
theorem dX10_init_130 : decode cX10_init 130 = .ok (.newarray .int, 2) := by decide +kernel
theorem dX10_init_132 : decode cX10_init 132 = .ok (.putfield 129, 3) := by decide +kernel
theorem dX10_init_135 : decode cX10_init 135 = .ok (.aload_n 0, 1) := by decide +kernel
theorem dX10_init_136 : decode cX10_init 136 = .ok (.ldc 132, 2) := by decide +kernel
theorem dX10_init_138 : decode cX10_init 138 = .ok (.newarray .int, 2) := by decide +kernel
theorem dX10_init_140 : decode cX10_init 140 = .ok (.putfield 133, 3) := by decide +kernel
theorem dX10_init_143 : decode cX10_init 143 = .ok (.aload_n 0, 1) := by decide +kernel
theorem dX10_init_144 : decode cX10_init 144 = .ok (.ldc 132, 2) := by decide +kernel
theorem dX10_init_146 : decode cX10_init 146 = .ok (.newarray .long, 2) := by decide +kernel
theorem dX10_init_148 : decode cX10_init 148 = .ok (.putfield 136, 3) := by decide +kernel
theorem dX10_init_151 : decode cX10_init 151 = .ok (.aload_n 0, 1) := by decide +kernel
theorem dX10_init_152 : decode cX10_init 152 = .ok (.sipush 2700, 3) := by decide +kernel
theorem dX10_init_155 : decode cX10_init 155 = .ok (.newarray .int, 2) := by decide +kernel
theorem dX10_init_157 : decode cX10_init 157 = .ok (.putfield 139, 3) := by decide +kernel
theorem dX10_init_160 : decode cX10_init 160 = .ok (.aload_n 0, 1) := by decide +kernel
theorem dX10_init_161 : decode cX10_init 161 = .ok (.sipush 2700, 3) := by decide +kernel
theorem dX10_init_164 : decode cX10_init 164 = .ok (.newarray .int, 2) := by decide +kernel
theorem dX10_init_166 : decode cX10_init 166 = .ok (.putfield 142, 3) := by decide +kernel
theorem dX10_init_169 : decode cX10_init 169 = .ok (.aload_n 0, 1) := by decide +kernel
theorem dX10_init_170 : decode cX10_init 170 = .ok (.sipush 2700, 3) := by decide +kernel
theorem dX10_init_173 : decode cX10_init 173 = .ok (.newarray .int, 2) := by decide +kernel
theorem dX10_init_175 : decode cX10_init 175 = .ok (.putfield 145, 3) := by decide +kernel
theorem dX10_init_178 : decode cX10_init 178 = .ok (.aload_n 0, 1) := by decide +kernel
theorem dX10_init_179 : decode cX10_init 179 = .ok (.sipush 2700, 3) := by decide +kernel
theorem dX10_init_182 : decode cX10_init 182 = .ok (.newarray .int, 2) := by decide +kernel
theorem dX10_init_184 : decode cX10_init 184 = .ok (.putfield 148, 3) := by decide +kernel
theorem dX10_init_187 : decode cX10_init 187 = .ok (.aload_n 0, 1) := by decide +kernel
theorem dX10_init_188 : decode cX10_init 188 = .ok (.sipush 2700, 3) := by decide +kernel
theorem dX10_init_191 : decode cX10_init 191 = .ok (.newarray .int, 2) := by decide +kernel
theorem dX10_init_193 : decode cX10_init 193 = .ok (.putfield 151, 3) := by decide +kernel
theorem dX10_init_196 : decode cX10_init 196 = .ok (.aload_n 0, 1) := by decide +kernel
theorem dX10_init_197 : decode cX10_init 197 = .ok (.sipush 7000, 3) := by decide +kernel
theorem dX10_init_200 : decode cX10_init 200 = .ok (.newarray .long, 2) := by decide +kernel
theorem dX10_init_202 : decode cX10_init 202 = .ok (.putfield 154, 3) := by decide +kernel
theorem dX10_init_205 : decode cX10_init 205 = .ok (.aload_n 0, 1) := by decide +kernel
theorem dX10_init_206 : decode cX10_init 206 = .ok (.sipush 7000, 3) := by decide +kernel
theorem dX10_init_209 : decode cX10_init 209 = .ok (.newarray .int, 2) := by decide +kernel
theorem dX10_init_211 : decode cX10_init 211 = .ok (.putfield 157, 3) := by decide +kernel
theorem dX10_init_214 : decode cX10_init 214 = .ok (.aload_n 0, 1) := by decide +kernel
theorem dX10_init_215 : decode cX10_init 215 = .ok (.ldc 160, 2) := by decide +kernel
theorem dX10_init_217 : decode cX10_init 217 = .ok (.newarray .byte, 2) := by decide +kernel
theorem dX10_init_219 : decode cX10_init 219 = .ok (.putfield 161, 3) := by decide +kernel
theorem dX10_init_222 : decode cX10_init 222 = .ok (.aload_n 0, 1) := by decide +kernel
theorem dX10_init_223 : decode cX10_init 223 = .ok (.sipush 7000, 3) := by decide +kernel
theorem dX10_init_226 : decode cX10_init 226 = .ok (.newarray .int, 2) := by decide +kernel
theorem dX10_init_228 : decode cX10_init 228 = .ok (.putfield 164, 3) := by decide +kernel
theorem dX10_init_231 : decode cX10_init 231 = .ok (.aload_n 0, 1) := by decide +kernel
theorem dX10_init_232 : decode cX10_init 232 = .ok (.sipush 14000, 3) := by decide +kernel
theorem dX10_init_235 : decode cX10_init 235 = .ok (.newarray .int, 2) := by decide +kernel
theorem dX10_init_237 : decode cX10_init 237 = .ok (.putfield 167, 3) := by decide +kernel
theorem dX10_init_240 : decode cX10_init 240 = .ok (.aload_n 0, 1) := by decide +kernel
theorem dX10_init_241 : decode cX10_init 241 = .ok (.sipush 14000, 3) := by decide +kernel
theorem dX10_init_244 : decode cX10_init 244 = .ok (.newarray .long, 2) := by decide +kernel
theorem dX10_init_246 : decode cX10_init 246 = .ok (.putfield 170, 3) := by decide +kernel
theorem dX10_init_249 : decode cX10_init 249 = .ok (.aload_n 0, 1) := by decide +kernel
theorem dX10_init_250 : decode cX10_init 250 = .ok (.sipush 14000, 3) := by decide +kernel
theorem dX10_init_253 : decode cX10_init 253 = .ok (.newarray .long, 2) := by decide +kernel
theorem dX10_init_255 : decode cX10_init 255 = .ok (.putfield 173, 3) := by decide +kernel
theorem dX10_init_258 : decode cX10_init 258 = .ok (.aload_n 0, 1) := by decide +kernel
theorem dX10_init_259 : decode cX10_init 259 = .ok (.sipush 14000, 3) := by decide +kernel
theorem dX10_init_262 : decode cX10_init 262 = .ok (.newarray .int, 2) := by decide +kernel
theorem dX10_init_264 : decode cX10_init 264 = .ok (.putfield 176, 3) := by decide +kernel
theorem dX10_init_267 : decode cX10_init 267 = .ok (.aload_n 0, 1) := by decide +kernel
theorem dX10_init_268 : decode cX10_init 268 = .ok (.sipush 14000, 3) := by decide +kernel
theorem dX10_init_271 : decode cX10_init 271 = .ok (.newarray .int, 2) := by decide +kernel
theorem dX10_init_273 : decode cX10_init 273 = .ok (.putfield 179, 3) := by decide +kernel
theorem dX10_init_276 : decode cX10_init 276 = .ok (.aload_n 0, 1) := by decide +kernel
theorem dX10_init_277 : decode cX10_init 277 = .ok (.sipush 128, 3) := by decide +kernel
theorem dX10_init_280 : decode cX10_init 280 = .ok (.newarray .int, 2) := by decide +kernel
theorem dX10_init_282 : decode cX10_init 282 = .ok (.putfield 182, 3) := by decide +kernel
theorem dX10_init_285 : decode cX10_init 285 = .ok (.aload_n 0, 1) := by decide +kernel
theorem dX10_init_286 : decode cX10_init 286 = .ok (.bipush 64, 2) := by decide +kernel
theorem dX10_init_288 : decode cX10_init 288 = .ok (.newarray .int, 2) := by decide +kernel
theorem dX10_init_290 : decode cX10_init 290 = .ok (.putfield 185, 3) := by decide +kernel
theorem dX10_init_293 : decode cX10_init 293 = .ok (.aload_n 0, 1) := by decide +kernel
theorem dX10_init_294 : decode cX10_init 294 = .ok (.bipush 64, 2) := by decide +kernel
theorem dX10_init_296 : decode cX10_init 296 = .ok (.newarray .long, 2) := by decide +kernel
theorem dX10_init_298 : decode cX10_init 298 = .ok (.putfield 188, 3) := by decide +kernel
theorem dX10_init_301 : decode cX10_init 301 = .ok (.aload_n 0, 1) := by decide +kernel
theorem dX10_init_302 : decode cX10_init 302 = .ok (.sipush 2700, 3) := by decide +kernel
theorem dX10_init_305 : decode cX10_init 305 = .ok (.newarray .int, 2) := by decide +kernel
theorem dX10_init_307 : decode cX10_init 307 = .ok (.putfield 191, 3) := by decide +kernel
theorem dX10_init_310 : decode cX10_init 310 = .ok (.aload_n 0, 1) := by decide +kernel
theorem dX10_init_311 : decode cX10_init 311 = .ok (.sipush 2700, 3) := by decide +kernel
theorem dX10_init_314 : decode cX10_init 314 = .ok (.newarray .int, 2) := by decide +kernel
theorem dX10_init_316 : decode cX10_init 316 = .ok (.putfield 194, 3) := by decide +kernel
theorem dX10_init_319 : decode cX10_init 319 = .ok (.aload_n 0, 1) := by decide +kernel
theorem dX10_init_320 : decode cX10_init 320 = .ok (.sipush 2700, 3) := by decide +kernel
theorem dX10_init_323 : decode cX10_init 323 = .ok (.newarray .int, 2) := by decide +kernel
theorem dX10_init_325 : decode cX10_init 325 = .ok (.putfield 197, 3) := by decide +kernel
theorem dX10_init_328 : decode cX10_init 328 = .ok (.aload_n 0, 1) := by decide +kernel
theorem dX10_init_329 : decode cX10_init 329 = .ok (.sipush 1000, 3) := by decide +kernel
theorem dX10_init_332 : decode cX10_init 332 = .ok (.newarray .boolean, 2) := by decide +kernel
theorem dX10_init_334 : decode cX10_init 334 = .ok (.putfield 200, 3) := by decide +kernel
theorem dX10_init_337 : decode cX10_init 337 = .ok (.aload_n 0, 1) := by decide +kernel
theorem dX10_init_338 : decode cX10_init 338 = .ok (.sipush 1000, 3) := by decide +kernel
theorem dX10_init_341 : decode cX10_init 341 = .ok (.newarray .int, 2) := by decide +kernel
theorem dX10_init_343 : decode cX10_init 343 = .ok (.putfield 203, 3) := by decide +kernel
theorem dX10_init_346 : decode cX10_init 346 = .ok (.aload_n 0, 1) := by decide +kernel
theorem dX10_init_347 : decode cX10_init 347 = .ok (.sipush 6000, 3) := by decide +kernel
theorem dX10_init_350 : decode cX10_init 350 = .ok (.newarray .long, 2) := by decide +kernel
theorem dX10_init_352 : decode cX10_init 352 = .ok (.putfield 206, 3) := by decide +kernel
theorem dX10_init_355 : decode cX10_init 355 = .ok (.aload_n 0, 1) := by decide +kernel
theorem dX10_init_356 : decode cX10_init 356 = .ok (.sipush 6000, 3) := by decide +kernel
theorem dX10_init_359 : decode cX10_init 359 = .ok (.newarray .int, 2) := by decide +kernel
theorem dX10_init_361 : decode cX10_init 361 = .ok (.putfield 209, 3) := by decide +kernel
theorem dX10_init_364 : decode cX10_init 364 = .ok (.aload_n 0, 1) := by decide +kernel
theorem dX10_init_365 : decode cX10_init 365 = .ok (.ldc 212, 2) := by decide +kernel
theorem dX10_init_367 : decode cX10_init 367 = .ok (.newarray .byte, 2) := by decide +kernel
theorem dX10_init_369 : decode cX10_init 369 = .ok (.putfield 213, 3) := by decide +kernel
theorem dX10_init_372 : decode cX10_init 372 = .ok (.aload_n 0, 1) := by decide +kernel
theorem dX10_init_373 : decode cX10_init 373 = .ok (.sipush 6000, 3) := by decide +kernel
theorem dX10_init_376 : decode cX10_init 376 = .ok (.newarray .int, 2) := by decide +kernel
theorem dX10_init_378 : decode cX10_init 378 = .ok (.putfield 216, 3) := by decide +kernel
theorem dX10_init_381 : decode cX10_init 381 = .ok (.aload_n 0, 1) := by decide +kernel
theorem dX10_init_382 : decode cX10_init 382 = .ok (.sipush 1000, 3) := by decide +kernel
theorem dX10_init_385 : decode cX10_init 385 = .ok (.newarray .int, 2) := by decide +kernel
theorem dX10_init_387 : decode cX10_init 387 = .ok (.putfield 219, 3) := by decide +kernel
theorem dX10_init_390 : decode cX10_init 390 = .ok (.aload_n 0, 1) := by decide +kernel
theorem dX10_init_391 : decode cX10_init 391 = .ok (.sipush 8000, 3) := by decide +kernel
theorem dX10_init_394 : decode cX10_init 394 = .ok (.newarray .int, 2) := by decide +kernel
theorem dX10_init_396 : decode cX10_init 396 = .ok (.putfield 222, 3) := by decide +kernel
theorem dX10_init_399 : decode cX10_init 399 = .ok (.aload_n 0, 1) := by decide +kernel
theorem dX10_init_400 : decode cX10_init 400 = .ok (.sipush 8000, 3) := by decide +kernel
theorem dX10_init_403 : decode cX10_init 403 = .ok (.newarray .long, 2) := by decide +kernel
theorem dX10_init_405 : decode cX10_init 405 = .ok (.putfield 225, 3) := by decide +kernel
theorem dX10_init_408 : decode cX10_init 408 = .ok (.aload_n 0, 1) := by decide +kernel
theorem dX10_init_409 : decode cX10_init 409 = .ok (.sipush 8000, 3) := by decide +kernel
theorem dX10_init_412 : decode cX10_init 412 = .ok (.newarray .long, 2) := by decide +kernel
theorem dX10_init_414 : decode cX10_init 414 = .ok (.putfield 228, 3) := by decide +kernel
theorem dX10_init_417 : decode cX10_init 417 = .ok (.aload_n 0, 1) := by decide +kernel
theorem dX10_init_418 : decode cX10_init 418 = .ok (.iconst 2, 1) := by decide +kernel
theorem dX10_init_419 : decode cX10_init 419 = .ok (.newarray .int, 2) := by decide +kernel
theorem dX10_init_421 : decode cX10_init 421 = .ok (.putfield 231, 3) := by decide +kernel
theorem dX10_init_424 : decode cX10_init 424 = .ok (.aload_n 0, 1) := by decide +kernel
theorem dX10_init_425 : decode cX10_init 425 = .ok (.iconst 2, 1) := by decide +kernel
theorem dX10_init_426 : decode cX10_init 426 = .ok (.newarray .int, 2) := by decide +kernel
theorem dX10_init_428 : decode cX10_init 428 = .ok (.putfield 234, 3) := by decide +kernel
theorem dX10_init_431 : decode cX10_init 431 = .ok (.aload_n 0, 1) := by decide +kernel
theorem dX10_init_432 : decode cX10_init 432 = .ok (.iconst 2, 1) := by decide +kernel
theorem dX10_init_433 : decode cX10_init 433 = .ok (.newarray .int, 2) := by decide +kernel
theorem dX10_init_435 : decode cX10_init 435 = .ok (.putfield 237, 3) := by decide +kernel
theorem dX10_init_438 : decode cX10_init 438 = .ok (.aload_n 0, 1) := by decide +kernel
theorem dX10_init_439 : decode cX10_init 439 = .ok (.iconst 2, 1) := by decide +kernel
theorem dX10_init_440 : decode cX10_init 440 = .ok (.newarray .int, 2) := by decide +kernel
theorem dX10_init_442 : decode cX10_init 442 = .ok (.putfield 240, 3) := by decide +kernel
theorem dX10_init_445 : decode cX10_init 445 = .ok (.aload_n 0, 1) := by decide +kernel
theorem dX10_init_446 : decode cX10_init 446 = .ok (.iconst 2, 1) := by decide +kernel
theorem dX10_init_447 : decode cX10_init 447 = .ok (.newarray .int, 2) := by decide +kernel
theorem dX10_init_449 : decode cX10_init 449 = .ok (.putfield 243, 3) := by decide +kernel
theorem dX10_init_452 : decode cX10_init 452 = .ok (.aload_n 0, 1) := by decide +kernel
theorem dX10_init_453 : decode cX10_init 453 = .ok (.bipush 24, 2) := by decide +kernel
theorem dX10_init_455 : decode cX10_init 455 = .ok (.newarray .int, 2) := by decide +kernel
theorem dX10_init_457 : decode cX10_init 457 = .ok (.putfield 246, 3) := by decide +kernel
theorem dX10_init_460 : decode cX10_init 460 = .ok (.aload_n 0, 1) := by decide +kernel
theorem dX10_init_461 : decode cX10_init 461 = .ok (.bipush 24, 2) := by decide +kernel
theorem dX10_init_463 : decode cX10_init 463 = .ok (.newarray .int, 2) := by decide +kernel
theorem dX10_init_465 : decode cX10_init 465 = .ok (.putfield 249, 3) := by decide +kernel
theorem dX10_init_468 : decode cX10_init 468 = .ok (.aload_n 0, 1) := by decide +kernel
theorem dX10_init_469 : decode cX10_init 469 = .ok (.bipush 13, 2) := by decide +kernel
theorem dX10_init_471 : decode cX10_init 471 = .ok (.newarray .int, 2) := by decide +kernel
theorem dX10_init_473 : decode cX10_init 473 = .ok (.putfield 252, 3) := by decide +kernel
theorem dX10_init_476 : decode cX10_init 476 = .ok (.aload_n 0, 1) := by decide +kernel
theorem dX10_init_477 : decode cX10_init 477 = .ok (.bipush 13, 2) := by decide +kernel
theorem dX10_init_479 : decode cX10_init 479 = .ok (.newarray .int, 2) := by decide +kernel
theorem dX10_init_481 : decode cX10_init 481 = .ok (.putfield 255, 3) := by decide +kernel
theorem dX10_init_484 : decode cX10_init 484 = .ok (.aload_n 0, 1) := by decide +kernel
theorem dX10_init_485 : decode cX10_init 485 = .ok (.iconst 1, 1) := by decide +kernel
theorem dX10_init_486 : decode cX10_init 486 = .ok (.putfield 258, 3) := by decide +kernel
theorem dX10_init_489 : decode cX10_init 489 = .ok (.aload_n 0, 1) := by decide +kernel
theorem dX10_init_490 : decode cX10_init 490 = .ok (.iconst 4, 1) := by decide +kernel
theorem dX10_init_491 : decode cX10_init 491 = .ok (.newarray .int, 2) := by decide +kernel
theorem dX10_init_493 : decode cX10_init 493 = .ok (.putfield 261, 3) := by decide +kernel
theorem dX10_init_496 : decode cX10_init 496 = .ok (.aload_n 0, 1) := by decide +kernel
theorem dX10_init_497 : decode cX10_init 497 = .ok (.sipush 1000, 3) := by decide +kernel
theorem dX10_init_500 : decode cX10_init 500 = .ok (.newarray .boolean, 2) := by decide +kernel
theorem dX10_init_502 : decode cX10_init 502 = .ok (.putfield 264, 3) := by decide +kernel
theorem dX10_init_505 : decode cX10_init 505 = .ok (.aload_n 0, 1) := by decide +kernel
theorem dX10_init_506 : decode cX10_init 506 = .ok (.bipush 60, 2) := by decide +kernel
theorem dX10_init_508 : decode cX10_init 508 = .ok (.newarray .int, 2) := by decide +kernel
theorem dX10_init_510 : decode cX10_init 510 = .ok (.putfield 267, 3) := by decide +kernel
theorem dX10_init_513 : decode cX10_init 513 = .ok (.aload_n 0, 1) := by decide +kernel
theorem dX10_init_514 : decode cX10_init 514 = .ok (.invokevirtual 270, 3) := by decide +kernel
theorem dX10_init_517 : decode cX10_init 517 = .ok (.aload_n 0, 1) := by decide +kernel
theorem dX10_init_518 : decode cX10_init 518 = .ok (.aload_n 0, 1) := by decide +kernel
theorem dX10_init_519 : decode cX10_init 519 = .ok (.iconst 1, 1) := by decide +kernel
theorem dX10_init_520 : decode cX10_init 520 = .ok (.invokevirtual 273, 3) := by decide +kernel
theorem dX10_init_523 : decode cX10_init 523 = .ok (.putfield 277, 3) := by decide +kernel
theorem dX10_init_526 : decode cX10_init 526 = .ok (.return_, 1) := by decide +kernel
theorem dX10_clearPages_0 : decode cX10_clearPages 0 = .ok (.aload_n 0, 1) := by decide +kernel
theorem dX10_clearPages_1 : decode cX10_clearPages 1 = .ok (.iconst 0, 1) := by decide +kernel
theorem dX10_clearPages_2 : decode cX10_clearPages 2 = .ok (.putfield 280, 3) := by decide +kernel
theorem dX10_clearPages_5 : decode cX10_clearPages 5 = .ok (.sipush 2699, 3) := by decide +kernel
theorem dX10_clearPages_8 : decode cX10_clearPages 8 = .ok (.istore_n 1, 1) := by decide +kernel
theorem dX10_clearPages_9 : decode cX10_clearPages 9 = .ok (.iload_n 1, 1) := by decide +kernel
theorem dX10_clearPages_10 : decode cX10_clearPages 10 = .ok (.ifCond .lt 29, 3) := by decide +kernel
theorem dX10_clearPages_13 : decode cX10_clearPages 13 = .ok (.aload_n 0, 1) := by decide +kernel
theorem dX10_clearPages_14 : decode cX10_clearPages 14 = .ok (.getfield 151, 3) := by decide +kernel
theorem dX10_clearPages_17 : decode cX10_clearPages 17 = .ok (.aload_n 0, 1) := by decide +kernel
theorem dX10_clearPages_18 : decode cX10_clearPages 18 = .ok (.getfield 280, 3) := by decide +kernel
theorem dX10_clearPages_21 : decode cX10_clearPages 21 = .ok (.iload_n 1, 1) := by decide +kernel
theorem dX10_clearPages_22 : decode cX10_clearPages 22 = .ok (.iastore, 1) := by decide +kernel
theorem dX10_clearPages_23 : decode cX10_clearPages 23 = .ok (.aload_n 0, 1) := by decide +kernel
theorem dX10_clearPages_24 : decode cX10_clearPages 24 = .ok (.dup, 1) := by decide +kernel
theorem dX10_clearPages_25 : decode cX10_clearPages 25 = .ok (.getfield 280, 3) := by decide +kernel
theorem dX10_clearPages_28 : decode cX10_clearPages 28 = .ok (.iconst 1, 1) := by decide +kernel
theorem dX10_clearPages_29 : decode cX10_clearPages 29 = .ok (.iadd, 1) := by decide +kernel
theorem dX10_clearPages_30 : decode cX10_clearPages 30 = .ok (.putfield 280, 3) := by decide +kernel
theorem dX10_clearPages_33 : decode cX10_clearPages 33 = .ok (.iinc 1 (-1), 3) := by decide +kernel
theorem dX10_clearPages_36 : decode cX10_clearPages 36 = .ok (.goto (-27), 3) := by decide +kernel
theorem dX10_clearPages_39 : decode cX10_clearPages 39 = .ok (.iconst 0, 1) := by decide +kernel
theorem dX10_clearPages_40 : decode cX10_clearPages 40 = .ok (.istore_n 1, 1) := by decide +kernel
theorem dX10_clearPages_41 : decode cX10_clearPages 41 = .ok (.iload_n 1, 1) := by decide +kernel
theorem dX10_clearPages_42 : decode cX10_clearPages 42 = .ok (.sipush 7000, 3) := by decide +kernel
theorem dX10_clearPages_45 : decode cX10_clearPages 45 = .ok (.if_icmp .ge 31, 3) := by decide +kernel
theorem dX10_clearPages_48 : decode cX10_clearPages 48 = .ok (.aload_n 0, 1) := by decide +kernel
theorem dX10_clearPages_49 : decode cX10_clearPages 49 = .ok (.getfield 164, 3) := by decide +kernel
theorem dX10_clearPages_52 : decode cX10_clearPages 52 = .ok (.iload_n 1, 1) := by decide +kernel
theorem dX10_clearPages_53 : decode cX10_clearPages 53 = .ok (.iload_n 1, 1) := by decide +kernel
theorem dX10_clearPages_54 : decode cX10_clearPages 54 = .ok (.iconst 1, 1) := by decide +kernel
theorem dX10_clearPages_55 : decode cX10_clearPages 55 = .ok (.iadd, 1) := by decide +kernel
theorem dX10_clearPages_56 : decode cX10_clearPages 56 = .ok (.sipush 7000, 3) := by decide +kernel
theorem dX10_clearPages_59 : decode cX10_clearPages 59 = .ok (.if_icmp .ge 9, 3) := by decide +kernel
theorem dX10_clearPages_62 : decode cX10_clearPages 62 = .ok (.iload_n 1, 1) := by decide +kernel
theorem dX10_clearPages_63 : decode cX10_clearPages 63 = .ok (.iconst 1, 1) := by decide +kernel
theorem dX10_clearPages_64 : decode cX10_clearPages 64 = .ok (.iadd, 1) := by decide +kernel
theorem dX10_clearPages_65 : decode cX10_clearPages 65 = .ok (.goto 4, 3) := by decide +kernel
theorem dX10_clearPages_68 : decode cX10_clearPages 68 = .ok (.iconst (-1), 1) := by decide +kernel
theorem dX10_clearPages_69 : decode cX10_clearPages 69 = .ok (.iastore, 1) := by decide +kernel
theorem dX10_clearPages_70 : decode cX10_clearPages 70 = .ok (.iinc 1 1, 3) := by decide +kernel
theorem dX10_clearPages_73 : decode cX10_clearPages 73 = .ok (.goto (-32), 3) := by decide +kernel
theorem dX10_clearPages_76 : decode cX10_clearPages 76 = .ok (.aload_n 0, 1) := by decide +kernel
theorem dX10_clearPages_77 : decode cX10_clearPages 77 = .ok (.iconst 0, 1) := by decide +kernel
theorem dX10_clearPages_78 : decode cX10_clearPages 78 = .ok (.putfield 283, 3) := by decide +kernel
theorem dX10_clearPages_81 : decode cX10_clearPages 81 = .ok (.iconst 0, 1) := by decide +kernel
theorem dX10_clearPages_82 : decode cX10_clearPages 82 = .ok (.istore_n 1, 1) := by decide +kernel
theorem dX10_clearPages_83 : decode cX10_clearPages 83 = .ok (.iload_n 1, 1) := by decide +kernel
theorem dX10_clearPages_84 : decode cX10_clearPages 84 = .ok (.sipush 14000, 3) := by decide +kernel
theorem dX10_clearPages_87 : decode cX10_clearPages 87 = .ok (.if_icmp .ge 31, 3) := by decide +kernel
theorem dX10_clearPages_90 : decode cX10_clearPages 90 = .ok (.aload_n 0, 1) := by decide +kernel
theorem dX10_clearPages_91 : decode cX10_clearPages 91 = .ok (.getfield 176, 3) := by decide +kernel
theorem dX10_clearPages_94 : decode cX10_clearPages 94 = .ok (.iload_n 1, 1) := by decide +kernel
theorem dX10_clearPages_95 : decode cX10_clearPages 95 = .ok (.iload_n 1, 1) := by decide +kernel
theorem dX10_clearPages_96 : decode cX10_clearPages 96 = .ok (.iconst 1, 1) := by decide +kernel
theorem dX10_clearPages_97 : decode cX10_clearPages 97 = .ok (.iadd, 1) := by decide +kernel
theorem dX10_clearPages_98 : decode cX10_clearPages 98 = .ok (.sipush 14000, 3) := by decide +kernel
theorem dX10_clearPages_101 : decode cX10_clearPages 101 = .ok (.if_icmp .ge 9, 3) := by decide +kernel
theorem dX10_clearPages_104 : decode cX10_clearPages 104 = .ok (.iload_n 1, 1) := by decide +kernel
theorem dX10_clearPages_105 : decode cX10_clearPages 105 = .ok (.iconst 1, 1) := by decide +kernel
theorem dX10_clearPages_106 : decode cX10_clearPages 106 = .ok (.iadd, 1) := by decide +kernel
theorem dX10_clearPages_107 : decode cX10_clearPages 107 = .ok (.goto 4, 3) := by decide +kernel
theorem dX10_clearPages_110 : decode cX10_clearPages 110 = .ok (.iconst (-1), 1) := by decide +kernel
theorem dX10_clearPages_111 : decode cX10_clearPages 111 = .ok (.iastore, 1) := by decide +kernel
theorem dX10_clearPages_112 : decode cX10_clearPages 112 = .ok (.iinc 1 1, 3) := by decide +kernel
theorem dX10_clearPages_115 : decode cX10_clearPages 115 = .ok (.goto (-32), 3) := by decide +kernel
theorem dX10_clearPages_118 : decode cX10_clearPages 118 = .ok (.aload_n 0, 1) := by decide +kernel
theorem dX10_clearPages_119 : decode cX10_clearPages 119 = .ok (.iconst 0, 1) := by decide +kernel
theorem dX10_clearPages_120 : decode cX10_clearPages 120 = .ok (.putfield 286, 3) := by decide +kernel
theorem dX10_clearPages_123 : decode cX10_clearPages 123 = .ok (.return_, 1) := by decide +kernel
theorem dX10_page_0 : decode cX10_page 0 = .ok (.aload_n 0, 1) := by decide +kernel
theorem dX10_page_1 : decode cX10_page 1 = .ok (.dup, 1) := by decide +kernel
theorem dX10_page_2 : decode cX10_page 2 = .ok (.getfield 280, 3) := by decide +kernel
theorem dX10_page_5 : decode cX10_page 5 = .ok (.iconst 1, 1) := by decide +kernel
theorem dX10_page_6 : decode cX10_page 6 = .ok (.isub, 1) := by decide +kernel
theorem dX10_page_7 : decode cX10_page 7 = .ok (.putfield 280, 3) := by decide +kernel
theorem dX10_page_10 : decode cX10_page 10 = .ok (.aload_n 0, 1) := by decide +kernel
theorem dX10_page_11 : decode cX10_page 11 = .ok (.getfield 151, 3) := by decide +kernel
theorem dX10_page_14 : decode cX10_page 14 = .ok (.aload_n 0, 1) := by decide +kernel
theorem dX10_page_15 : decode cX10_page 15 = .ok (.getfield 280, 3) := by decide +kernel
theorem dX10_page_18 : decode cX10_page 18 = .ok (.iaload, 1) := by decide +kernel
theorem dX10_page_19 : decode cX10_page 19 = .ok (.istore_n 2, 1) := by decide +kernel
theorem dX10_page_20 : decode cX10_page 20 = .ok (.aload_n 0, 1) := by decide +kernel
theorem dX10_page_21 : decode cX10_page 21 = .ok (.getfield 119, 3) := by decide +kernel
theorem dX10_page_24 : decode cX10_page 24 = .ok (.iload_n 2, 1) := by decide +kernel
theorem dX10_page_25 : decode cX10_page 25 = .ok (.iload_n 1, 1) := by decide +kernel
theorem dX10_page_26 : decode cX10_page 26 = .ok (.bastore, 1) := by decide +kernel
theorem dX10_page_27 : decode cX10_page 27 = .ok (.aload_n 0, 1) := by decide +kernel
theorem dX10_page_28 : decode cX10_page 28 = .ok (.getfield 123, 3) := by decide +kernel
theorem dX10_page_31 : decode cX10_page 31 = .ok (.iload_n 2, 1) := by decide +kernel
theorem dX10_page_32 : decode cX10_page 32 = .ok (.iconst (-1), 1) := by decide +kernel
theorem dX10_page_33 : decode cX10_page 33 = .ok (.iastore, 1) := by decide +kernel
theorem dX10_page_34 : decode cX10_page 34 = .ok (.aload_n 0, 1) := by decide +kernel
theorem dX10_page_35 : decode cX10_page 35 = .ok (.getfield 126, 3) := by decide +kernel
theorem dX10_page_38 : decode cX10_page 38 = .ok (.iload_n 2, 1) := by decide +kernel
theorem dX10_page_39 : decode cX10_page 39 = .ok (.iconst 0, 1) := by decide +kernel
theorem dX10_page_40 : decode cX10_page 40 = .ok (.iastore, 1) := by decide +kernel
theorem dX10_page_41 : decode cX10_page 41 = .ok (.aload_n 0, 1) := by decide +kernel
theorem dX10_page_42 : decode cX10_page 42 = .ok (.getfield 129, 3) := by decide +kernel
theorem dX10_page_45 : decode cX10_page 45 = .ok (.iload_n 2, 1) := by decide +kernel
theorem dX10_page_46 : decode cX10_page 46 = .ok (.iconst 0, 1) := by decide +kernel
theorem dX10_page_47 : decode cX10_page 47 = .ok (.iastore, 1) := by decide +kernel
theorem dX10_page_48 : decode cX10_page 48 = .ok (.aload_n 0, 1) := by decide +kernel
theorem dX10_page_49 : decode cX10_page 49 = .ok (.getfield 139, 3) := by decide +kernel
theorem dX10_page_52 : decode cX10_page 52 = .ok (.iload_n 2, 1) := by decide +kernel
theorem dX10_page_53 : decode cX10_page 53 = .ok (.iconst (-1), 1) := by decide +kernel
theorem dX10_page_54 : decode cX10_page 54 = .ok (.iastore, 1) := by decide +kernel
theorem dX10_page_55 : decode cX10_page 55 = .ok (.aload_n 0, 1) := by decide +kernel
theorem dX10_page_56 : decode cX10_page 56 = .ok (.getfield 142, 3) := by decide +kernel
theorem dX10_page_59 : decode cX10_page 59 = .ok (.iload_n 2, 1) := by decide +kernel
theorem dX10_page_60 : decode cX10_page 60 = .ok (.iconst (-1), 1) := by decide +kernel
theorem dX10_page_61 : decode cX10_page 61 = .ok (.iastore, 1) := by decide +kernel
theorem dX10_page_62 : decode cX10_page 62 = .ok (.aload_n 0, 1) := by decide +kernel
theorem dX10_page_63 : decode cX10_page 63 = .ok (.getfield 145, 3) := by decide +kernel
theorem dX10_page_66 : decode cX10_page 66 = .ok (.iload_n 2, 1) := by decide +kernel
theorem dX10_page_67 : decode cX10_page 67 = .ok (.iconst 0, 1) := by decide +kernel
theorem dX10_page_68 : decode cX10_page 68 = .ok (.iastore, 1) := by decide +kernel
theorem dX10_page_69 : decode cX10_page 69 = .ok (.aload_n 0, 1) := by decide +kernel
theorem dX10_page_70 : decode cX10_page 70 = .ok (.getfield 148, 3) := by decide +kernel
theorem dX10_page_73 : decode cX10_page 73 = .ok (.iload_n 2, 1) := by decide +kernel
theorem dX10_page_74 : decode cX10_page 74 = .ok (.iconst (-1), 1) := by decide +kernel
theorem dX10_page_75 : decode cX10_page 75 = .ok (.iastore, 1) := by decide +kernel
theorem dX10_page_76 : decode cX10_page 76 = .ok (.iload_n 2, 1) := by decide +kernel
theorem dX10_page_77 : decode cX10_page 77 = .ok (.ireturn, 1) := by decide +kernel
theorem dX10_give_0 : decode cX10_give 0 = .ok (.aload_n 0, 1) := by decide +kernel
theorem dX10_give_1 : decode cX10_give 1 = .ok (.getfield 151, 3) := by decide +kernel
theorem dX10_give_4 : decode cX10_give 4 = .ok (.aload_n 0, 1) := by decide +kernel
theorem dX10_give_5 : decode cX10_give 5 = .ok (.getfield 280, 3) := by decide +kernel
theorem dX10_give_8 : decode cX10_give 8 = .ok (.iload_n 1, 1) := by decide +kernel
theorem dX10_give_9 : decode cX10_give 9 = .ok (.iastore, 1) := by decide +kernel
theorem dX10_give_10 : decode cX10_give 10 = .ok (.aload_n 0, 1) := by decide +kernel
theorem dX10_give_11 : decode cX10_give 11 = .ok (.dup, 1) := by decide +kernel
theorem dX10_give_12 : decode cX10_give 12 = .ok (.getfield 280, 3) := by decide +kernel
theorem dX10_give_15 : decode cX10_give 15 = .ok (.iconst 1, 1) := by decide +kernel
theorem dX10_give_16 : decode cX10_give 16 = .ok (.iadd, 1) := by decide +kernel
theorem dX10_give_17 : decode cX10_give 17 = .ok (.putfield 280, 3) := by decide +kernel
theorem dX10_give_20 : decode cX10_give 20 = .ok (.return_, 1) := by decide +kernel
theorem dX10_entry_0 : decode cX10_entry 0 = .ok (.aload_n 0, 1) := by decide +kernel
theorem dX10_entry_1 : decode cX10_entry 1 = .ok (.getfield 283, 3) := by decide +kernel
theorem dX10_entry_4 : decode cX10_entry 4 = .ok (.istore 5, 2) := by decide +kernel
theorem dX10_entry_6 : decode cX10_entry 6 = .ok (.aload_n 0, 1) := by decide +kernel
theorem dX10_entry_7 : decode cX10_entry 7 = .ok (.aload_n 0, 1) := by decide +kernel
theorem dX10_entry_8 : decode cX10_entry 8 = .ok (.getfield 164, 3) := by decide +kernel
theorem dX10_entry_11 : decode cX10_entry 11 = .ok (.iload 5, 2) := by decide +kernel
theorem dX10_entry_13 : decode cX10_entry 13 = .ok (.iaload, 1) := by decide +kernel
theorem dX10_entry_14 : decode cX10_entry 14 = .ok (.putfield 283, 3) := by decide +kernel
theorem dX10_entry_17 : decode cX10_entry 17 = .ok (.aload_n 0, 1) := by decide +kernel
theorem dX10_entry_18 : decode cX10_entry 18 = .ok (.getfield 154, 3) := by decide +kernel
theorem dX10_entry_21 : decode cX10_entry 21 = .ok (.iload 5, 2) := by decide +kernel
theorem dX10_entry_23 : decode cX10_entry 23 = .ok (.lload_n 3, 1) := by decide +kernel
theorem dX10_entry_24 : decode cX10_entry 24 = .ok (.lastore, 1) := by decide +kernel
theorem dX10_entry_25 : decode cX10_entry 25 = .ok (.iload_n 2, 1) := by decide +kernel
theorem dX10_entry_26 : decode cX10_entry 26 = .ok (.iconst (-1), 1) := by decide +kernel
theorem dX10_entry_27 : decode cX10_entry 27 = .ok (.if_icmp .ne 27, 3) := by decide +kernel
theorem dX10_entry_30 : decode cX10_entry 30 = .ok (.aload_n 0, 1) := by decide +kernel
theorem dX10_entry_31 : decode cX10_entry 31 = .ok (.getfield 164, 3) := by decide +kernel
theorem dX10_entry_34 : decode cX10_entry 34 = .ok (.iload 5, 2) := by decide +kernel
theorem dX10_entry_36 : decode cX10_entry 36 = .ok (.aload_n 0, 1) := by decide +kernel
theorem dX10_entry_37 : decode cX10_entry 37 = .ok (.getfield 123, 3) := by decide +kernel
theorem dX10_entry_40 : decode cX10_entry 40 = .ok (.iload_n 1, 1) := by decide +kernel
theorem dX10_entry_41 : decode cX10_entry 41 = .ok (.iaload, 1) := by decide +kernel
theorem dX10_entry_42 : decode cX10_entry 42 = .ok (.iastore, 1) := by decide +kernel
theorem dX10_entry_43 : decode cX10_entry 43 = .ok (.aload_n 0, 1) := by decide +kernel
theorem dX10_entry_44 : decode cX10_entry 44 = .ok (.getfield 123, 3) := by decide +kernel
theorem dX10_entry_47 : decode cX10_entry 47 = .ok (.iload_n 1, 1) := by decide +kernel
theorem dX10_entry_48 : decode cX10_entry 48 = .ok (.iload 5, 2) := by decide +kernel
theorem dX10_entry_50 : decode cX10_entry 50 = .ok (.iastore, 1) := by decide +kernel
theorem dX10_entry_51 : decode cX10_entry 51 = .ok (.goto 24, 3) := by decide +kernel
theorem dX10_entry_54 : decode cX10_entry 54 = .ok (.aload_n 0, 1) := by decide +kernel
theorem dX10_entry_55 : decode cX10_entry 55 = .ok (.getfield 164, 3) := by decide +kernel
theorem dX10_entry_58 : decode cX10_entry 58 = .ok (.iload 5, 2) := by decide +kernel
theorem dX10_entry_60 : decode cX10_entry 60 = .ok (.aload_n 0, 1) := by decide +kernel
theorem dX10_entry_61 : decode cX10_entry 61 = .ok (.getfield 164, 3) := by decide +kernel
theorem dX10_entry_64 : decode cX10_entry 64 = .ok (.iload_n 2, 1) := by decide +kernel
theorem dX10_entry_65 : decode cX10_entry 65 = .ok (.iaload, 1) := by decide +kernel
theorem dX10_entry_66 : decode cX10_entry 66 = .ok (.iastore, 1) := by decide +kernel
theorem dX10_entry_67 : decode cX10_entry 67 = .ok (.aload_n 0, 1) := by decide +kernel
theorem dX10_entry_68 : decode cX10_entry 68 = .ok (.getfield 164, 3) := by decide +kernel
theorem dX10_entry_71 : decode cX10_entry 71 = .ok (.iload_n 2, 1) := by decide +kernel
theorem dX10_entry_72 : decode cX10_entry 72 = .ok (.iload 5, 2) := by decide +kernel
theorem dX10_entry_74 : decode cX10_entry 74 = .ok (.iastore, 1) := by decide +kernel
theorem dX10_entry_75 : decode cX10_entry 75 = .ok (.aload_n 0, 1) := by decide +kernel
theorem dX10_entry_76 : decode cX10_entry 76 = .ok (.getfield 126, 3) := by decide +kernel
theorem dX10_entry_79 : decode cX10_entry 79 = .ok (.iload_n 1, 1) := by decide +kernel
theorem dX10_entry_80 : decode cX10_entry 80 = .ok (.dup2, 1) := by decide +kernel
theorem dX10_entry_81 : decode cX10_entry 81 = .ok (.iaload, 1) := by decide +kernel
theorem dX10_entry_82 : decode cX10_entry 82 = .ok (.iconst 1, 1) := by decide +kernel
theorem dX10_entry_83 : decode cX10_entry 83 = .ok (.iadd, 1) := by decide +kernel
theorem dX10_entry_84 : decode cX10_entry 84 = .ok (.iastore, 1) := by decide +kernel
theorem dX10_entry_85 : decode cX10_entry 85 = .ok (.iload 5, 2) := by decide +kernel
theorem dX10_entry_87 : decode cX10_entry 87 = .ok (.ireturn, 1) := by decide +kernel
theorem dX10_leave_0 : decode cX10_leave 0 = .ok (.iload_n 2, 1) := by decide +kernel
theorem dX10_leave_1 : decode cX10_leave 1 = .ok (.iconst (-1), 1) := by decide +kernel
theorem dX10_leave_2 : decode cX10_leave 2 = .ok (.if_icmp .ne 12, 3) := by decide +kernel
theorem dX10_leave_5 : decode cX10_leave 5 = .ok (.aload_n 0, 1) := by decide +kernel
theorem dX10_leave_6 : decode cX10_leave 6 = .ok (.getfield 123, 3) := by decide +kernel
theorem dX10_leave_9 : decode cX10_leave 9 = .ok (.iload_n 1, 1) := by decide +kernel
theorem dX10_leave_10 : decode cX10_leave 10 = .ok (.iaload, 1) := by decide +kernel
theorem dX10_leave_11 : decode cX10_leave 11 = .ok (.goto 9, 3) := by decide +kernel
theorem dX10_leave_14 : decode cX10_leave 14 = .ok (.aload_n 0, 1) := by decide +kernel
theorem dX10_leave_15 : decode cX10_leave 15 = .ok (.getfield 164, 3) := by decide +kernel
theorem dX10_leave_18 : decode cX10_leave 18 = .ok (.iload_n 2, 1) := by decide +kernel
theorem dX10_leave_19 : decode cX10_leave 19 = .ok (.iaload, 1) := by decide +kernel
theorem dX10_leave_20 : decode cX10_leave 20 = .ok (.istore_n 3, 1) := by decide +kernel
theorem dX10_leave_21 : decode cX10_leave 21 = .ok (.iload_n 2, 1) := by decide +kernel
theorem dX10_leave_22 : decode cX10_leave 22 = .ok (.iconst (-1), 1) := by decide +kernel
theorem dX10_leave_23 : decode cX10_leave 23 = .ok (.if_icmp .ne 18, 3) := by decide +kernel
theorem dX10_leave_26 : decode cX10_leave 26 = .ok (.aload_n 0, 1) := by decide +kernel
theorem dX10_leave_27 : decode cX10_leave 27 = .ok (.getfield 123, 3) := by decide +kernel
theorem dX10_leave_30 : decode cX10_leave 30 = .ok (.iload_n 1, 1) := by decide +kernel
theorem dX10_leave_31 : decode cX10_leave 31 = .ok (.aload_n 0, 1) := by decide +kernel
theorem dX10_leave_32 : decode cX10_leave 32 = .ok (.getfield 164, 3) := by decide +kernel
theorem dX10_leave_35 : decode cX10_leave 35 = .ok (.iload_n 3, 1) := by decide +kernel
theorem dX10_leave_36 : decode cX10_leave 36 = .ok (.iaload, 1) := by decide +kernel
theorem dX10_leave_37 : decode cX10_leave 37 = .ok (.iastore, 1) := by decide +kernel
theorem dX10_leave_38 : decode cX10_leave 38 = .ok (.goto 15, 3) := by decide +kernel
theorem dX10_leave_41 : decode cX10_leave 41 = .ok (.aload_n 0, 1) := by decide +kernel
theorem dX10_leave_42 : decode cX10_leave 42 = .ok (.getfield 164, 3) := by decide +kernel
theorem dX10_leave_45 : decode cX10_leave 45 = .ok (.iload_n 2, 1) := by decide +kernel
theorem dX10_leave_46 : decode cX10_leave 46 = .ok (.aload_n 0, 1) := by decide +kernel
theorem dX10_leave_47 : decode cX10_leave 47 = .ok (.getfield 164, 3) := by decide +kernel
theorem dX10_leave_50 : decode cX10_leave 50 = .ok (.iload_n 3, 1) := by decide +kernel
theorem dX10_leave_51 : decode cX10_leave 51 = .ok (.iaload, 1) := by decide +kernel
theorem dX10_leave_52 : decode cX10_leave 52 = .ok (.iastore, 1) := by decide +kernel
theorem dX10_leave_53 : decode cX10_leave 53 = .ok (.aload_n 0, 1) := by decide +kernel
theorem dX10_leave_54 : decode cX10_leave 54 = .ok (.getfield 126, 3) := by decide +kernel
theorem dX10_leave_57 : decode cX10_leave 57 = .ok (.iload_n 1, 1) := by decide +kernel
theorem dX10_leave_58 : decode cX10_leave 58 = .ok (.dup2, 1) := by decide +kernel
theorem dX10_leave_59 : decode cX10_leave 59 = .ok (.iaload, 1) := by decide +kernel
theorem dX10_leave_60 : decode cX10_leave 60 = .ok (.iconst 1, 1) := by decide +kernel
theorem dX10_leave_61 : decode cX10_leave 61 = .ok (.isub, 1) := by decide +kernel
theorem dX10_leave_62 : decode cX10_leave 62 = .ok (.iastore, 1) := by decide +kernel
theorem dX10_leave_63 : decode cX10_leave 63 = .ok (.aload_n 0, 1) := by decide +kernel
theorem dX10_leave_64 : decode cX10_leave 64 = .ok (.getfield 164, 3) := by decide +kernel
theorem dX10_leave_67 : decode cX10_leave 67 = .ok (.iload_n 3, 1) := by decide +kernel
theorem dX10_leave_68 : decode cX10_leave 68 = .ok (.aload_n 0, 1) := by decide +kernel
theorem dX10_leave_69 : decode cX10_leave 69 = .ok (.getfield 283, 3) := by decide +kernel
theorem dX10_leave_72 : decode cX10_leave 72 = .ok (.iastore, 1) := by decide +kernel
theorem dX10_leave_73 : decode cX10_leave 73 = .ok (.aload_n 0, 1) := by decide +kernel
theorem dX10_leave_74 : decode cX10_leave 74 = .ok (.iload_n 3, 1) := by decide +kernel
theorem dX10_leave_75 : decode cX10_leave 75 = .ok (.putfield 283, 3) := by decide +kernel
theorem dX10_leave_78 : decode cX10_leave 78 = .ok (.return_, 1) := by decide +kernel
theorem dX10_letter_0 : decode cX10_letter 0 = .ok (.aload_n 0, 1) := by decide +kernel
theorem dX10_letter_1 : decode cX10_letter 1 = .ok (.getfield 286, 3) := by decide +kernel
theorem dX10_letter_4 : decode cX10_letter 4 = .ok (.istore 7, 2) := by decide +kernel
theorem dX10_letter_6 : decode cX10_letter 6 = .ok (.aload_n 0, 1) := by decide +kernel
theorem dX10_letter_7 : decode cX10_letter 7 = .ok (.aload_n 0, 1) := by decide +kernel
theorem dX10_letter_8 : decode cX10_letter 8 = .ok (.getfield 176, 3) := by decide +kernel
theorem dX10_letter_11 : decode cX10_letter 11 = .ok (.iload 7, 2) := by decide +kernel
theorem dX10_letter_13 : decode cX10_letter 13 = .ok (.iaload, 1) := by decide +kernel
theorem dX10_letter_14 : decode cX10_letter 14 = .ok (.putfield 286, 3) := by decide +kernel
theorem dX10_letter_17 : decode cX10_letter 17 = .ok (.aload_n 0, 1) := by decide +kernel
theorem dX10_letter_18 : decode cX10_letter 18 = .ok (.getfield 167, 3) := by decide +kernel
theorem dX10_letter_21 : decode cX10_letter 21 = .ok (.iload 7, 2) := by decide +kernel
theorem dX10_letter_23 : decode cX10_letter 23 = .ok (.iload_n 2, 1) := by decide +kernel
theorem dX10_letter_24 : decode cX10_letter 24 = .ok (.iastore, 1) := by decide +kernel
theorem dX10_letter_25 : decode cX10_letter 25 = .ok (.aload_n 0, 1) := by decide +kernel
theorem dX10_letter_26 : decode cX10_letter 26 = .ok (.getfield 170, 3) := by decide +kernel
theorem dX10_letter_29 : decode cX10_letter 29 = .ok (.iload 7, 2) := by decide +kernel
theorem dX10_letter_31 : decode cX10_letter 31 = .ok (.lload_n 3, 1) := by decide +kernel
theorem dX10_letter_32 : decode cX10_letter 32 = .ok (.lastore, 1) := by decide +kernel
theorem dX10_letter_33 : decode cX10_letter 33 = .ok (.aload_n 0, 1) := by decide +kernel
theorem dX10_letter_34 : decode cX10_letter 34 = .ok (.getfield 173, 3) := by decide +kernel
theorem dX10_letter_37 : decode cX10_letter 37 = .ok (.iload 7, 2) := by decide +kernel
theorem dX10_letter_39 : decode cX10_letter 39 = .ok (.lload 5, 2) := by decide +kernel
theorem dX10_letter_41 : decode cX10_letter 41 = .ok (.lastore, 1) := by decide +kernel
theorem dX10_letter_42 : decode cX10_letter 42 = .ok (.aload_n 0, 1) := by decide +kernel
theorem dX10_letter_43 : decode cX10_letter 43 = .ok (.iload_n 1, 1) := by decide +kernel
theorem dX10_letter_44 : decode cX10_letter 44 = .ok (.iload 7, 2) := by decide +kernel
theorem dX10_letter_46 : decode cX10_letter 46 = .ok (.invokevirtual 289, 3) := by decide +kernel
theorem dX10_letter_49 : decode cX10_letter 49 = .ok (.aload_n 0, 1) := by decide +kernel
theorem dX10_letter_50 : decode cX10_letter 50 = .ok (.getfield 148, 3) := by decide +kernel
theorem dX10_letter_53 : decode cX10_letter 53 = .ok (.iload_n 1, 1) := by decide +kernel
theorem dX10_letter_54 : decode cX10_letter 54 = .ok (.iconst (-1), 1) := by decide +kernel
theorem dX10_letter_55 : decode cX10_letter 55 = .ok (.iastore, 1) := by decide +kernel
theorem dX10_letter_56 : decode cX10_letter 56 = .ok (.return_, 1) := by decide +kernel
theorem dX10_chain_0 : decode cX10_chain 0 = .ok (.aload_n 0, 1) := by decide +kernel
theorem dX10_chain_1 : decode cX10_chain 1 = .ok (.getfield 176, 3) := by decide +kernel
theorem dX10_chain_4 : decode cX10_chain 4 = .ok (.iload_n 2, 1) := by decide +kernel
theorem dX10_chain_5 : decode cX10_chain 5 = .ok (.iconst (-1), 1) := by decide +kernel
theorem dX10_chain_6 : decode cX10_chain 6 = .ok (.iastore, 1) := by decide +kernel
theorem dX10_chain_7 : decode cX10_chain 7 = .ok (.aload_n 0, 1) := by decide +kernel
theorem dX10_chain_8 : decode cX10_chain 8 = .ok (.getfield 142, 3) := by decide +kernel
theorem dX10_chain_11 : decode cX10_chain 11 = .ok (.iload_n 1, 1) := by decide +kernel
theorem dX10_chain_12 : decode cX10_chain 12 = .ok (.iaload, 1) := by decide +kernel
theorem dX10_chain_13 : decode cX10_chain 13 = .ok (.iconst (-1), 1) := by decide +kernel
theorem dX10_chain_14 : decode cX10_chain 14 = .ok (.if_icmp .ne 13, 3) := by decide +kernel
theorem dX10_chain_17 : decode cX10_chain 17 = .ok (.aload_n 0, 1) := by decide +kernel
theorem dX10_chain_18 : decode cX10_chain 18 = .ok (.getfield 139, 3) := by decide +kernel
theorem dX10_chain_21 : decode cX10_chain 21 = .ok (.iload_n 1, 1) := by decide +kernel
theorem dX10_chain_22 : decode cX10_chain 22 = .ok (.iload_n 2, 1) := by decide +kernel
theorem dX10_chain_23 : decode cX10_chain 23 = .ok (.iastore, 1) := by decide +kernel
theorem dX10_chain_24 : decode cX10_chain 24 = .ok (.goto 15, 3) := by decide +kernel
theorem dX10_chain_27 : decode cX10_chain 27 = .ok (.aload_n 0, 1) := by decide +kernel
theorem dX10_chain_28 : decode cX10_chain 28 = .ok (.getfield 176, 3) := by decide +kernel
theorem dX10_chain_31 : decode cX10_chain 31 = .ok (.aload_n 0, 1) := by decide +kernel
theorem dX10_chain_32 : decode cX10_chain 32 = .ok (.getfield 142, 3) := by decide +kernel
theorem dX10_chain_35 : decode cX10_chain 35 = .ok (.iload_n 1, 1) := by decide +kernel
theorem dX10_chain_36 : decode cX10_chain 36 = .ok (.iaload, 1) := by decide +kernel
theorem dX10_chain_37 : decode cX10_chain 37 = .ok (.iload_n 2, 1) := by decide +kernel
theorem dX10_chain_38 : decode cX10_chain 38 = .ok (.iastore, 1) := by decide +kernel
theorem dX10_chain_39 : decode cX10_chain 39 = .ok (.aload_n 0, 1) := by decide +kernel
theorem dX10_chain_40 : decode cX10_chain 40 = .ok (.getfield 142, 3) := by decide +kernel
theorem dX10_chain_43 : decode cX10_chain 43 = .ok (.iload_n 1, 1) := by decide +kernel
theorem dX10_chain_44 : decode cX10_chain 44 = .ok (.iload_n 2, 1) := by decide +kernel
theorem dX10_chain_45 : decode cX10_chain 45 = .ok (.iastore, 1) := by decide +kernel
theorem dX10_chain_46 : decode cX10_chain 46 = .ok (.aload_n 0, 1) := by decide +kernel
theorem dX10_chain_47 : decode cX10_chain 47 = .ok (.getfield 145, 3) := by decide +kernel
theorem dX10_chain_50 : decode cX10_chain 50 = .ok (.iload_n 1, 1) := by decide +kernel
theorem dX10_chain_51 : decode cX10_chain 51 = .ok (.dup2, 1) := by decide +kernel
theorem dX10_chain_52 : decode cX10_chain 52 = .ok (.iaload, 1) := by decide +kernel
theorem dX10_chain_53 : decode cX10_chain 53 = .ok (.iconst 1, 1) := by decide +kernel
theorem dX10_chain_54 : decode cX10_chain 54 = .ok (.iadd, 1) := by decide +kernel
theorem dX10_chain_55 : decode cX10_chain 55 = .ok (.iastore, 1) := by decide +kernel
theorem dX10_chain_56 : decode cX10_chain 56 = .ok (.return_, 1) := by decide +kernel
theorem dX10_below_0 : decode cX10_below 0 = .ok (.iconst (-1), 1) := by decide +kernel
theorem dX10_below_1 : decode cX10_below 1 = .ok (.istore 4, 2) := by decide +kernel
theorem dX10_below_3 : decode cX10_below 3 = .ok (.aload_n 0, 1) := by decide +kernel
theorem dX10_below_4 : decode cX10_below 4 = .ok (.getfield 123, 3) := by decide +kernel
theorem dX10_below_7 : decode cX10_below 7 = .ok (.iload_n 1, 1) := by decide +kernel
theorem dX10_below_8 : decode cX10_below 8 = .ok (.iaload, 1) := by decide +kernel
theorem dX10_below_9 : decode cX10_below 9 = .ok (.istore 5, 2) := by decide +kernel
theorem dX10_below_11 : decode cX10_below 11 = .ok (.iload 5, 2) := by decide +kernel
theorem dX10_below_13 : decode cX10_below 13 = .ok (.iconst (-1), 1) := by decide +kernel
theorem dX10_below_14 : decode cX10_below 14 = .ok (.if_icmp .eq 31, 3) := by decide +kernel
theorem dX10_below_17 : decode cX10_below 17 = .ok (.aload_n 0, 1) := by decide +kernel
theorem dX10_below_18 : decode cX10_below 18 = .ok (.getfield 154, 3) := by decide +kernel
theorem dX10_below_21 : decode cX10_below 21 = .ok (.iload 5, 2) := by decide +kernel
theorem dX10_below_23 : decode cX10_below 23 = .ok (.laload, 1) := by decide +kernel
theorem dX10_below_24 : decode cX10_below 24 = .ok (.lload_n 2, 1) := by decide +kernel
theorem dX10_below_25 : decode cX10_below 25 = .ok (.lcmp, 1) := by decide +kernel
theorem dX10_below_26 : decode cX10_below 26 = .ok (.ifCond .ge 19, 3) := by decide +kernel
theorem dX10_below_29 : decode cX10_below 29 = .ok (.iload 5, 2) := by decide +kernel
theorem dX10_below_31 : decode cX10_below 31 = .ok (.istore 4, 2) := by decide +kernel
theorem dX10_below_33 : decode cX10_below 33 = .ok (.aload_n 0, 1) := by decide +kernel
theorem dX10_below_34 : decode cX10_below 34 = .ok (.getfield 164, 3) := by decide +kernel
theorem dX10_below_37 : decode cX10_below 37 = .ok (.iload 5, 2) := by decide +kernel
theorem dX10_below_39 : decode cX10_below 39 = .ok (.iaload, 1) := by decide +kernel
theorem dX10_below_40 : decode cX10_below 40 = .ok (.istore 5, 2) := by decide +kernel
theorem dX10_below_42 : decode cX10_below 42 = .ok (.goto (-31), 3) := by decide +kernel
theorem dX10_below_45 : decode cX10_below 45 = .ok (.iload 4, 2) := by decide +kernel
theorem dX10_below_47 : decode cX10_below 47 = .ok (.ireturn, 1) := by decide +kernel
theorem dX10_actOnLeaf_0 : decode cX10_actOnLeaf 0 = .ok (.aload_n 0, 1) := by decide +kernel
theorem dX10_actOnLeaf_1 : decode cX10_actOnLeaf 1 = .ok (.iload_n 1, 1) := by decide +kernel
theorem dX10_actOnLeaf_2 : decode cX10_actOnLeaf 2 = .ok (.lload_n 3, 1) := by decide +kernel
theorem dX10_actOnLeaf_3 : decode cX10_actOnLeaf 3 = .ok (.invokevirtual 292, 3) := by decide +kernel
theorem dX10_actOnLeaf_6 : decode cX10_actOnLeaf 6 = .ok (.istore 7, 2) := by decide +kernel
theorem dX10_actOnLeaf_8 : decode cX10_actOnLeaf 8 = .ok (.iload 7, 2) := by decide +kernel
theorem dX10_actOnLeaf_10 : decode cX10_actOnLeaf 10 = .ok (.iconst (-1), 1) := by decide +kernel
theorem dX10_actOnLeaf_11 : decode cX10_actOnLeaf 11 = .ok (.if_icmp .ne 12, 3) := by decide +kernel
theorem dX10_actOnLeaf_14 : decode cX10_actOnLeaf 14 = .ok (.aload_n 0, 1) := by decide +kernel
theorem dX10_actOnLeaf_15 : decode cX10_actOnLeaf 15 = .ok (.getfield 123, 3) := by decide +kernel
theorem dX10_actOnLeaf_18 : decode cX10_actOnLeaf 18 = .ok (.iload_n 1, 1) := by decide +kernel
theorem dX10_actOnLeaf_19 : decode cX10_actOnLeaf 19 = .ok (.iaload, 1) := by decide +kernel
theorem dX10_actOnLeaf_20 : decode cX10_actOnLeaf 20 = .ok (.goto 10, 3) := by decide +kernel
theorem dX10_actOnLeaf_23 : decode cX10_actOnLeaf 23 = .ok (.aload_n 0, 1) := by decide +kernel
theorem dX10_actOnLeaf_24 : decode cX10_actOnLeaf 24 = .ok (.getfield 164, 3) := by decide +kernel
theorem dX10_actOnLeaf_27 : decode cX10_actOnLeaf 27 = .ok (.iload 7, 2) := by decide +kernel
theorem dX10_actOnLeaf_29 : decode cX10_actOnLeaf 29 = .ok (.iaload, 1) := by decide +kernel
theorem dX10_actOnLeaf_30 : decode cX10_actOnLeaf 30 = .ok (.istore 8, 2) := by decide +kernel
theorem dX10_actOnLeaf_32 : decode cX10_actOnLeaf 32 = .ok (.aload_n 0, 1) := by decide +kernel
theorem dX10_actOnLeaf_33 : decode cX10_actOnLeaf 33 = .ok (.getfield 46, 3) := by decide +kernel
theorem dX10_actOnLeaf_36 : decode cX10_actOnLeaf 36 = .ok (.iload_n 2, 1) := by decide +kernel
theorem dX10_actOnLeaf_37 : decode cX10_actOnLeaf 37 = .ok (.iaload, 1) := by decide +kernel
theorem dX10_actOnLeaf_38 : decode cX10_actOnLeaf 38 = .ok (.iconst 5, 1) := by decide +kernel
theorem dX10_actOnLeaf_39 : decode cX10_actOnLeaf 39 = .ok (.if_icmp .ne 53, 3) := by decide +kernel
theorem dX10_actOnLeaf_42 : decode cX10_actOnLeaf 42 = .ok (.iload 8, 2) := by decide +kernel
theorem dX10_actOnLeaf_44 : decode cX10_actOnLeaf 44 = .ok (.iconst (-1), 1) := by decide +kernel
theorem dX10_actOnLeaf_45 : decode cX10_actOnLeaf 45 = .ok (.if_icmp .eq 46, 3) := by decide +kernel
theorem dX10_actOnLeaf_48 : decode cX10_actOnLeaf 48 = .ok (.aload_n 0, 1) := by decide +kernel
theorem dX10_actOnLeaf_49 : decode cX10_actOnLeaf 49 = .ok (.getfield 154, 3) := by decide +kernel
theorem dX10_actOnLeaf_52 : decode cX10_actOnLeaf 52 = .ok (.iload 8, 2) := by decide +kernel
theorem dX10_actOnLeaf_54 : decode cX10_actOnLeaf 54 = .ok (.laload, 1) := by decide +kernel
theorem dX10_actOnLeaf_55 : decode cX10_actOnLeaf 55 = .ok (.lload 5, 2) := by decide +kernel
theorem dX10_actOnLeaf_57 : decode cX10_actOnLeaf 57 = .ok (.lcmp, 1) := by decide +kernel
theorem dX10_actOnLeaf_58 : decode cX10_actOnLeaf 58 = .ok (.ifCond .gt 33, 3) := by decide +kernel
theorem dX10_actOnLeaf_61 : decode cX10_actOnLeaf 61 = .ok (.aload_n 0, 1) := by decide +kernel
theorem dX10_actOnLeaf_62 : decode cX10_actOnLeaf 62 = .ok (.getfield 164, 3) := by decide +kernel
theorem dX10_actOnLeaf_65 : decode cX10_actOnLeaf 65 = .ok (.iload 8, 2) := by decide +kernel
theorem dX10_actOnLeaf_67 : decode cX10_actOnLeaf 67 = .ok (.iaload, 1) := by decide +kernel
theorem dX10_actOnLeaf_68 : decode cX10_actOnLeaf 68 = .ok (.istore 9, 2) := by decide +kernel
theorem dX10_actOnLeaf_70 : decode cX10_actOnLeaf 70 = .ok (.aload_n 0, 1) := by decide +kernel
theorem dX10_actOnLeaf_71 : decode cX10_actOnLeaf 71 = .ok (.iload_n 1, 1) := by decide +kernel
theorem dX10_actOnLeaf_72 : decode cX10_actOnLeaf 72 = .ok (.iload 7, 2) := by decide +kernel
theorem dX10_actOnLeaf_74 : decode cX10_actOnLeaf 74 = .ok (.invokevirtual 296, 3) := by decide +kernel
