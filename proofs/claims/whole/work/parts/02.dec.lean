theorem dX0_init_0 : decode cX0_init 0 = .ok (.aload_n 0, 1) := by decide +kernel
theorem dX0_init_1 : decode cX0_init 1 = .ok (.invokespecial 3, 3) := by decide +kernel
theorem dX0_init_4 : decode cX0_init 4 = .ok (.aload_n 0, 1) := by decide +kernel
theorem dX0_init_5 : decode cX0_init 5 = .ok (.bipush 30, 2) := by decide +kernel
theorem dX0_init_7 : decode cX0_init 7 = .ok (.newarray .int, 2) := by decide +kernel
theorem dX0_init_9 : decode cX0_init 9 = .ok (.putfield 9, 3) := by decide +kernel
theorem dX0_init_12 : decode cX0_init 12 = .ok (.aload_n 0, 1) := by decide +kernel
theorem dX0_init_13 : decode cX0_init 13 = .ok (.iconst 0, 1) := by decide +kernel
theorem dX0_init_14 : decode cX0_init 14 = .ok (.putfield 15, 3) := by decide +kernel
theorem dX0_init_17 : decode cX0_init 17 = .ok (.aload_n 0, 1) := by decide +kernel
theorem dX0_init_18 : decode cX0_init 18 = .ok (.iconst 0, 1) := by decide +kernel
theorem dX0_init_19 : decode cX0_init 19 = .ok (.putfield 19, 3) := by decide +kernel
theorem dX0_init_22 : decode cX0_init 22 = .ok (.aload_n 0, 1) := by decide +kernel
theorem dX0_init_23 : decode cX0_init 23 = .ok (.iconst 0, 1) := by decide +kernel
theorem dX0_init_24 : decode cX0_init 24 = .ok (.putfield 23, 3) := by decide +kernel
theorem dX0_init_27 : decode cX0_init 27 = .ok (.aload_n 0, 1) := by decide +kernel
theorem dX0_init_28 : decode cX0_init 28 = .ok (.iconst 0, 1) := by decide +kernel
theorem dX0_init_29 : decode cX0_init 29 = .ok (.putfield 26, 3) := by decide +kernel
theorem dX0_init_32 : decode cX0_init 32 = .ok (.aload_n 0, 1) := by decide +kernel
theorem dX0_init_33 : decode cX0_init 33 = .ok (.iconst 0, 1) := by decide +kernel
theorem dX0_init_34 : decode cX0_init 34 = .ok (.putfield 29, 3) := by decide +kernel
theorem dX0_init_37 : decode cX0_init 37 = .ok (.return_, 1) := by decide +kernel
theorem dX0_forget_0 : decode cX0_forget 0 = .ok (.aload_n 0, 1) := by decide +kernel
theorem dX0_forget_1 : decode cX0_forget 1 = .ok (.iconst 0, 1) := by decide +kernel
theorem dX0_forget_2 : decode cX0_forget 2 = .ok (.putfield 15, 3) := by decide +kernel
theorem dX0_forget_5 : decode cX0_forget 5 = .ok (.aload_n 0, 1) := by decide +kernel
theorem dX0_forget_6 : decode cX0_forget 6 = .ok (.iconst 0, 1) := by decide +kernel
theorem dX0_forget_7 : decode cX0_forget 7 = .ok (.putfield 19, 3) := by decide +kernel
theorem dX0_forget_10 : decode cX0_forget 10 = .ok (.return_, 1) := by decide +kernel
theorem dX0_play_0 : decode cX0_play 0 = .ok (.aload_n 0, 1) := by decide +kernel
theorem dX0_play_1 : decode cX0_play 1 = .ok (.iload_n 1, 1) := by decide +kernel
theorem dX0_play_2 : decode cX0_play 2 = .ok (.putfield 23, 3) := by decide +kernel
theorem dX0_play_5 : decode cX0_play 5 = .ok (.aload_n 0, 1) := by decide +kernel
theorem dX0_play_6 : decode cX0_play 6 = .ok (.iload_n 2, 1) := by decide +kernel
theorem dX0_play_7 : decode cX0_play 7 = .ok (.putfield 26, 3) := by decide +kernel
theorem dX0_play_10 : decode cX0_play 10 = .ok (.aload_n 0, 1) := by decide +kernel
theorem dX0_play_11 : decode cX0_play 11 = .ok (.iload_n 3, 1) := by decide +kernel
theorem dX0_play_12 : decode cX0_play 12 = .ok (.putfield 29, 3) := by decide +kernel
theorem dX0_play_15 : decode cX0_play 15 = .ok (.return_, 1) := by decide +kernel
theorem dX0_takes_0 : decode cX0_takes 0 = .ok (.aload_n 0, 1) := by decide +kernel
theorem dX0_takes_1 : decode cX0_takes 1 = .ok (.getfield 26, 3) := by decide +kernel
theorem dX0_takes_4 : decode cX0_takes 4 = .ok (.tableswitch 78 2 6 #[36, 78, 50, 50, 64], 36) := by decide +kernel
theorem dX0_takes_40 : decode cX0_takes 40 = .ok (.aload_n 0, 1) := by decide +kernel
theorem dX0_takes_41 : decode cX0_takes 41 = .ok (.bipush 30, 2) := by decide +kernel
theorem dX0_takes_43 : decode cX0_takes 43 = .ok (.invokevirtual 32, 3) := by decide +kernel
theorem dX0_takes_46 : decode cX0_takes 46 = .ok (.aload_n 0, 1) := by decide +kernel
theorem dX0_takes_47 : decode cX0_takes 47 = .ok (.iload_n 1, 1) := by decide +kernel
theorem dX0_takes_48 : decode cX0_takes 48 = .ok (.invokevirtual 36, 3) := by decide +kernel
theorem dX0_takes_51 : decode cX0_takes 51 = .ok (.iconst 3, 1) := by decide +kernel
theorem dX0_takes_52 : decode cX0_takes 52 = .ok (.imul, 1) := by decide +kernel
theorem dX0_takes_53 : decode cX0_takes 53 = .ok (.ireturn, 1) := by decide +kernel
theorem dX0_takes_54 : decode cX0_takes 54 = .ok (.aload_n 0, 1) := by decide +kernel
theorem dX0_takes_55 : decode cX0_takes 55 = .ok (.bipush 51, 2) := by decide +kernel
theorem dX0_takes_57 : decode cX0_takes 57 = .ok (.invokevirtual 32, 3) := by decide +kernel
theorem dX0_takes_60 : decode cX0_takes 60 = .ok (.iconst 0, 1) := by decide +kernel
theorem dX0_takes_61 : decode cX0_takes 61 = .ok (.aload_n 0, 1) := by decide +kernel
theorem dX0_takes_62 : decode cX0_takes 62 = .ok (.iload_n 1, 1) := by decide +kernel
theorem dX0_takes_63 : decode cX0_takes 63 = .ok (.invokevirtual 36, 3) := by decide +kernel
theorem dX0_takes_66 : decode cX0_takes 66 = .ok (.isub, 1) := by decide +kernel
theorem dX0_takes_67 : decode cX0_takes 67 = .ok (.ireturn, 1) := by decide +kernel
theorem dX0_takes_68 : decode cX0_takes 68 = .ok (.aload_n 0, 1) := by decide +kernel
theorem dX0_takes_69 : decode cX0_takes 69 = .ok (.bipush 70, 2) := by decide +kernel
theorem dX0_takes_71 : decode cX0_takes 71 = .ok (.invokevirtual 32, 3) := by decide +kernel
theorem dX0_takes_74 : decode cX0_takes 74 = .ok (.aload_n 0, 1) := by decide +kernel
theorem dX0_takes_75 : decode cX0_takes 75 = .ok (.iload_n 1, 1) := by decide +kernel
theorem dX0_takes_76 : decode cX0_takes 76 = .ok (.invokevirtual 36, 3) := by decide +kernel
theorem dX0_takes_79 : decode cX0_takes 79 = .ok (.iconst 4, 1) := by decide +kernel
theorem dX0_takes_80 : decode cX0_takes 80 = .ok (.isub, 1) := by decide +kernel
theorem dX0_takes_81 : decode cX0_takes 81 = .ok (.ireturn, 1) := by decide +kernel
theorem dX0_takes_82 : decode cX0_takes 82 = .ok (.aload_n 0, 1) := by decide +kernel
theorem dX0_takes_83 : decode cX0_takes 83 = .ok (.iload_n 1, 1) := by decide +kernel
theorem dX0_takes_84 : decode cX0_takes 84 = .ok (.invokevirtual 36, 3) := by decide +kernel
theorem dX0_takes_87 : decode cX0_takes 87 = .ok (.ireturn, 1) := by decide +kernel
theorem dX0_shares_0 : decode cX0_shares 0 = .ok (.aload_n 0, 1) := by decide +kernel
theorem dX0_shares_1 : decode cX0_shares 1 = .ok (.getfield 26, 3) := by decide +kernel
theorem dX0_shares_4 : decode cX0_shares 4 = .ok (.lookupswitch 74 #[(1, 36), (5, 53), (6, 36)], 36) := by decide +kernel
theorem dX0_shares_40 : decode cX0_shares 40 = .ok (.aload_n 0, 1) := by decide +kernel
theorem dX0_shares_41 : decode cX0_shares 41 = .ok (.bipush 20, 2) := by decide +kernel
theorem dX0_shares_43 : decode cX0_shares 43 = .ok (.invokevirtual 32, 3) := by decide +kernel
theorem dX0_shares_46 : decode cX0_shares 46 = .ok (.aload_n 0, 1) := by decide +kernel
theorem dX0_shares_47 : decode cX0_shares 47 = .ok (.iload_n 1, 1) := by decide +kernel
theorem dX0_shares_48 : decode cX0_shares 48 = .ok (.invokevirtual 40, 3) := by decide +kernel
theorem dX0_shares_51 : decode cX0_shares 51 = .ok (.aload_n 0, 1) := by decide +kernel
theorem dX0_shares_52 : decode cX0_shares 52 = .ok (.getfield 29, 3) := by decide +kernel
theorem dX0_shares_55 : decode cX0_shares 55 = .ok (.isub, 1) := by decide +kernel
theorem dX0_shares_56 : decode cX0_shares 56 = .ok (.ireturn, 1) := by decide +kernel
theorem dX0_shares_57 : decode cX0_shares 57 = .ok (.aload_n 0, 1) := by decide +kernel
theorem dX0_shares_58 : decode cX0_shares 58 = .ok (.bipush 60, 2) := by decide +kernel
theorem dX0_shares_60 : decode cX0_shares 60 = .ok (.invokevirtual 32, 3) := by decide +kernel
theorem dX0_shares_63 : decode cX0_shares 63 = .ok (.aload_n 0, 1) := by decide +kernel
theorem dX0_shares_64 : decode cX0_shares 64 = .ok (.iload_n 1, 1) := by decide +kernel
theorem dX0_shares_65 : decode cX0_shares 65 = .ok (.invokevirtual 40, 3) := by decide +kernel
theorem dX0_shares_68 : decode cX0_shares 68 = .ok (.aload_n 0, 1) := by decide +kernel
theorem dX0_shares_69 : decode cX0_shares 69 = .ok (.aload_n 0, 1) := by decide +kernel
theorem dX0_shares_70 : decode cX0_shares 70 = .ok (.getfield 29, 3) := by decide +kernel
theorem dX0_shares_73 : decode cX0_shares 73 = .ok (.invokevirtual 43, 3) := by decide +kernel
theorem dX0_shares_76 : decode cX0_shares 76 = .ok (.iadd, 1) := by decide +kernel
theorem dX0_shares_77 : decode cX0_shares 77 = .ok (.ireturn, 1) := by decide +kernel
theorem dX0_shares_78 : decode cX0_shares 78 = .ok (.aload_n 0, 1) := by decide +kernel
theorem dX0_shares_79 : decode cX0_shares 79 = .ok (.iload_n 1, 1) := by decide +kernel
theorem dX0_shares_80 : decode cX0_shares 80 = .ok (.invokevirtual 40, 3) := by decide +kernel
theorem dX0_shares_83 : decode cX0_shares 83 = .ok (.ireturn, 1) := by decide +kernel
theorem dX0_bounds_0 : decode cX0_bounds 0 = .ok (.aload_n 0, 1) := by decide +kernel
theorem dX0_bounds_1 : decode cX0_bounds 1 = .ok (.getfield 26, 3) := by decide +kernel
theorem dX0_bounds_4 : decode cX0_bounds 4 = .ok (.lookupswitch 48 #[(4, 28), (5, 34)], 28) := by decide +kernel
theorem dX0_bounds_32 : decode cX0_bounds 32 = .ok (.aload_n 0, 1) := by decide +kernel
theorem dX0_bounds_33 : decode cX0_bounds 33 = .ok (.iload_n 1, 1) := by decide +kernel
theorem dX0_bounds_34 : decode cX0_bounds 34 = .ok (.invokevirtual 46, 3) := by decide +kernel
theorem dX0_bounds_37 : decode cX0_bounds 37 = .ok (.ireturn, 1) := by decide +kernel
theorem dX0_bounds_38 : decode cX0_bounds 38 = .ok (.aload_n 0, 1) := by decide +kernel
theorem dX0_bounds_39 : decode cX0_bounds 39 = .ok (.bipush 61, 2) := by decide +kernel
theorem dX0_bounds_41 : decode cX0_bounds 41 = .ok (.invokevirtual 32, 3) := by decide +kernel
theorem dX0_bounds_44 : decode cX0_bounds 44 = .ok (.aload_n 0, 1) := by decide +kernel
theorem dX0_bounds_45 : decode cX0_bounds 45 = .ok (.iload_n 1, 1) := by decide +kernel
theorem dX0_bounds_46 : decode cX0_bounds 46 = .ok (.invokevirtual 46, 3) := by decide +kernel
theorem dX0_bounds_49 : decode cX0_bounds 49 = .ok (.iconst 2, 1) := by decide +kernel
theorem dX0_bounds_50 : decode cX0_bounds 50 = .ok (.imul, 1) := by decide +kernel
theorem dX0_bounds_51 : decode cX0_bounds 51 = .ok (.ireturn, 1) := by decide +kernel
theorem dX0_bounds_52 : decode cX0_bounds 52 = .ok (.aload_n 0, 1) := by decide +kernel
theorem dX0_bounds_53 : decode cX0_bounds 53 = .ok (.iload_n 1, 1) := by decide +kernel
theorem dX0_bounds_54 : decode cX0_bounds 54 = .ok (.invokevirtual 49, 3) := by decide +kernel
theorem dX0_bounds_57 : decode cX0_bounds 57 = .ok (.ireturn, 1) := by decide +kernel
theorem dX0_tells_0 : decode cX0_tells 0 = .ok (.aload_n 0, 1) := by decide +kernel
theorem dX0_tells_1 : decode cX0_tells 1 = .ok (.getfield 26, 3) := by decide +kernel
theorem dX0_tells_4 : decode cX0_tells 4 = .ok (.lookupswitch 70 #[(3, 28), (6, 49)], 28) := by decide +kernel
theorem dX0_tells_32 : decode cX0_tells 32 = .ok (.aload_n 0, 1) := by decide +kernel
theorem dX0_tells_33 : decode cX0_tells 33 = .ok (.bipush 40, 2) := by decide +kernel
theorem dX0_tells_35 : decode cX0_tells 35 = .ok (.invokevirtual 32, 3) := by decide +kernel
theorem dX0_tells_38 : decode cX0_tells 38 = .ok (.aload_n 0, 1) := by decide +kernel
theorem dX0_tells_39 : decode cX0_tells 39 = .ok (.iload_n 1, 1) := by decide +kernel
theorem dX0_tells_40 : decode cX0_tells 40 = .ok (.invokevirtual 52, 3) := by decide +kernel
theorem dX0_tells_43 : decode cX0_tells 43 = .ok (.aload_n 0, 1) := by decide +kernel
theorem dX0_tells_44 : decode cX0_tells 44 = .ok (.aload_n 0, 1) := by decide +kernel
theorem dX0_tells_45 : decode cX0_tells 45 = .ok (.getfield 23, 3) := by decide +kernel
theorem dX0_tells_48 : decode cX0_tells 48 = .ok (.invokevirtual 55, 3) := by decide +kernel
theorem dX0_tells_51 : decode cX0_tells 51 = .ok (.iadd, 1) := by decide +kernel
theorem dX0_tells_52 : decode cX0_tells 52 = .ok (.ireturn, 1) := by decide +kernel
theorem dX0_tells_53 : decode cX0_tells 53 = .ok (.aload_n 0, 1) := by decide +kernel
theorem dX0_tells_54 : decode cX0_tells 54 = .ok (.bipush 71, 2) := by decide +kernel
theorem dX0_tells_56 : decode cX0_tells 56 = .ok (.invokevirtual 32, 3) := by decide +kernel
theorem dX0_tells_59 : decode cX0_tells 59 = .ok (.aload_n 0, 1) := by decide +kernel
theorem dX0_tells_60 : decode cX0_tells 60 = .ok (.iload_n 1, 1) := by decide +kernel
theorem dX0_tells_61 : decode cX0_tells 61 = .ok (.invokevirtual 52, 3) := by decide +kernel
theorem dX0_tells_64 : decode cX0_tells 64 = .ok (.aload_n 0, 1) := by decide +kernel
theorem dX0_tells_65 : decode cX0_tells 65 = .ok (.aload_n 0, 1) := by decide +kernel
theorem dX0_tells_66 : decode cX0_tells 66 = .ok (.getfield 23, 3) := by decide +kernel
theorem dX0_tells_69 : decode cX0_tells 69 = .ok (.invokevirtual 58, 3) := by decide +kernel
theorem dX0_tells_72 : decode cX0_tells 72 = .ok (.ixor, 1) := by decide +kernel
theorem dX0_tells_73 : decode cX0_tells 73 = .ok (.ireturn, 1) := by decide +kernel
theorem dX0_tells_74 : decode cX0_tells 74 = .ok (.aload_n 0, 1) := by decide +kernel
theorem dX0_tells_75 : decode cX0_tells 75 = .ok (.iload_n 1, 1) := by decide +kernel
theorem dX0_tells_76 : decode cX0_tells 76 = .ok (.invokevirtual 52, 3) := by decide +kernel
theorem dX0_tells_79 : decode cX0_tells 79 = .ok (.ireturn, 1) := by decide +kernel
theorem dX0_takesOfPart_0 : decode cX0_takesOfPart 0 = .ok (.aload_n 0, 1) := by decide +kernel
theorem dX0_takesOfPart_1 : decode cX0_takesOfPart 1 = .ok (.bipush 10, 2) := by decide +kernel
theorem dX0_takesOfPart_3 : decode cX0_takesOfPart 3 = .ok (.invokevirtual 32, 3) := by decide +kernel
theorem dX0_takesOfPart_6 : decode cX0_takesOfPart 6 = .ok (.iload_n 1, 1) := by decide +kernel
theorem dX0_takesOfPart_7 : decode cX0_takesOfPart 7 = .ok (.aload_n 0, 1) := by decide +kernel
theorem dX0_takesOfPart_8 : decode cX0_takesOfPart 8 = .ok (.getfield 23, 3) := by decide +kernel
theorem dX0_takesOfPart_11 : decode cX0_takesOfPart 11 = .ok (.iadd, 1) := by decide +kernel
theorem dX0_takesOfPart_12 : decode cX0_takesOfPart 12 = .ok (.ireturn, 1) := by decide +kernel
theorem dX0_sharesOfPart_0 : decode cX0_sharesOfPart 0 = .ok (.aload_n 0, 1) := by decide +kernel
theorem dX0_sharesOfPart_1 : decode cX0_sharesOfPart 1 = .ok (.bipush 11, 2) := by decide +kernel
theorem dX0_sharesOfPart_3 : decode cX0_sharesOfPart 3 = .ok (.invokevirtual 32, 3) := by decide +kernel
theorem dX0_sharesOfPart_6 : decode cX0_sharesOfPart 6 = .ok (.aload_n 0, 1) := by decide +kernel
theorem dX0_sharesOfPart_7 : decode cX0_sharesOfPart 7 = .ok (.iload_n 1, 1) := by decide +kernel
theorem dX0_sharesOfPart_8 : decode cX0_sharesOfPart 8 = .ok (.invokevirtual 43, 3) := by decide +kernel
theorem dX0_sharesOfPart_11 : decode cX0_sharesOfPart 11 = .ok (.iconst 2, 1) := by decide +kernel
theorem dX0_sharesOfPart_12 : decode cX0_sharesOfPart 12 = .ok (.imul, 1) := by decide +kernel
theorem dX0_sharesOfPart_13 : decode cX0_sharesOfPart 13 = .ok (.ireturn, 1) := by decide +kernel
theorem dX0_boundsOfPart_0 : decode cX0_boundsOfPart 0 = .ok (.aload_n 0, 1) := by decide +kernel
theorem dX0_boundsOfPart_1 : decode cX0_boundsOfPart 1 = .ok (.bipush 12, 2) := by decide +kernel
theorem dX0_boundsOfPart_3 : decode cX0_boundsOfPart 3 = .ok (.invokevirtual 32, 3) := by decide +kernel
theorem dX0_boundsOfPart_6 : decode cX0_boundsOfPart 6 = .ok (.aload_n 0, 1) := by decide +kernel
theorem dX0_boundsOfPart_7 : decode cX0_boundsOfPart 7 = .ok (.getfield 29, 3) := by decide +kernel
theorem dX0_boundsOfPart_10 : decode cX0_boundsOfPart 10 = .ok (.aload_n 0, 1) := by decide +kernel
theorem dX0_boundsOfPart_11 : decode cX0_boundsOfPart 11 = .ok (.getfield 23, 3) := by decide +kernel
theorem dX0_boundsOfPart_14 : decode cX0_boundsOfPart 14 = .ok (.isub, 1) := by decide +kernel
theorem dX0_boundsOfPart_15 : decode cX0_boundsOfPart 15 = .ok (.istore_n 2, 1) := by decide +kernel
theorem dX0_boundsOfPart_16 : decode cX0_boundsOfPart 16 = .ok (.iload_n 2, 1) := by decide +kernel
theorem dX0_boundsOfPart_17 : decode cX0_boundsOfPart 17 = .ok (.ifCond .ne 10, 3) := by decide +kernel
theorem dX0_boundsOfPart_20 : decode cX0_boundsOfPart 20 = .ok (.aload_n 0, 1) := by decide +kernel
theorem dX0_boundsOfPart_21 : decode cX0_boundsOfPart 21 = .ok (.iconst 1, 1) := by decide +kernel
theorem dX0_boundsOfPart_22 : decode cX0_boundsOfPart 22 = .ok (.putfield 19, 3) := by decide +kernel
theorem dX0_boundsOfPart_25 : decode cX0_boundsOfPart 25 = .ok (.iconst 0, 1) := by decide +kernel
theorem dX0_boundsOfPart_26 : decode cX0_boundsOfPart 26 = .ok (.ireturn, 1) := by decide +kernel
theorem dX0_boundsOfPart_27 : decode cX0_boundsOfPart 27 = .ok (.iload_n 1, 1) := by decide +kernel
theorem dX0_boundsOfPart_28 : decode cX0_boundsOfPart 28 = .ok (.iload_n 2, 1) := by decide +kernel
theorem dX0_boundsOfPart_29 : decode cX0_boundsOfPart 29 = .ok (.idiv, 1) := by decide +kernel
theorem dX0_boundsOfPart_30 : decode cX0_boundsOfPart 30 = .ok (.ireturn, 1) := by decide +kernel
theorem dX0_boundsOfLoose_0 : decode cX0_boundsOfLoose 0 = .ok (.aload_n 0, 1) := by decide +kernel
theorem dX0_boundsOfLoose_1 : decode cX0_boundsOfLoose 1 = .ok (.bipush 50, 2) := by decide +kernel
theorem dX0_boundsOfLoose_3 : decode cX0_boundsOfLoose 3 = .ok (.invokevirtual 32, 3) := by decide +kernel
theorem dX0_boundsOfLoose_6 : decode cX0_boundsOfLoose 6 = .ok (.aload_n 0, 1) := by decide +kernel
theorem dX0_boundsOfLoose_7 : decode cX0_boundsOfLoose 7 = .ok (.iload_n 1, 1) := by decide +kernel
theorem dX0_boundsOfLoose_8 : decode cX0_boundsOfLoose 8 = .ok (.iconst 2, 1) := by decide +kernel
theorem dX0_boundsOfLoose_9 : decode cX0_boundsOfLoose 9 = .ok (.iadd, 1) := by decide +kernel
theorem dX0_boundsOfLoose_10 : decode cX0_boundsOfLoose 10 = .ok (.invokevirtual 49, 3) := by decide +kernel
theorem dX0_boundsOfLoose_13 : decode cX0_boundsOfLoose 13 = .ok (.iconst 1, 1) := by decide +kernel
theorem dX0_boundsOfLoose_14 : decode cX0_boundsOfLoose 14 = .ok (.ixor, 1) := by decide +kernel
theorem dX0_boundsOfLoose_15 : decode cX0_boundsOfLoose 15 = .ok (.ireturn, 1) := by decide +kernel
theorem dX0_tellsOfPart_0 : decode cX0_tellsOfPart 0 = .ok (.aload_n 0, 1) := by decide +kernel
theorem dX0_tellsOfPart_1 : decode cX0_tellsOfPart 1 = .ok (.bipush 13, 2) := by decide +kernel
theorem dX0_tellsOfPart_3 : decode cX0_tellsOfPart 3 = .ok (.invokevirtual 32, 3) := by decide +kernel
theorem dX0_tellsOfPart_6 : decode cX0_tellsOfPart 6 = .ok (.aload_n 0, 1) := by decide +kernel
theorem dX0_tellsOfPart_7 : decode cX0_tellsOfPart 7 = .ok (.iload_n 1, 1) := by decide +kernel
theorem dX0_tellsOfPart_8 : decode cX0_tellsOfPart 8 = .ok (.invokevirtual 58, 3) := by decide +kernel
theorem dX0_tellsOfPart_11 : decode cX0_tellsOfPart 11 = .ok (.aload_n 0, 1) := by decide +kernel
theorem dX0_tellsOfPart_12 : decode cX0_tellsOfPart 12 = .ok (.getfield 29, 3) := by decide +kernel
theorem dX0_tellsOfPart_15 : decode cX0_tellsOfPart 15 = .ok (.ixor, 1) := by decide +kernel
theorem dX0_tellsOfPart_16 : decode cX0_tellsOfPart 16 = .ok (.ireturn, 1) := by decide +kernel
theorem dX0_began_0 : decode cX0_began 0 = .ok (.aload_n 0, 1) := by decide +kernel
theorem dX0_began_1 : decode cX0_began 1 = .ok (.getfield 15, 3) := by decide +kernel
theorem dX0_began_4 : decode cX0_began 4 = .ok (.bipush 30, 2) := by decide +kernel
theorem dX0_began_6 : decode cX0_began 6 = .ok (.if_icmp .ge 23, 3) := by decide +kernel
theorem dX0_began_9 : decode cX0_began 9 = .ok (.aload_n 0, 1) := by decide +kernel
theorem dX0_began_10 : decode cX0_began 10 = .ok (.getfield 9, 3) := by decide +kernel
theorem dX0_began_13 : decode cX0_began 13 = .ok (.aload_n 0, 1) := by decide +kernel
theorem dX0_began_14 : decode cX0_began 14 = .ok (.getfield 15, 3) := by decide +kernel
theorem dX0_began_17 : decode cX0_began 17 = .ok (.iload_n 1, 1) := by decide +kernel
theorem dX0_began_18 : decode cX0_began 18 = .ok (.iastore, 1) := by decide +kernel
theorem dX0_began_19 : decode cX0_began 19 = .ok (.aload_n 0, 1) := by decide +kernel
theorem dX0_began_20 : decode cX0_began 20 = .ok (.dup, 1) := by decide +kernel
theorem dX0_began_21 : decode cX0_began 21 = .ok (.getfield 15, 3) := by decide +kernel
theorem dX0_began_24 : decode cX0_began 24 = .ok (.iconst 1, 1) := by decide +kernel
theorem dX0_began_25 : decode cX0_began 25 = .ok (.iadd, 1) := by decide +kernel
theorem dX0_began_26 : decode cX0_began 26 = .ok (.putfield 15, 3) := by decide +kernel
theorem dX0_began_29 : decode cX0_began 29 = .ok (.return_, 1) := by decide +kernel
theorem dX1_init_0 : decode cX1_init 0 = .ok (.aload_n 0, 1) := by decide +kernel
theorem dX1_init_1 : decode cX1_init 1 = .ok (.invokespecial 3, 3) := by decide +kernel
theorem dX1_init_4 : decode cX1_init 4 = .ok (.return_, 1) := by decide +kernel
theorem dX1_begin_0 : decode cX1_begin 0 = .ok (.aload_n 0, 1) := by decide +kernel
theorem dX1_begin_1 : decode cX1_begin 1 = .ok (.iload_n 1, 1) := by decide +kernel
theorem dX1_begin_2 : decode cX1_begin 2 = .ok (.putfield 9, 3) := by decide +kernel
theorem dX1_begin_5 : decode cX1_begin 5 = .ok (.aload_n 0, 1) := by decide +kernel
theorem dX1_begin_6 : decode cX1_begin 6 = .ok (.iload_n 2, 1) := by decide +kernel
theorem dX1_begin_7 : decode cX1_begin 7 = .ok (.putfield 15, 3) := by decide +kernel
theorem dX1_begin_10 : decode cX1_begin 10 = .ok (.aload_n 0, 1) := by decide +kernel
theorem dX1_begin_11 : decode cX1_begin 11 = .ok (.iload_n 3, 1) := by decide +kernel
theorem dX1_begin_12 : decode cX1_begin 12 = .ok (.putfield 18, 3) := by decide +kernel
theorem dX1_begin_15 : decode cX1_begin 15 = .ok (.aload_n 0, 1) := by decide +kernel
theorem dX1_begin_16 : decode cX1_begin 16 = .ok (.iload 4, 2) := by decide +kernel
theorem dX1_begin_18 : decode cX1_begin 18 = .ok (.putfield 21, 3) := by decide +kernel
theorem dX1_begin_21 : decode cX1_begin 21 = .ok (.aload_n 0, 1) := by decide +kernel
theorem dX1_begin_22 : decode cX1_begin 22 = .ok (.iload 5, 2) := by decide +kernel
theorem dX1_begin_24 : decode cX1_begin 24 = .ok (.putfield 24, 3) := by decide +kernel
theorem dX1_begin_27 : decode cX1_begin 27 = .ok (.aload_n 0, 1) := by decide +kernel
theorem dX1_begin_28 : decode cX1_begin 28 = .ok (.iload_n 3, 1) := by decide +kernel
theorem dX1_begin_29 : decode cX1_begin 29 = .ok (.putfield 27, 3) := by decide +kernel
theorem dX1_begin_32 : decode cX1_begin 32 = .ok (.aload_n 0, 1) := by decide +kernel
theorem dX1_begin_33 : decode cX1_begin 33 = .ok (.iconst 0, 1) := by decide +kernel
theorem dX1_begin_34 : decode cX1_begin 34 = .ok (.putfield 30, 3) := by decide +kernel
theorem dX1_begin_37 : decode cX1_begin 37 = .ok (.aload_n 0, 1) := by decide +kernel
theorem dX1_begin_38 : decode cX1_begin 38 = .ok (.iconst 0, 1) := by decide +kernel
theorem dX1_begin_39 : decode cX1_begin 39 = .ok (.putfield 34, 3) := by decide +kernel
theorem dX1_begin_42 : decode cX1_begin 42 = .ok (.aload_n 0, 1) := by decide +kernel
theorem dX1_begin_43 : decode cX1_begin 43 = .ok (.iconst 0, 1) := by decide +kernel
theorem dX1_begin_44 : decode cX1_begin 44 = .ok (.putfield 37, 3) := by decide +kernel
theorem dX1_begin_47 : decode cX1_begin 47 = .ok (.return_, 1) := by decide +kernel
theorem dX1_become_0 : decode cX1_become 0 = .ok (.aload_n 0, 1) := by decide +kernel
theorem dX1_become_1 : decode cX1_become 1 = .ok (.aload_n 1, 1) := by decide +kernel
theorem dX1_become_2 : decode cX1_become 2 = .ok (.getfield 9, 3) := by decide +kernel
theorem dX1_become_5 : decode cX1_become 5 = .ok (.putfield 9, 3) := by decide +kernel
theorem dX1_become_8 : decode cX1_become 8 = .ok (.aload_n 0, 1) := by decide +kernel
theorem dX1_become_9 : decode cX1_become 9 = .ok (.aload_n 1, 1) := by decide +kernel
theorem dX1_become_10 : decode cX1_become 10 = .ok (.getfield 15, 3) := by decide +kernel
theorem dX1_become_13 : decode cX1_become 13 = .ok (.putfield 15, 3) := by decide +kernel
theorem dX1_become_16 : decode cX1_become 16 = .ok (.aload_n 0, 1) := by decide +kernel
theorem dX1_become_17 : decode cX1_become 17 = .ok (.aload_n 1, 1) := by decide +kernel
theorem dX1_become_18 : decode cX1_become 18 = .ok (.getfield 18, 3) := by decide +kernel
theorem dX1_become_21 : decode cX1_become 21 = .ok (.putfield 18, 3) := by decide +kernel
theorem dX1_become_24 : decode cX1_become 24 = .ok (.aload_n 0, 1) := by decide +kernel
theorem dX1_become_25 : decode cX1_become 25 = .ok (.aload_n 1, 1) := by decide +kernel
theorem dX1_become_26 : decode cX1_become 26 = .ok (.getfield 21, 3) := by decide +kernel
theorem dX1_become_29 : decode cX1_become 29 = .ok (.putfield 21, 3) := by decide +kernel
theorem dX1_become_32 : decode cX1_become 32 = .ok (.aload_n 0, 1) := by decide +kernel
theorem dX1_become_33 : decode cX1_become 33 = .ok (.aload_n 1, 1) := by decide +kernel
theorem dX1_become_34 : decode cX1_become 34 = .ok (.getfield 24, 3) := by decide +kernel
theorem dX1_become_37 : decode cX1_become 37 = .ok (.putfield 24, 3) := by decide +kernel
theorem dX1_become_40 : decode cX1_become 40 = .ok (.aload_n 0, 1) := by decide +kernel
theorem dX1_become_41 : decode cX1_become 41 = .ok (.aload_n 1, 1) := by decide +kernel
theorem dX1_become_42 : decode cX1_become 42 = .ok (.getfield 27, 3) := by decide +kernel
theorem dX1_become_45 : decode cX1_become 45 = .ok (.putfield 27, 3) := by decide +kernel
theorem dX1_become_48 : decode cX1_become 48 = .ok (.aload_n 0, 1) := by decide +kernel
theorem dX1_become_49 : decode cX1_become 49 = .ok (.aload_n 1, 1) := by decide +kernel
theorem dX1_become_50 : decode cX1_become 50 = .ok (.getfield 30, 3) := by decide +kernel
theorem dX1_become_53 : decode cX1_become 53 = .ok (.putfield 30, 3) := by decide +kernel
theorem dX1_become_56 : decode cX1_become 56 = .ok (.aload_n 0, 1) := by decide +kernel
theorem dX1_become_57 : decode cX1_become 57 = .ok (.aload_n 1, 1) := by decide +kernel
theorem dX1_become_58 : decode cX1_become 58 = .ok (.getfield 34, 3) := by decide +kernel
theorem dX1_become_61 : decode cX1_become 61 = .ok (.putfield 34, 3) := by decide +kernel
theorem dX1_become_64 : decode cX1_become 64 = .ok (.aload_n 0, 1) := by decide +kernel
theorem dX1_become_65 : decode cX1_become 65 = .ok (.aload_n 1, 1) := by decide +kernel
theorem dX1_become_66 : decode cX1_become 66 = .ok (.getfield 37, 3) := by decide +kernel
theorem dX1_become_69 : decode cX1_become 69 = .ok (.putfield 37, 3) := by decide +kernel
theorem dX1_become_72 : decode cX1_become 72 = .ok (.return_, 1) := by decide +kernel
theorem dX1_isIn_0 : decode cX1_isIn 0 = .ok (.aload_n 0, 1) := by decide +kernel
theorem dX1_isIn_1 : decode cX1_isIn 1 = .ok (.getfield 15, 3) := by decide +kernel
theorem dX1_isIn_4 : decode cX1_isIn 4 = .ok (.iload_n 1, 1) := by decide +kernel
theorem dX1_isIn_5 : decode cX1_isIn 5 = .ok (.ishr, 1) := by decide +kernel
theorem dX1_isIn_6 : decode cX1_isIn 6 = .ok (.iconst 1, 1) := by decide +kernel
theorem dX1_isIn_7 : decode cX1_isIn 7 = .ok (.iand, 1) := by decide +kernel
theorem dX1_isIn_8 : decode cX1_isIn 8 = .ok (.iconst 1, 1) := by decide +kernel
theorem dX1_isIn_9 : decode cX1_isIn 9 = .ok (.if_icmp .ne 7, 3) := by decide +kernel
theorem dX1_isIn_12 : decode cX1_isIn 12 = .ok (.iconst 1, 1) := by decide +kernel
theorem dX1_isIn_13 : decode cX1_isIn 13 = .ok (.goto 4, 3) := by decide +kernel
theorem dX1_isIn_16 : decode cX1_isIn 16 = .ok (.iconst 0, 1) := by decide +kernel
theorem dX1_isIn_17 : decode cX1_isIn 17 = .ok (.ireturn, 1) := by decide +kernel
theorem dX1_takesOn_0 : decode cX1_takesOn 0 = .ok (.iload_n 1, 1) := by decide +kernel
theorem dX1_takesOn_1 : decode cX1_takesOn 1 = .ok (.aload_n 0, 1) := by decide +kernel
theorem dX1_takesOn_2 : decode cX1_takesOn 2 = .ok (.getfield 37, 3) := by decide +kernel
theorem dX1_takesOn_5 : decode cX1_takesOn 5 = .ok (.if_icmp .ge 8, 3) := by decide +kernel
theorem dX1_takesOn_8 : decode cX1_takesOn 8 = .ok (.aload_n 0, 1) := by decide +kernel
theorem dX1_takesOn_9 : decode cX1_takesOn 9 = .ok (.getfield 18, 3) := by decide +kernel
theorem dX1_takesOn_12 : decode cX1_takesOn 12 = .ok (.ireturn, 1) := by decide +kernel
theorem dX1_takesOn_13 : decode cX1_takesOn 13 = .ok (.aload_n 0, 1) := by decide +kernel
theorem dX1_takesOn_14 : decode cX1_takesOn 14 = .ok (.getfield 9, 3) := by decide +kernel
theorem dX1_takesOn_17 : decode cX1_takesOn 17 = .ok (.iconst 3, 1) := by decide +kernel
theorem dX1_takesOn_18 : decode cX1_takesOn 18 = .ok (.if_icmp .ne 25, 3) := by decide +kernel
theorem dX1_takesOn_21 : decode cX1_takesOn 21 = .ok (.aload_n 0, 1) := by decide +kernel
theorem dX1_takesOn_22 : decode cX1_takesOn 22 = .ok (.getfield 18, 3) := by decide +kernel
theorem dX1_takesOn_25 : decode cX1_takesOn 25 = .ok (.aload_n 0, 1) := by decide +kernel
theorem dX1_takesOn_26 : decode cX1_takesOn 26 = .ok (.getfield 34, 3) := by decide +kernel
theorem dX1_takesOn_29 : decode cX1_takesOn 29 = .ok (.iload_n 1, 1) := by decide +kernel
theorem dX1_takesOn_30 : decode cX1_takesOn 30 = .ok (.aload_n 0, 1) := by decide +kernel
theorem dX1_takesOn_31 : decode cX1_takesOn 31 = .ok (.getfield 37, 3) := by decide +kernel
theorem dX1_takesOn_34 : decode cX1_takesOn 34 = .ok (.isub, 1) := by decide +kernel
theorem dX1_takesOn_35 : decode cX1_takesOn 35 = .ok (.imul, 1) := by decide +kernel
theorem dX1_takesOn_36 : decode cX1_takesOn 36 = .ok (.bipush 10, 2) := by decide +kernel
theorem dX1_takesOn_38 : decode cX1_takesOn 38 = .ok (.idiv, 1) := by decide +kernel
theorem dX1_takesOn_39 : decode cX1_takesOn 39 = .ok (.iadd, 1) := by decide +kernel
theorem dX1_takesOn_40 : decode cX1_takesOn 40 = .ok (.goto 12, 3) := by decide +kernel
theorem dX1_takesOn_43 : decode cX1_takesOn 43 = .ok (.aload_n 0, 1) := by decide +kernel
theorem dX1_takesOn_44 : decode cX1_takesOn 44 = .ok (.getfield 18, 3) := by decide +kernel
theorem dX1_takesOn_47 : decode cX1_takesOn 47 = .ok (.aload_n 0, 1) := by decide +kernel
theorem dX1_takesOn_48 : decode cX1_takesOn 48 = .ok (.getfield 34, 3) := by decide +kernel
theorem dX1_takesOn_51 : decode cX1_takesOn 51 = .ok (.iadd, 1) := by decide +kernel
theorem dX1_takesOn_52 : decode cX1_takesOn 52 = .ok (.ireturn, 1) := by decide +kernel
theorem dX1_lateOn_0 : decode cX1_lateOn 0 = .ok (.aload_n 0, 1) := by decide +kernel
theorem dX1_lateOn_1 : decode cX1_lateOn 1 = .ok (.iload_n 1, 1) := by decide +kernel
theorem dX1_lateOn_2 : decode cX1_lateOn 2 = .ok (.invokevirtual 40, 3) := by decide +kernel
theorem dX1_lateOn_5 : decode cX1_lateOn 5 = .ok (.aload_n 0, 1) := by decide +kernel
theorem dX1_lateOn_6 : decode cX1_lateOn 6 = .ok (.getfield 27, 3) := by decide +kernel
theorem dX1_lateOn_9 : decode cX1_lateOn 9 = .ok (.isub, 1) := by decide +kernel
theorem dX1_lateOn_10 : decode cX1_lateOn 10 = .ok (.ireturn, 1) := by decide +kernel
theorem dX2_init_0 : decode cX2_init 0 = .ok (.aload_n 0, 1) := by decide +kernel
theorem dX2_init_1 : decode cX2_init 1 = .ok (.invokespecial 3, 3) := by decide +kernel
theorem dX2_init_4 : decode cX2_init 4 = .ok (.aload_n 0, 1) := by decide +kernel
theorem dX2_init_5 : decode cX2_init 5 = .ok (.aload_n 1, 1) := by decide +kernel
theorem dX2_init_6 : decode cX2_init 6 = .ok (.putfield 9, 3) := by decide +kernel
theorem dX2_init_9 : decode cX2_init 9 = .ok (.return_, 1) := by decide +kernel
theorem dX2_isMet_0 : decode cX2_isMet 0 = .ok (.iconst 0, 1) := by decide +kernel
theorem dX2_isMet_1 : decode cX2_isMet 1 = .ok (.istore_n 3, 1) := by decide +kernel
theorem dX2_isMet_2 : decode cX2_isMet 2 = .ok (.iconst 0, 1) := by decide +kernel
theorem dX2_isMet_3 : decode cX2_isMet 3 = .ok (.istore 4, 2) := by decide +kernel
theorem dX2_isMet_5 : decode cX2_isMet 5 = .ok (.iload 4, 2) := by decide +kernel
theorem dX2_isMet_7 : decode cX2_isMet 7 = .ok (.aload_n 0, 1) := by decide +kernel
theorem dX2_isMet_8 : decode cX2_isMet 8 = .ok (.getfield 9, 3) := by decide +kernel
theorem dX2_isMet_11 : decode cX2_isMet 11 = .ok (.arraylength, 1) := by decide +kernel
theorem dX2_isMet_12 : decode cX2_isMet 12 = .ok (.if_icmp .ge 122, 3) := by decide +kernel
theorem dX2_isMet_15 : decode cX2_isMet 15 = .ok (.aload_n 0, 1) := by decide +kernel
theorem dX2_isMet_16 : decode cX2_isMet 16 = .ok (.getfield 9, 3) := by decide +kernel
theorem dX2_isMet_19 : decode cX2_isMet 19 = .ok (.iload 4, 2) := by decide +kernel
theorem dX2_isMet_21 : decode cX2_isMet 21 = .ok (.iaload, 1) := by decide +kernel
theorem dX2_isMet_22 : decode cX2_isMet 22 = .ok (.istore 5, 2) := by decide +kernel
theorem dX2_isMet_24 : decode cX2_isMet 24 = .ok (.iload 5, 2) := by decide +kernel
theorem dX2_isMet_26 : decode cX2_isMet 26 = .ok (.bipush (-8), 2) := by decide +kernel
theorem dX2_isMet_28 : decode cX2_isMet 28 = .ok (.if_icmp .le 26, 3) := by decide +kernel
theorem dX2_isMet_31 : decode cX2_isMet 31 = .ok (.iload_n 3, 1) := by decide +kernel
theorem dX2_isMet_32 : decode cX2_isMet 32 = .ok (.aload_n 2, 1) := by decide +kernel
theorem dX2_isMet_33 : decode cX2_isMet 33 = .ok (.arraylength, 1) := by decide +kernel
theorem dX2_isMet_34 : decode cX2_isMet 34 = .ok (.if_icmp .lt 5, 3) := by decide +kernel
theorem dX2_isMet_37 : decode cX2_isMet 37 = .ok (.iconst 0, 1) := by decide +kernel
theorem dX2_isMet_38 : decode cX2_isMet 38 = .ok (.ireturn, 1) := by decide +kernel
theorem dX2_isMet_39 : decode cX2_isMet 39 = .ok (.aload_n 2, 1) := by decide +kernel
theorem dX2_isMet_40 : decode cX2_isMet 40 = .ok (.iload_n 3, 1) := by decide +kernel
theorem dX2_isMet_41 : decode cX2_isMet 41 = .ok (.iload 5, 2) := by decide +kernel
theorem dX2_isMet_43 : decode cX2_isMet 43 = .ok (.aload_n 1, 1) := by decide +kernel
theorem dX2_isMet_44 : decode cX2_isMet 44 = .ok (.invokestatic 15, 3) := by decide +kernel
theorem dX2_isMet_47 : decode cX2_isMet 47 = .ok (.iastore, 1) := by decide +kernel
theorem dX2_isMet_48 : decode cX2_isMet 48 = .ok (.iinc 3 1, 3) := by decide +kernel
theorem dX2_isMet_51 : decode cX2_isMet 51 = .ok (.goto 77, 3) := by decide +kernel
theorem dX2_isMet_54 : decode cX2_isMet 54 = .ok (.iload 5, 2) := by decide +kernel
theorem dX2_isMet_56 : decode cX2_isMet 56 = .ok (.bipush (-9), 2) := by decide +kernel
theorem dX2_isMet_58 : decode cX2_isMet 58 = .ok (.if_icmp .lt 42, 3) := by decide +kernel
theorem dX2_isMet_61 : decode cX2_isMet 61 = .ok (.iload_n 3, 1) := by decide +kernel
theorem dX2_isMet_62 : decode cX2_isMet 62 = .ok (.iconst 1, 1) := by decide +kernel
theorem dX2_isMet_63 : decode cX2_isMet 63 = .ok (.if_icmp .ge 5, 3) := by decide +kernel
theorem dX2_isMet_66 : decode cX2_isMet 66 = .ok (.iconst 0, 1) := by decide +kernel
theorem dX2_isMet_67 : decode cX2_isMet 67 = .ok (.ireturn, 1) := by decide +kernel
theorem dX2_isMet_68 : decode cX2_isMet 68 = .ok (.aload_n 2, 1) := by decide +kernel
theorem dX2_isMet_69 : decode cX2_isMet 69 = .ok (.iload_n 3, 1) := by decide +kernel
theorem dX2_isMet_70 : decode cX2_isMet 70 = .ok (.iconst 1, 1) := by decide +kernel
theorem dX2_isMet_71 : decode cX2_isMet 71 = .ok (.isub, 1) := by decide +kernel
theorem dX2_isMet_72 : decode cX2_isMet 72 = .ok (.iaload, 1) := by decide +kernel
theorem dX2_isMet_73 : decode cX2_isMet 73 = .ok (.istore 6, 2) := by decide +kernel
theorem dX2_isMet_75 : decode cX2_isMet 75 = .ok (.aload_n 2, 1) := by decide +kernel
theorem dX2_isMet_76 : decode cX2_isMet 76 = .ok (.iload_n 3, 1) := by decide +kernel
theorem dX2_isMet_77 : decode cX2_isMet 77 = .ok (.iconst 1, 1) := by decide +kernel
theorem dX2_isMet_78 : decode cX2_isMet 78 = .ok (.isub, 1) := by decide +kernel
theorem dX2_isMet_79 : decode cX2_isMet 79 = .ok (.iload 5, 2) := by decide +kernel
theorem dX2_isMet_81 : decode cX2_isMet 81 = .ok (.bipush (-8), 2) := by decide +kernel
theorem dX2_isMet_83 : decode cX2_isMet 83 = .ok (.if_icmp .ne 9, 3) := by decide +kernel
theorem dX2_isMet_86 : decode cX2_isMet 86 = .ok (.iload 6, 2) := by decide +kernel
theorem dX2_isMet_88 : decode cX2_isMet 88 = .ok (.ineg, 1) := by decide +kernel
theorem dX2_isMet_89 : decode cX2_isMet 89 = .ok (.goto 7, 3) := by decide +kernel
theorem dX2_isMet_92 : decode cX2_isMet 92 = .ok (.iconst 1, 1) := by decide +kernel
theorem dX2_isMet_93 : decode cX2_isMet 93 = .ok (.iload 6, 2) := by decide +kernel
theorem dX2_isMet_95 : decode cX2_isMet 95 = .ok (.isub, 1) := by decide +kernel
theorem dX2_isMet_96 : decode cX2_isMet 96 = .ok (.iastore, 1) := by decide +kernel
theorem dX2_isMet_97 : decode cX2_isMet 97 = .ok (.goto 31, 3) := by decide +kernel
theorem dX2_isMet_100 : decode cX2_isMet 100 = .ok (.iload_n 3, 1) := by decide +kernel
theorem dX2_isMet_101 : decode cX2_isMet 101 = .ok (.iconst 2, 1) := by decide +kernel
theorem dX2_isMet_102 : decode cX2_isMet 102 = .ok (.if_icmp .ge 5, 3) := by decide +kernel
theorem dX2_isMet_105 : decode cX2_isMet 105 = .ok (.iconst 0, 1) := by decide +kernel
theorem dX2_isMet_106 : decode cX2_isMet 106 = .ok (.ireturn, 1) := by decide +kernel
theorem dX2_isMet_107 : decode cX2_isMet 107 = .ok (.iinc 3 (-1), 3) := by decide +kernel
theorem dX2_isMet_110 : decode cX2_isMet 110 = .ok (.aload_n 2, 1) := by decide +kernel
theorem dX2_isMet_111 : decode cX2_isMet 111 = .ok (.iload_n 3, 1) := by decide +kernel
theorem dX2_isMet_112 : decode cX2_isMet 112 = .ok (.iconst 1, 1) := by decide +kernel
theorem dX2_isMet_113 : decode cX2_isMet 113 = .ok (.isub, 1) := by decide +kernel
theorem dX2_isMet_114 : decode cX2_isMet 114 = .ok (.iload 5, 2) := by decide +kernel
theorem dX2_isMet_116 : decode cX2_isMet 116 = .ok (.aload_n 2, 1) := by decide +kernel
theorem dX2_isMet_117 : decode cX2_isMet 117 = .ok (.iload_n 3, 1) := by decide +kernel
theorem dX2_isMet_118 : decode cX2_isMet 118 = .ok (.iconst 1, 1) := by decide +kernel
theorem dX2_isMet_119 : decode cX2_isMet 119 = .ok (.isub, 1) := by decide +kernel
theorem dX2_isMet_120 : decode cX2_isMet 120 = .ok (.iaload, 1) := by decide +kernel
theorem dX2_isMet_121 : decode cX2_isMet 121 = .ok (.aload_n 2, 1) := by decide +kernel
theorem dX2_isMet_122 : decode cX2_isMet 122 = .ok (.iload_n 3, 1) := by decide +kernel
theorem dX2_isMet_123 : decode cX2_isMet 123 = .ok (.iaload, 1) := by decide +kernel
theorem dX2_isMet_124 : decode cX2_isMet 124 = .ok (.invokestatic 19, 3) := by decide +kernel
theorem dX2_isMet_127 : decode cX2_isMet 127 = .ok (.iastore, 1) := by decide +kernel
theorem dX2_isMet_128 : decode cX2_isMet 128 = .ok (.iinc 4 1, 3) := by decide +kernel
theorem dX2_isMet_131 : decode cX2_isMet 131 = .ok (.goto (-126), 3) := by decide +kernel
theorem dX2_isMet_134 : decode cX2_isMet 134 = .ok (.iload_n 3, 1) := by decide +kernel
theorem dX2_isMet_135 : decode cX2_isMet 135 = .ok (.iconst 1, 1) := by decide +kernel
theorem dX2_isMet_136 : decode cX2_isMet 136 = .ok (.if_icmp .ne 14, 3) := by decide +kernel
theorem dX2_isMet_139 : decode cX2_isMet 139 = .ok (.aload_n 2, 1) := by decide +kernel
theorem dX2_isMet_140 : decode cX2_isMet 140 = .ok (.iconst 0, 1) := by decide +kernel
theorem dX2_isMet_141 : decode cX2_isMet 141 = .ok (.iaload, 1) := by decide +kernel
theorem dX2_isMet_142 : decode cX2_isMet 142 = .ok (.iconst 1, 1) := by decide +kernel
theorem dX2_isMet_143 : decode cX2_isMet 143 = .ok (.if_icmp .ne 7, 3) := by decide +kernel
theorem dX2_isMet_146 : decode cX2_isMet 146 = .ok (.iconst 1, 1) := by decide +kernel
theorem dX2_isMet_147 : decode cX2_isMet 147 = .ok (.goto 4, 3) := by decide +kernel
theorem dX2_isMet_150 : decode cX2_isMet 150 = .ok (.iconst 0, 1) := by decide +kernel
theorem dX2_isMet_151 : decode cX2_isMet 151 = .ok (.ireturn, 1) := by decide +kernel
theorem dX2_valueOf_0 : decode cX2_valueOf 0 = .ok (.iload_n 0, 1) := by decide +kernel
theorem dX2_valueOf_1 : decode cX2_valueOf 1 = .ok (.ifCond .lt 5, 3) := by decide +kernel
theorem dX2_valueOf_4 : decode cX2_valueOf 4 = .ok (.iload_n 0, 1) := by decide +kernel
theorem dX2_valueOf_5 : decode cX2_valueOf 5 = .ok (.ireturn, 1) := by decide +kernel
theorem dX2_valueOf_6 : decode cX2_valueOf 6 = .ok (.iconst (-1), 1) := by decide +kernel
theorem dX2_valueOf_7 : decode cX2_valueOf 7 = .ok (.iload_n 0, 1) := by decide +kernel
theorem dX2_valueOf_8 : decode cX2_valueOf 8 = .ok (.isub, 1) := by decide +kernel
theorem dX2_valueOf_9 : decode cX2_valueOf 9 = .ok (.istore_n 2, 1) := by decide +kernel
theorem dX2_valueOf_10 : decode cX2_valueOf 10 = .ok (.iload_n 2, 1) := by decide +kernel
theorem dX2_valueOf_11 : decode cX2_valueOf 11 = .ok (.aload_n 1, 1) := by decide +kernel
theorem dX2_valueOf_12 : decode cX2_valueOf 12 = .ok (.arraylength, 1) := by decide +kernel
theorem dX2_valueOf_13 : decode cX2_valueOf 13 = .ok (.if_icmp .ge 9, 3) := by decide +kernel
theorem dX2_valueOf_16 : decode cX2_valueOf 16 = .ok (.aload_n 1, 1) := by decide +kernel
theorem dX2_valueOf_17 : decode cX2_valueOf 17 = .ok (.iload_n 2, 1) := by decide +kernel
theorem dX2_valueOf_18 : decode cX2_valueOf 18 = .ok (.iaload, 1) := by decide +kernel
theorem dX2_valueOf_19 : decode cX2_valueOf 19 = .ok (.goto 4, 3) := by decide +kernel
theorem dX2_valueOf_22 : decode cX2_valueOf 22 = .ok (.iconst 0, 1) := by decide +kernel
theorem dX2_valueOf_23 : decode cX2_valueOf 23 = .ok (.ireturn, 1) := by decide +kernel
theorem dX2_joined_0 : decode cX2_joined 0 = .ok (.iload_n 0, 1) := by decide +kernel
theorem dX2_joined_1 : decode cX2_joined 1 = .ok (.tableswitch 92 (-16) (-10) #[88, 77, 66, 55, 51, 47, 43], 43) := by decide +kernel
theorem dX2_joined_44 : decode cX2_joined 44 = .ok (.iload_n 1, 1) := by decide +kernel
theorem dX2_joined_45 : decode cX2_joined 45 = .ok (.iload_n 2, 1) := by decide +kernel
theorem dX2_joined_46 : decode cX2_joined 46 = .ok (.imul, 1) := by decide +kernel
theorem dX2_joined_47 : decode cX2_joined 47 = .ok (.ireturn, 1) := by decide +kernel
theorem dX2_joined_48 : decode cX2_joined 48 = .ok (.iload_n 1, 1) := by decide +kernel
theorem dX2_joined_49 : decode cX2_joined 49 = .ok (.iload_n 2, 1) := by decide +kernel
theorem dX2_joined_50 : decode cX2_joined 50 = .ok (.iadd, 1) := by decide +kernel
theorem dX2_joined_51 : decode cX2_joined 51 = .ok (.ireturn, 1) := by decide +kernel
theorem dX2_joined_52 : decode cX2_joined 52 = .ok (.iload_n 1, 1) := by decide +kernel
theorem dX2_joined_53 : decode cX2_joined 53 = .ok (.iload_n 2, 1) := by decide +kernel
theorem dX2_joined_54 : decode cX2_joined 54 = .ok (.isub, 1) := by decide +kernel
theorem dX2_joined_55 : decode cX2_joined 55 = .ok (.ireturn, 1) := by decide +kernel
theorem dX2_joined_56 : decode cX2_joined 56 = .ok (.iload_n 1, 1) := by decide +kernel
theorem dX2_joined_57 : decode cX2_joined 57 = .ok (.iload_n 2, 1) := by decide +kernel
theorem dX2_joined_58 : decode cX2_joined 58 = .ok (.if_icmp .ge 7, 3) := by decide +kernel
theorem dX2_joined_61 : decode cX2_joined 61 = .ok (.iconst 1, 1) := by decide +kernel
theorem dX2_joined_62 : decode cX2_joined 62 = .ok (.goto 4, 3) := by decide +kernel
theorem dX2_joined_65 : decode cX2_joined 65 = .ok (.iconst 0, 1) := by decide +kernel
theorem dX2_joined_66 : decode cX2_joined 66 = .ok (.ireturn, 1) := by decide +kernel
theorem dX2_joined_67 : decode cX2_joined 67 = .ok (.iload_n 1, 1) := by decide +kernel
theorem dX2_joined_68 : decode cX2_joined 68 = .ok (.iload_n 2, 1) := by decide +kernel
theorem dX2_joined_69 : decode cX2_joined 69 = .ok (.if_icmp .ne 7, 3) := by decide +kernel
theorem dX2_joined_72 : decode cX2_joined 72 = .ok (.iconst 1, 1) := by decide +kernel
theorem dX2_joined_73 : decode cX2_joined 73 = .ok (.goto 4, 3) := by decide +kernel
theorem dX2_joined_76 : decode cX2_joined 76 = .ok (.iconst 0, 1) := by decide +kernel
theorem dX2_joined_77 : decode cX2_joined 77 = .ok (.ireturn, 1) := by decide +kernel
theorem dX2_joined_78 : decode cX2_joined 78 = .ok (.iload_n 1, 1) := by decide +kernel
theorem dX2_joined_79 : decode cX2_joined 79 = .ok (.iload_n 2, 1) := by decide +kernel
theorem dX2_joined_80 : decode cX2_joined 80 = .ok (.if_icmp .le 7, 3) := by decide +kernel
theorem dX2_joined_83 : decode cX2_joined 83 = .ok (.iconst 1, 1) := by decide +kernel
theorem dX2_joined_84 : decode cX2_joined 84 = .ok (.goto 4, 3) := by decide +kernel
theorem dX2_joined_87 : decode cX2_joined 87 = .ok (.iconst 0, 1) := by decide +kernel
theorem dX2_joined_88 : decode cX2_joined 88 = .ok (.ireturn, 1) := by decide +kernel
theorem dX2_joined_89 : decode cX2_joined 89 = .ok (.iload_n 1, 1) := by decide +kernel
theorem dX2_joined_90 : decode cX2_joined 90 = .ok (.iload_n 2, 1) := by decide +kernel
theorem dX2_joined_91 : decode cX2_joined 91 = .ok (.iand, 1) := by decide +kernel
theorem dX2_joined_92 : decode cX2_joined 92 = .ok (.ireturn, 1) := by decide +kernel
theorem dX2_joined_93 : decode cX2_joined 93 = .ok (.iload_n 1, 1) := by decide +kernel
theorem dX2_joined_94 : decode cX2_joined 94 = .ok (.iload_n 2, 1) := by decide +kernel
theorem dX2_joined_95 : decode cX2_joined 95 = .ok (.ior, 1) := by decide +kernel
theorem dX2_joined_96 : decode cX2_joined 96 = .ok (.ireturn, 1) := by decide +kernel
theorem dX3_init_0 : decode cX3_init 0 = .ok (.aload_n 0, 1) := by decide +kernel
theorem dX3_init_1 : decode cX3_init 1 = .ok (.invokespecial 3, 3) := by decide +kernel
theorem dX3_init_4 : decode cX3_init 4 = .ok (.aload_n 0, 1) := by decide +kernel
theorem dX3_init_5 : decode cX3_init 5 = .ok (.sipush 200, 3) := by decide +kernel
theorem dX3_init_8 : decode cX3_init 8 = .ok (.newarray .int, 2) := by decide +kernel
theorem dX3_init_10 : decode cX3_init 10 = .ok (.putfield 9, 3) := by decide +kernel
theorem dX3_init_13 : decode cX3_init 13 = .ok (.aload_n 0, 1) := by decide +kernel
theorem dX3_init_14 : decode cX3_init 14 = .ok (.iconst 0, 1) := by decide +kernel
theorem dX3_init_15 : decode cX3_init 15 = .ok (.putfield 15, 3) := by decide +kernel
theorem dX3_init_18 : decode cX3_init 18 = .ok (.aload_n 0, 1) := by decide +kernel
theorem dX3_init_19 : decode cX3_init 19 = .ok (.aload_n 1, 1) := by decide +kernel
theorem dX3_init_20 : decode cX3_init 20 = .ok (.putfield 19, 3) := by decide +kernel
theorem dX3_init_23 : decode cX3_init 23 = .ok (.return_, 1) := by decide +kernel
theorem dX3_begin_0 : decode cX3_begin 0 = .ok (.aload_n 0, 1) := by decide +kernel
theorem dX3_begin_1 : decode cX3_begin 1 = .ok (.iconst 0, 1) := by decide +kernel
theorem dX3_begin_2 : decode cX3_begin 2 = .ok (.putfield 15, 3) := by decide +kernel
theorem dX3_begin_5 : decode cX3_begin 5 = .ok (.return_, 1) := by decide +kernel
theorem dX3_told_0 : decode cX3_told 0 = .ok (.new 23, 3) := by decide +kernel
theorem dX3_told_3 : decode cX3_told 3 = .ok (.dup, 1) := by decide +kernel
theorem dX3_told_4 : decode cX3_told 4 = .ok (.aload_n 0, 1) := by decide +kernel
theorem dX3_told_5 : decode cX3_told 5 = .ok (.getfield 9, 3) := by decide +kernel
theorem dX3_told_8 : decode cX3_told 8 = .ok (.aload_n 0, 1) := by decide +kernel
theorem dX3_told_9 : decode cX3_told 9 = .ok (.getfield 15, 3) := by decide +kernel
theorem dX3_told_12 : decode cX3_told 12 = .ok (.invokestatic 25, 3) := by decide +kernel
theorem dX3_told_15 : decode cX3_told 15 = .ok (.invokespecial 31, 3) := by decide +kernel
theorem dX3_told_18 : decode cX3_told 18 = .ok (.areturn, 1) := by decide +kernel
theorem dX3_either_0 : decode cX3_either 0 = .ok (.aload_n 0, 1) := by decide +kernel
theorem dX3_either_1 : decode cX3_either 1 = .ok (.iload_n 1, 1) := by decide +kernel
theorem dX3_either_2 : decode cX3_either 2 = .ok (.invokevirtual 34, 3) := by decide +kernel
theorem dX3_either_5 : decode cX3_either 5 = .ok (.ifCond .ne 5, 3) := by decide +kernel
theorem dX3_either_8 : decode cX3_either 8 = .ok (.iconst 0, 1) := by decide +kernel
theorem dX3_either_9 : decode cX3_either 9 = .ok (.ireturn, 1) := by decide +kernel
theorem dX3_either_10 : decode cX3_either 10 = .ok (.iconst 0, 1) := by decide +kernel
theorem dX3_either_11 : decode cX3_either 11 = .ok (.istore_n 2, 1) := by decide +kernel
theorem dX3_either_12 : decode cX3_either 12 = .ok (.iload_n 2, 1) := by decide +kernel
theorem dX3_either_13 : decode cX3_either 13 = .ok (.sipush 200, 3) := by decide +kernel
theorem dX3_either_16 : decode cX3_either 16 = .ok (.if_icmp .ge 38, 3) := by decide +kernel
theorem dX3_either_19 : decode cX3_either 19 = .ok (.aload_n 0, 1) := by decide +kernel
theorem dX3_either_20 : decode cX3_either 20 = .ok (.getfield 19, 3) := by decide +kernel
theorem dX3_either_23 : decode cX3_either 23 = .ok (.sipush 306, 3) := by decide +kernel
theorem dX3_either_26 : decode cX3_either 26 = .ok (.invokevirtual 38, 3) := by decide +kernel
theorem dX3_either_29 : decode cX3_either 29 = .ok (.ifCond .eq 25, 3) := by decide +kernel
theorem dX3_either_32 : decode cX3_either 32 = .ok (.aload_n 0, 1) := by decide +kernel
theorem dX3_either_33 : decode cX3_either 33 = .ok (.iload_n 1, 1) := by decide +kernel
theorem dX3_either_34 : decode cX3_either 34 = .ok (.invokevirtual 34, 3) := by decide +kernel
theorem dX3_either_37 : decode cX3_either 37 = .ok (.ifCond .ne 5, 3) := by decide +kernel
theorem dX3_either_40 : decode cX3_either 40 = .ok (.iconst 0, 1) := by decide +kernel
theorem dX3_either_41 : decode cX3_either 41 = .ok (.ireturn, 1) := by decide +kernel
theorem dX3_either_42 : decode cX3_either 42 = .ok (.aload_n 0, 1) := by decide +kernel
theorem dX3_either_43 : decode cX3_either 43 = .ok (.bipush (-17), 2) := by decide +kernel
theorem dX3_either_45 : decode cX3_either 45 = .ok (.invokevirtual 43, 3) := by decide +kernel
theorem dX3_either_48 : decode cX3_either 48 = .ok (.iinc 2 1, 3) := by decide +kernel
theorem dX3_either_51 : decode cX3_either 51 = .ok (.goto (-39), 3) := by decide +kernel
theorem dX3_either_54 : decode cX3_either 54 = .ok (.iconst 1, 1) := by decide +kernel
theorem dX3_either_55 : decode cX3_either 55 = .ok (.ireturn, 1) := by decide +kernel
theorem dX3_both_0 : decode cX3_both 0 = .ok (.aload_n 0, 1) := by decide +kernel
theorem dX3_both_1 : decode cX3_both 1 = .ok (.iload_n 1, 1) := by decide +kernel
theorem dX3_both_2 : decode cX3_both 2 = .ok (.invokevirtual 47, 3) := by decide +kernel
theorem dX3_both_5 : decode cX3_both 5 = .ok (.ifCond .ne 5, 3) := by decide +kernel
theorem dX3_both_8 : decode cX3_both 8 = .ok (.iconst 0, 1) := by decide +kernel
theorem dX3_both_9 : decode cX3_both 9 = .ok (.ireturn, 1) := by decide +kernel
theorem dX3_both_10 : decode cX3_both 10 = .ok (.iconst 0, 1) := by decide +kernel
theorem dX3_both_11 : decode cX3_both 11 = .ok (.istore_n 2, 1) := by decide +kernel
theorem dX3_both_12 : decode cX3_both 12 = .ok (.iload_n 2, 1) := by decide +kernel
theorem dX3_both_13 : decode cX3_both 13 = .ok (.sipush 200, 3) := by decide +kernel
theorem dX3_both_16 : decode cX3_both 16 = .ok (.if_icmp .ge 38, 3) := by decide +kernel
theorem dX3_both_19 : decode cX3_both 19 = .ok (.aload_n 0, 1) := by decide +kernel
theorem dX3_both_20 : decode cX3_both 20 = .ok (.getfield 19, 3) := by decide +kernel
theorem dX3_both_23 : decode cX3_both 23 = .ok (.sipush 305, 3) := by decide +kernel
theorem dX3_both_26 : decode cX3_both 26 = .ok (.invokevirtual 38, 3) := by decide +kernel
theorem dX3_both_29 : decode cX3_both 29 = .ok (.ifCond .eq 25, 3) := by decide +kernel
theorem dX3_both_32 : decode cX3_both 32 = .ok (.aload_n 0, 1) := by decide +kernel
theorem dX3_both_33 : decode cX3_both 33 = .ok (.iload_n 1, 1) := by decide +kernel
theorem dX3_both_34 : decode cX3_both 34 = .ok (.invokevirtual 47, 3) := by decide +kernel
theorem dX3_both_37 : decode cX3_both 37 = .ok (.ifCond .ne 5, 3) := by decide +kernel
theorem dX3_both_40 : decode cX3_both 40 = .ok (.iconst 0, 1) := by decide +kernel
theorem dX3_both_41 : decode cX3_both 41 = .ok (.ireturn, 1) := by decide +kernel
theorem dX3_both_42 : decode cX3_both 42 = .ok (.aload_n 0, 1) := by decide +kernel
theorem dX3_both_43 : decode cX3_both 43 = .ok (.bipush (-16), 2) := by decide +kernel
theorem dX3_both_45 : decode cX3_both 45 = .ok (.invokevirtual 43, 3) := by decide +kernel
theorem dX3_both_48 : decode cX3_both 48 = .ok (.iinc 2 1, 3) := by decide +kernel
theorem dX3_both_51 : decode cX3_both 51 = .ok (.goto (-39), 3) := by decide +kernel
theorem dX3_both_54 : decode cX3_both 54 = .ok (.iconst 1, 1) := by decide +kernel
theorem dX3_both_55 : decode cX3_both 55 = .ok (.ireturn, 1) := by decide +kernel
theorem dX3_one_0 : decode cX3_one 0 = .ok (.aload_n 0, 1) := by decide +kernel
theorem dX3_one_1 : decode cX3_one 1 = .ok (.getfield 19, 3) := by decide +kernel
theorem dX3_one_4 : decode cX3_one 4 = .ok (.sipush 307, 3) := by decide +kernel
theorem dX3_one_7 : decode cX3_one 7 = .ok (.invokevirtual 50, 3) := by decide +kernel
theorem dX3_one_10 : decode cX3_one 10 = .ok (.ifCond .ne 15, 3) := by decide +kernel
theorem dX3_one_13 : decode cX3_one 13 = .ok (.aload_n 0, 1) := by decide +kernel
theorem dX3_one_14 : decode cX3_one 14 = .ok (.getfield 19, 3) := by decide +kernel
theorem dX3_one_17 : decode cX3_one 17 = .ok (.bipush 40, 2) := by decide +kernel
theorem dX3_one_19 : decode cX3_one 19 = .ok (.invokevirtual 50, 3) := by decide +kernel
theorem dX3_one_22 : decode cX3_one 22 = .ok (.ifCond .eq 83, 3) := by decide +kernel
theorem dX3_one_25 : decode cX3_one 25 = .ok (.iload_n 1, 1) := by decide +kernel
theorem dX3_one_26 : decode cX3_one 26 = .ok (.iconst 4, 1) := by decide +kernel
theorem dX3_one_27 : decode cX3_one 27 = .ok (.if_icmp .lt 5, 3) := by decide +kernel
theorem dX3_one_30 : decode cX3_one 30 = .ok (.iconst 0, 1) := by decide +kernel
theorem dX3_one_31 : decode cX3_one 31 = .ok (.ireturn, 1) := by decide +kernel
theorem dX3_one_32 : decode cX3_one 32 = .ok (.aload_n 0, 1) := by decide +kernel
theorem dX3_one_33 : decode cX3_one 33 = .ok (.getfield 19, 3) := by decide +kernel
theorem dX3_one_36 : decode cX3_one 36 = .ok (.bipush 40, 2) := by decide +kernel
theorem dX3_one_38 : decode cX3_one 38 = .ok (.invokevirtual 38, 3) := by decide +kernel
theorem dX3_one_41 : decode cX3_one 41 = .ok (.ifCond .eq 31, 3) := by decide +kernel
theorem dX3_one_44 : decode cX3_one 44 = .ok (.aload_n 0, 1) := by decide +kernel
theorem dX3_one_45 : decode cX3_one 45 = .ok (.iload_n 1, 1) := by decide +kernel
theorem dX3_one_46 : decode cX3_one 46 = .ok (.iconst 1, 1) := by decide +kernel
theorem dX3_one_47 : decode cX3_one 47 = .ok (.iadd, 1) := by decide +kernel
theorem dX3_one_48 : decode cX3_one 48 = .ok (.invokevirtual 53, 3) := by decide +kernel
theorem dX3_one_51 : decode cX3_one 51 = .ok (.ifCond .eq 19, 3) := by decide +kernel
theorem dX3_one_54 : decode cX3_one 54 = .ok (.aload_n 0, 1) := by decide +kernel
theorem dX3_one_55 : decode cX3_one 55 = .ok (.getfield 19, 3) := by decide +kernel
theorem dX3_one_58 : decode cX3_one 58 = .ok (.bipush 41, 2) := by decide +kernel
theorem dX3_one_60 : decode cX3_one 60 = .ok (.invokevirtual 38, 3) := by decide +kernel
theorem dX3_one_63 : decode cX3_one 63 = .ok (.ifCond .eq 7, 3) := by decide +kernel
theorem dX3_one_66 : decode cX3_one 66 = .ok (.iconst 1, 1) := by decide +kernel
theorem dX3_one_67 : decode cX3_one 67 = .ok (.goto 4, 3) := by decide +kernel
theorem dX3_one_70 : decode cX3_one 70 = .ok (.iconst 0, 1) := by decide +kernel
theorem dX3_one_71 : decode cX3_one 71 = .ok (.ireturn, 1) := by decide +kernel
theorem dX3_one_72 : decode cX3_one 72 = .ok (.aload_n 0, 1) := by decide +kernel
theorem dX3_one_73 : decode cX3_one 73 = .ok (.getfield 19, 3) := by decide +kernel
theorem dX3_one_76 : decode cX3_one 76 = .ok (.sipush 307, 3) := by decide +kernel
theorem dX3_one_79 : decode cX3_one 79 = .ok (.invokevirtual 38, 3) := by decide +kernel
theorem dX3_one_82 : decode cX3_one 82 = .ok (.ifCond .eq 13, 3) := by decide +kernel
theorem dX3_one_85 : decode cX3_one 85 = .ok (.aload_n 0, 1) := by decide +kernel
theorem dX3_one_86 : decode cX3_one 86 = .ok (.iload_n 1, 1) := by decide +kernel
theorem dX3_one_87 : decode cX3_one 87 = .ok (.iconst 1, 1) := by decide +kernel
theorem dX3_one_88 : decode cX3_one 88 = .ok (.iadd, 1) := by decide +kernel
theorem dX3_one_89 : decode cX3_one 89 = .ok (.invokevirtual 47, 3) := by decide +kernel
theorem dX3_one_92 : decode cX3_one 92 = .ok (.ifCond .ne 5, 3) := by decide +kernel
theorem dX3_one_95 : decode cX3_one 95 = .ok (.iconst 0, 1) := by decide +kernel
theorem dX3_one_96 : decode cX3_one 96 = .ok (.ireturn, 1) := by decide +kernel
theorem dX3_one_97 : decode cX3_one 97 = .ok (.aload_n 0, 1) := by decide +kernel
theorem dX3_one_98 : decode cX3_one 98 = .ok (.bipush (-9), 2) := by decide +kernel
theorem dX3_one_100 : decode cX3_one 100 = .ok (.invokevirtual 43, 3) := by decide +kernel
theorem dX3_one_103 : decode cX3_one 103 = .ok (.iconst 1, 1) := by decide +kernel
theorem dX3_one_104 : decode cX3_one 104 = .ok (.ireturn, 1) := by decide +kernel
theorem dX3_one_105 : decode cX3_one 105 = .ok (.aload_n 0, 1) := by decide +kernel
theorem dX3_one_106 : decode cX3_one 106 = .ok (.iload_n 1, 1) := by decide +kernel
theorem dX3_one_107 : decode cX3_one 107 = .ok (.invokevirtual 56, 3) := by decide +kernel
theorem dX3_one_110 : decode cX3_one 110 = .ok (.ifCond .ne 5, 3) := by decide +kernel
theorem dX3_one_113 : decode cX3_one 113 = .ok (.iconst 0, 1) := by decide +kernel
theorem dX3_one_114 : decode cX3_one 114 = .ok (.ireturn, 1) := by decide +kernel
theorem dX3_one_115 : decode cX3_one 115 = .ok (.aload_n 0, 1) := by decide +kernel
theorem dX3_one_116 : decode cX3_one 116 = .ok (.getfield 19, 3) := by decide +kernel
theorem dX3_one_119 : decode cX3_one 119 = .ok (.invokevirtual 59, 3) := by decide +kernel
theorem dX3_one_122 : decode cX3_one 122 = .ok (.istore_n 2, 1) := by decide +kernel
theorem dX3_one_123 : decode cX3_one 123 = .ok (.aload_n 0, 1) := by decide +kernel
theorem dX3_one_124 : decode cX3_one 124 = .ok (.getfield 19, 3) := by decide +kernel
theorem dX3_one_127 : decode cX3_one 127 = .ok (.bipush 60, 2) := by decide +kernel
theorem dX3_one_129 : decode cX3_one 129 = .ok (.invokevirtual 38, 3) := by decide +kernel
theorem dX3_one_132 : decode cX3_one 132 = .ok (.ifCond .ne 27, 3) := by decide +kernel
theorem dX3_one_135 : decode cX3_one 135 = .ok (.aload_n 0, 1) := by decide +kernel
theorem dX3_one_136 : decode cX3_one 136 = .ok (.getfield 19, 3) := by decide +kernel
theorem dX3_one_139 : decode cX3_one 139 = .ok (.bipush 61, 2) := by decide +kernel
theorem dX3_one_141 : decode cX3_one 141 = .ok (.invokevirtual 38, 3) := by decide +kernel
theorem dX3_one_144 : decode cX3_one 144 = .ok (.ifCond .ne 15, 3) := by decide +kernel
theorem dX3_one_147 : decode cX3_one 147 = .ok (.aload_n 0, 1) := by decide +kernel
theorem dX3_one_148 : decode cX3_one 148 = .ok (.getfield 19, 3) := by decide +kernel
theorem dX3_one_151 : decode cX3_one 151 = .ok (.bipush 62, 2) := by decide +kernel
theorem dX3_one_153 : decode cX3_one 153 = .ok (.invokevirtual 38, 3) := by decide +kernel
theorem dX3_one_156 : decode cX3_one 156 = .ok (.ifCond .eq 7, 3) := by decide +kernel
theorem dX3_one_159 : decode cX3_one 159 = .ok (.iconst 1, 1) := by decide +kernel
theorem dX3_one_160 : decode cX3_one 160 = .ok (.goto 4, 3) := by decide +kernel
theorem dX3_one_163 : decode cX3_one 163 = .ok (.iconst 0, 1) := by decide +kernel
theorem dX3_one_164 : decode cX3_one 164 = .ok (.istore_n 3, 1) := by decide +kernel
theorem dX3_one_165 : decode cX3_one 165 = .ok (.iload_n 3, 1) := by decide +kernel
theorem dX3_one_166 : decode cX3_one 166 = .ok (.ifCond .eq 11, 3) := by decide +kernel
theorem dX3_one_169 : decode cX3_one 169 = .ok (.aload_n 0, 1) := by decide +kernel
theorem dX3_one_170 : decode cX3_one 170 = .ok (.iload_n 1, 1) := by decide +kernel
theorem dX3_one_171 : decode cX3_one 171 = .ok (.invokevirtual 56, 3) := by decide +kernel
theorem dX3_one_174 : decode cX3_one 174 = .ok (.ifCond .ne 5, 3) := by decide +kernel
theorem dX3_one_177 : decode cX3_one 177 = .ok (.iconst 0, 1) := by decide +kernel
theorem dX3_one_178 : decode cX3_one 178 = .ok (.ireturn, 1) := by decide +kernel
theorem dX3_one_179 : decode cX3_one 179 = .ok (.aload_n 0, 1) := by decide +kernel
theorem dX3_one_180 : decode cX3_one 180 = .ok (.iload_n 2, 1) := by decide +kernel
theorem dX3_one_181 : decode cX3_one 181 = .ok (.bipush 60, 2) := by decide +kernel
theorem dX3_one_183 : decode cX3_one 183 = .ok (.if_icmp .ne 8, 3) := by decide +kernel
theorem dX3_one_186 : decode cX3_one 186 = .ok (.bipush (-13), 2) := by decide +kernel
theorem dX3_one_188 : decode cX3_one 188 = .ok (.goto 16, 3) := by decide +kernel
theorem dX3_one_191 : decode cX3_one 191 = .ok (.iload_n 2, 1) := by decide +kernel
theorem dX3_one_192 : decode cX3_one 192 = .ok (.bipush 61, 2) := by decide +kernel
theorem dX3_one_194 : decode cX3_one 194 = .ok (.if_icmp .ne 8, 3) := by decide +kernel
theorem dX3_one_197 : decode cX3_one 197 = .ok (.bipush (-14), 2) := by decide +kernel
theorem dX3_one_199 : decode cX3_one 199 = .ok (.goto 5, 3) := by decide +kernel
theorem dX3_one_202 : decode cX3_one 202 = .ok (.bipush (-15), 2) := by decide +kernel
theorem dX3_one_204 : decode cX3_one 204 = .ok (.invokevirtual 43, 3) := by decide +kernel
theorem dX3_one_207 : decode cX3_one 207 = .ok (.iconst 1, 1) := by decide +kernel
theorem dX3_one_208 : decode cX3_one 208 = .ok (.ireturn, 1) := by decide +kernel
theorem dX3_sum_0 : decode cX3_sum 0 = .ok (.aload_n 0, 1) := by decide +kernel
theorem dX3_sum_1 : decode cX3_sum 1 = .ok (.iload_n 1, 1) := by decide +kernel
theorem dX3_sum_2 : decode cX3_sum 2 = .ok (.invokevirtual 62, 3) := by decide +kernel
theorem dX3_sum_5 : decode cX3_sum 5 = .ok (.ifCond .ne 5, 3) := by decide +kernel
theorem dX3_sum_8 : decode cX3_sum 8 = .ok (.iconst 0, 1) := by decide +kernel
theorem dX3_sum_9 : decode cX3_sum 9 = .ok (.ireturn, 1) := by decide +kernel
theorem dX3_sum_10 : decode cX3_sum 10 = .ok (.iconst 0, 1) := by decide +kernel
theorem dX3_sum_11 : decode cX3_sum 11 = .ok (.istore_n 2, 1) := by decide +kernel
theorem dX3_sum_12 : decode cX3_sum 12 = .ok (.iload_n 2, 1) := by decide +kernel
theorem dX3_sum_13 : decode cX3_sum 13 = .ok (.sipush 200, 3) := by decide +kernel
theorem dX3_sum_16 : decode cX3_sum 16 = .ok (.if_icmp .ge 71, 3) := by decide +kernel
theorem dX3_sum_19 : decode cX3_sum 19 = .ok (.aload_n 0, 1) := by decide +kernel
theorem dX3_sum_20 : decode cX3_sum 20 = .ok (.getfield 19, 3) := by decide +kernel
theorem dX3_sum_23 : decode cX3_sum 23 = .ok (.invokevirtual 59, 3) := by decide +kernel
theorem dX3_sum_26 : decode cX3_sum 26 = .ok (.istore_n 3, 1) := by decide +kernel
theorem dX3_sum_27 : decode cX3_sum 27 = .ok (.aload_n 0, 1) := by decide +kernel
theorem dX3_sum_28 : decode cX3_sum 28 = .ok (.getfield 19, 3) := by decide +kernel
theorem dX3_sum_31 : decode cX3_sum 31 = .ok (.bipush 43, 2) := by decide +kernel
theorem dX3_sum_33 : decode cX3_sum 33 = .ok (.invokevirtual 38, 3) := by decide +kernel
theorem dX3_sum_36 : decode cX3_sum 36 = .ok (.ifCond .ne 18, 3) := by decide +kernel
theorem dX3_sum_39 : decode cX3_sum 39 = .ok (.aload_n 0, 1) := by decide +kernel
theorem dX3_sum_40 : decode cX3_sum 40 = .ok (.getfield 19, 3) := by decide +kernel
theorem dX3_sum_43 : decode cX3_sum 43 = .ok (.bipush 45, 2) := by decide +kernel
theorem dX3_sum_45 : decode cX3_sum 45 = .ok (.invokevirtual 38, 3) := by decide +kernel
theorem dX3_sum_48 : decode cX3_sum 48 = .ok (.ifCond .ne 6, 3) := by decide +kernel
theorem dX3_sum_51 : decode cX3_sum 51 = .ok (.goto 36, 3) := by decide +kernel
theorem dX3_sum_54 : decode cX3_sum 54 = .ok (.aload_n 0, 1) := by decide +kernel
theorem dX3_sum_55 : decode cX3_sum 55 = .ok (.iload_n 1, 1) := by decide +kernel
theorem dX3_sum_56 : decode cX3_sum 56 = .ok (.invokevirtual 62, 3) := by decide +kernel
theorem dX3_sum_59 : decode cX3_sum 59 = .ok (.ifCond .ne 5, 3) := by decide +kernel
theorem dX3_sum_62 : decode cX3_sum 62 = .ok (.iconst 0, 1) := by decide +kernel
theorem dX3_sum_63 : decode cX3_sum 63 = .ok (.ireturn, 1) := by decide +kernel
theorem dX3_sum_64 : decode cX3_sum 64 = .ok (.aload_n 0, 1) := by decide +kernel
theorem dX3_sum_65 : decode cX3_sum 65 = .ok (.iload_n 3, 1) := by decide +kernel
theorem dX3_sum_66 : decode cX3_sum 66 = .ok (.bipush 43, 2) := by decide +kernel
theorem dX3_sum_68 : decode cX3_sum 68 = .ok (.if_icmp .ne 8, 3) := by decide +kernel
theorem dX3_sum_71 : decode cX3_sum 71 = .ok (.bipush (-11), 2) := by decide +kernel
theorem dX3_sum_73 : decode cX3_sum 73 = .ok (.goto 5, 3) := by decide +kernel
theorem dX3_sum_76 : decode cX3_sum 76 = .ok (.bipush (-12), 2) := by decide +kernel
theorem dX3_sum_78 : decode cX3_sum 78 = .ok (.invokevirtual 43, 3) := by decide +kernel
theorem dX3_sum_81 : decode cX3_sum 81 = .ok (.iinc 2 1, 3) := by decide +kernel
theorem dX3_sum_84 : decode cX3_sum 84 = .ok (.goto (-72), 3) := by decide +kernel
theorem dX3_sum_87 : decode cX3_sum 87 = .ok (.iconst 1, 1) := by decide +kernel
theorem dX3_sum_88 : decode cX3_sum 88 = .ok (.ireturn, 1) := by decide +kernel
theorem dX3_term_0 : decode cX3_term 0 = .ok (.aload_n 0, 1) := by decide +kernel
theorem dX3_term_1 : decode cX3_term 1 = .ok (.iload_n 1, 1) := by decide +kernel
theorem dX3_term_2 : decode cX3_term 2 = .ok (.invokevirtual 65, 3) := by decide +kernel
theorem dX3_term_5 : decode cX3_term 5 = .ok (.ifCond .ne 5, 3) := by decide +kernel
theorem dX3_term_8 : decode cX3_term 8 = .ok (.iconst 0, 1) := by decide +kernel
theorem dX3_term_9 : decode cX3_term 9 = .ok (.ireturn, 1) := by decide +kernel
theorem dX3_term_10 : decode cX3_term 10 = .ok (.iconst 0, 1) := by decide +kernel
theorem dX3_term_11 : decode cX3_term 11 = .ok (.istore_n 2, 1) := by decide +kernel
theorem dX3_term_12 : decode cX3_term 12 = .ok (.iload_n 2, 1) := by decide +kernel
theorem dX3_term_13 : decode cX3_term 13 = .ok (.sipush 200, 3) := by decide +kernel
theorem dX3_term_16 : decode cX3_term 16 = .ok (.if_icmp .ge 37, 3) := by decide +kernel
theorem dX3_term_19 : decode cX3_term 19 = .ok (.aload_n 0, 1) := by decide +kernel
theorem dX3_term_20 : decode cX3_term 20 = .ok (.getfield 19, 3) := by decide +kernel
theorem dX3_term_23 : decode cX3_term 23 = .ok (.bipush 42, 2) := by decide +kernel
theorem dX3_term_25 : decode cX3_term 25 = .ok (.invokevirtual 38, 3) := by decide +kernel
theorem dX3_term_28 : decode cX3_term 28 = .ok (.ifCond .eq 25, 3) := by decide +kernel
theorem dX3_term_31 : decode cX3_term 31 = .ok (.aload_n 0, 1) := by decide +kernel
theorem dX3_term_32 : decode cX3_term 32 = .ok (.iload_n 1, 1) := by decide +kernel
theorem dX3_term_33 : decode cX3_term 33 = .ok (.invokevirtual 65, 3) := by decide +kernel
theorem dX3_term_36 : decode cX3_term 36 = .ok (.ifCond .ne 5, 3) := by decide +kernel
theorem dX3_term_39 : decode cX3_term 39 = .ok (.iconst 0, 1) := by decide +kernel
theorem dX3_term_40 : decode cX3_term 40 = .ok (.ireturn, 1) := by decide +kernel
theorem dX3_term_41 : decode cX3_term 41 = .ok (.aload_n 0, 1) := by decide +kernel
theorem dX3_term_42 : decode cX3_term 42 = .ok (.bipush (-10), 2) := by decide +kernel
theorem dX3_term_44 : decode cX3_term 44 = .ok (.invokevirtual 43, 3) := by decide +kernel
theorem dX3_term_47 : decode cX3_term 47 = .ok (.iinc 2 1, 3) := by decide +kernel
theorem dX3_term_50 : decode cX3_term 50 = .ok (.goto (-38), 3) := by decide +kernel
theorem dX3_term_53 : decode cX3_term 53 = .ok (.iconst 1, 1) := by decide +kernel
theorem dX3_term_54 : decode cX3_term 54 = .ok (.ireturn, 1) := by decide +kernel
theorem dX3_at_0 : decode cX3_at 0 = .ok (.aload_n 0, 1) := by decide +kernel
theorem dX3_at_1 : decode cX3_at 1 = .ok (.getfield 19, 3) := by decide +kernel
theorem dX3_at_4 : decode cX3_at 4 = .ok (.bipush 45, 2) := by decide +kernel
theorem dX3_at_6 : decode cX3_at 6 = .ok (.invokevirtual 50, 3) := by decide +kernel
theorem dX3_at_9 : decode cX3_at 9 = .ok (.ifCond .eq 40, 3) := by decide +kernel
theorem dX3_at_12 : decode cX3_at 12 = .ok (.iload_n 1, 1) := by decide +kernel
theorem dX3_at_13 : decode cX3_at 13 = .ok (.iconst 4, 1) := by decide +kernel
theorem dX3_at_14 : decode cX3_at 14 = .ok (.if_icmp .ge 25, 3) := by decide +kernel
theorem dX3_at_17 : decode cX3_at 17 = .ok (.aload_n 0, 1) := by decide +kernel
theorem dX3_at_18 : decode cX3_at 18 = .ok (.getfield 19, 3) := by decide +kernel
theorem dX3_at_21 : decode cX3_at 21 = .ok (.bipush 45, 2) := by decide +kernel
theorem dX3_at_23 : decode cX3_at 23 = .ok (.invokevirtual 38, 3) := by decide +kernel
theorem dX3_at_26 : decode cX3_at 26 = .ok (.ifCond .eq 13, 3) := by decide +kernel
theorem dX3_at_29 : decode cX3_at 29 = .ok (.aload_n 0, 1) := by decide +kernel
theorem dX3_at_30 : decode cX3_at 30 = .ok (.iload_n 1, 1) := by decide +kernel
theorem dX3_at_31 : decode cX3_at 31 = .ok (.iconst 1, 1) := by decide +kernel
theorem dX3_at_32 : decode cX3_at 32 = .ok (.iadd, 1) := by decide +kernel
theorem dX3_at_33 : decode cX3_at 33 = .ok (.invokevirtual 65, 3) := by decide +kernel
theorem dX3_at_36 : decode cX3_at 36 = .ok (.ifCond .ne 5, 3) := by decide +kernel
theorem dX3_at_39 : decode cX3_at 39 = .ok (.iconst 0, 1) := by decide +kernel
theorem dX3_at_40 : decode cX3_at 40 = .ok (.ireturn, 1) := by decide +kernel
theorem dX3_at_41 : decode cX3_at 41 = .ok (.aload_n 0, 1) := by decide +kernel
theorem dX3_at_42 : decode cX3_at 42 = .ok (.bipush (-8), 2) := by decide +kernel
theorem dX3_at_44 : decode cX3_at 44 = .ok (.invokevirtual 43, 3) := by decide +kernel
theorem dX3_at_47 : decode cX3_at 47 = .ok (.iconst 1, 1) := by decide +kernel
theorem dX3_at_48 : decode cX3_at 48 = .ok (.ireturn, 1) := by decide +kernel
theorem dX3_at_49 : decode cX3_at 49 = .ok (.aload_n 0, 1) := by decide +kernel
theorem dX3_at_50 : decode cX3_at 50 = .ok (.getfield 19, 3) := by decide +kernel
theorem dX3_at_53 : decode cX3_at 53 = .ok (.invokevirtual 59, 3) := by decide +kernel
theorem dX3_at_56 : decode cX3_at 56 = .ok (.istore_n 2, 1) := by decide +kernel
theorem dX3_at_57 : decode cX3_at 57 = .ok (.iload_n 2, 1) := by decide +kernel
theorem dX3_at_58 : decode cX3_at 58 = .ok (.sipush 256, 3) := by decide +kernel
theorem dX3_at_61 : decode cX3_at 61 = .ok (.if_icmp .ne 17, 3) := by decide +kernel
theorem dX3_at_64 : decode cX3_at 64 = .ok (.aload_n 0, 1) := by decide +kernel
theorem dX3_at_65 : decode cX3_at 65 = .ok (.aload_n 0, 1) := by decide +kernel
theorem dX3_at_66 : decode cX3_at 66 = .ok (.getfield 19, 3) := by decide +kernel
theorem dX3_at_69 : decode cX3_at 69 = .ok (.invokevirtual 68, 3) := by decide +kernel
theorem dX3_at_72 : decode cX3_at 72 = .ok (.invokevirtual 43, 3) := by decide +kernel
theorem dX3_at_75 : decode cX3_at 75 = .ok (.goto 33, 3) := by decide +kernel
theorem dX3_at_78 : decode cX3_at 78 = .ok (.iload_n 2, 1) := by decide +kernel
theorem dX3_at_79 : decode cX3_at 79 = .ok (.sipush 308, 3) := by decide +kernel
theorem dX3_at_82 : decode cX3_at 82 = .ok (.if_icmp .lt 24, 3) := by decide +kernel
theorem dX3_at_85 : decode cX3_at 85 = .ok (.iload_n 2, 1) := by decide +kernel
theorem dX3_at_86 : decode cX3_at 86 = .ok (.sipush 314, 3) := by decide +kernel
theorem dX3_at_89 : decode cX3_at 89 = .ok (.if_icmp .gt 17, 3) := by decide +kernel
theorem dX3_at_92 : decode cX3_at 92 = .ok (.aload_n 0, 1) := by decide +kernel
theorem dX3_at_93 : decode cX3_at 93 = .ok (.iconst (-1), 1) := by decide +kernel
theorem dX3_at_94 : decode cX3_at 94 = .ok (.iload_n 2, 1) := by decide +kernel
theorem dX3_at_95 : decode cX3_at 95 = .ok (.sipush 308, 3) := by decide +kernel
theorem dX3_at_98 : decode cX3_at 98 = .ok (.isub, 1) := by decide +kernel
theorem dX3_at_99 : decode cX3_at 99 = .ok (.isub, 1) := by decide +kernel
theorem dX3_at_100 : decode cX3_at 100 = .ok (.invokevirtual 43, 3) := by decide +kernel
theorem dX3_at_103 : decode cX3_at 103 = .ok (.goto 5, 3) := by decide +kernel
theorem dX3_at_106 : decode cX3_at 106 = .ok (.iconst 0, 1) := by decide +kernel
theorem dX3_at_107 : decode cX3_at 107 = .ok (.ireturn, 1) := by decide +kernel
theorem dX3_at_108 : decode cX3_at 108 = .ok (.aload_n 0, 1) := by decide +kernel
theorem dX3_at_109 : decode cX3_at 109 = .ok (.getfield 19, 3) := by decide +kernel
theorem dX3_at_112 : decode cX3_at 112 = .ok (.iload_n 2, 1) := by decide +kernel
theorem dX3_at_113 : decode cX3_at 113 = .ok (.invokevirtual 38, 3) := by decide +kernel
theorem dX3_at_116 : decode cX3_at 116 = .ok (.ireturn, 1) := by decide +kernel
theorem dX3_emit_0 : decode cX3_emit 0 = .ok (.aload_n 0, 1) := by decide +kernel
theorem dX3_emit_1 : decode cX3_emit 1 = .ok (.getfield 15, 3) := by decide +kernel
theorem dX3_emit_4 : decode cX3_emit 4 = .ok (.aload_n 0, 1) := by decide +kernel
theorem dX3_emit_5 : decode cX3_emit 5 = .ok (.getfield 9, 3) := by decide +kernel
theorem dX3_emit_8 : decode cX3_emit 8 = .ok (.arraylength, 1) := by decide +kernel
theorem dX3_emit_9 : decode cX3_emit 9 = .ok (.if_icmp .ge 23, 3) := by decide +kernel
theorem dX3_emit_12 : decode cX3_emit 12 = .ok (.aload_n 0, 1) := by decide +kernel
theorem dX3_emit_13 : decode cX3_emit 13 = .ok (.getfield 9, 3) := by decide +kernel
theorem dX3_emit_16 : decode cX3_emit 16 = .ok (.aload_n 0, 1) := by decide +kernel
theorem dX3_emit_17 : decode cX3_emit 17 = .ok (.getfield 15, 3) := by decide +kernel
theorem dX3_emit_20 : decode cX3_emit 20 = .ok (.iload_n 1, 1) := by decide +kernel
theorem dX3_emit_21 : decode cX3_emit 21 = .ok (.iastore, 1) := by decide +kernel
theorem dX3_emit_22 : decode cX3_emit 22 = .ok (.aload_n 0, 1) := by decide +kernel
theorem dX3_emit_23 : decode cX3_emit 23 = .ok (.dup, 1) := by decide +kernel
theorem dX3_emit_24 : decode cX3_emit 24 = .ok (.getfield 15, 3) := by decide +kernel
theorem dX3_emit_27 : decode cX3_emit 27 = .ok (.iconst 1, 1) := by decide +kernel
theorem dX3_emit_28 : decode cX3_emit 28 = .ok (.iadd, 1) := by decide +kernel
theorem dX3_emit_29 : decode cX3_emit 29 = .ok (.putfield 15, 3) := by decide +kernel
theorem dX3_emit_32 : decode cX3_emit 32 = .ok (.return_, 1) := by decide +kernel
theorem dX4_init_0 : decode cX4_init 0 = .ok (.aload_n 0, 1) := by decide +kernel
theorem dX4_init_1 : decode cX4_init 1 = .ok (.invokespecial 3, 3) := by decide +kernel
theorem dX4_init_4 : decode cX4_init 4 = .ok (.aload_n 0, 1) := by decide +kernel
theorem dX4_init_5 : decode cX4_init 5 = .ok (.iconst (-1), 1) := by decide +kernel
theorem dX4_init_6 : decode cX4_init 6 = .ok (.putfield 9, 3) := by decide +kernel
theorem dX4_init_9 : decode cX4_init 9 = .ok (.aload_n 0, 1) := by decide +kernel
theorem dX4_init_10 : decode cX4_init 10 = .ok (.iconst 0, 1) := by decide +kernel
theorem dX4_init_11 : decode cX4_init 11 = .ok (.putfield 15, 3) := by decide +kernel
theorem dX4_init_14 : decode cX4_init 14 = .ok (.aload_n 0, 1) := by decide +kernel
theorem dX4_init_15 : decode cX4_init 15 = .ok (.bipush 40, 2) := by decide +kernel
theorem dX4_init_17 : decode cX4_init 17 = .ok (.newarray .int, 2) := by decide +kernel
theorem dX4_init_19 : decode cX4_init 19 = .ok (.putfield 18, 3) := by decide +kernel
theorem dX4_init_22 : decode cX4_init 22 = .ok (.return_, 1) := by decide +kernel
theorem dX4_begin_0 : decode cX4_begin 0 = .ok (.aload_n 0, 1) := by decide +kernel
theorem dX4_begin_1 : decode cX4_begin 1 = .ok (.iload_n 1, 1) := by decide +kernel
theorem dX4_begin_2 : decode cX4_begin 2 = .ok (.putfield 9, 3) := by decide +kernel
theorem dX4_begin_5 : decode cX4_begin 5 = .ok (.aload_n 0, 1) := by decide +kernel
theorem dX4_begin_6 : decode cX4_begin 6 = .ok (.iload_n 2, 1) := by decide +kernel
theorem dX4_begin_7 : decode cX4_begin 7 = .ok (.putfield 15, 3) := by decide +kernel
theorem dX4_begin_10 : decode cX4_begin 10 = .ok (.aload_n 0, 1) := by decide +kernel
theorem dX4_begin_11 : decode cX4_begin 11 = .ok (.getfield 18, 3) := by decide +kernel
theorem dX4_begin_14 : decode cX4_begin 14 = .ok (.iconst 0, 1) := by decide +kernel
theorem dX4_begin_15 : decode cX4_begin 15 = .ok (.invokestatic 22, 3) := by decide +kernel
theorem dX4_begin_18 : decode cX4_begin 18 = .ok (.return_, 1) := by decide +kernel
theorem dX4_hasItem_0 : decode cX4_hasItem 0 = .ok (.iload_n 1, 1) := by decide +kernel
theorem dX4_hasItem_1 : decode cX4_hasItem 1 = .ok (.ifCond .lt 15, 3) := by decide +kernel
theorem dX4_hasItem_4 : decode cX4_hasItem 4 = .ok (.iload_n 1, 1) := by decide +kernel
theorem dX4_hasItem_5 : decode cX4_hasItem 5 = .ok (.aload_n 0, 1) := by decide +kernel
theorem dX4_hasItem_6 : decode cX4_hasItem 6 = .ok (.getfield 15, 3) := by decide +kernel
theorem dX4_hasItem_9 : decode cX4_hasItem 9 = .ok (.if_icmp .ge 7, 3) := by decide +kernel
theorem dX4_hasItem_12 : decode cX4_hasItem 12 = .ok (.iconst 1, 1) := by decide +kernel
theorem dX4_hasItem_13 : decode cX4_hasItem 13 = .ok (.goto 4, 3) := by decide +kernel
theorem dX4_hasItem_16 : decode cX4_hasItem 16 = .ok (.iconst 0, 1) := by decide +kernel
theorem dX4_hasItem_17 : decode cX4_hasItem 17 = .ok (.ireturn, 1) := by decide +kernel
theorem dX4_write_0 : decode cX4_write 0 = .ok (.aload_n 0, 1) := by decide +kernel
theorem dX4_write_1 : decode cX4_write 1 = .ok (.getfield 18, 3) := by decide +kernel
theorem dX4_write_4 : decode cX4_write 4 = .ok (.iload_n 1, 1) := by decide +kernel
theorem dX4_write_5 : decode cX4_write 5 = .ok (.aload_n 0, 1) := by decide +kernel
theorem dX4_write_6 : decode cX4_write 6 = .ok (.getfield 9, 3) := by decide +kernel
theorem dX4_write_9 : decode cX4_write 9 = .ok (.ifCond .ne 8, 3) := by decide +kernel
theorem dX4_write_12 : decode cX4_write 12 = .ok (.iload_n 2, 1) := by decide +kernel
theorem dX4_write_13 : decode cX4_write 13 = .ok (.i2b, 1) := by decide +kernel
theorem dX4_write_14 : decode cX4_write 14 = .ok (.goto 17, 3) := by decide +kernel
theorem dX4_write_17 : decode cX4_write 17 = .ok (.aload_n 0, 1) := by decide +kernel
theorem dX4_write_18 : decode cX4_write 18 = .ok (.getfield 9, 3) := by decide +kernel
theorem dX4_write_21 : decode cX4_write 21 = .ok (.iconst 1, 1) := by decide +kernel
theorem dX4_write_22 : decode cX4_write 22 = .ok (.if_icmp .ne 8, 3) := by decide +kernel
theorem dX4_write_25 : decode cX4_write 25 = .ok (.iload_n 2, 1) := by decide +kernel
theorem dX4_write_26 : decode cX4_write 26 = .ok (.i2s, 1) := by decide +kernel
theorem dX4_write_27 : decode cX4_write 27 = .ok (.goto 4, 3) := by decide +kernel
theorem dX4_write_30 : decode cX4_write 30 = .ok (.iload_n 2, 1) := by decide +kernel
theorem dX4_write_31 : decode cX4_write 31 = .ok (.iastore, 1) := by decide +kernel
theorem dX4_write_32 : decode cX4_write 32 = .ok (.return_, 1) := by decide +kernel
theorem dX5_init_0 : decode cX5_init 0 = .ok (.aload_n 0, 1) := by decide +kernel
theorem dX5_init_1 : decode cX5_init 1 = .ok (.invokespecial 3, 3) := by decide +kernel
theorem dX5_init_4 : decode cX5_init 4 = .ok (.aload_n 0, 1) := by decide +kernel
theorem dX5_init_5 : decode cX5_init 5 = .ok (.iconst 2, 1) := by decide +kernel
theorem dX5_init_6 : decode cX5_init 6 = .ok (.putfield 9, 3) := by decide +kernel
theorem dX5_init_9 : decode cX5_init 9 = .ok (.aload_n 0, 1) := by decide +kernel
theorem dX5_init_10 : decode cX5_init 10 = .ok (.iconst 0, 1) := by decide +kernel
theorem dX5_init_11 : decode cX5_init 11 = .ok (.putfield 15, 3) := by decide +kernel
theorem dX5_init_14 : decode cX5_init 14 = .ok (.aload_n 0, 1) := by decide +kernel
theorem dX5_init_15 : decode cX5_init 15 = .ok (.iconst 0, 1) := by decide +kernel
theorem dX5_init_16 : decode cX5_init 16 = .ok (.putfield 18, 3) := by decide +kernel
theorem dX5_init_19 : decode cX5_init 19 = .ok (.aload_n 0, 1) := by decide +kernel
theorem dX5_init_20 : decode cX5_init 20 = .ok (.iconst 0, 1) := by decide +kernel
theorem dX5_init_21 : decode cX5_init 21 = .ok (.putfield 21, 3) := by decide +kernel
theorem dX5_init_24 : decode cX5_init 24 = .ok (.return_, 1) := by decide +kernel
theorem dX5_holdPart_0 : decode cX5_holdPart 0 = .ok (.aload_n 0, 1) := by decide +kernel
theorem dX5_holdPart_1 : decode cX5_holdPart 1 = .ok (.iconst 0, 1) := by decide +kernel
theorem dX5_holdPart_2 : decode cX5_holdPart 2 = .ok (.putfield 9, 3) := by decide +kernel
theorem dX5_holdPart_5 : decode cX5_holdPart 5 = .ok (.aload_n 0, 1) := by decide +kernel
theorem dX5_holdPart_6 : decode cX5_holdPart 6 = .ok (.iload_n 1, 1) := by decide +kernel
theorem dX5_holdPart_7 : decode cX5_holdPart 7 = .ok (.putfield 15, 3) := by decide +kernel
theorem dX5_holdPart_10 : decode cX5_holdPart 10 = .ok (.return_, 1) := by decide +kernel
theorem dX5_holdRow_0 : decode cX5_holdRow 0 = .ok (.aload_n 0, 1) := by decide +kernel
theorem dX5_holdRow_1 : decode cX5_holdRow 1 = .ok (.iconst 1, 1) := by decide +kernel
theorem dX5_holdRow_2 : decode cX5_holdRow 2 = .ok (.putfield 9, 3) := by decide +kernel
theorem dX5_holdRow_5 : decode cX5_holdRow 5 = .ok (.aload_n 0, 1) := by decide +kernel
theorem dX5_holdRow_6 : decode cX5_holdRow 6 = .ok (.iload_n 1, 1) := by decide +kernel
theorem dX5_holdRow_7 : decode cX5_holdRow 7 = .ok (.putfield 18, 3) := by decide +kernel
theorem dX5_holdRow_10 : decode cX5_holdRow 10 = .ok (.aload_n 0, 1) := by decide +kernel
theorem dX5_holdRow_11 : decode cX5_holdRow 11 = .ok (.iload_n 2, 1) := by decide +kernel
theorem dX5_holdRow_12 : decode cX5_holdRow 12 = .ok (.putfield 21, 3) := by decide +kernel
theorem dX5_holdRow_15 : decode cX5_holdRow 15 = .ok (.return_, 1) := by decide +kernel
theorem dX5_holdNothing_0 : decode cX5_holdNothing 0 = .ok (.aload_n 0, 1) := by decide +kernel
theorem dX5_holdNothing_1 : decode cX5_holdNothing 1 = .ok (.iconst 2, 1) := by decide +kernel
theorem dX5_holdNothing_2 : decode cX5_holdNothing 2 = .ok (.putfield 9, 3) := by decide +kernel
theorem dX5_holdNothing_5 : decode cX5_holdNothing 5 = .ok (.return_, 1) := by decide +kernel
theorem dX6_init_0 : decode cX6_init 0 = .ok (.aload_n 0, 1) := by decide +kernel
theorem dX6_init_1 : decode cX6_init 1 = .ok (.invokespecial 3, 3) := by decide +kernel
theorem dX6_init_4 : decode cX6_init 4 = .ok (.aload_n 0, 1) := by decide +kernel
theorem dX6_init_5 : decode cX6_init 5 = .ok (.iload_n 1, 1) := by decide +kernel
theorem dX6_init_6 : decode cX6_init 6 = .ok (.putfield 9, 3) := by decide +kernel
theorem dX6_init_9 : decode cX6_init 9 = .ok (.aload_n 0, 1) := by decide +kernel
theorem dX6_init_10 : decode cX6_init 10 = .ok (.iload_n 2, 1) := by decide +kernel
theorem dX6_init_11 : decode cX6_init 11 = .ok (.putfield 15, 3) := by decide +kernel
theorem dX6_init_14 : decode cX6_init 14 = .ok (.aload_n 0, 1) := by decide +kernel
theorem dX6_init_15 : decode cX6_init 15 = .ok (.iload_n 3, 1) := by decide +kernel
theorem dX6_init_16 : decode cX6_init 16 = .ok (.putfield 18, 3) := by decide +kernel
theorem dX6_init_19 : decode cX6_init 19 = .ok (.aload_n 0, 1) := by decide +kernel
theorem dX6_init_20 : decode cX6_init 20 = .ok (.aload 4, 2) := by decide +kernel
theorem dX6_init_22 : decode cX6_init 22 = .ok (.putfield 21, 3) := by decide +kernel
theorem dX6_init_25 : decode cX6_init 25 = .ok (.return_, 1) := by decide +kernel
theorem dX6_clauseCount_0 : decode cX6_clauseCount 0 = .ok (.aload_n 0, 1) := by decide +kernel
theorem dX6_clauseCount_1 : decode cX6_clauseCount 1 = .ok (.getfield 21, 3) := by decide +kernel
theorem dX6_clauseCount_4 : decode cX6_clauseCount 4 = .ok (.arraylength, 1) := by decide +kernel
theorem dX6_clauseCount_5 : decode cX6_clauseCount 5 = .ok (.iconst 3, 1) := by decide +kernel
theorem dX6_clauseCount_6 : decode cX6_clauseCount 6 = .ok (.idiv, 1) := by decide +kernel
theorem dX6_clauseCount_7 : decode cX6_clauseCount 7 = .ok (.ireturn, 1) := by decide +kernel
theorem dX6_partOf_0 : decode cX6_partOf 0 = .ok (.aload_n 0, 1) := by decide +kernel
theorem dX6_partOf_1 : decode cX6_partOf 1 = .ok (.getfield 21, 3) := by decide +kernel
theorem dX6_partOf_4 : decode cX6_partOf 4 = .ok (.iload_n 1, 1) := by decide +kernel
theorem dX6_partOf_5 : decode cX6_partOf 5 = .ok (.iconst 3, 1) := by decide +kernel
theorem dX6_partOf_6 : decode cX6_partOf 6 = .ok (.imul, 1) := by decide +kernel
theorem dX6_partOf_7 : decode cX6_partOf 7 = .ok (.iaload, 1) := by decide +kernel
theorem dX6_partOf_8 : decode cX6_partOf 8 = .ok (.ireturn, 1) := by decide +kernel
theorem dX6_amountOn_0 : decode cX6_amountOn 0 = .ok (.iload_n 1, 1) := by decide +kernel
theorem dX6_amountOn_1 : decode cX6_amountOn 1 = .ok (.iconst 3, 1) := by decide +kernel
theorem dX6_amountOn_2 : decode cX6_amountOn 2 = .ok (.imul, 1) := by decide +kernel
theorem dX6_amountOn_3 : decode cX6_amountOn 3 = .ok (.istore_n 3, 1) := by decide +kernel
theorem dX6_amountOn_4 : decode cX6_amountOn 4 = .ok (.aload_n 0, 1) := by decide +kernel
theorem dX6_amountOn_5 : decode cX6_amountOn 5 = .ok (.getfield 21, 3) := by decide +kernel
theorem dX6_amountOn_8 : decode cX6_amountOn 8 = .ok (.iload_n 3, 1) := by decide +kernel
theorem dX6_amountOn_9 : decode cX6_amountOn 9 = .ok (.iconst 2, 1) := by decide +kernel
theorem dX6_amountOn_10 : decode cX6_amountOn 10 = .ok (.iadd, 1) := by decide +kernel
theorem dX6_amountOn_11 : decode cX6_amountOn 11 = .ok (.iaload, 1) := by decide +kernel
theorem dX6_amountOn_12 : decode cX6_amountOn 12 = .ok (.iload_n 2, 1) := by decide +kernel
theorem dX6_amountOn_13 : decode cX6_amountOn 13 = .ok (.if_icmp .gt 14, 3) := by decide +kernel
theorem dX6_amountOn_16 : decode cX6_amountOn 16 = .ok (.aload_n 0, 1) := by decide +kernel
theorem dX6_amountOn_17 : decode cX6_amountOn 17 = .ok (.getfield 21, 3) := by decide +kernel
theorem dX6_amountOn_20 : decode cX6_amountOn 20 = .ok (.iload_n 3, 1) := by decide +kernel
theorem dX6_amountOn_21 : decode cX6_amountOn 21 = .ok (.iconst 1, 1) := by decide +kernel
theorem dX6_amountOn_22 : decode cX6_amountOn 22 = .ok (.iadd, 1) := by decide +kernel
theorem dX6_amountOn_23 : decode cX6_amountOn 23 = .ok (.iaload, 1) := by decide +kernel
theorem dX6_amountOn_24 : decode cX6_amountOn 24 = .ok (.goto 4, 3) := by decide +kernel
theorem dX6_amountOn_27 : decode cX6_amountOn 27 = .ok (.iconst 0, 1) := by decide +kernel
theorem dX6_amountOn_28 : decode cX6_amountOn 28 = .ok (.ireturn, 1) := by decide +kernel
theorem dX6_foundAt_0 : decode cX6_foundAt 0 = .ok (.iconst 0, 1) := by decide +kernel
theorem dX6_foundAt_1 : decode cX6_foundAt 1 = .ok (.istore_n 3, 1) := by decide +kernel
theorem dX6_foundAt_2 : decode cX6_foundAt 2 = .ok (.iconst 0, 1) := by decide +kernel
theorem dX6_foundAt_3 : decode cX6_foundAt 3 = .ok (.istore 4, 2) := by decide +kernel
theorem dX6_foundAt_5 : decode cX6_foundAt 5 = .ok (.iload 4, 2) := by decide +kernel
theorem dX6_foundAt_7 : decode cX6_foundAt 7 = .ok (.aload_n 0, 1) := by decide +kernel
theorem dX6_foundAt_8 : decode cX6_foundAt 8 = .ok (.invokevirtual 25, 3) := by decide +kernel
theorem dX6_foundAt_11 : decode cX6_foundAt 11 = .ok (.if_icmp .ge 29, 3) := by decide +kernel
theorem dX6_foundAt_14 : decode cX6_foundAt 14 = .ok (.aload_n 0, 1) := by decide +kernel
theorem dX6_foundAt_15 : decode cX6_foundAt 15 = .ok (.iload 4, 2) := by decide +kernel
theorem dX6_foundAt_17 : decode cX6_foundAt 17 = .ok (.invokevirtual 29, 3) := by decide +kernel
theorem dX6_foundAt_20 : decode cX6_foundAt 20 = .ok (.iload_n 1, 1) := by decide +kernel
theorem dX6_foundAt_21 : decode cX6_foundAt 21 = .ok (.if_icmp .ne 13, 3) := by decide +kernel
theorem dX6_foundAt_24 : decode cX6_foundAt 24 = .ok (.iload_n 3, 1) := by decide +kernel
theorem dX6_foundAt_25 : decode cX6_foundAt 25 = .ok (.aload_n 0, 1) := by decide +kernel
theorem dX6_foundAt_26 : decode cX6_foundAt 26 = .ok (.iload 4, 2) := by decide +kernel
theorem dX6_foundAt_28 : decode cX6_foundAt 28 = .ok (.iload_n 2, 1) := by decide +kernel
theorem dX6_foundAt_29 : decode cX6_foundAt 29 = .ok (.invokevirtual 33, 3) := by decide +kernel
theorem dX6_foundAt_32 : decode cX6_foundAt 32 = .ok (.iadd, 1) := by decide +kernel
theorem dX6_foundAt_33 : decode cX6_foundAt 33 = .ok (.istore_n 3, 1) := by decide +kernel
theorem dX6_foundAt_34 : decode cX6_foundAt 34 = .ok (.iinc 4 1, 3) := by decide +kernel
theorem dX6_foundAt_37 : decode cX6_foundAt 37 = .ok (.goto (-32), 3) := by decide +kernel
theorem dX6_foundAt_40 : decode cX6_foundAt 40 = .ok (.iload_n 3, 1) := by decide +kernel
theorem dX6_foundAt_41 : decode cX6_foundAt 41 = .ok (.ireturn, 1) := by decide +kernel
theorem dX7_init_0 : decode cX7_init 0 = .ok (.aload_n 0, 1) := by decide +kernel
theorem dX7_init_1 : decode cX7_init 1 = .ok (.invokespecial 3, 3) := by decide +kernel
theorem dX7_init_4 : decode cX7_init 4 = .ok (.aload_n 0, 1) := by decide +kernel
theorem dX7_init_5 : decode cX7_init 5 = .ok (.bipush 12, 2) := by decide +kernel
theorem dX7_init_7 : decode cX7_init 7 = .ok (.newarray .int, 2) := by decide +kernel
theorem dX7_init_9 : decode cX7_init 9 = .ok (.putfield 9, 3) := by decide +kernel
theorem dX7_init_12 : decode cX7_init 12 = .ok (.aload_n 0, 1) := by decide +kernel
theorem dX7_init_13 : decode cX7_init 13 = .ok (.iconst 0, 1) := by decide +kernel
theorem dX7_init_14 : decode cX7_init 14 = .ok (.putfield 15, 3) := by decide +kernel
theorem dX7_init_17 : decode cX7_init 17 = .ok (.aload_n 0, 1) := by decide +kernel
theorem dX7_init_18 : decode cX7_init 18 = .ok (.iconst 0, 1) := by decide +kernel
theorem dX7_init_19 : decode cX7_init 19 = .ok (.putfield 19, 3) := by decide +kernel
theorem dX7_init_22 : decode cX7_init 22 = .ok (.aload_n 0, 1) := by decide +kernel
theorem dX7_init_23 : decode cX7_init 23 = .ok (.iconst 0, 1) := by decide +kernel
theorem dX7_init_24 : decode cX7_init 24 = .ok (.putfield 22, 3) := by decide +kernel
theorem dX7_init_27 : decode cX7_init 27 = .ok (.aload_n 0, 1) := by decide +kernel
theorem dX7_init_28 : decode cX7_init 28 = .ok (.aload_n 1, 1) := by decide +kernel
theorem dX7_init_29 : decode cX7_init 29 = .ok (.putfield 25, 3) := by decide +kernel
theorem dX7_init_32 : decode cX7_init 32 = .ok (.return_, 1) := by decide +kernel
theorem dX7_readWhole_0 : decode cX7_readWhole 0 = .ok (.aload_n 0, 1) := by decide +kernel
theorem dX7_readWhole_1 : decode cX7_readWhole 1 = .ok (.iconst 0, 1) := by decide +kernel
theorem dX7_readWhole_2 : decode cX7_readWhole 2 = .ok (.putfield 19, 3) := by decide +kernel
theorem dX7_readWhole_5 : decode cX7_readWhole 5 = .ok (.aload_n 0, 1) := by decide +kernel
theorem dX7_readWhole_6 : decode cX7_readWhole 6 = .ok (.iconst 0, 1) := by decide +kernel
theorem dX7_readWhole_7 : decode cX7_readWhole 7 = .ok (.putfield 22, 3) := by decide +kernel
theorem dX7_readWhole_10 : decode cX7_readWhole 10 = .ok (.aload_n 0, 1) := by decide +kernel
theorem dX7_readWhole_11 : decode cX7_readWhole 11 = .ok (.getfield 25, 3) := by decide +kernel
theorem dX7_readWhole_14 : decode cX7_readWhole 14 = .ok (.sipush 300, 3) := by decide +kernel
theorem dX7_readWhole_17 : decode cX7_readWhole 17 = .ok (.invokevirtual 29, 3) := by decide +kernel
theorem dX7_readWhole_20 : decode cX7_readWhole 20 = .ok (.ifCond .eq 11, 3) := by decide +kernel
theorem dX7_readWhole_23 : decode cX7_readWhole 23 = .ok (.aload_n 0, 1) := by decide +kernel
theorem dX7_readWhole_24 : decode cX7_readWhole 24 = .ok (.iconst 0, 1) := by decide +kernel
theorem dX7_readWhole_25 : decode cX7_readWhole 25 = .ok (.putfield 15, 3) := by decide +kernel
theorem dX7_readWhole_28 : decode cX7_readWhole 28 = .ok (.goto 44, 3) := by decide +kernel
theorem dX7_readWhole_31 : decode cX7_readWhole 31 = .ok (.aload_n 0, 1) := by decide +kernel
theorem dX7_readWhole_32 : decode cX7_readWhole 32 = .ok (.getfield 25, 3) := by decide +kernel
theorem dX7_readWhole_35 : decode cX7_readWhole 35 = .ok (.sipush 301, 3) := by decide +kernel
theorem dX7_readWhole_38 : decode cX7_readWhole 38 = .ok (.invokevirtual 29, 3) := by decide +kernel
theorem dX7_readWhole_41 : decode cX7_readWhole 41 = .ok (.ifCond .eq 17, 3) := by decide +kernel
theorem dX7_readWhole_44 : decode cX7_readWhole 44 = .ok (.aload_n 0, 1) := by decide +kernel
theorem dX7_readWhole_45 : decode cX7_readWhole 45 = .ok (.iconst 1, 1) := by decide +kernel
theorem dX7_readWhole_46 : decode cX7_readWhole 46 = .ok (.putfield 15, 3) := by decide +kernel
theorem dX7_readWhole_49 : decode cX7_readWhole 49 = .ok (.aload_n 0, 1) := by decide +kernel
theorem dX7_readWhole_50 : decode cX7_readWhole 50 = .ok (.invokevirtual 35, 3) := by decide +kernel
theorem dX7_readWhole_53 : decode cX7_readWhole 53 = .ok (.ifCond .ne 19, 3) := by decide +kernel
theorem dX7_readWhole_56 : decode cX7_readWhole 56 = .ok (.iconst 0, 1) := by decide +kernel
theorem dX7_readWhole_57 : decode cX7_readWhole 57 = .ok (.ireturn, 1) := by decide +kernel
theorem dX7_readWhole_58 : decode cX7_readWhole 58 = .ok (.aload_n 0, 1) := by decide +kernel
theorem dX7_readWhole_59 : decode cX7_readWhole 59 = .ok (.iconst 2, 1) := by decide +kernel
theorem dX7_readWhole_60 : decode cX7_readWhole 60 = .ok (.putfield 15, 3) := by decide +kernel
theorem dX7_readWhole_63 : decode cX7_readWhole 63 = .ok (.aload_n 0, 1) := by decide +kernel
theorem dX7_readWhole_64 : decode cX7_readWhole 64 = .ok (.invokevirtual 39, 3) := by decide +kernel
theorem dX7_readWhole_67 : decode cX7_readWhole 67 = .ok (.ifCond .ne 5, 3) := by decide +kernel
theorem dX7_readWhole_70 : decode cX7_readWhole 70 = .ok (.iconst 0, 1) := by decide +kernel
theorem dX7_readWhole_71 : decode cX7_readWhole 71 = .ok (.ireturn, 1) := by decide +kernel
theorem dX7_readWhole_72 : decode cX7_readWhole 72 = .ok (.aload_n 0, 1) := by decide +kernel
theorem dX7_readWhole_73 : decode cX7_readWhole 73 = .ok (.getfield 25, 3) := by decide +kernel
theorem dX7_readWhole_76 : decode cX7_readWhole 76 = .ok (.sipush 258, 3) := by decide +kernel
theorem dX7_readWhole_79 : decode cX7_readWhole 79 = .ok (.invokevirtual 42, 3) := by decide +kernel
theorem dX7_readWhole_82 : decode cX7_readWhole 82 = .ok (.ireturn, 1) := by decide +kernel
theorem dX7_told_0 : decode cX7_told 0 = .ok (.new 45, 3) := by decide +kernel
theorem dX7_told_3 : decode cX7_told 3 = .ok (.dup, 1) := by decide +kernel
theorem dX7_told_4 : decode cX7_told 4 = .ok (.iload_n 1, 1) := by decide +kernel
theorem dX7_told_5 : decode cX7_told 5 = .ok (.aload_n 0, 1) := by decide +kernel
theorem dX7_told_6 : decode cX7_told 6 = .ok (.getfield 15, 3) := by decide +kernel
theorem dX7_told_9 : decode cX7_told 9 = .ok (.aload_n 0, 1) := by decide +kernel
theorem dX7_told_10 : decode cX7_told 10 = .ok (.getfield 22, 3) := by decide +kernel
theorem dX7_told_13 : decode cX7_told 13 = .ok (.aload_n 0, 1) := by decide +kernel
theorem dX7_told_14 : decode cX7_told 14 = .ok (.getfield 9, 3) := by decide +kernel
theorem dX7_told_17 : decode cX7_told 17 = .ok (.aload_n 0, 1) := by decide +kernel
theorem dX7_told_18 : decode cX7_told 18 = .ok (.getfield 19, 3) := by decide +kernel
theorem dX7_told_21 : decode cX7_told 21 = .ok (.iconst 3, 1) := by decide +kernel
theorem dX7_told_22 : decode cX7_told 22 = .ok (.imul, 1) := by decide +kernel
theorem dX7_told_23 : decode cX7_told 23 = .ok (.invokestatic 47, 3) := by decide +kernel
theorem dX7_told_26 : decode cX7_told 26 = .ok (.invokespecial 53, 3) := by decide +kernel
theorem dX7_told_29 : decode cX7_told 29 = .ok (.areturn, 1) := by decide +kernel
theorem dX7_readClauses_0 : decode cX7_readClauses 0 = .ok (.iconst 0, 1) := by decide +kernel
theorem dX7_readClauses_1 : decode cX7_readClauses 1 = .ok (.istore_n 1, 1) := by decide +kernel
theorem dX7_readClauses_2 : decode cX7_readClauses 2 = .ok (.iload_n 1, 1) := by decide +kernel
theorem dX7_readClauses_3 : decode cX7_readClauses 3 = .ok (.iconst 4, 1) := by decide +kernel
theorem dX7_readClauses_4 : decode cX7_readClauses 4 = .ok (.if_icmp .ge 52, 3) := by decide +kernel
theorem dX7_readClauses_7 : decode cX7_readClauses 7 = .ok (.aload_n 0, 1) := by decide +kernel
theorem dX7_readClauses_8 : decode cX7_readClauses 8 = .ok (.iload_n 1, 1) := by decide +kernel
theorem dX7_readClauses_9 : decode cX7_readClauses 9 = .ok (.iconst 3, 1) := by decide +kernel
theorem dX7_readClauses_10 : decode cX7_readClauses 10 = .ok (.imul, 1) := by decide +kernel
theorem dX7_readClauses_11 : decode cX7_readClauses 11 = .ok (.invokevirtual 56, 3) := by decide +kernel
theorem dX7_readClauses_14 : decode cX7_readClauses 14 = .ok (.ifCond .ne 5, 3) := by decide +kernel
theorem dX7_readClauses_17 : decode cX7_readClauses 17 = .ok (.iconst 0, 1) := by decide +kernel
theorem dX7_readClauses_18 : decode cX7_readClauses 18 = .ok (.ireturn, 1) := by decide +kernel
theorem dX7_readClauses_19 : decode cX7_readClauses 19 = .ok (.aload_n 0, 1) := by decide +kernel
theorem dX7_readClauses_20 : decode cX7_readClauses 20 = .ok (.dup, 1) := by decide +kernel
theorem dX7_readClauses_21 : decode cX7_readClauses 21 = .ok (.getfield 19, 3) := by decide +kernel
theorem dX7_readClauses_24 : decode cX7_readClauses 24 = .ok (.iconst 1, 1) := by decide +kernel
theorem dX7_readClauses_25 : decode cX7_readClauses 25 = .ok (.iadd, 1) := by decide +kernel
theorem dX7_readClauses_26 : decode cX7_readClauses 26 = .ok (.putfield 19, 3) := by decide +kernel
theorem dX7_readClauses_29 : decode cX7_readClauses 29 = .ok (.iload_n 1, 1) := by decide +kernel
theorem dX7_readClauses_30 : decode cX7_readClauses 30 = .ok (.iconst 3, 1) := by decide +kernel
theorem dX7_readClauses_31 : decode cX7_readClauses 31 = .ok (.if_icmp .eq 25, 3) := by decide +kernel
theorem dX7_readClauses_34 : decode cX7_readClauses 34 = .ok (.aload_n 0, 1) := by decide +kernel
theorem dX7_readClauses_35 : decode cX7_readClauses 35 = .ok (.getfield 25, 3) := by decide +kernel
theorem dX7_readClauses_38 : decode cX7_readClauses 38 = .ok (.sipush 305, 3) := by decide +kernel
theorem dX7_readClauses_41 : decode cX7_readClauses 41 = .ok (.invokevirtual 29, 3) := by decide +kernel
theorem dX7_readClauses_44 : decode cX7_readClauses 44 = .ok (.ifCond .ne 6, 3) := by decide +kernel
theorem dX7_readClauses_47 : decode cX7_readClauses 47 = .ok (.goto 9, 3) := by decide +kernel
theorem dX7_readClauses_50 : decode cX7_readClauses 50 = .ok (.iinc 1 1, 3) := by decide +kernel
theorem dX7_readClauses_53 : decode cX7_readClauses 53 = .ok (.goto (-51), 3) := by decide +kernel
theorem dX7_readClauses_56 : decode cX7_readClauses 56 = .ok (.iconst 1, 1) := by decide +kernel
theorem dX7_readClauses_57 : decode cX7_readClauses 57 = .ok (.ireturn, 1) := by decide +kernel
theorem dX7_readClause_0 : decode cX7_readClause 0 = .ok (.aload_n 0, 1) := by decide +kernel
theorem dX7_readClause_1 : decode cX7_readClause 1 = .ok (.getfield 25, 3) := by decide +kernel
theorem dX7_readClause_4 : decode cX7_readClause 4 = .ok (.sipush 303, 3) := by decide +kernel
theorem dX7_readClause_7 : decode cX7_readClause 7 = .ok (.invokevirtual 29, 3) := by decide +kernel
theorem dX7_readClause_10 : decode cX7_readClause 10 = .ok (.ifCond .ne 5, 3) := by decide +kernel
theorem dX7_readClause_13 : decode cX7_readClause 13 = .ok (.iconst 0, 1) := by decide +kernel
theorem dX7_readClause_14 : decode cX7_readClause 14 = .ok (.ireturn, 1) := by decide +kernel
theorem dX7_readClause_15 : decode cX7_readClause 15 = .ok (.aload_n 0, 1) := by decide +kernel
theorem dX7_readClause_16 : decode cX7_readClause 16 = .ok (.getfield 9, 3) := by decide +kernel
theorem dX7_readClause_19 : decode cX7_readClause 19 = .ok (.iload_n 1, 1) := by decide +kernel
theorem dX7_readClause_20 : decode cX7_readClause 20 = .ok (.aload_n 0, 1) := by decide +kernel
theorem dX7_readClause_21 : decode cX7_readClause 21 = .ok (.getfield 25, 3) := by decide +kernel
theorem dX7_readClause_24 : decode cX7_readClause 24 = .ok (.invokevirtual 59, 3) := by decide +kernel
theorem dX7_readClause_27 : decode cX7_readClause 27 = .ok (.iastore, 1) := by decide +kernel
theorem dX7_readClause_28 : decode cX7_readClause 28 = .ok (.aload_n 0, 1) := by decide +kernel
theorem dX7_readClause_29 : decode cX7_readClause 29 = .ok (.getfield 25, 3) := by decide +kernel
theorem dX7_readClause_32 : decode cX7_readClause 32 = .ok (.sipush 256, 3) := by decide +kernel
theorem dX7_readClause_35 : decode cX7_readClause 35 = .ok (.invokevirtual 29, 3) := by decide +kernel
theorem dX7_readClause_38 : decode cX7_readClause 38 = .ok (.ifCond .eq 10, 3) := by decide +kernel
theorem dX7_readClause_41 : decode cX7_readClause 41 = .ok (.aload_n 0, 1) := by decide +kernel
theorem dX7_readClause_42 : decode cX7_readClause 42 = .ok (.invokevirtual 35, 3) := by decide +kernel
theorem dX7_readClause_45 : decode cX7_readClause 45 = .ok (.ifCond .ne 5, 3) := by decide +kernel
theorem dX7_readClause_48 : decode cX7_readClause 48 = .ok (.iconst 0, 1) := by decide +kernel
theorem dX7_readClause_49 : decode cX7_readClause 49 = .ok (.ireturn, 1) := by decide +kernel
theorem dX7_readClause_50 : decode cX7_readClause 50 = .ok (.aload_n 0, 1) := by decide +kernel
theorem dX7_readClause_51 : decode cX7_readClause 51 = .ok (.getfield 9, 3) := by decide +kernel
theorem dX7_readClause_54 : decode cX7_readClause 54 = .ok (.iload_n 1, 1) := by decide +kernel
theorem dX7_readClause_55 : decode cX7_readClause 55 = .ok (.iconst 1, 1) := by decide +kernel
theorem dX7_readClause_56 : decode cX7_readClause 56 = .ok (.iadd, 1) := by decide +kernel
theorem dX7_readClause_57 : decode cX7_readClause 57 = .ok (.aload_n 0, 1) := by decide +kernel
theorem dX7_readClause_58 : decode cX7_readClause 58 = .ok (.getfield 22, 3) := by decide +kernel
theorem dX7_readClause_61 : decode cX7_readClause 61 = .ok (.iastore, 1) := by decide +kernel
theorem dX7_readClause_62 : decode cX7_readClause 62 = .ok (.aload_n 0, 1) := by decide +kernel
theorem dX7_readClause_63 : decode cX7_readClause 63 = .ok (.getfield 9, 3) := by decide +kernel
theorem dX7_readClause_66 : decode cX7_readClause 66 = .ok (.iload_n 1, 1) := by decide +kernel
theorem dX7_readClause_67 : decode cX7_readClause 67 = .ok (.iconst 2, 1) := by decide +kernel
theorem dX7_readClause_68 : decode cX7_readClause 68 = .ok (.iadd, 1) := by decide +kernel
theorem dX7_readClause_69 : decode cX7_readClause 69 = .ok (.iconst 0, 1) := by decide +kernel
theorem dX7_readClause_70 : decode cX7_readClause 70 = .ok (.iastore, 1) := by decide +kernel
theorem dX7_readClause_71 : decode cX7_readClause 71 = .ok (.aload_n 0, 1) := by decide +kernel
theorem dX7_readClause_72 : decode cX7_readClause 72 = .ok (.getfield 25, 3) := by decide +kernel
theorem dX7_readClause_75 : decode cX7_readClause 75 = .ok (.sipush 304, 3) := by decide +kernel
theorem dX7_readClause_78 : decode cX7_readClause 78 = .ok (.invokevirtual 29, 3) := by decide +kernel
theorem dX7_readClause_81 : decode cX7_readClause 81 = .ok (.ifCond .eq 29, 3) := by decide +kernel
theorem dX7_readClause_84 : decode cX7_readClause 84 = .ok (.aload_n 0, 1) := by decide +kernel
theorem dX7_readClause_85 : decode cX7_readClause 85 = .ok (.getfield 9, 3) := by decide +kernel
theorem dX7_readClause_88 : decode cX7_readClause 88 = .ok (.iload_n 1, 1) := by decide +kernel
theorem dX7_readClause_89 : decode cX7_readClause 89 = .ok (.iconst 2, 1) := by decide +kernel
theorem dX7_readClause_90 : decode cX7_readClause 90 = .ok (.iadd, 1) := by decide +kernel
theorem dX7_readClause_91 : decode cX7_readClause 91 = .ok (.aload_n 0, 1) := by decide +kernel
theorem dX7_readClause_92 : decode cX7_readClause 92 = .ok (.getfield 25, 3) := by decide +kernel
theorem dX7_readClause_95 : decode cX7_readClause 95 = .ok (.invokevirtual 59, 3) := by decide +kernel
theorem dX7_readClause_98 : decode cX7_readClause 98 = .ok (.iastore, 1) := by decide +kernel
theorem dX7_readClause_99 : decode cX7_readClause 99 = .ok (.aload_n 0, 1) := by decide +kernel
theorem dX7_readClause_100 : decode cX7_readClause 100 = .ok (.getfield 25, 3) := by decide +kernel
theorem dX7_readClause_103 : decode cX7_readClause 103 = .ok (.sipush 256, 3) := by decide +kernel
theorem dX7_readClause_106 : decode cX7_readClause 106 = .ok (.invokevirtual 29, 3) := by decide +kernel
theorem dX7_readClause_109 : decode cX7_readClause 109 = .ok (.ireturn, 1) := by decide +kernel
theorem dX7_readClause_110 : decode cX7_readClause 110 = .ok (.iconst 1, 1) := by decide +kernel
theorem dX7_readClause_111 : decode cX7_readClause 111 = .ok (.ireturn, 1) := by decide +kernel
theorem dX7_readBy_0 : decode cX7_readBy 0 = .ok (.aload_n 0, 1) := by decide +kernel
theorem dX7_readBy_1 : decode cX7_readBy 1 = .ok (.getfield 25, 3) := by decide +kernel
theorem dX7_readBy_4 : decode cX7_readBy 4 = .ok (.sipush 302, 3) := by decide +kernel
theorem dX7_readBy_7 : decode cX7_readBy 7 = .ok (.invokevirtual 29, 3) := by decide +kernel
theorem dX7_readBy_10 : decode cX7_readBy 10 = .ok (.ifCond .ne 5, 3) := by decide +kernel
theorem dX7_readBy_13 : decode cX7_readBy 13 = .ok (.iconst 0, 1) := by decide +kernel
theorem dX7_readBy_14 : decode cX7_readBy 14 = .ok (.ireturn, 1) := by decide +kernel
theorem dX7_readBy_15 : decode cX7_readBy 15 = .ok (.aload_n 0, 1) := by decide +kernel
theorem dX7_readBy_16 : decode cX7_readBy 16 = .ok (.getfield 25, 3) := by decide +kernel
theorem dX7_readBy_19 : decode cX7_readBy 19 = .ok (.bipush 45, 2) := by decide +kernel
theorem dX7_readBy_21 : decode cX7_readBy 21 = .ok (.invokevirtual 29, 3) := by decide +kernel
theorem dX7_readBy_24 : decode cX7_readBy 24 = .ok (.istore_n 1, 1) := by decide +kernel
theorem dX7_readBy_25 : decode cX7_readBy 25 = .ok (.aload_n 0, 1) := by decide +kernel
theorem dX7_readBy_26 : decode cX7_readBy 26 = .ok (.iload_n 1, 1) := by decide +kernel
theorem dX7_readBy_27 : decode cX7_readBy 27 = .ok (.ifCond .eq 14, 3) := by decide +kernel
theorem dX7_readBy_30 : decode cX7_readBy 30 = .ok (.aload_n 0, 1) := by decide +kernel
theorem dX7_readBy_31 : decode cX7_readBy 31 = .ok (.getfield 25, 3) := by decide +kernel
theorem dX7_readBy_34 : decode cX7_readBy 34 = .ok (.invokevirtual 59, 3) := by decide +kernel
theorem dX7_readBy_37 : decode cX7_readBy 37 = .ok (.ineg, 1) := by decide +kernel
theorem dX7_readBy_38 : decode cX7_readBy 38 = .ok (.goto 10, 3) := by decide +kernel
theorem dX7_readBy_41 : decode cX7_readBy 41 = .ok (.aload_n 0, 1) := by decide +kernel
theorem dX7_readBy_42 : decode cX7_readBy 42 = .ok (.getfield 25, 3) := by decide +kernel
theorem dX7_readBy_45 : decode cX7_readBy 45 = .ok (.invokevirtual 59, 3) := by decide +kernel
theorem dX7_readBy_48 : decode cX7_readBy 48 = .ok (.putfield 22, 3) := by decide +kernel
theorem dX7_readBy_51 : decode cX7_readBy 51 = .ok (.aload_n 0, 1) := by decide +kernel
theorem dX7_readBy_52 : decode cX7_readBy 52 = .ok (.getfield 25, 3) := by decide +kernel
theorem dX7_readBy_55 : decode cX7_readBy 55 = .ok (.sipush 256, 3) := by decide +kernel
theorem dX7_readBy_58 : decode cX7_readBy 58 = .ok (.invokevirtual 29, 3) := by decide +kernel
theorem dX7_readBy_61 : decode cX7_readBy 61 = .ok (.ireturn, 1) := by decide +kernel
theorem dX8_init_0 : decode cX8_init 0 = .ok (.aload_n 0, 1) := by decide +kernel
theorem dX8_init_1 : decode cX8_init 1 = .ok (.invokespecial 3, 3) := by decide +kernel
theorem dX8_init_4 : decode cX8_init 4 = .ok (.aload_n 0, 1) := by decide +kernel
theorem dX8_init_5 : decode cX8_init 5 = .ok (.sipush 201, 3) := by decide +kernel
theorem dX8_init_8 : decode cX8_init 8 = .ok (.newarray .int, 2) := by decide +kernel
theorem dX8_init_10 : decode cX8_init 10 = .ok (.putfield 9, 3) := by decide +kernel
theorem dX8_init_13 : decode cX8_init 13 = .ok (.aload_n 0, 1) := by decide +kernel
theorem dX8_init_14 : decode cX8_init 14 = .ok (.sipush 201, 3) := by decide +kernel
theorem dX8_init_17 : decode cX8_init 17 = .ok (.newarray .int, 2) := by decide +kernel
theorem dX8_init_19 : decode cX8_init 19 = .ok (.putfield 15, 3) := by decide +kernel
theorem dX8_init_22 : decode cX8_init 22 = .ok (.aload_n 0, 1) := by decide +kernel
theorem dX8_init_23 : decode cX8_init 23 = .ok (.sipush 201, 3) := by decide +kernel
theorem dX8_init_26 : decode cX8_init 26 = .ok (.newarray .int, 2) := by decide +kernel
theorem dX8_init_28 : decode cX8_init 28 = .ok (.putfield 18, 3) := by decide +kernel
theorem dX8_init_31 : decode cX8_init 31 = .ok (.aload_n 0, 1) := by decide +kernel
theorem dX8_init_32 : decode cX8_init 32 = .ok (.iconst 0, 1) := by decide +kernel
theorem dX8_init_33 : decode cX8_init 33 = .ok (.putfield 21, 3) := by decide +kernel
theorem dX8_init_36 : decode cX8_init 36 = .ok (.aload_n 0, 1) := by decide +kernel
theorem dX8_init_37 : decode cX8_init 37 = .ok (.iconst 0, 1) := by decide +kernel
theorem dX8_init_38 : decode cX8_init 38 = .ok (.putfield 25, 3) := by decide +kernel
theorem dX8_init_41 : decode cX8_init 41 = .ok (.return_, 1) := by decide +kernel
theorem dX8_readAll_0 : decode cX8_readAll 0 = .ok (.aload_n 0, 1) := by decide +kernel
theorem dX8_readAll_1 : decode cX8_readAll 1 = .ok (.iconst 0, 1) := by decide +kernel
theorem dX8_readAll_2 : decode cX8_readAll 2 = .ok (.putfield 21, 3) := by decide +kernel
theorem dX8_readAll_5 : decode cX8_readAll 5 = .ok (.aload_n 0, 1) := by decide +kernel
theorem dX8_readAll_6 : decode cX8_readAll 6 = .ok (.iconst 0, 1) := by decide +kernel
theorem dX8_readAll_7 : decode cX8_readAll 7 = .ok (.putfield 25, 3) := by decide +kernel
theorem dX8_readAll_10 : decode cX8_readAll 10 = .ok (.iconst 0, 1) := by decide +kernel
theorem dX8_readAll_11 : decode cX8_readAll 11 = .ok (.istore_n 3, 1) := by decide +kernel
theorem dX8_readAll_12 : decode cX8_readAll 12 = .ok (.iconst 0, 1) := by decide +kernel
theorem dX8_readAll_13 : decode cX8_readAll 13 = .ok (.istore 4, 2) := by decide +kernel
theorem dX8_readAll_15 : decode cX8_readAll 15 = .ok (.iload 4, 2) := by decide +kernel
theorem dX8_readAll_17 : decode cX8_readAll 17 = .ok (.sipush 200, 3) := by decide +kernel
theorem dX8_readAll_20 : decode cX8_readAll 20 = .ok (.if_icmp .ge 151, 3) := by decide +kernel
theorem dX8_readAll_23 : decode cX8_readAll 23 = .ok (.iload_n 3, 1) := by decide +kernel
theorem dX8_readAll_24 : decode cX8_readAll 24 = .ok (.iload_n 2, 1) := by decide +kernel
theorem dX8_readAll_25 : decode cX8_readAll 25 = .ok (.if_icmp .ge 146, 3) := by decide +kernel
theorem dX8_readAll_28 : decode cX8_readAll 28 = .ok (.aload_n 1, 1) := by decide +kernel
theorem dX8_readAll_29 : decode cX8_readAll 29 = .ok (.iload_n 3, 1) := by decide +kernel
theorem dX8_readAll_30 : decode cX8_readAll 30 = .ok (.caload, 1) := by decide +kernel
theorem dX8_readAll_31 : decode cX8_readAll 31 = .ok (.istore 5, 2) := by decide +kernel
theorem dX8_readAll_33 : decode cX8_readAll 33 = .ok (.iload_n 3, 1) := by decide +kernel
theorem dX8_readAll_34 : decode cX8_readAll 34 = .ok (.iconst 1, 1) := by decide +kernel
theorem dX8_readAll_35 : decode cX8_readAll 35 = .ok (.iadd, 1) := by decide +kernel
theorem dX8_readAll_36 : decode cX8_readAll 36 = .ok (.istore 6, 2) := by decide +kernel
theorem dX8_readAll_38 : decode cX8_readAll 38 = .ok (.iload 5, 2) := by decide +kernel
theorem dX8_readAll_40 : decode cX8_readAll 40 = .ok (.invokestatic 28, 3) := by decide +kernel
theorem dX8_readAll_43 : decode cX8_readAll 43 = .ok (.ifCond .eq 31, 3) := by decide +kernel
theorem dX8_readAll_46 : decode cX8_readAll 46 = .ok (.aload_n 1, 1) := by decide +kernel
theorem dX8_readAll_47 : decode cX8_readAll 47 = .ok (.iload_n 2, 1) := by decide +kernel
theorem dX8_readAll_48 : decode cX8_readAll 48 = .ok (.iload_n 3, 1) := by decide +kernel
theorem dX8_readAll_49 : decode cX8_readAll 49 = .ok (.bipush 97, 2) := by decide +kernel
theorem dX8_readAll_51 : decode cX8_readAll 51 = .ok (.bipush 122, 2) := by decide +kernel
theorem dX8_readAll_53 : decode cX8_readAll 53 = .ok (.invokestatic 32, 3) := by decide +kernel
theorem dX8_readAll_56 : decode cX8_readAll 56 = .ok (.istore 6, 2) := by decide +kernel
theorem dX8_readAll_58 : decode cX8_readAll 58 = .ok (.aload_n 0, 1) := by decide +kernel
theorem dX8_readAll_59 : decode cX8_readAll 59 = .ok (.aload_n 1, 1) := by decide +kernel
theorem dX8_readAll_60 : decode cX8_readAll 60 = .ok (.iload_n 3, 1) := by decide +kernel
theorem dX8_readAll_61 : decode cX8_readAll 61 = .ok (.iload 6, 2) := by decide +kernel
theorem dX8_readAll_63 : decode cX8_readAll 63 = .ok (.invokestatic 36, 3) := by decide +kernel
theorem dX8_readAll_66 : decode cX8_readAll 66 = .ok (.iconst 0, 1) := by decide +kernel
theorem dX8_readAll_67 : decode cX8_readAll 67 = .ok (.iload_n 3, 1) := by decide +kernel
theorem dX8_readAll_68 : decode cX8_readAll 68 = .ok (.invokevirtual 40, 3) := by decide +kernel
theorem dX8_readAll_71 : decode cX8_readAll 71 = .ok (.goto 91, 3) := by decide +kernel
theorem dX8_readAll_74 : decode cX8_readAll 74 = .ok (.iload 5, 2) := by decide +kernel
theorem dX8_readAll_76 : decode cX8_readAll 76 = .ok (.invokestatic 44, 3) := by decide +kernel
theorem dX8_readAll_79 : decode cX8_readAll 79 = .ok (.ifCond .eq 68, 3) := by decide +kernel
theorem dX8_readAll_82 : decode cX8_readAll 82 = .ok (.aload_n 1, 1) := by decide +kernel
theorem dX8_readAll_83 : decode cX8_readAll 83 = .ok (.iload_n 2, 1) := by decide +kernel
theorem dX8_readAll_84 : decode cX8_readAll 84 = .ok (.iload_n 3, 1) := by decide +kernel
theorem dX8_readAll_85 : decode cX8_readAll 85 = .ok (.bipush 48, 2) := by decide +kernel
theorem dX8_readAll_87 : decode cX8_readAll 87 = .ok (.bipush 57, 2) := by decide +kernel
theorem dX8_readAll_89 : decode cX8_readAll 89 = .ok (.invokestatic 32, 3) := by decide +kernel
theorem dX8_readAll_92 : decode cX8_readAll 92 = .ok (.istore 6, 2) := by decide +kernel
theorem dX8_readAll_94 : decode cX8_readAll 94 = .ok (.iload 6, 2) := by decide +kernel
theorem dX8_readAll_96 : decode cX8_readAll 96 = .ok (.iload_n 3, 1) := by decide +kernel
theorem dX8_readAll_97 : decode cX8_readAll 97 = .ok (.isub, 1) := by decide +kernel
theorem dX8_readAll_98 : decode cX8_readAll 98 = .ok (.iconst 4, 1) := by decide +kernel
theorem dX8_readAll_99 : decode cX8_readAll 99 = .ok (.if_icmp .gt 7, 3) := by decide +kernel
theorem dX8_readAll_102 : decode cX8_readAll 102 = .ok (.iconst 1, 1) := by decide +kernel
theorem dX8_readAll_103 : decode cX8_readAll 103 = .ok (.goto 4, 3) := by decide +kernel
theorem dX8_readAll_106 : decode cX8_readAll 106 = .ok (.iconst 0, 1) := by decide +kernel
theorem dX8_readAll_107 : decode cX8_readAll 107 = .ok (.istore 7, 2) := by decide +kernel
theorem dX8_readAll_109 : decode cX8_readAll 109 = .ok (.aload_n 0, 1) := by decide +kernel
theorem dX8_readAll_110 : decode cX8_readAll 110 = .ok (.iload 7, 2) := by decide +kernel
theorem dX8_readAll_112 : decode cX8_readAll 112 = .ok (.ifCond .eq 9, 3) := by decide +kernel
theorem dX8_readAll_115 : decode cX8_readAll 115 = .ok (.sipush 256, 3) := by decide +kernel
theorem dX8_readAll_118 : decode cX8_readAll 118 = .ok (.goto 6, 3) := by decide +kernel
theorem dX8_readAll_121 : decode cX8_readAll 121 = .ok (.sipush 257, 3) := by decide +kernel
theorem dX8_readAll_124 : decode cX8_readAll 124 = .ok (.iload 7, 2) := by decide +kernel
theorem dX8_readAll_126 : decode cX8_readAll 126 = .ok (.ifCond .eq 13, 3) := by decide +kernel
theorem dX8_readAll_129 : decode cX8_readAll 129 = .ok (.aload_n 1, 1) := by decide +kernel
theorem dX8_readAll_130 : decode cX8_readAll 130 = .ok (.iload_n 3, 1) := by decide +kernel
theorem dX8_readAll_131 : decode cX8_readAll 131 = .ok (.iload 6, 2) := by decide +kernel
theorem dX8_readAll_133 : decode cX8_readAll 133 = .ok (.invokestatic 47, 3) := by decide +kernel
theorem dX8_readAll_136 : decode cX8_readAll 136 = .ok (.goto 4, 3) := by decide +kernel
theorem dX8_readAll_139 : decode cX8_readAll 139 = .ok (.iconst 0, 1) := by decide +kernel
theorem dX8_readAll_140 : decode cX8_readAll 140 = .ok (.iload_n 3, 1) := by decide +kernel
theorem dX8_readAll_141 : decode cX8_readAll 141 = .ok (.invokevirtual 40, 3) := by decide +kernel
theorem dX8_readAll_144 : decode cX8_readAll 144 = .ok (.goto 18, 3) := by decide +kernel
theorem dX8_readAll_147 : decode cX8_readAll 147 = .ok (.iload 5, 2) := by decide +kernel
theorem dX8_readAll_149 : decode cX8_readAll 149 = .ok (.bipush 32, 2) := by decide +kernel
theorem dX8_readAll_151 : decode cX8_readAll 151 = .ok (.if_icmp .eq 11, 3) := by decide +kernel
theorem dX8_readAll_154 : decode cX8_readAll 154 = .ok (.aload_n 0, 1) := by decide +kernel
theorem dX8_readAll_155 : decode cX8_readAll 155 = .ok (.iload 5, 2) := by decide +kernel
theorem dX8_readAll_157 : decode cX8_readAll 157 = .ok (.iconst 0, 1) := by decide +kernel
theorem dX8_readAll_158 : decode cX8_readAll 158 = .ok (.iload_n 3, 1) := by decide +kernel
theorem dX8_readAll_159 : decode cX8_readAll 159 = .ok (.invokevirtual 40, 3) := by decide +kernel
theorem dX8_readAll_162 : decode cX8_readAll 162 = .ok (.iload 6, 2) := by decide +kernel
theorem dX8_readAll_164 : decode cX8_readAll 164 = .ok (.istore_n 3, 1) := by decide +kernel
theorem dX8_readAll_165 : decode cX8_readAll 165 = .ok (.iinc 4 1, 3) := by decide +kernel
theorem dX8_readAll_168 : decode cX8_readAll 168 = .ok (.goto (-153), 3) := by decide +kernel
theorem dX8_readAll_171 : decode cX8_readAll 171 = .ok (.aload_n 0, 1) := by decide +kernel
theorem dX8_readAll_172 : decode cX8_readAll 172 = .ok (.sipush 258, 3) := by decide +kernel
theorem dX8_readAll_175 : decode cX8_readAll 175 = .ok (.iconst 0, 1) := by decide +kernel
theorem dX8_readAll_176 : decode cX8_readAll 176 = .ok (.iload_n 2, 1) := by decide +kernel
theorem dX8_readAll_177 : decode cX8_readAll 177 = .ok (.invokevirtual 40, 3) := by decide +kernel
theorem dX8_readAll_180 : decode cX8_readAll 180 = .ok (.return_, 1) := by decide +kernel
theorem dX8_isNow_0 : decode cX8_isNow 0 = .ok (.aload_n 0, 1) := by decide +kernel
theorem dX8_isNow_1 : decode cX8_isNow 1 = .ok (.getfield 9, 3) := by decide +kernel
theorem dX8_isNow_4 : decode cX8_isNow 4 = .ok (.aload_n 0, 1) := by decide +kernel
theorem dX8_isNow_5 : decode cX8_isNow 5 = .ok (.getfield 25, 3) := by decide +kernel
theorem dX8_isNow_8 : decode cX8_isNow 8 = .ok (.iaload, 1) := by decide +kernel
theorem dX8_isNow_9 : decode cX8_isNow 9 = .ok (.iload_n 1, 1) := by decide +kernel
theorem dX8_isNow_10 : decode cX8_isNow 10 = .ok (.if_icmp .ne 7, 3) := by decide +kernel
theorem dX8_isNow_13 : decode cX8_isNow 13 = .ok (.iconst 1, 1) := by decide +kernel
theorem dX8_isNow_14 : decode cX8_isNow 14 = .ok (.goto 4, 3) := by decide +kernel
theorem dX8_isNow_17 : decode cX8_isNow 17 = .ok (.iconst 0, 1) := by decide +kernel
theorem dX8_isNow_18 : decode cX8_isNow 18 = .ok (.ireturn, 1) := by decide +kernel
theorem dX8_take_0 : decode cX8_take 0 = .ok (.aload_n 0, 1) := by decide +kernel
theorem dX8_take_1 : decode cX8_take 1 = .ok (.getfield 9, 3) := by decide +kernel
theorem dX8_take_4 : decode cX8_take 4 = .ok (.aload_n 0, 1) := by decide +kernel
theorem dX8_take_5 : decode cX8_take 5 = .ok (.getfield 25, 3) := by decide +kernel
theorem dX8_take_8 : decode cX8_take 8 = .ok (.iaload, 1) := by decide +kernel
theorem dX8_take_9 : decode cX8_take 9 = .ok (.iload_n 1, 1) := by decide +kernel
theorem dX8_take_10 : decode cX8_take 10 = .ok (.if_icmp .ne 16, 3) := by decide +kernel
theorem dX8_take_13 : decode cX8_take 13 = .ok (.aload_n 0, 1) := by decide +kernel
theorem dX8_take_14 : decode cX8_take 14 = .ok (.getfield 25, 3) := by decide +kernel
theorem dX8_take_17 : decode cX8_take 17 = .ok (.aload_n 0, 1) := by decide +kernel
theorem dX8_take_18 : decode cX8_take 18 = .ok (.getfield 21, 3) := by decide +kernel
theorem dX8_take_21 : decode cX8_take 21 = .ok (.iconst 1, 1) := by decide +kernel
theorem dX8_take_22 : decode cX8_take 22 = .ok (.isub, 1) := by decide +kernel
theorem dX8_take_23 : decode cX8_take 23 = .ok (.if_icmp .lt 5, 3) := by decide +kernel
theorem dX8_take_26 : decode cX8_take 26 = .ok (.iconst 0, 1) := by decide +kernel
theorem dX8_take_27 : decode cX8_take 27 = .ok (.ireturn, 1) := by decide +kernel
theorem dX8_take_28 : decode cX8_take 28 = .ok (.aload_n 0, 1) := by decide +kernel
theorem dX8_take_29 : decode cX8_take 29 = .ok (.dup, 1) := by decide +kernel
theorem dX8_take_30 : decode cX8_take 30 = .ok (.getfield 25, 3) := by decide +kernel
theorem dX8_take_33 : decode cX8_take 33 = .ok (.iconst 1, 1) := by decide +kernel
theorem dX8_take_34 : decode cX8_take 34 = .ok (.iadd, 1) := by decide +kernel
theorem dX8_take_35 : decode cX8_take 35 = .ok (.putfield 25, 3) := by decide +kernel
theorem dX8_take_38 : decode cX8_take 38 = .ok (.iconst 1, 1) := by decide +kernel
theorem dX8_take_39 : decode cX8_take 39 = .ok (.ireturn, 1) := by decide +kernel
theorem dX8_code_0 : decode cX8_code 0 = .ok (.aload_n 0, 1) := by decide +kernel
theorem dX8_code_1 : decode cX8_code 1 = .ok (.getfield 9, 3) := by decide +kernel
theorem dX8_code_4 : decode cX8_code 4 = .ok (.aload_n 0, 1) := by decide +kernel
theorem dX8_code_5 : decode cX8_code 5 = .ok (.getfield 25, 3) := by decide +kernel
theorem dX8_code_8 : decode cX8_code 8 = .ok (.iaload, 1) := by decide +kernel
theorem dX8_code_9 : decode cX8_code 9 = .ok (.ireturn, 1) := by decide +kernel
theorem dX8_value_0 : decode cX8_value 0 = .ok (.aload_n 0, 1) := by decide +kernel
theorem dX8_value_1 : decode cX8_value 1 = .ok (.getfield 15, 3) := by decide +kernel
theorem dX8_value_4 : decode cX8_value 4 = .ok (.aload_n 0, 1) := by decide +kernel
theorem dX8_value_5 : decode cX8_value 5 = .ok (.getfield 25, 3) := by decide +kernel
theorem dX8_value_8 : decode cX8_value 8 = .ok (.iaload, 1) := by decide +kernel
theorem dX8_value_9 : decode cX8_value 9 = .ok (.ireturn, 1) := by decide +kernel
theorem dX8_place_0 : decode cX8_place 0 = .ok (.aload_n 0, 1) := by decide +kernel
theorem dX8_place_1 : decode cX8_place 1 = .ok (.getfield 18, 3) := by decide +kernel
theorem dX8_place_4 : decode cX8_place 4 = .ok (.aload_n 0, 1) := by decide +kernel
theorem dX8_place_5 : decode cX8_place 5 = .ok (.getfield 25, 3) := by decide +kernel
theorem dX8_place_8 : decode cX8_place 8 = .ok (.iaload, 1) := by decide +kernel
theorem dX8_place_9 : decode cX8_place 9 = .ok (.ireturn, 1) := by decide +kernel
theorem dX8_add_0 : decode cX8_add 0 = .ok (.aload_n 0, 1) := by decide +kernel
theorem dX8_add_1 : decode cX8_add 1 = .ok (.getfield 21, 3) := by decide +kernel
theorem dX8_add_4 : decode cX8_add 4 = .ok (.aload_n 0, 1) := by decide +kernel
theorem dX8_add_5 : decode cX8_add 5 = .ok (.getfield 9, 3) := by decide +kernel
theorem dX8_add_8 : decode cX8_add 8 = .ok (.arraylength, 1) := by decide +kernel
theorem dX8_add_9 : decode cX8_add 9 = .ok (.if_icmp .ge 43, 3) := by decide +kernel
theorem dX8_add_12 : decode cX8_add 12 = .ok (.aload_n 0, 1) := by decide +kernel
theorem dX8_add_13 : decode cX8_add 13 = .ok (.getfield 9, 3) := by decide +kernel
theorem dX8_add_16 : decode cX8_add 16 = .ok (.aload_n 0, 1) := by decide +kernel
theorem dX8_add_17 : decode cX8_add 17 = .ok (.getfield 21, 3) := by decide +kernel
theorem dX8_add_20 : decode cX8_add 20 = .ok (.iload_n 1, 1) := by decide +kernel
theorem dX8_add_21 : decode cX8_add 21 = .ok (.iastore, 1) := by decide +kernel
theorem dX8_add_22 : decode cX8_add 22 = .ok (.aload_n 0, 1) := by decide +kernel
theorem dX8_add_23 : decode cX8_add 23 = .ok (.getfield 15, 3) := by decide +kernel
theorem dX8_add_26 : decode cX8_add 26 = .ok (.aload_n 0, 1) := by decide +kernel
theorem dX8_add_27 : decode cX8_add 27 = .ok (.getfield 21, 3) := by decide +kernel
theorem dX8_add_30 : decode cX8_add 30 = .ok (.iload_n 2, 1) := by decide +kernel
theorem dX8_add_31 : decode cX8_add 31 = .ok (.iastore, 1) := by decide +kernel
theorem dX8_add_32 : decode cX8_add 32 = .ok (.aload_n 0, 1) := by decide +kernel
theorem dX8_add_33 : decode cX8_add 33 = .ok (.getfield 18, 3) := by decide +kernel
theorem dX8_add_36 : decode cX8_add 36 = .ok (.aload_n 0, 1) := by decide +kernel
theorem dX8_add_37 : decode cX8_add 37 = .ok (.getfield 21, 3) := by decide +kernel
theorem dX8_add_40 : decode cX8_add 40 = .ok (.iload_n 3, 1) := by decide +kernel
theorem dX8_add_41 : decode cX8_add 41 = .ok (.iastore, 1) := by decide +kernel
theorem dX8_add_42 : decode cX8_add 42 = .ok (.aload_n 0, 1) := by decide +kernel
theorem dX8_add_43 : decode cX8_add 43 = .ok (.dup, 1) := by decide +kernel
theorem dX8_add_44 : decode cX8_add 44 = .ok (.getfield 21, 3) := by decide +kernel
theorem dX8_add_47 : decode cX8_add 47 = .ok (.iconst 1, 1) := by decide +kernel
theorem dX8_add_48 : decode cX8_add 48 = .ok (.iadd, 1) := by decide +kernel
theorem dX8_add_49 : decode cX8_add 49 = .ok (.putfield 21, 3) := by decide +kernel
theorem dX8_add_52 : decode cX8_add 52 = .ok (.return_, 1) := by decide +kernel
theorem dX8_isLetter_0 : decode cX8_isLetter 0 = .ok (.iload_n 0, 1) := by decide +kernel
theorem dX8_isLetter_1 : decode cX8_isLetter 1 = .ok (.bipush 97, 2) := by decide +kernel
theorem dX8_isLetter_3 : decode cX8_isLetter 3 = .ok (.if_icmp .lt 13, 3) := by decide +kernel
theorem dX8_isLetter_6 : decode cX8_isLetter 6 = .ok (.iload_n 0, 1) := by decide +kernel
theorem dX8_isLetter_7 : decode cX8_isLetter 7 = .ok (.bipush 122, 2) := by decide +kernel
theorem dX8_isLetter_9 : decode cX8_isLetter 9 = .ok (.if_icmp .gt 7, 3) := by decide +kernel
theorem dX8_isLetter_12 : decode cX8_isLetter 12 = .ok (.iconst 1, 1) := by decide +kernel
theorem dX8_isLetter_13 : decode cX8_isLetter 13 = .ok (.goto 4, 3) := by decide +kernel
theorem dX8_isLetter_16 : decode cX8_isLetter 16 = .ok (.iconst 0, 1) := by decide +kernel
theorem dX8_isLetter_17 : decode cX8_isLetter 17 = .ok (.ireturn, 1) := by decide +kernel
theorem dX8_isDigit_0 : decode cX8_isDigit 0 = .ok (.iload_n 0, 1) := by decide +kernel
theorem dX8_isDigit_1 : decode cX8_isDigit 1 = .ok (.bipush 48, 2) := by decide +kernel
theorem dX8_isDigit_3 : decode cX8_isDigit 3 = .ok (.if_icmp .lt 13, 3) := by decide +kernel
theorem dX8_isDigit_6 : decode cX8_isDigit 6 = .ok (.iload_n 0, 1) := by decide +kernel
theorem dX8_isDigit_7 : decode cX8_isDigit 7 = .ok (.bipush 57, 2) := by decide +kernel
theorem dX8_isDigit_9 : decode cX8_isDigit 9 = .ok (.if_icmp .gt 7, 3) := by decide +kernel
theorem dX8_isDigit_12 : decode cX8_isDigit 12 = .ok (.iconst 1, 1) := by decide +kernel
theorem dX8_isDigit_13 : decode cX8_isDigit 13 = .ok (.goto 4, 3) := by decide +kernel
theorem dX8_isDigit_16 : decode cX8_isDigit 16 = .ok (.iconst 0, 1) := by decide +kernel
theorem dX8_isDigit_17 : decode cX8_isDigit 17 = .ok (.ireturn, 1) := by decide +kernel
theorem dX8_endOfRun_0 : decode cX8_endOfRun 0 = .ok (.iload_n 2, 1) := by decide +kernel
theorem dX8_endOfRun_1 : decode cX8_endOfRun 1 = .ok (.istore 5, 2) := by decide +kernel
theorem dX8_endOfRun_3 : decode cX8_endOfRun 3 = .ok (.iload 5, 2) := by decide +kernel
theorem dX8_endOfRun_5 : decode cX8_endOfRun 5 = .ok (.iload_n 1, 1) := by decide +kernel
theorem dX8_endOfRun_6 : decode cX8_endOfRun 6 = .ok (.if_icmp .ge 26, 3) := by decide +kernel
theorem dX8_endOfRun_9 : decode cX8_endOfRun 9 = .ok (.aload_n 0, 1) := by decide +kernel
theorem dX8_endOfRun_10 : decode cX8_endOfRun 10 = .ok (.iload 5, 2) := by decide +kernel
theorem dX8_endOfRun_12 : decode cX8_endOfRun 12 = .ok (.caload, 1) := by decide +kernel
theorem dX8_endOfRun_13 : decode cX8_endOfRun 13 = .ok (.iload_n 3, 1) := by decide +kernel
theorem dX8_endOfRun_14 : decode cX8_endOfRun 14 = .ok (.if_icmp .lt 18, 3) := by decide +kernel
theorem dX8_endOfRun_17 : decode cX8_endOfRun 17 = .ok (.aload_n 0, 1) := by decide +kernel
theorem dX8_endOfRun_18 : decode cX8_endOfRun 18 = .ok (.iload 5, 2) := by decide +kernel
theorem dX8_endOfRun_20 : decode cX8_endOfRun 20 = .ok (.caload, 1) := by decide +kernel
theorem dX8_endOfRun_21 : decode cX8_endOfRun 21 = .ok (.iload 4, 2) := by decide +kernel
theorem dX8_endOfRun_23 : decode cX8_endOfRun 23 = .ok (.if_icmp .gt 9, 3) := by decide +kernel
theorem dX8_endOfRun_26 : decode cX8_endOfRun 26 = .ok (.iinc 5 1, 3) := by decide +kernel
theorem dX8_endOfRun_29 : decode cX8_endOfRun 29 = .ok (.goto (-26), 3) := by decide +kernel
theorem dX8_endOfRun_32 : decode cX8_endOfRun 32 = .ok (.iload 5, 2) := by decide +kernel
theorem dX8_endOfRun_34 : decode cX8_endOfRun 34 = .ok (.ireturn, 1) := by decide +kernel
theorem dX8_number_0 : decode cX8_number 0 = .ok (.iconst 0, 1) := by decide +kernel
theorem dX8_number_1 : decode cX8_number 1 = .ok (.istore_n 3, 1) := by decide +kernel
theorem dX8_number_2 : decode cX8_number 2 = .ok (.iload_n 1, 1) := by decide +kernel
theorem dX8_number_3 : decode cX8_number 3 = .ok (.istore 4, 2) := by decide +kernel
theorem dX8_number_5 : decode cX8_number 5 = .ok (.iload 4, 2) := by decide +kernel
theorem dX8_number_7 : decode cX8_number 7 = .ok (.iload_n 2, 1) := by decide +kernel
theorem dX8_number_8 : decode cX8_number 8 = .ok (.if_icmp .ge 22, 3) := by decide +kernel
theorem dX8_number_11 : decode cX8_number 11 = .ok (.iload_n 3, 1) := by decide +kernel
theorem dX8_number_12 : decode cX8_number 12 = .ok (.bipush 10, 2) := by decide +kernel
theorem dX8_number_14 : decode cX8_number 14 = .ok (.imul, 1) := by decide +kernel
theorem dX8_number_15 : decode cX8_number 15 = .ok (.aload_n 0, 1) := by decide +kernel
theorem dX8_number_16 : decode cX8_number 16 = .ok (.iload 4, 2) := by decide +kernel
theorem dX8_number_18 : decode cX8_number 18 = .ok (.caload, 1) := by decide +kernel
theorem dX8_number_19 : decode cX8_number 19 = .ok (.bipush 48, 2) := by decide +kernel
theorem dX8_number_21 : decode cX8_number 21 = .ok (.isub, 1) := by decide +kernel
theorem dX8_number_22 : decode cX8_number 22 = .ok (.iadd, 1) := by decide +kernel
theorem dX8_number_23 : decode cX8_number 23 = .ok (.istore_n 3, 1) := by decide +kernel
theorem dX8_number_24 : decode cX8_number 24 = .ok (.iinc 4 1, 3) := by decide +kernel
theorem dX8_number_27 : decode cX8_number 27 = .ok (.goto (-22), 3) := by decide +kernel
theorem dX8_number_30 : decode cX8_number 30 = .ok (.iload_n 3, 1) := by decide +kernel
theorem dX8_number_31 : decode cX8_number 31 = .ok (.ireturn, 1) := by decide +kernel
theorem dX8_wordCode_0 : decode cX8_wordCode 0 = .ok (.sipush 300, 3) := by decide +kernel
theorem dX8_wordCode_3 : decode cX8_wordCode 3 = .ok (.istore_n 3, 1) := by decide +kernel
theorem dX8_wordCode_4 : decode cX8_wordCode 4 = .ok (.iload_n 3, 1) := by decide +kernel
theorem dX8_wordCode_5 : decode cX8_wordCode 5 = .ok (.sipush 314, 3) := by decide +kernel
theorem dX8_wordCode_8 : decode cX8_wordCode 8 = .ok (.if_icmp .gt 24, 3) := by decide +kernel
theorem dX8_wordCode_11 : decode cX8_wordCode 11 = .ok (.iload_n 3, 1) := by decide +kernel
theorem dX8_wordCode_12 : decode cX8_wordCode 12 = .ok (.invokestatic 50, 3) := by decide +kernel
theorem dX8_wordCode_15 : decode cX8_wordCode 15 = .ok (.aload_n 0, 1) := by decide +kernel
theorem dX8_wordCode_16 : decode cX8_wordCode 16 = .ok (.iload_n 1, 1) := by decide +kernel
theorem dX8_wordCode_17 : decode cX8_wordCode 17 = .ok (.iload_n 2, 1) := by decide +kernel
theorem dX8_wordCode_18 : decode cX8_wordCode 18 = .ok (.invokestatic 54, 3) := by decide +kernel
theorem dX8_wordCode_21 : decode cX8_wordCode 21 = .ok (.ifCond .eq 5, 3) := by decide +kernel
theorem dX8_wordCode_24 : decode cX8_wordCode 24 = .ok (.iload_n 3, 1) := by decide +kernel
theorem dX8_wordCode_25 : decode cX8_wordCode 25 = .ok (.ireturn, 1) := by decide +kernel
theorem dX8_wordCode_26 : decode cX8_wordCode 26 = .ok (.iinc 3 1, 3) := by decide +kernel
theorem dX8_wordCode_29 : decode cX8_wordCode 29 = .ok (.goto (-25), 3) := by decide +kernel
theorem dX8_wordCode_32 : decode cX8_wordCode 32 = .ok (.sipush 257, 3) := by decide +kernel
theorem dX8_wordCode_35 : decode cX8_wordCode 35 = .ok (.ireturn, 1) := by decide +kernel
theorem dX8_isSpelled_0 : decode cX8_isSpelled 0 = .ok (.aload_n 0, 1) := by decide +kernel
theorem dX8_isSpelled_1 : decode cX8_isSpelled 1 = .ok (.invokevirtual 58, 3) := by decide +kernel
theorem dX8_isSpelled_4 : decode cX8_isSpelled 4 = .ok (.iload_n 3, 1) := by decide +kernel
theorem dX8_isSpelled_5 : decode cX8_isSpelled 5 = .ok (.iload_n 2, 1) := by decide +kernel
theorem dX8_isSpelled_6 : decode cX8_isSpelled 6 = .ok (.isub, 1) := by decide +kernel
theorem dX8_isSpelled_7 : decode cX8_isSpelled 7 = .ok (.if_icmp .eq 5, 3) := by decide +kernel
theorem dX8_isSpelled_10 : decode cX8_isSpelled 10 = .ok (.iconst 0, 1) := by decide +kernel
theorem dX8_isSpelled_11 : decode cX8_isSpelled 11 = .ok (.ireturn, 1) := by decide +kernel
theorem dX8_isSpelled_12 : decode cX8_isSpelled 12 = .ok (.iconst 0, 1) := by decide +kernel
theorem dX8_isSpelled_13 : decode cX8_isSpelled 13 = .ok (.istore 4, 2) := by decide +kernel
theorem dX8_isSpelled_15 : decode cX8_isSpelled 15 = .ok (.iload 4, 2) := by decide +kernel
theorem dX8_isSpelled_17 : decode cX8_isSpelled 17 = .ok (.aload_n 0, 1) := by decide +kernel
theorem dX8_isSpelled_18 : decode cX8_isSpelled 18 = .ok (.invokevirtual 58, 3) := by decide +kernel
theorem dX8_isSpelled_21 : decode cX8_isSpelled 21 = .ok (.if_icmp .ge 26, 3) := by decide +kernel
theorem dX8_isSpelled_24 : decode cX8_isSpelled 24 = .ok (.aload_n 0, 1) := by decide +kernel
theorem dX8_isSpelled_25 : decode cX8_isSpelled 25 = .ok (.iload 4, 2) := by decide +kernel
theorem dX8_isSpelled_27 : decode cX8_isSpelled 27 = .ok (.invokevirtual 64, 3) := by decide +kernel
theorem dX8_isSpelled_30 : decode cX8_isSpelled 30 = .ok (.aload_n 1, 1) := by decide +kernel
theorem dX8_isSpelled_31 : decode cX8_isSpelled 31 = .ok (.iload_n 2, 1) := by decide +kernel
theorem dX8_isSpelled_32 : decode cX8_isSpelled 32 = .ok (.iload 4, 2) := by decide +kernel
theorem dX8_isSpelled_34 : decode cX8_isSpelled 34 = .ok (.iadd, 1) := by decide +kernel
theorem dX8_isSpelled_35 : decode cX8_isSpelled 35 = .ok (.caload, 1) := by decide +kernel
theorem dX8_isSpelled_36 : decode cX8_isSpelled 36 = .ok (.if_icmp .eq 5, 3) := by decide +kernel
theorem dX8_isSpelled_39 : decode cX8_isSpelled 39 = .ok (.iconst 0, 1) := by decide +kernel
theorem dX8_isSpelled_40 : decode cX8_isSpelled 40 = .ok (.ireturn, 1) := by decide +kernel
theorem dX8_isSpelled_41 : decode cX8_isSpelled 41 = .ok (.iinc 4 1, 3) := by decide +kernel
theorem dX8_isSpelled_44 : decode cX8_isSpelled 44 = .ok (.goto (-29), 3) := by decide +kernel
theorem dX8_isSpelled_47 : decode cX8_isSpelled 47 = .ok (.iconst 1, 1) := by decide +kernel
theorem dX8_isSpelled_48 : decode cX8_isSpelled 48 = .ok (.ireturn, 1) := by decide +kernel
theorem dX8_spelling_0 : decode cX8_spelling 0 = .ok (.iload_n 0, 1) := by decide +kernel
theorem dX8_spelling_1 : decode cX8_spelling 1 = .ok (.tableswitch 120 300 314 #[75, 78, 81, 84, 87, 90, 93, 96, 99, 102, 105, 108, 111, 114, 117], 75) := by decide +kernel
theorem dX8_spelling_76 : decode cX8_spelling 76 = .ok (.ldc 68, 2) := by decide +kernel
theorem dX8_spelling_78 : decode cX8_spelling 78 = .ok (.areturn, 1) := by decide +kernel
theorem dX8_spelling_79 : decode cX8_spelling 79 = .ok (.ldc 70, 2) := by decide +kernel
theorem dX8_spelling_81 : decode cX8_spelling 81 = .ok (.areturn, 1) := by decide +kernel
theorem dX8_spelling_82 : decode cX8_spelling 82 = .ok (.ldc 72, 2) := by decide +kernel
theorem dX8_spelling_84 : decode cX8_spelling 84 = .ok (.areturn, 1) := by decide +kernel
theorem dX8_spelling_85 : decode cX8_spelling 85 = .ok (.ldc 74, 2) := by decide +kernel
theorem dX8_spelling_87 : decode cX8_spelling 87 = .ok (.areturn, 1) := by decide +kernel
theorem dX8_spelling_88 : decode cX8_spelling 88 = .ok (.ldc 76, 2) := by decide +kernel
theorem dX8_spelling_90 : decode cX8_spelling 90 = .ok (.areturn, 1) := by decide +kernel
theorem dX8_spelling_91 : decode cX8_spelling 91 = .ok (.ldc 78, 2) := by decide +kernel
theorem dX8_spelling_93 : decode cX8_spelling 93 = .ok (.areturn, 1) := by decide +kernel
theorem dX8_spelling_94 : decode cX8_spelling 94 = .ok (.ldc 80, 2) := by decide +kernel
theorem dX8_spelling_96 : decode cX8_spelling 96 = .ok (.areturn, 1) := by decide +kernel
theorem dX8_spelling_97 : decode cX8_spelling 97 = .ok (.ldc 82, 2) := by decide +kernel
theorem dX8_spelling_99 : decode cX8_spelling 99 = .ok (.areturn, 1) := by decide +kernel
theorem dX8_spelling_100 : decode cX8_spelling 100 = .ok (.ldc 84, 2) := by decide +kernel
theorem dX8_spelling_102 : decode cX8_spelling 102 = .ok (.areturn, 1) := by decide +kernel
theorem dX8_spelling_103 : decode cX8_spelling 103 = .ok (.ldc 86, 2) := by decide +kernel
theorem dX8_spelling_105 : decode cX8_spelling 105 = .ok (.areturn, 1) := by decide +kernel
theorem dX8_spelling_106 : decode cX8_spelling 106 = .ok (.ldc 88, 2) := by decide +kernel
theorem dX8_spelling_108 : decode cX8_spelling 108 = .ok (.areturn, 1) := by decide +kernel
theorem dX8_spelling_109 : decode cX8_spelling 109 = .ok (.ldc 90, 2) := by decide +kernel
theorem dX8_spelling_111 : decode cX8_spelling 111 = .ok (.areturn, 1) := by decide +kernel
theorem dX8_spelling_112 : decode cX8_spelling 112 = .ok (.ldc 92, 2) := by decide +kernel
theorem dX8_spelling_114 : decode cX8_spelling 114 = .ok (.areturn, 1) := by decide +kernel
theorem dX8_spelling_115 : decode cX8_spelling 115 = .ok (.ldc 94, 2) := by decide +kernel
theorem dX8_spelling_117 : decode cX8_spelling 117 = .ok (.areturn, 1) := by decide +kernel
theorem dX8_spelling_118 : decode cX8_spelling 118 = .ok (.ldc 96, 2) := by decide +kernel
theorem dX8_spelling_120 : decode cX8_spelling 120 = .ok (.areturn, 1) := by decide +kernel
theorem dX8_spelling_121 : decode cX8_spelling 121 = .ok (.ldc 98, 2) := by decide +kernel
theorem dX8_spelling_123 : decode cX8_spelling 123 = .ok (.areturn, 1) := by decide +kernel
theorem dX9_init_0 : decode cX9_init 0 = .ok (.aload_n 0, 1) := by decide +kernel
theorem dX9_init_1 : decode cX9_init 1 = .ok (.invokespecial 3, 3) := by decide +kernel
theorem dX9_init_4 : decode cX9_init 4 = .ok (.aload_n 0, 1) := by decide +kernel
theorem dX9_init_5 : decode cX9_init 5 = .ok (.iconst 0, 1) := by decide +kernel
theorem dX9_init_6 : decode cX9_init 6 = .ok (.putfield 9, 3) := by decide +kernel
theorem dX9_init_9 : decode cX9_init 9 = .ok (.aload_n 0, 1) := by decide +kernel
theorem dX9_init_10 : decode cX9_init 10 = .ok (.iconst 0, 1) := by decide +kernel
theorem dX9_init_11 : decode cX9_init 11 = .ok (.putfield 15, 3) := by decide +kernel
theorem dX9_init_14 : decode cX9_init 14 = .ok (.aload_n 0, 1) := by decide +kernel
theorem dX9_init_15 : decode cX9_init 15 = .ok (.iconst 1, 1) := by decide +kernel
theorem dX9_init_16 : decode cX9_init 16 = .ok (.putfield 18, 3) := by decide +kernel
theorem dX9_init_19 : decode cX9_init 19 = .ok (.aload_n 0, 1) := by decide +kernel
theorem dX9_init_20 : decode cX9_init 20 = .ok (.iconst 0, 1) := by decide +kernel
theorem dX9_init_21 : decode cX9_init 21 = .ok (.putfield 21, 3) := by decide +kernel
theorem dX9_init_24 : decode cX9_init 24 = .ok (.aload_n 0, 1) := by decide +kernel
theorem dX9_init_25 : decode cX9_init 25 = .ok (.iconst 0, 1) := by decide +kernel
theorem dX9_init_26 : decode cX9_init 26 = .ok (.putfield 24, 3) := by decide +kernel
theorem dX9_init_29 : decode cX9_init 29 = .ok (.aload_n 0, 1) := by decide +kernel
theorem dX9_init_30 : decode cX9_init 30 = .ok (.iconst 0, 1) := by decide +kernel
theorem dX9_init_31 : decode cX9_init 31 = .ok (.putfield 27, 3) := by decide +kernel
theorem dX9_init_34 : decode cX9_init 34 = .ok (.aload_n 0, 1) := by decide +kernel
theorem dX9_init_35 : decode cX9_init 35 = .ok (.iconst 0, 1) := by decide +kernel
theorem dX9_init_36 : decode cX9_init 36 = .ok (.putfield 30, 3) := by decide +kernel
theorem dX9_init_39 : decode cX9_init 39 = .ok (.aload_n 0, 1) := by decide +kernel
theorem dX9_init_40 : decode cX9_init 40 = .ok (.iconst 0, 1) := by decide +kernel
theorem dX9_init_41 : decode cX9_init 41 = .ok (.putfield 33, 3) := by decide +kernel
theorem dX9_init_44 : decode cX9_init 44 = .ok (.aload_n 0, 1) := by decide +kernel
theorem dX9_init_45 : decode cX9_init 45 = .ok (.bipush 10, 2) := by decide +kernel
theorem dX9_init_47 : decode cX9_init 47 = .ok (.anewarray 36, 3) := by decide +kernel
theorem dX9_init_50 : decode cX9_init 50 = .ok (.putfield 38, 3) := by decide +kernel
theorem dX9_init_53 : decode cX9_init 53 = .ok (.aload_n 0, 1) := by decide +kernel
theorem dX9_init_54 : decode cX9_init 54 = .ok (.bipush 40, 2) := by decide +kernel
theorem dX9_init_56 : decode cX9_init 56 = .ok (.newarray .int, 2) := by decide +kernel
theorem dX9_init_58 : decode cX9_init 58 = .ok (.putfield 42, 3) := by decide +kernel
theorem dX9_init_61 : decode cX9_init 61 = .ok (.aload_n 0, 1) := by decide +kernel
theorem dX9_init_62 : decode cX9_init 62 = .ok (.bipush 40, 2) := by decide +kernel
theorem dX9_init_64 : decode cX9_init 64 = .ok (.newarray .int, 2) := by decide +kernel
theorem dX9_init_66 : decode cX9_init 66 = .ok (.putfield 46, 3) := by decide +kernel
theorem dX9_init_69 : decode cX9_init 69 = .ok (.aload_n 0, 1) := by decide +kernel
theorem dX9_init_70 : decode cX9_init 70 = .ok (.bipush 40, 2) := by decide +kernel
theorem dX9_init_72 : decode cX9_init 72 = .ok (.newarray .int, 2) := by decide +kernel
theorem dX9_init_74 : decode cX9_init 74 = .ok (.putfield 49, 3) := by decide +kernel
theorem dX9_init_77 : decode cX9_init 77 = .ok (.aload_n 0, 1) := by decide +kernel
theorem dX9_init_78 : decode cX9_init 78 = .ok (.bipush 8, 2) := by decide +kernel
theorem dX9_init_80 : decode cX9_init 80 = .ok (.anewarray 52, 3) := by decide +kernel
theorem dX9_init_83 : decode cX9_init 83 = .ok (.putfield 54, 3) := by decide +kernel
theorem dX9_init_86 : decode cX9_init 86 = .ok (.aload_n 0, 1) := by decide +kernel
theorem dX9_init_87 : decode cX9_init 87 = .ok (.bipush 8, 2) := by decide +kernel
theorem dX9_init_89 : decode cX9_init 89 = .ok (.anewarray 58, 3) := by decide +kernel
theorem dX9_init_92 : decode cX9_init 92 = .ok (.putfield 60, 3) := by decide +kernel
theorem dX9_init_95 : decode cX9_init 95 = .ok (.iconst 0, 1) := by decide +kernel
theorem dX9_init_96 : decode cX9_init 96 = .ok (.istore_n 1, 1) := by decide +kernel
theorem dX9_init_97 : decode cX9_init 97 = .ok (.iload_n 1, 1) := by decide +kernel
theorem dX9_init_98 : decode cX9_init 98 = .ok (.bipush 10, 2) := by decide +kernel
theorem dX9_init_100 : decode cX9_init 100 = .ok (.if_icmp .ge 22, 3) := by decide +kernel
theorem dX9_init_103 : decode cX9_init 103 = .ok (.aload_n 0, 1) := by decide +kernel
theorem dX9_init_104 : decode cX9_init 104 = .ok (.getfield 38, 3) := by decide +kernel
theorem dX9_init_107 : decode cX9_init 107 = .ok (.iload_n 1, 1) := by decide +kernel
theorem dX9_init_108 : decode cX9_init 108 = .ok (.new 36, 3) := by decide +kernel
theorem dX9_init_111 : decode cX9_init 111 = .ok (.dup, 1) := by decide +kernel
theorem dX9_init_112 : decode cX9_init 112 = .ok (.invokespecial 64, 3) := by decide +kernel
theorem dX9_init_115 : decode cX9_init 115 = .ok (.aastore, 1) := by decide +kernel
theorem dX9_init_116 : decode cX9_init 116 = .ok (.iinc 1 1, 3) := by decide +kernel
theorem dX9_init_119 : decode cX9_init 119 = .ok (.goto (-22), 3) := by decide +kernel
theorem dX9_init_122 : decode cX9_init 122 = .ok (.new 52, 3) := by decide +kernel
theorem dX9_init_125 : decode cX9_init 125 = .ok (.dup, 1) := by decide +kernel
theorem dX9_init_126 : decode cX9_init 126 = .ok (.iconst 1, 1) := by decide +kernel
theorem dX9_init_127 : decode cX9_init 127 = .ok (.iconst 0, 1) := by decide +kernel
theorem dX9_init_128 : decode cX9_init 128 = .ok (.iconst 0, 1) := by decide +kernel
theorem dX9_init_129 : decode cX9_init 129 = .ok (.iconst 0, 1) := by decide +kernel
theorem dX9_init_130 : decode cX9_init 130 = .ok (.newarray .int, 2) := by decide +kernel
theorem dX9_init_132 : decode cX9_init 132 = .ok (.invokespecial 65, 3) := by decide +kernel
theorem dX9_init_135 : decode cX9_init 135 = .ok (.astore_n 1, 1) := by decide +kernel
theorem dX9_init_136 : decode cX9_init 136 = .ok (.iconst 0, 1) := by decide +kernel
theorem dX9_init_137 : decode cX9_init 137 = .ok (.istore_n 2, 1) := by decide +kernel
theorem dX9_init_138 : decode cX9_init 138 = .ok (.iload_n 2, 1) := by decide +kernel
theorem dX9_init_139 : decode cX9_init 139 = .ok (.bipush 8, 2) := by decide +kernel
theorem dX9_init_141 : decode cX9_init 141 = .ok (.if_icmp .ge 16, 3) := by decide +kernel
theorem dX9_init_144 : decode cX9_init 144 = .ok (.aload_n 0, 1) := by decide +kernel
theorem dX9_init_145 : decode cX9_init 145 = .ok (.getfield 54, 3) := by decide +kernel
theorem dX9_init_148 : decode cX9_init 148 = .ok (.iload_n 2, 1) := by decide +kernel
theorem dX9_init_149 : decode cX9_init 149 = .ok (.aload_n 1, 1) := by decide +kernel
theorem dX9_init_150 : decode cX9_init 150 = .ok (.aastore, 1) := by decide +kernel
theorem dX9_init_151 : decode cX9_init 151 = .ok (.iinc 2 1, 3) := by decide +kernel
theorem dX9_init_154 : decode cX9_init 154 = .ok (.goto (-16), 3) := by decide +kernel
theorem dX9_init_157 : decode cX9_init 157 = .ok (.new 58, 3) := by decide +kernel
theorem dX9_init_160 : decode cX9_init 160 = .ok (.dup, 1) := by decide +kernel
theorem dX9_init_161 : decode cX9_init 161 = .ok (.iconst 0, 1) := by decide +kernel
theorem dX9_init_162 : decode cX9_init 162 = .ok (.newarray .int, 2) := by decide +kernel
theorem dX9_init_164 : decode cX9_init 164 = .ok (.invokespecial 68, 3) := by decide +kernel
theorem dX9_init_167 : decode cX9_init 167 = .ok (.astore_n 2, 1) := by decide +kernel
theorem dX9_init_168 : decode cX9_init 168 = .ok (.iconst 0, 1) := by decide +kernel
theorem dX9_init_169 : decode cX9_init 169 = .ok (.istore_n 3, 1) := by decide +kernel
theorem dX9_init_170 : decode cX9_init 170 = .ok (.iload_n 3, 1) := by decide +kernel
theorem dX9_init_171 : decode cX9_init 171 = .ok (.bipush 8, 2) := by decide +kernel
theorem dX9_init_173 : decode cX9_init 173 = .ok (.if_icmp .ge 16, 3) := by decide +kernel
theorem dX9_init_176 : decode cX9_init 176 = .ok (.aload_n 0, 1) := by decide +kernel
theorem dX9_init_177 : decode cX9_init 177 = .ok (.getfield 60, 3) := by decide +kernel
theorem dX9_init_180 : decode cX9_init 180 = .ok (.iload_n 3, 1) := by decide +kernel
theorem dX9_init_181 : decode cX9_init 181 = .ok (.aload_n 2, 1) := by decide +kernel
theorem dX9_init_182 : decode cX9_init 182 = .ok (.aastore, 1) := by decide +kernel
theorem dX9_init_183 : decode cX9_init 183 = .ok (.iinc 3 1, 3) := by decide +kernel
theorem dX9_init_186 : decode cX9_init 186 = .ok (.goto (-16), 3) := by decide +kernel
theorem dX9_init_189 : decode cX9_init 189 = .ok (.return_, 1) := by decide +kernel
theorem dX9_become_0 : decode cX9_become 0 = .ok (.aload_n 0, 1) := by decide +kernel
theorem dX9_become_1 : decode cX9_become 1 = .ok (.aload_n 1, 1) := by decide +kernel
theorem dX9_become_2 : decode cX9_become 2 = .ok (.getfield 9, 3) := by decide +kernel
theorem dX9_become_5 : decode cX9_become 5 = .ok (.putfield 9, 3) := by decide +kernel
theorem dX9_become_8 : decode cX9_become 8 = .ok (.aload_n 0, 1) := by decide +kernel
theorem dX9_become_9 : decode cX9_become 9 = .ok (.aload_n 1, 1) := by decide +kernel
theorem dX9_become_10 : decode cX9_become 10 = .ok (.getfield 15, 3) := by decide +kernel
theorem dX9_become_13 : decode cX9_become 13 = .ok (.putfield 15, 3) := by decide +kernel
theorem dX9_become_16 : decode cX9_become 16 = .ok (.aload_n 0, 1) := by decide +kernel
theorem dX9_become_17 : decode cX9_become 17 = .ok (.aload_n 1, 1) := by decide +kernel
theorem dX9_become_18 : decode cX9_become 18 = .ok (.getfield 18, 3) := by decide +kernel
theorem dX9_become_21 : decode cX9_become 21 = .ok (.putfield 18, 3) := by decide +kernel
theorem dX9_become_24 : decode cX9_become 24 = .ok (.aload_n 0, 1) := by decide +kernel
theorem dX9_become_25 : decode cX9_become 25 = .ok (.aload_n 1, 1) := by decide +kernel
theorem dX9_become_26 : decode cX9_become 26 = .ok (.getfield 21, 3) := by decide +kernel
theorem dX9_become_29 : decode cX9_become 29 = .ok (.putfield 21, 3) := by decide +kernel
theorem dX9_become_32 : decode cX9_become 32 = .ok (.aload_n 0, 1) := by decide +kernel
theorem dX9_become_33 : decode cX9_become 33 = .ok (.aload_n 1, 1) := by decide +kernel
theorem dX9_become_34 : decode cX9_become 34 = .ok (.getfield 24, 3) := by decide +kernel
theorem dX9_become_37 : decode cX9_become 37 = .ok (.putfield 24, 3) := by decide +kernel
theorem dX9_become_40 : decode cX9_become 40 = .ok (.aload_n 0, 1) := by decide +kernel
theorem dX9_become_41 : decode cX9_become 41 = .ok (.aload_n 1, 1) := by decide +kernel
theorem dX9_become_42 : decode cX9_become 42 = .ok (.getfield 27, 3) := by decide +kernel
theorem dX9_become_45 : decode cX9_become 45 = .ok (.putfield 27, 3) := by decide +kernel
theorem dX9_become_48 : decode cX9_become 48 = .ok (.aload_n 0, 1) := by decide +kernel
theorem dX9_become_49 : decode cX9_become 49 = .ok (.aload_n 1, 1) := by decide +kernel
theorem dX9_become_50 : decode cX9_become 50 = .ok (.getfield 30, 3) := by decide +kernel
theorem dX9_become_53 : decode cX9_become 53 = .ok (.putfield 30, 3) := by decide +kernel
theorem dX9_become_56 : decode cX9_become 56 = .ok (.aload_n 0, 1) := by decide +kernel
theorem dX9_become_57 : decode cX9_become 57 = .ok (.aload_n 1, 1) := by decide +kernel
theorem dX9_become_58 : decode cX9_become 58 = .ok (.getfield 33, 3) := by decide +kernel
theorem dX9_become_61 : decode cX9_become 61 = .ok (.putfield 33, 3) := by decide +kernel
theorem dX9_become_64 : decode cX9_become 64 = .ok (.iconst 0, 1) := by decide +kernel
theorem dX9_become_65 : decode cX9_become 65 = .ok (.istore_n 2, 1) := by decide +kernel
theorem dX9_become_66 : decode cX9_become 66 = .ok (.iload_n 2, 1) := by decide +kernel
theorem dX9_become_67 : decode cX9_become 67 = .ok (.aload_n 0, 1) := by decide +kernel
theorem dX9_become_68 : decode cX9_become 68 = .ok (.getfield 24, 3) := by decide +kernel
theorem dX9_become_71 : decode cX9_become 71 = .ok (.if_icmp .ge 24, 3) := by decide +kernel
theorem dX9_become_74 : decode cX9_become 74 = .ok (.aload_n 0, 1) := by decide +kernel
theorem dX9_become_75 : decode cX9_become 75 = .ok (.getfield 38, 3) := by decide +kernel
theorem dX9_become_78 : decode cX9_become 78 = .ok (.iload_n 2, 1) := by decide +kernel
theorem dX9_become_79 : decode cX9_become 79 = .ok (.aaload, 1) := by decide +kernel
theorem dX9_become_80 : decode cX9_become 80 = .ok (.aload_n 1, 1) := by decide +kernel
theorem dX9_become_81 : decode cX9_become 81 = .ok (.getfield 38, 3) := by decide +kernel
theorem dX9_become_84 : decode cX9_become 84 = .ok (.iload_n 2, 1) := by decide +kernel
theorem dX9_become_85 : decode cX9_become 85 = .ok (.aaload, 1) := by decide +kernel
theorem dX9_become_86 : decode cX9_become 86 = .ok (.invokevirtual 71, 3) := by decide +kernel
theorem dX9_become_89 : decode cX9_become 89 = .ok (.iinc 2 1, 3) := by decide +kernel
theorem dX9_become_92 : decode cX9_become 92 = .ok (.goto (-26), 3) := by decide +kernel
theorem dX9_become_95 : decode cX9_become 95 = .ok (.iconst 0, 1) := by decide +kernel
theorem dX9_become_96 : decode cX9_become 96 = .ok (.istore_n 2, 1) := by decide +kernel
theorem dX9_become_97 : decode cX9_become 97 = .ok (.iload_n 2, 1) := by decide +kernel
theorem dX9_become_98 : decode cX9_become 98 = .ok (.aload_n 0, 1) := by decide +kernel
theorem dX9_become_99 : decode cX9_become 99 = .ok (.getfield 27, 3) := by decide +kernel
theorem dX9_become_102 : decode cX9_become 102 = .ok (.if_icmp .ge 45, 3) := by decide +kernel
theorem dX9_become_105 : decode cX9_become 105 = .ok (.aload_n 0, 1) := by decide +kernel
theorem dX9_become_106 : decode cX9_become 106 = .ok (.getfield 42, 3) := by decide +kernel
theorem dX9_become_109 : decode cX9_become 109 = .ok (.iload_n 2, 1) := by decide +kernel
theorem dX9_become_110 : decode cX9_become 110 = .ok (.aload_n 1, 1) := by decide +kernel
theorem dX9_become_111 : decode cX9_become 111 = .ok (.getfield 42, 3) := by decide +kernel
theorem dX9_become_114 : decode cX9_become 114 = .ok (.iload_n 2, 1) := by decide +kernel
theorem dX9_become_115 : decode cX9_become 115 = .ok (.iaload, 1) := by decide +kernel
theorem dX9_become_116 : decode cX9_become 116 = .ok (.iastore, 1) := by decide +kernel
theorem dX9_become_117 : decode cX9_become 117 = .ok (.aload_n 0, 1) := by decide +kernel
theorem dX9_become_118 : decode cX9_become 118 = .ok (.getfield 46, 3) := by decide +kernel
theorem dX9_become_121 : decode cX9_become 121 = .ok (.iload_n 2, 1) := by decide +kernel
theorem dX9_become_122 : decode cX9_become 122 = .ok (.aload_n 1, 1) := by decide +kernel
theorem dX9_become_123 : decode cX9_become 123 = .ok (.getfield 46, 3) := by decide +kernel
theorem dX9_become_126 : decode cX9_become 126 = .ok (.iload_n 2, 1) := by decide +kernel
theorem dX9_become_127 : decode cX9_become 127 = .ok (.iaload, 1) := by decide +kernel
theorem dX9_become_128 : decode cX9_become 128 = .ok (.iastore, 1) := by decide +kernel
theorem dX9_become_129 : decode cX9_become 129 = .ok (.aload_n 0, 1) := by decide +kernel
theorem dX9_become_130 : decode cX9_become 130 = .ok (.getfield 49, 3) := by decide +kernel
theorem dX9_become_133 : decode cX9_become 133 = .ok (.iload_n 2, 1) := by decide +kernel
theorem dX9_become_134 : decode cX9_become 134 = .ok (.aload_n 1, 1) := by decide +kernel
theorem dX9_become_135 : decode cX9_become 135 = .ok (.getfield 49, 3) := by decide +kernel
theorem dX9_become_138 : decode cX9_become 138 = .ok (.iload_n 2, 1) := by decide +kernel
theorem dX9_become_139 : decode cX9_become 139 = .ok (.iaload, 1) := by decide +kernel
theorem dX9_become_140 : decode cX9_become 140 = .ok (.iastore, 1) := by decide +kernel
theorem dX9_become_141 : decode cX9_become 141 = .ok (.iinc 2 1, 3) := by decide +kernel
theorem dX9_become_144 : decode cX9_become 144 = .ok (.goto (-47), 3) := by decide +kernel
theorem dX9_become_147 : decode cX9_become 147 = .ok (.iconst 0, 1) := by decide +kernel
theorem dX9_become_148 : decode cX9_become 148 = .ok (.istore_n 2, 1) := by decide +kernel
theorem dX9_become_149 : decode cX9_become 149 = .ok (.iload_n 2, 1) := by decide +kernel
theorem dX9_become_150 : decode cX9_become 150 = .ok (.aload_n 0, 1) := by decide +kernel
theorem dX9_become_151 : decode cX9_become 151 = .ok (.getfield 30, 3) := by decide +kernel
theorem dX9_become_154 : decode cX9_become 154 = .ok (.if_icmp .ge 21, 3) := by decide +kernel
theorem dX9_become_157 : decode cX9_become 157 = .ok (.aload_n 0, 1) := by decide +kernel
theorem dX9_become_158 : decode cX9_become 158 = .ok (.getfield 54, 3) := by decide +kernel
theorem dX9_become_161 : decode cX9_become 161 = .ok (.iload_n 2, 1) := by decide +kernel
theorem dX9_become_162 : decode cX9_become 162 = .ok (.aload_n 1, 1) := by decide +kernel
theorem dX9_become_163 : decode cX9_become 163 = .ok (.getfield 54, 3) := by decide +kernel
theorem dX9_become_166 : decode cX9_become 166 = .ok (.iload_n 2, 1) := by decide +kernel
theorem dX9_become_167 : decode cX9_become 167 = .ok (.aaload, 1) := by decide +kernel
theorem dX9_become_168 : decode cX9_become 168 = .ok (.aastore, 1) := by decide +kernel
theorem dX9_become_169 : decode cX9_become 169 = .ok (.iinc 2 1, 3) := by decide +kernel
theorem dX9_become_172 : decode cX9_become 172 = .ok (.goto (-23), 3) := by decide +kernel
theorem dX9_become_175 : decode cX9_become 175 = .ok (.iconst 0, 1) := by decide +kernel
theorem dX9_become_176 : decode cX9_become 176 = .ok (.istore_n 2, 1) := by decide +kernel
theorem dX9_become_177 : decode cX9_become 177 = .ok (.iload_n 2, 1) := by decide +kernel
theorem dX9_become_178 : decode cX9_become 178 = .ok (.aload_n 0, 1) := by decide +kernel
theorem dX9_become_179 : decode cX9_become 179 = .ok (.getfield 33, 3) := by decide +kernel
theorem dX9_become_182 : decode cX9_become 182 = .ok (.if_icmp .ge 21, 3) := by decide +kernel
theorem dX9_become_185 : decode cX9_become 185 = .ok (.aload_n 0, 1) := by decide +kernel
theorem dX9_become_186 : decode cX9_become 186 = .ok (.getfield 60, 3) := by decide +kernel
theorem dX9_become_189 : decode cX9_become 189 = .ok (.iload_n 2, 1) := by decide +kernel
theorem dX9_become_190 : decode cX9_become 190 = .ok (.aload_n 1, 1) := by decide +kernel
theorem dX9_become_191 : decode cX9_become 191 = .ok (.getfield 60, 3) := by decide +kernel
theorem dX9_become_194 : decode cX9_become 194 = .ok (.iload_n 2, 1) := by decide +kernel
theorem dX9_become_195 : decode cX9_become 195 = .ok (.aaload, 1) := by decide +kernel
theorem dX9_become_196 : decode cX9_become 196 = .ok (.aastore, 1) := by decide +kernel
theorem dX9_become_197 : decode cX9_become 197 = .ok (.iinc 2 1, 3) := by decide +kernel
theorem dX9_become_200 : decode cX9_become 200 = .ok (.goto (-23), 3) := by decide +kernel
theorem dX9_become_203 : decode cX9_become 203 = .ok (.return_, 1) := by decide +kernel
theorem dX9_hasPart_0 : decode cX9_hasPart 0 = .ok (.iload_n 1, 1) := by decide +kernel
theorem dX9_hasPart_1 : decode cX9_hasPart 1 = .ok (.ifCond .lt 15, 3) := by decide +kernel
theorem dX9_hasPart_4 : decode cX9_hasPart 4 = .ok (.iload_n 1, 1) := by decide +kernel
theorem dX9_hasPart_5 : decode cX9_hasPart 5 = .ok (.aload_n 0, 1) := by decide +kernel
theorem dX9_hasPart_6 : decode cX9_hasPart 6 = .ok (.getfield 24, 3) := by decide +kernel
theorem dX9_hasPart_9 : decode cX9_hasPart 9 = .ok (.if_icmp .ge 7, 3) := by decide +kernel
theorem dX9_hasPart_12 : decode cX9_hasPart 12 = .ok (.iconst 1, 1) := by decide +kernel
theorem dX9_hasPart_13 : decode cX9_hasPart 13 = .ok (.goto 4, 3) := by decide +kernel
theorem dX9_hasPart_16 : decode cX9_hasPart 16 = .ok (.iconst 0, 1) := by decide +kernel
theorem dX9_hasPart_17 : decode cX9_hasPart 17 = .ok (.ireturn, 1) := by decide +kernel
theorem dX9_hasStory_0 : decode cX9_hasStory 0 = .ok (.iload_n 1, 1) := by decide +kernel
theorem dX9_hasStory_1 : decode cX9_hasStory 1 = .ok (.ifCond .lt 15, 3) := by decide +kernel
theorem dX9_hasStory_4 : decode cX9_hasStory 4 = .ok (.iload_n 1, 1) := by decide +kernel
theorem dX9_hasStory_5 : decode cX9_hasStory 5 = .ok (.aload_n 0, 1) := by decide +kernel
theorem dX9_hasStory_6 : decode cX9_hasStory 6 = .ok (.getfield 30, 3) := by decide +kernel
theorem dX9_hasStory_9 : decode cX9_hasStory 9 = .ok (.if_icmp .ge 7, 3) := by decide +kernel
theorem dX9_hasStory_12 : decode cX9_hasStory 12 = .ok (.iconst 1, 1) := by decide +kernel
theorem dX9_hasStory_13 : decode cX9_hasStory 13 = .ok (.goto 4, 3) := by decide +kernel
theorem dX9_hasStory_16 : decode cX9_hasStory 16 = .ok (.iconst 0, 1) := by decide +kernel
theorem dX9_hasStory_17 : decode cX9_hasStory 17 = .ok (.ireturn, 1) := by decide +kernel
theorem dX9_areStories_0 : decode cX9_areStories 0 = .ok (.iload_n 1, 1) := by decide +kernel
theorem dX9_areStories_1 : decode cX9_areStories 1 = .ok (.aload_n 0, 1) := by decide +kernel
theorem dX9_areStories_2 : decode cX9_areStories 2 = .ok (.getfield 30, 3) := by decide +kernel
theorem dX9_areStories_5 : decode cX9_areStories 5 = .ok (.iushr, 1) := by decide +kernel
theorem dX9_areStories_6 : decode cX9_areStories 6 = .ok (.ifCond .ne 7, 3) := by decide +kernel
theorem dX9_areStories_9 : decode cX9_areStories 9 = .ok (.iconst 1, 1) := by decide +kernel
theorem dX9_areStories_10 : decode cX9_areStories 10 = .ok (.goto 4, 3) := by decide +kernel
theorem dX9_areStories_13 : decode cX9_areStories 13 = .ok (.iconst 0, 1) := by decide +kernel
theorem dX9_areStories_14 : decode cX9_areStories 14 = .ok (.ireturn, 1) := by decide +kernel
theorem dX9_draw_0 : decode cX9_draw 0 = .ok (.aload_n 0, 1) := by decide +kernel
theorem dX9_draw_1 : decode cX9_draw 1 = .ok (.aload_n 0, 1) := by decide +kernel
theorem dX9_draw_2 : decode cX9_draw 2 = .ok (.getfield 18, 3) := by decide +kernel
theorem dX9_draw_5 : decode cX9_draw 5 = .ok (.ldc 75, 2) := by decide +kernel
theorem dX9_draw_7 : decode cX9_draw 7 = .ok (.imul, 1) := by decide +kernel
theorem dX9_draw_8 : decode cX9_draw 8 = .ok (.sipush 12345, 3) := by decide +kernel
theorem dX9_draw_11 : decode cX9_draw 11 = .ok (.iadd, 1) := by decide +kernel
theorem dX9_draw_12 : decode cX9_draw 12 = .ok (.putfield 18, 3) := by decide +kernel
theorem dX9_draw_15 : decode cX9_draw 15 = .ok (.aload_n 0, 1) := by decide +kernel
theorem dX9_draw_16 : decode cX9_draw 16 = .ok (.getfield 15, 3) := by decide +kernel
theorem dX9_draw_19 : decode cX9_draw 19 = .ok (.ifCond .le 27, 3) := by decide +kernel
theorem dX9_draw_22 : decode cX9_draw 22 = .ok (.aload_n 0, 1) := by decide +kernel
theorem dX9_draw_23 : decode cX9_draw 23 = .ok (.getfield 18, 3) := by decide +kernel
theorem dX9_draw_26 : decode cX9_draw 26 = .ok (.bipush 16, 2) := by decide +kernel
theorem dX9_draw_28 : decode cX9_draw 28 = .ok (.iushr, 1) := by decide +kernel
theorem dX9_draw_29 : decode cX9_draw 29 = .ok (.iconst 2, 1) := by decide +kernel
theorem dX9_draw_30 : decode cX9_draw 30 = .ok (.aload_n 0, 1) := by decide +kernel
theorem dX9_draw_31 : decode cX9_draw 31 = .ok (.getfield 15, 3) := by decide +kernel
theorem dX9_draw_34 : decode cX9_draw 34 = .ok (.imul, 1) := by decide +kernel
theorem dX9_draw_35 : decode cX9_draw 35 = .ok (.iconst 1, 1) := by decide +kernel
theorem dX9_draw_36 : decode cX9_draw 36 = .ok (.iadd, 1) := by decide +kernel
theorem dX9_draw_37 : decode cX9_draw 37 = .ok (.irem, 1) := by decide +kernel
theorem dX9_draw_38 : decode cX9_draw 38 = .ok (.aload_n 0, 1) := by decide +kernel
theorem dX9_draw_39 : decode cX9_draw 39 = .ok (.getfield 15, 3) := by decide +kernel
theorem dX9_draw_42 : decode cX9_draw 42 = .ok (.isub, 1) := by decide +kernel
theorem dX9_draw_43 : decode cX9_draw 43 = .ok (.goto 4, 3) := by decide +kernel
theorem dX9_draw_46 : decode cX9_draw 46 = .ok (.iconst 0, 1) := by decide +kernel
theorem dX9_draw_47 : decode cX9_draw 47 = .ok (.ireturn, 1) := by decide +kernel
theorem dX9_addRun_0 : decode cX9_addRun 0 = .ok (.aload_n 0, 1) := by decide +kernel
theorem dX9_addRun_1 : decode cX9_addRun 1 = .ok (.getfield 42, 3) := by decide +kernel
theorem dX9_addRun_4 : decode cX9_addRun 4 = .ok (.aload_n 0, 1) := by decide +kernel
theorem dX9_addRun_5 : decode cX9_addRun 5 = .ok (.getfield 27, 3) := by decide +kernel
theorem dX9_addRun_8 : decode cX9_addRun 8 = .ok (.iload_n 1, 1) := by decide +kernel
theorem dX9_addRun_9 : decode cX9_addRun 9 = .ok (.iastore, 1) := by decide +kernel
theorem dX9_addRun_10 : decode cX9_addRun 10 = .ok (.aload_n 0, 1) := by decide +kernel
theorem dX9_addRun_11 : decode cX9_addRun 11 = .ok (.getfield 46, 3) := by decide +kernel
theorem dX9_addRun_14 : decode cX9_addRun 14 = .ok (.aload_n 0, 1) := by decide +kernel
theorem dX9_addRun_15 : decode cX9_addRun 15 = .ok (.getfield 27, 3) := by decide +kernel
theorem dX9_addRun_18 : decode cX9_addRun 18 = .ok (.iload_n 2, 1) := by decide +kernel
theorem dX9_addRun_19 : decode cX9_addRun 19 = .ok (.iastore, 1) := by decide +kernel
theorem dX9_addRun_20 : decode cX9_addRun 20 = .ok (.aload_n 0, 1) := by decide +kernel
theorem dX9_addRun_21 : decode cX9_addRun 21 = .ok (.getfield 49, 3) := by decide +kernel
theorem dX9_addRun_24 : decode cX9_addRun 24 = .ok (.aload_n 0, 1) := by decide +kernel
theorem dX9_addRun_25 : decode cX9_addRun 25 = .ok (.getfield 27, 3) := by decide +kernel
theorem dX9_addRun_28 : decode cX9_addRun 28 = .ok (.iload_n 3, 1) := by decide +kernel
theorem dX9_addRun_29 : decode cX9_addRun 29 = .ok (.iastore, 1) := by decide +kernel
theorem dX9_addRun_30 : decode cX9_addRun 30 = .ok (.aload_n 0, 1) := by decide +kernel
theorem dX9_addRun_31 : decode cX9_addRun 31 = .ok (.dup, 1) := by decide +kernel
theorem dX9_addRun_32 : decode cX9_addRun 32 = .ok (.getfield 27, 3) := by decide +kernel
theorem dX9_addRun_35 : decode cX9_addRun 35 = .ok (.iconst 1, 1) := by decide +kernel
theorem dX9_addRun_36 : decode cX9_addRun 36 = .ok (.iadd, 1) := by decide +kernel
theorem dX9_addRun_37 : decode cX9_addRun 37 = .ok (.putfield 27, 3) := by decide +kernel
theorem dX9_addRun_40 : decode cX9_addRun 40 = .ok (.aload_n 0, 1) := by decide +kernel
theorem dX9_addRun_41 : decode cX9_addRun 41 = .ok (.getfield 27, 3) := by decide +kernel
theorem dX9_addRun_44 : decode cX9_addRun 44 = .ok (.iconst 1, 1) := by decide +kernel
theorem dX9_addRun_45 : decode cX9_addRun 45 = .ok (.isub, 1) := by decide +kernel
theorem dX9_addRun_46 : decode cX9_addRun 46 = .ok (.ireturn, 1) := by decide +kernel
theorem dX9_given_0 : decode cX9_given 0 = .ok (.aload_n 0, 1) := by decide +kernel
theorem dX9_given_1 : decode cX9_given 1 = .ok (.getfield 54, 3) := by decide +kernel
theorem dX9_given_4 : decode cX9_given 4 = .ok (.iload_n 1, 1) := by decide +kernel
theorem dX9_given_5 : decode cX9_given 5 = .ok (.aaload, 1) := by decide +kernel
theorem dX9_given_6 : decode cX9_given 6 = .ok (.astore 4, 2) := by decide +kernel
theorem dX9_given_8 : decode cX9_given 8 = .ok (.aload 4, 2) := by decide +kernel
theorem dX9_given_10 : decode cX9_given 10 = .ok (.getfield 76, 3) := by decide +kernel
theorem dX9_given_13 : decode cX9_given 13 = .ok (.iconst 1, 1) := by decide +kernel
theorem dX9_given_14 : decode cX9_given 14 = .ok (.if_icmp .ne 9, 3) := by decide +kernel
theorem dX9_given_17 : decode cX9_given 17 = .ok (.aload 4, 2) := by decide +kernel
theorem dX9_given_19 : decode cX9_given 19 = .ok (.getfield 79, 3) := by decide +kernel
theorem dX9_given_22 : decode cX9_given 22 = .ok (.ireturn, 1) := by decide +kernel
theorem dX9_given_23 : decode cX9_given 23 = .ok (.iconst 0, 1) := by decide +kernel
theorem dX9_given_24 : decode cX9_given 24 = .ok (.istore 5, 2) := by decide +kernel
theorem dX9_given_26 : decode cX9_given 26 = .ok (.iconst 0, 1) := by decide +kernel
theorem dX9_given_27 : decode cX9_given 27 = .ok (.istore 6, 2) := by decide +kernel
theorem dX9_given_29 : decode cX9_given 29 = .ok (.iload 6, 2) := by decide +kernel
theorem dX9_given_31 : decode cX9_given 31 = .ok (.aload 4, 2) := by decide +kernel
theorem dX9_given_33 : decode cX9_given 33 = .ok (.invokevirtual 82, 3) := by decide +kernel
theorem dX9_given_36 : decode cX9_given 36 = .ok (.if_icmp .ge 54, 3) := by decide +kernel
theorem dX9_given_39 : decode cX9_given 39 = .ok (.aload 4, 2) := by decide +kernel
theorem dX9_given_41 : decode cX9_given 41 = .ok (.iload 6, 2) := by decide +kernel
theorem dX9_given_43 : decode cX9_given 43 = .ok (.invokevirtual 86, 3) := by decide +kernel
theorem dX9_given_46 : decode cX9_given 46 = .ok (.istore 7, 2) := by decide +kernel
theorem dX9_given_48 : decode cX9_given 48 = .ok (.aload_n 0, 1) := by decide +kernel
theorem dX9_given_49 : decode cX9_given 49 = .ok (.iload 7, 2) := by decide +kernel
theorem dX9_given_51 : decode cX9_given 51 = .ok (.invokevirtual 90, 3) := by decide +kernel
theorem dX9_given_54 : decode cX9_given 54 = .ok (.ifCond .eq 30, 3) := by decide +kernel
theorem dX9_given_57 : decode cX9_given 57 = .ok (.aload_n 0, 1) := by decide +kernel
theorem dX9_given_58 : decode cX9_given 58 = .ok (.getfield 38, 3) := by decide +kernel
theorem dX9_given_61 : decode cX9_given 61 = .ok (.iload 7, 2) := by decide +kernel
theorem dX9_given_63 : decode cX9_given 63 = .ok (.aaload, 1) := by decide +kernel
theorem dX9_given_64 : decode cX9_given 64 = .ok (.iload_n 2, 1) := by decide +kernel
theorem dX9_given_65 : decode cX9_given 65 = .ok (.invokevirtual 94, 3) := by decide +kernel
theorem dX9_given_68 : decode cX9_given 68 = .ok (.ifCond .eq 16, 3) := by decide +kernel
theorem dX9_given_71 : decode cX9_given 71 = .ok (.iload 5, 2) := by decide +kernel
theorem dX9_given_73 : decode cX9_given 73 = .ok (.aload 4, 2) := by decide +kernel
theorem dX9_given_75 : decode cX9_given 75 = .ok (.iload 6, 2) := by decide +kernel
theorem dX9_given_77 : decode cX9_given 77 = .ok (.iload_n 3, 1) := by decide +kernel
theorem dX9_given_78 : decode cX9_given 78 = .ok (.invokevirtual 97, 3) := by decide +kernel
theorem dX9_given_81 : decode cX9_given 81 = .ok (.iadd, 1) := by decide +kernel
theorem dX9_given_82 : decode cX9_given 82 = .ok (.istore 5, 2) := by decide +kernel
theorem dX9_given_84 : decode cX9_given 84 = .ok (.iinc 6 1, 3) := by decide +kernel
theorem dX9_given_87 : decode cX9_given 87 = .ok (.goto (-58), 3) := by decide +kernel
theorem dX9_given_90 : decode cX9_given 90 = .ok (.iload 5, 2) := by decide +kernel
theorem dX9_given_92 : decode cX9_given 92 = .ok (.ireturn, 1) := by decide +kernel
theorem dX9_farFrom_0 : decode cX9_farFrom 0 = .ok (.aload_n 0, 1) := by decide +kernel
theorem dX9_farFrom_1 : decode cX9_farFrom 1 = .ok (.getfield 49, 3) := by decide +kernel
theorem dX9_farFrom_4 : decode cX9_farFrom 4 = .ok (.iload_n 2, 1) := by decide +kernel
theorem dX9_farFrom_5 : decode cX9_farFrom 5 = .ok (.iaload, 1) := by decide +kernel
theorem dX9_farFrom_6 : decode cX9_farFrom 6 = .ok (.aload_n 0, 1) := by decide +kernel
theorem dX9_farFrom_7 : decode cX9_farFrom 7 = .ok (.iload_n 1, 1) := by decide +kernel
theorem dX9_farFrom_8 : decode cX9_farFrom 8 = .ok (.aload_n 0, 1) := by decide +kernel
theorem dX9_farFrom_9 : decode cX9_farFrom 9 = .ok (.getfield 46, 3) := by decide +kernel
theorem dX9_farFrom_12 : decode cX9_farFrom 12 = .ok (.iload_n 2, 1) := by decide +kernel
theorem dX9_farFrom_13 : decode cX9_farFrom 13 = .ok (.iaload, 1) := by decide +kernel
theorem dX9_farFrom_14 : decode cX9_farFrom 14 = .ok (.aload_n 0, 1) := by decide +kernel
theorem dX9_farFrom_15 : decode cX9_farFrom 15 = .ok (.getfield 42, 3) := by decide +kernel
theorem dX9_farFrom_18 : decode cX9_farFrom 18 = .ok (.iload_n 2, 1) := by decide +kernel
theorem dX9_farFrom_19 : decode cX9_farFrom 19 = .ok (.iaload, 1) := by decide +kernel
theorem dX9_farFrom_20 : decode cX9_farFrom 20 = .ok (.invokevirtual 101, 3) := by decide +kernel
theorem dX9_farFrom_23 : decode cX9_farFrom 23 = .ok (.isub, 1) := by decide +kernel
theorem dX9_farFrom_24 : decode cX9_farFrom 24 = .ok (.invokestatic 105, 3) := by decide +kernel
theorem dX9_farFrom_27 : decode cX9_farFrom 27 = .ok (.ireturn, 1) := by decide +kernel
theorem dX9_missed_0 : decode cX9_missed 0 = .ok (.iconst 0, 1) := by decide +kernel
theorem dX9_missed_1 : decode cX9_missed 1 = .ok (.istore_n 2, 1) := by decide +kernel
theorem dX9_missed_2 : decode cX9_missed 2 = .ok (.iconst 0, 1) := by decide +kernel
theorem dX9_missed_3 : decode cX9_missed 3 = .ok (.istore_n 3, 1) := by decide +kernel
theorem dX9_missed_4 : decode cX9_missed 4 = .ok (.iload_n 3, 1) := by decide +kernel
theorem dX9_missed_5 : decode cX9_missed 5 = .ok (.aload_n 0, 1) := by decide +kernel
theorem dX9_missed_6 : decode cX9_missed 6 = .ok (.getfield 27, 3) := by decide +kernel
theorem dX9_missed_9 : decode cX9_missed 9 = .ok (.if_icmp .ge 18, 3) := by decide +kernel
theorem dX9_missed_12 : decode cX9_missed 12 = .ok (.iload_n 2, 1) := by decide +kernel
theorem dX9_missed_13 : decode cX9_missed 13 = .ok (.aload_n 0, 1) := by decide +kernel
theorem dX9_missed_14 : decode cX9_missed 14 = .ok (.iload_n 1, 1) := by decide +kernel
theorem dX9_missed_15 : decode cX9_missed 15 = .ok (.iload_n 3, 1) := by decide +kernel
theorem dX9_missed_16 : decode cX9_missed 16 = .ok (.invokevirtual 110, 3) := by decide +kernel
theorem dX9_missed_19 : decode cX9_missed 19 = .ok (.iadd, 1) := by decide +kernel
theorem dX9_missed_20 : decode cX9_missed 20 = .ok (.istore_n 2, 1) := by decide +kernel
theorem dX9_missed_21 : decode cX9_missed 21 = .ok (.iinc 3 1, 3) := by decide +kernel
theorem dX9_missed_24 : decode cX9_missed 24 = .ok (.goto (-20), 3) := by decide +kernel
theorem dX9_missed_27 : decode cX9_missed 27 = .ok (.iload_n 2, 1) := by decide +kernel
theorem dX9_missed_28 : decode cX9_missed 28 = .ok (.ireturn, 1) := by decide +kernel
theorem dX9_leastMissed_0 : decode cX9_leastMissed 0 = .ok (.iconst 0, 1) := by decide +kernel
theorem dX9_leastMissed_1 : decode cX9_leastMissed 1 = .ok (.istore_n 1, 1) := by decide +kernel
theorem dX9_leastMissed_2 : decode cX9_leastMissed 2 = .ok (.aload_n 0, 1) := by decide +kernel
theorem dX9_leastMissed_3 : decode cX9_leastMissed 3 = .ok (.iconst 0, 1) := by decide +kernel
theorem dX9_leastMissed_4 : decode cX9_leastMissed 4 = .ok (.invokevirtual 113, 3) := by decide +kernel
theorem dX9_leastMissed_7 : decode cX9_leastMissed 7 = .ok (.istore_n 2, 1) := by decide +kernel
theorem dX9_leastMissed_8 : decode cX9_leastMissed 8 = .ok (.iconst 1, 1) := by decide +kernel
theorem dX9_leastMissed_9 : decode cX9_leastMissed 9 = .ok (.istore_n 3, 1) := by decide +kernel
theorem dX9_leastMissed_10 : decode cX9_leastMissed 10 = .ok (.iload_n 3, 1) := by decide +kernel
theorem dX9_leastMissed_11 : decode cX9_leastMissed 11 = .ok (.aload_n 0, 1) := by decide +kernel
theorem dX9_leastMissed_12 : decode cX9_leastMissed 12 = .ok (.getfield 30, 3) := by decide +kernel
theorem dX9_leastMissed_15 : decode cX9_leastMissed 15 = .ok (.if_icmp .ge 27, 3) := by decide +kernel
theorem dX9_leastMissed_18 : decode cX9_leastMissed 18 = .ok (.aload_n 0, 1) := by decide +kernel
theorem dX9_leastMissed_19 : decode cX9_leastMissed 19 = .ok (.iload_n 3, 1) := by decide +kernel
theorem dX9_leastMissed_20 : decode cX9_leastMissed 20 = .ok (.invokevirtual 113, 3) := by decide +kernel
theorem dX9_leastMissed_23 : decode cX9_leastMissed 23 = .ok (.istore 4, 2) := by decide +kernel
theorem dX9_leastMissed_25 : decode cX9_leastMissed 25 = .ok (.iload 4, 2) := by decide +kernel
theorem dX9_leastMissed_27 : decode cX9_leastMissed 27 = .ok (.iload_n 2, 1) := by decide +kernel
theorem dX9_leastMissed_28 : decode cX9_leastMissed 28 = .ok (.if_icmp .ge 8, 3) := by decide +kernel
theorem dX9_leastMissed_31 : decode cX9_leastMissed 31 = .ok (.iload_n 3, 1) := by decide +kernel
theorem dX9_leastMissed_32 : decode cX9_leastMissed 32 = .ok (.istore_n 1, 1) := by decide +kernel
theorem dX9_leastMissed_33 : decode cX9_leastMissed 33 = .ok (.iload 4, 2) := by decide +kernel
theorem dX9_leastMissed_35 : decode cX9_leastMissed 35 = .ok (.istore_n 2, 1) := by decide +kernel
theorem dX9_leastMissed_36 : decode cX9_leastMissed 36 = .ok (.iinc 3 1, 3) := by decide +kernel
theorem dX9_leastMissed_39 : decode cX9_leastMissed 39 = .ok (.goto (-29), 3) := by decide +kernel
theorem dX9_leastMissed_42 : decode cX9_leastMissed 42 = .ok (.iload_n 1, 1) := by decide +kernel
theorem dX9_leastMissed_43 : decode cX9_leastMissed 43 = .ok (.ireturn, 1) := by decide +kernel
theorem dX9_weighed_0 : decode cX9_weighed 0 = .ok (.aload_n 0, 1) := by decide +kernel
theorem dX9_weighed_1 : decode cX9_weighed 1 = .ok (.getfield 54, 3) := by decide +kernel
theorem dX9_weighed_4 : decode cX9_weighed 4 = .ok (.iload_n 1, 1) := by decide +kernel
theorem dX9_weighed_5 : decode cX9_weighed 5 = .ok (.aaload, 1) := by decide +kernel
theorem dX9_weighed_6 : decode cX9_weighed 6 = .ok (.getfield 116, 3) := by decide +kernel
theorem dX9_weighed_9 : decode cX9_weighed 9 = .ok (.i2l, 1) := by decide +kernel
theorem dX9_weighed_10 : decode cX9_weighed 10 = .ok (.lstore_n 2, 1) := by decide +kernel
theorem dX9_weighed_11 : decode cX9_weighed 11 = .ok (.iconst 0, 1) := by decide +kernel
theorem dX9_weighed_12 : decode cX9_weighed 12 = .ok (.aload_n 0, 1) := by decide +kernel
theorem dX9_weighed_13 : decode cX9_weighed 13 = .ok (.getfield 27, 3) := by decide +kernel
theorem dX9_weighed_16 : decode cX9_weighed 16 = .ok (.bipush 12, 2) := by decide +kernel
theorem dX9_weighed_18 : decode cX9_weighed 18 = .ok (.isub, 1) := by decide +kernel
theorem dX9_weighed_19 : decode cX9_weighed 19 = .ok (.invokestatic 119, 3) := by decide +kernel
theorem dX9_weighed_22 : decode cX9_weighed 22 = .ok (.istore 4, 2) := by decide +kernel
theorem dX9_weighed_24 : decode cX9_weighed 24 = .ok (.iload 4, 2) := by decide +kernel
theorem dX9_weighed_26 : decode cX9_weighed 26 = .ok (.aload_n 0, 1) := by decide +kernel
theorem dX9_weighed_27 : decode cX9_weighed 27 = .ok (.getfield 27, 3) := by decide +kernel
theorem dX9_weighed_30 : decode cX9_weighed 30 = .ok (.if_icmp .ge 60, 3) := by decide +kernel
theorem dX9_weighed_33 : decode cX9_weighed 33 = .ok (.aload_n 0, 1) := by decide +kernel
theorem dX9_weighed_34 : decode cX9_weighed 34 = .ok (.iload_n 1, 1) := by decide +kernel
theorem dX9_weighed_35 : decode cX9_weighed 35 = .ok (.iload 4, 2) := by decide +kernel
theorem dX9_weighed_37 : decode cX9_weighed 37 = .ok (.invokevirtual 110, 3) := by decide +kernel
theorem dX9_weighed_40 : decode cX9_weighed 40 = .ok (.istore 5, 2) := by decide +kernel
theorem dX9_weighed_42 : decode cX9_weighed 42 = .ok (.lload_n 2, 1) := by decide +kernel
theorem dX9_weighed_43 : decode cX9_weighed 43 = .ok (.iload 5, 2) := by decide +kernel
theorem dX9_weighed_45 : decode cX9_weighed 45 = .ok (.iconst 2, 1) := by decide +kernel
theorem dX9_weighed_46 : decode cX9_weighed 46 = .ok (.if_icmp .gt 9, 3) := by decide +kernel
theorem dX9_weighed_49 : decode cX9_weighed 49 = .ok (.ldc2_w 122, 3) := by decide +kernel
theorem dX9_weighed_52 : decode cX9_weighed 52 = .ok (.goto 30, 3) := by decide +kernel
theorem dX9_weighed_55 : decode cX9_weighed 55 = .ok (.iload 5, 2) := by decide +kernel
theorem dX9_weighed_57 : decode cX9_weighed 57 = .ok (.bipush 10, 2) := by decide +kernel
theorem dX9_weighed_59 : decode cX9_weighed 59 = .ok (.if_icmp .gt 9, 3) := by decide +kernel
theorem dX9_weighed_62 : decode cX9_weighed 62 = .ok (.ldc2_w 124, 3) := by decide +kernel
theorem dX9_weighed_65 : decode cX9_weighed 65 = .ok (.goto 17, 3) := by decide +kernel
theorem dX9_weighed_68 : decode cX9_weighed 68 = .ok (.iload 5, 2) := by decide +kernel
theorem dX9_weighed_70 : decode cX9_weighed 70 = .ok (.bipush 40, 2) := by decide +kernel
theorem dX9_weighed_72 : decode cX9_weighed 72 = .ok (.if_icmp .gt 9, 3) := by decide +kernel
theorem dX9_weighed_75 : decode cX9_weighed 75 = .ok (.ldc2_w 126, 3) := by decide +kernel
theorem dX9_weighed_78 : decode cX9_weighed 78 = .ok (.goto 4, 3) := by decide +kernel
theorem dX9_weighed_81 : decode cX9_weighed 81 = .ok (.lconst 1, 1) := by decide +kernel
theorem dX9_weighed_82 : decode cX9_weighed 82 = .ok (.lmul, 1) := by decide +kernel
theorem dX9_weighed_83 : decode cX9_weighed 83 = .ok (.lstore_n 2, 1) := by decide +kernel
theorem dX9_weighed_84 : decode cX9_weighed 84 = .ok (.iinc 4 1, 3) := by decide +kernel
theorem dX9_weighed_87 : decode cX9_weighed 87 = .ok (.goto (-63), 3) := by decide +kernel
theorem dX9_weighed_90 : decode cX9_weighed 90 = .ok (.lload_n 2, 1) := by decide +kernel
theorem dX9_weighed_91 : decode cX9_weighed 91 = .ok (.lreturn, 1) := by decide +kernel
theorem dX9_partsBetween_0 : decode cX9_partsBetween 0 = .ok (.iconst 0, 1) := by decide +kernel
theorem dX9_partsBetween_1 : decode cX9_partsBetween 1 = .ok (.istore_n 3, 1) := by decide +kernel
theorem dX9_partsBetween_2 : decode cX9_partsBetween 2 = .ok (.iconst 0, 1) := by decide +kernel
theorem dX9_partsBetween_3 : decode cX9_partsBetween 3 = .ok (.istore 4, 2) := by decide +kernel
theorem dX9_partsBetween_5 : decode cX9_partsBetween 5 = .ok (.iload 4, 2) := by decide +kernel
theorem dX9_partsBetween_7 : decode cX9_partsBetween 7 = .ok (.aload_n 0, 1) := by decide +kernel
theorem dX9_partsBetween_8 : decode cX9_partsBetween 8 = .ok (.getfield 24, 3) := by decide +kernel
theorem dX9_partsBetween_11 : decode cX9_partsBetween 11 = .ok (.if_icmp .ge 49, 3) := by decide +kernel
theorem dX9_partsBetween_14 : decode cX9_partsBetween 14 = .ok (.aload_n 0, 1) := by decide +kernel
theorem dX9_partsBetween_15 : decode cX9_partsBetween 15 = .ok (.getfield 54, 3) := by decide +kernel
theorem dX9_partsBetween_18 : decode cX9_partsBetween 18 = .ok (.iload_n 1, 1) := by decide +kernel
theorem dX9_partsBetween_19 : decode cX9_partsBetween 19 = .ok (.aaload, 1) := by decide +kernel
theorem dX9_partsBetween_20 : decode cX9_partsBetween 20 = .ok (.iload 4, 2) := by decide +kernel
theorem dX9_partsBetween_22 : decode cX9_partsBetween 22 = .ok (.aload_n 0, 1) := by decide +kernel
theorem dX9_partsBetween_23 : decode cX9_partsBetween 23 = .ok (.getfield 9, 3) := by decide +kernel
theorem dX9_partsBetween_26 : decode cX9_partsBetween 26 = .ok (.invokevirtual 128, 3) := by decide +kernel
theorem dX9_partsBetween_29 : decode cX9_partsBetween 29 = .ok (.aload_n 0, 1) := by decide +kernel
theorem dX9_partsBetween_30 : decode cX9_partsBetween 30 = .ok (.getfield 54, 3) := by decide +kernel
theorem dX9_partsBetween_33 : decode cX9_partsBetween 33 = .ok (.iload_n 2, 1) := by decide +kernel
theorem dX9_partsBetween_34 : decode cX9_partsBetween 34 = .ok (.aaload, 1) := by decide +kernel
theorem dX9_partsBetween_35 : decode cX9_partsBetween 35 = .ok (.iload 4, 2) := by decide +kernel
theorem dX9_partsBetween_37 : decode cX9_partsBetween 37 = .ok (.aload_n 0, 1) := by decide +kernel
theorem dX9_partsBetween_38 : decode cX9_partsBetween 38 = .ok (.getfield 9, 3) := by decide +kernel
theorem dX9_partsBetween_41 : decode cX9_partsBetween 41 = .ok (.invokevirtual 128, 3) := by decide +kernel
theorem dX9_partsBetween_44 : decode cX9_partsBetween 44 = .ok (.if_icmp .eq 10, 3) := by decide +kernel
theorem dX9_partsBetween_47 : decode cX9_partsBetween 47 = .ok (.iload_n 3, 1) := by decide +kernel
theorem dX9_partsBetween_48 : decode cX9_partsBetween 48 = .ok (.iconst 1, 1) := by decide +kernel
theorem dX9_partsBetween_49 : decode cX9_partsBetween 49 = .ok (.iload 4, 2) := by decide +kernel
theorem dX9_partsBetween_51 : decode cX9_partsBetween 51 = .ok (.ishl, 1) := by decide +kernel
theorem dX9_partsBetween_52 : decode cX9_partsBetween 52 = .ok (.ior, 1) := by decide +kernel
theorem dX9_partsBetween_53 : decode cX9_partsBetween 53 = .ok (.istore_n 3, 1) := by decide +kernel
theorem dX9_partsBetween_54 : decode cX9_partsBetween 54 = .ok (.iinc 4 1, 3) := by decide +kernel
theorem dX9_partsBetween_57 : decode cX9_partsBetween 57 = .ok (.goto (-52), 3) := by decide +kernel
theorem dX9_partsBetween_60 : decode cX9_partsBetween 60 = .ok (.iload_n 3, 1) := by decide +kernel
theorem dX9_partsBetween_61 : decode cX9_partsBetween 61 = .ok (.ireturn, 1) := by decide +kernel
theorem dX9_hoursOf_0 : decode cX9_hoursOf 0 = .ok (.iconst 0, 1) := by decide +kernel
theorem dX9_hoursOf_1 : decode cX9_hoursOf 1 = .ok (.istore_n 2, 1) := by decide +kernel
theorem dX9_hoursOf_2 : decode cX9_hoursOf 2 = .ok (.iconst 0, 1) := by decide +kernel
theorem dX9_hoursOf_3 : decode cX9_hoursOf 3 = .ok (.istore_n 3, 1) := by decide +kernel
theorem dX9_hoursOf_4 : decode cX9_hoursOf 4 = .ok (.iload_n 3, 1) := by decide +kernel
theorem dX9_hoursOf_5 : decode cX9_hoursOf 5 = .ok (.aload_n 0, 1) := by decide +kernel
theorem dX9_hoursOf_6 : decode cX9_hoursOf 6 = .ok (.getfield 24, 3) := by decide +kernel
theorem dX9_hoursOf_9 : decode cX9_hoursOf 9 = .ok (.if_icmp .ge 30, 3) := by decide +kernel
theorem dX9_hoursOf_12 : decode cX9_hoursOf 12 = .ok (.iload_n 1, 1) := by decide +kernel
theorem dX9_hoursOf_13 : decode cX9_hoursOf 13 = .ok (.iload_n 3, 1) := by decide +kernel
theorem dX9_hoursOf_14 : decode cX9_hoursOf 14 = .ok (.ishr, 1) := by decide +kernel
theorem dX9_hoursOf_15 : decode cX9_hoursOf 15 = .ok (.iconst 1, 1) := by decide +kernel
theorem dX9_hoursOf_16 : decode cX9_hoursOf 16 = .ok (.iand, 1) := by decide +kernel
theorem dX9_hoursOf_17 : decode cX9_hoursOf 17 = .ok (.iconst 1, 1) := by decide +kernel
theorem dX9_hoursOf_18 : decode cX9_hoursOf 18 = .ok (.if_icmp .ne 15, 3) := by decide +kernel
theorem dX9_hoursOf_21 : decode cX9_hoursOf 21 = .ok (.iload_n 2, 1) := by decide +kernel
theorem dX9_hoursOf_22 : decode cX9_hoursOf 22 = .ok (.aload_n 0, 1) := by decide +kernel
theorem dX9_hoursOf_23 : decode cX9_hoursOf 23 = .ok (.getfield 38, 3) := by decide +kernel
theorem dX9_hoursOf_26 : decode cX9_hoursOf 26 = .ok (.iload_n 3, 1) := by decide +kernel
theorem dX9_hoursOf_27 : decode cX9_hoursOf 27 = .ok (.aaload, 1) := by decide +kernel
theorem dX9_hoursOf_28 : decode cX9_hoursOf 28 = .ok (.getfield 131, 3) := by decide +kernel
theorem dX9_hoursOf_31 : decode cX9_hoursOf 31 = .ok (.iadd, 1) := by decide +kernel
theorem dX9_hoursOf_32 : decode cX9_hoursOf 32 = .ok (.istore_n 2, 1) := by decide +kernel
theorem dX9_hoursOf_33 : decode cX9_hoursOf 33 = .ok (.iinc 3 1, 3) := by decide +kernel
theorem dX9_hoursOf_36 : decode cX9_hoursOf 36 = .ok (.goto (-32), 3) := by decide +kernel
theorem dX9_hoursOf_39 : decode cX9_hoursOf 39 = .ok (.iload_n 2, 1) := by decide +kernel
theorem dX9_hoursOf_40 : decode cX9_hoursOf 40 = .ok (.ireturn, 1) := by decide +kernel
theorem dX9_spanSum_0 : decode cX9_spanSum 0 = .ok (.iconst 0, 1) := by decide +kernel
theorem dX9_spanSum_1 : decode cX9_spanSum 1 = .ok (.istore_n 2, 1) := by decide +kernel
theorem dX9_spanSum_2 : decode cX9_spanSum 2 = .ok (.iconst 0, 1) := by decide +kernel
theorem dX9_spanSum_3 : decode cX9_spanSum 3 = .ok (.istore_n 3, 1) := by decide +kernel
theorem dX9_spanSum_4 : decode cX9_spanSum 4 = .ok (.iload_n 3, 1) := by decide +kernel
theorem dX9_spanSum_5 : decode cX9_spanSum 5 = .ok (.aload_n 0, 1) := by decide +kernel
theorem dX9_spanSum_6 : decode cX9_spanSum 6 = .ok (.getfield 24, 3) := by decide +kernel
theorem dX9_spanSum_9 : decode cX9_spanSum 9 = .ok (.if_icmp .ge 34, 3) := by decide +kernel
theorem dX9_spanSum_12 : decode cX9_spanSum 12 = .ok (.aload_n 0, 1) := by decide +kernel
theorem dX9_spanSum_13 : decode cX9_spanSum 13 = .ok (.getfield 38, 3) := by decide +kernel
theorem dX9_spanSum_16 : decode cX9_spanSum 16 = .ok (.iload_n 3, 1) := by decide +kernel
theorem dX9_spanSum_17 : decode cX9_spanSum 17 = .ok (.aaload, 1) := by decide +kernel
theorem dX9_spanSum_18 : decode cX9_spanSum 18 = .ok (.iload_n 1, 1) := by decide +kernel
theorem dX9_spanSum_19 : decode cX9_spanSum 19 = .ok (.invokevirtual 94, 3) := by decide +kernel
theorem dX9_spanSum_22 : decode cX9_spanSum 22 = .ok (.ifCond .eq 15, 3) := by decide +kernel
theorem dX9_spanSum_25 : decode cX9_spanSum 25 = .ok (.iload_n 2, 1) := by decide +kernel
theorem dX9_spanSum_26 : decode cX9_spanSum 26 = .ok (.aload_n 0, 1) := by decide +kernel
theorem dX9_spanSum_27 : decode cX9_spanSum 27 = .ok (.getfield 38, 3) := by decide +kernel
theorem dX9_spanSum_30 : decode cX9_spanSum 30 = .ok (.iload_n 3, 1) := by decide +kernel
theorem dX9_spanSum_31 : decode cX9_spanSum 31 = .ok (.aaload, 1) := by decide +kernel
theorem dX9_spanSum_32 : decode cX9_spanSum 32 = .ok (.getfield 134, 3) := by decide +kernel
theorem dX9_spanSum_35 : decode cX9_spanSum 35 = .ok (.iadd, 1) := by decide +kernel
theorem dX9_spanSum_36 : decode cX9_spanSum 36 = .ok (.istore_n 2, 1) := by decide +kernel
theorem dX9_spanSum_37 : decode cX9_spanSum 37 = .ok (.iinc 3 1, 3) := by decide +kernel
theorem dX9_spanSum_40 : decode cX9_spanSum 40 = .ok (.goto (-36), 3) := by decide +kernel
theorem dX9_spanSum_43 : decode cX9_spanSum 43 = .ok (.iload_n 2, 1) := by decide +kernel
theorem dX9_spanSum_44 : decode cX9_spanSum 44 = .ok (.ireturn, 1) := by decide +kernel
theorem dX9_spanRoot_0 : decode cX9_spanRoot 0 = .ok (.iconst 0, 1) := by decide +kernel
theorem dX9_spanRoot_1 : decode cX9_spanRoot 1 = .ok (.istore_n 2, 1) := by decide +kernel
theorem dX9_spanRoot_2 : decode cX9_spanRoot 2 = .ok (.iconst 0, 1) := by decide +kernel
theorem dX9_spanRoot_3 : decode cX9_spanRoot 3 = .ok (.istore_n 3, 1) := by decide +kernel
theorem dX9_spanRoot_4 : decode cX9_spanRoot 4 = .ok (.iload_n 3, 1) := by decide +kernel
theorem dX9_spanRoot_5 : decode cX9_spanRoot 5 = .ok (.aload_n 0, 1) := by decide +kernel
theorem dX9_spanRoot_6 : decode cX9_spanRoot 6 = .ok (.getfield 24, 3) := by decide +kernel
theorem dX9_spanRoot_9 : decode cX9_spanRoot 9 = .ok (.if_icmp .ge 44, 3) := by decide +kernel
theorem dX9_spanRoot_12 : decode cX9_spanRoot 12 = .ok (.aload_n 0, 1) := by decide +kernel
theorem dX9_spanRoot_13 : decode cX9_spanRoot 13 = .ok (.getfield 38, 3) := by decide +kernel
theorem dX9_spanRoot_16 : decode cX9_spanRoot 16 = .ok (.iload_n 3, 1) := by decide +kernel
theorem dX9_spanRoot_17 : decode cX9_spanRoot 17 = .ok (.aaload, 1) := by decide +kernel
theorem dX9_spanRoot_18 : decode cX9_spanRoot 18 = .ok (.iload_n 1, 1) := by decide +kernel
theorem dX9_spanRoot_19 : decode cX9_spanRoot 19 = .ok (.invokevirtual 94, 3) := by decide +kernel
theorem dX9_spanRoot_22 : decode cX9_spanRoot 22 = .ok (.ifCond .eq 25, 3) := by decide +kernel
theorem dX9_spanRoot_25 : decode cX9_spanRoot 25 = .ok (.iload_n 2, 1) := by decide +kernel
theorem dX9_spanRoot_26 : decode cX9_spanRoot 26 = .ok (.aload_n 0, 1) := by decide +kernel
theorem dX9_spanRoot_27 : decode cX9_spanRoot 27 = .ok (.getfield 38, 3) := by decide +kernel
theorem dX9_spanRoot_30 : decode cX9_spanRoot 30 = .ok (.iload_n 3, 1) := by decide +kernel
theorem dX9_spanRoot_31 : decode cX9_spanRoot 31 = .ok (.aaload, 1) := by decide +kernel
theorem dX9_spanRoot_32 : decode cX9_spanRoot 32 = .ok (.getfield 134, 3) := by decide +kernel
theorem dX9_spanRoot_35 : decode cX9_spanRoot 35 = .ok (.aload_n 0, 1) := by decide +kernel
theorem dX9_spanRoot_36 : decode cX9_spanRoot 36 = .ok (.getfield 38, 3) := by decide +kernel
theorem dX9_spanRoot_39 : decode cX9_spanRoot 39 = .ok (.iload_n 3, 1) := by decide +kernel
theorem dX9_spanRoot_40 : decode cX9_spanRoot 40 = .ok (.aaload, 1) := by decide +kernel
theorem dX9_spanRoot_41 : decode cX9_spanRoot 41 = .ok (.getfield 134, 3) := by decide +kernel
theorem dX9_spanRoot_44 : decode cX9_spanRoot 44 = .ok (.imul, 1) := by decide +kernel
theorem dX9_spanRoot_45 : decode cX9_spanRoot 45 = .ok (.iadd, 1) := by decide +kernel
theorem dX9_spanRoot_46 : decode cX9_spanRoot 46 = .ok (.istore_n 2, 1) := by decide +kernel
theorem dX9_spanRoot_47 : decode cX9_spanRoot 47 = .ok (.iinc 3 1, 3) := by decide +kernel
theorem dX9_spanRoot_50 : decode cX9_spanRoot 50 = .ok (.goto (-46), 3) := by decide +kernel
theorem dX9_spanRoot_53 : decode cX9_spanRoot 53 = .ok (.iconst 0, 1) := by decide +kernel
theorem dX9_spanRoot_54 : decode cX9_spanRoot 54 = .ok (.istore_n 3, 1) := by decide +kernel
theorem dX9_spanRoot_55 : decode cX9_spanRoot 55 = .ok (.iload_n 3, 1) := by decide +kernel
theorem dX9_spanRoot_56 : decode cX9_spanRoot 56 = .ok (.sipush 1000, 3) := by decide +kernel
theorem dX9_spanRoot_59 : decode cX9_spanRoot 59 = .ok (.if_icmp .ge 20, 3) := by decide +kernel
theorem dX9_spanRoot_62 : decode cX9_spanRoot 62 = .ok (.iload_n 3, 1) := by decide +kernel
theorem dX9_spanRoot_63 : decode cX9_spanRoot 63 = .ok (.iconst 1, 1) := by decide +kernel
theorem dX9_spanRoot_64 : decode cX9_spanRoot 64 = .ok (.iadd, 1) := by decide +kernel
theorem dX9_spanRoot_65 : decode cX9_spanRoot 65 = .ok (.iload_n 3, 1) := by decide +kernel
theorem dX9_spanRoot_66 : decode cX9_spanRoot 66 = .ok (.iconst 1, 1) := by decide +kernel
theorem dX9_spanRoot_67 : decode cX9_spanRoot 67 = .ok (.iadd, 1) := by decide +kernel
theorem dX9_spanRoot_68 : decode cX9_spanRoot 68 = .ok (.imul, 1) := by decide +kernel
theorem dX9_spanRoot_69 : decode cX9_spanRoot 69 = .ok (.iload_n 2, 1) := by decide +kernel
theorem dX9_spanRoot_70 : decode cX9_spanRoot 70 = .ok (.if_icmp .gt 9, 3) := by decide +kernel
theorem dX9_spanRoot_73 : decode cX9_spanRoot 73 = .ok (.iinc 3 1, 3) := by decide +kernel
theorem dX9_spanRoot_76 : decode cX9_spanRoot 76 = .ok (.goto (-21), 3) := by decide +kernel
theorem dX9_spanRoot_79 : decode cX9_spanRoot 79 = .ok (.iload_n 3, 1) := by decide +kernel
theorem dX9_spanRoot_80 : decode cX9_spanRoot 80 = .ok (.ireturn, 1) := by decide +kernel
theorem dX9_isRun_0 : decode cX9_isRun 0 = .ok (.aload_n 0, 1) := by decide +kernel
theorem dX9_isRun_1 : decode cX9_isRun 1 = .ok (.getfield 46, 3) := by decide +kernel
theorem dX9_isRun_4 : decode cX9_isRun 4 = .ok (.iload_n 1, 1) := by decide +kernel
theorem dX9_isRun_5 : decode cX9_isRun 5 = .ok (.iaload, 1) := by decide +kernel
theorem dX9_isRun_6 : decode cX9_isRun 6 = .ok (.iload_n 2, 1) := by decide +kernel
theorem dX9_isRun_7 : decode cX9_isRun 7 = .ok (.if_icmp .ne 28, 3) := by decide +kernel
theorem dX9_isRun_10 : decode cX9_isRun 10 = .ok (.aload_n 0, 1) := by decide +kernel
theorem dX9_isRun_11 : decode cX9_isRun 11 = .ok (.getfield 42, 3) := by decide +kernel
theorem dX9_isRun_14 : decode cX9_isRun 14 = .ok (.iload_n 1, 1) := by decide +kernel
theorem dX9_isRun_15 : decode cX9_isRun 15 = .ok (.iaload, 1) := by decide +kernel
theorem dX9_isRun_16 : decode cX9_isRun 16 = .ok (.iload_n 3, 1) := by decide +kernel
theorem dX9_isRun_17 : decode cX9_isRun 17 = .ok (.if_icmp .lt 18, 3) := by decide +kernel
theorem dX9_isRun_20 : decode cX9_isRun 20 = .ok (.aload_n 0, 1) := by decide +kernel
theorem dX9_isRun_21 : decode cX9_isRun 21 = .ok (.getfield 42, 3) := by decide +kernel
theorem dX9_isRun_24 : decode cX9_isRun 24 = .ok (.iload_n 1, 1) := by decide +kernel
theorem dX9_isRun_25 : decode cX9_isRun 25 = .ok (.iaload, 1) := by decide +kernel
theorem dX9_isRun_26 : decode cX9_isRun 26 = .ok (.iload 4, 2) := by decide +kernel
theorem dX9_isRun_28 : decode cX9_isRun 28 = .ok (.if_icmp .gt 7, 3) := by decide +kernel
theorem dX9_isRun_31 : decode cX9_isRun 31 = .ok (.iconst 1, 1) := by decide +kernel
theorem dX9_isRun_32 : decode cX9_isRun 32 = .ok (.goto 4, 3) := by decide +kernel
theorem dX9_isRun_35 : decode cX9_isRun 35 = .ok (.iconst 0, 1) := by decide +kernel
theorem dX9_isRun_36 : decode cX9_isRun 36 = .ok (.ireturn, 1) := by decide +kernel
theorem dX9_countRuns_0 : decode cX9_countRuns 0 = .ok (.iconst 0, 1) := by decide +kernel
theorem dX9_countRuns_1 : decode cX9_countRuns 1 = .ok (.istore 4, 2) := by decide +kernel
theorem dX9_countRuns_3 : decode cX9_countRuns 3 = .ok (.iconst 0, 1) := by decide +kernel
theorem dX9_countRuns_4 : decode cX9_countRuns 4 = .ok (.istore 5, 2) := by decide +kernel
theorem dX9_countRuns_6 : decode cX9_countRuns 6 = .ok (.iload 5, 2) := by decide +kernel
theorem dX9_countRuns_8 : decode cX9_countRuns 8 = .ok (.aload_n 0, 1) := by decide +kernel
theorem dX9_countRuns_9 : decode cX9_countRuns 9 = .ok (.getfield 27, 3) := by decide +kernel
theorem dX9_countRuns_12 : decode cX9_countRuns 12 = .ok (.if_icmp .ge 31, 3) := by decide +kernel
theorem dX9_countRuns_15 : decode cX9_countRuns 15 = .ok (.iload 4, 2) := by decide +kernel
theorem dX9_countRuns_17 : decode cX9_countRuns 17 = .ok (.aload_n 0, 1) := by decide +kernel
theorem dX9_countRuns_18 : decode cX9_countRuns 18 = .ok (.iload 5, 2) := by decide +kernel
theorem dX9_countRuns_20 : decode cX9_countRuns 20 = .ok (.iload_n 1, 1) := by decide +kernel
theorem dX9_countRuns_21 : decode cX9_countRuns 21 = .ok (.iload_n 2, 1) := by decide +kernel
theorem dX9_countRuns_22 : decode cX9_countRuns 22 = .ok (.iload_n 3, 1) := by decide +kernel
theorem dX9_countRuns_23 : decode cX9_countRuns 23 = .ok (.invokevirtual 137, 3) := by decide +kernel
theorem dX9_countRuns_26 : decode cX9_countRuns 26 = .ok (.ifCond .eq 7, 3) := by decide +kernel
theorem dX9_countRuns_29 : decode cX9_countRuns 29 = .ok (.iconst 1, 1) := by decide +kernel
theorem dX9_countRuns_30 : decode cX9_countRuns 30 = .ok (.goto 4, 3) := by decide +kernel
theorem dX9_countRuns_33 : decode cX9_countRuns 33 = .ok (.iconst 0, 1) := by decide +kernel
theorem dX9_countRuns_34 : decode cX9_countRuns 34 = .ok (.iadd, 1) := by decide +kernel
theorem dX9_countRuns_35 : decode cX9_countRuns 35 = .ok (.istore 4, 2) := by decide +kernel
theorem dX9_countRuns_37 : decode cX9_countRuns 37 = .ok (.iinc 5 1, 3) := by decide +kernel
theorem dX9_countRuns_40 : decode cX9_countRuns 40 = .ok (.goto (-34), 3) := by decide +kernel
theorem dX9_countRuns_43 : decode cX9_countRuns 43 = .ok (.iload 4, 2) := by decide +kernel
theorem dX9_countRuns_45 : decode cX9_countRuns 45 = .ok (.ireturn, 1) := by decide +kernel
theorem dX9_sumRuns_0 : decode cX9_sumRuns 0 = .ok (.iconst 0, 1) := by decide +kernel
theorem dX9_sumRuns_1 : decode cX9_sumRuns 1 = .ok (.istore 4, 2) := by decide +kernel
theorem dX9_sumRuns_3 : decode cX9_sumRuns 3 = .ok (.iconst 0, 1) := by decide +kernel
theorem dX9_sumRuns_4 : decode cX9_sumRuns 4 = .ok (.istore 5, 2) := by decide +kernel
theorem dX9_sumRuns_6 : decode cX9_sumRuns 6 = .ok (.iload 5, 2) := by decide +kernel
theorem dX9_sumRuns_8 : decode cX9_sumRuns 8 = .ok (.aload_n 0, 1) := by decide +kernel
theorem dX9_sumRuns_9 : decode cX9_sumRuns 9 = .ok (.getfield 27, 3) := by decide +kernel
theorem dX9_sumRuns_12 : decode cX9_sumRuns 12 = .ok (.if_icmp .ge 37, 3) := by decide +kernel
theorem dX9_sumRuns_15 : decode cX9_sumRuns 15 = .ok (.iload 4, 2) := by decide +kernel
theorem dX9_sumRuns_17 : decode cX9_sumRuns 17 = .ok (.aload_n 0, 1) := by decide +kernel
theorem dX9_sumRuns_18 : decode cX9_sumRuns 18 = .ok (.iload 5, 2) := by decide +kernel
theorem dX9_sumRuns_20 : decode cX9_sumRuns 20 = .ok (.iload_n 1, 1) := by decide +kernel
theorem dX9_sumRuns_21 : decode cX9_sumRuns 21 = .ok (.iload_n 2, 1) := by decide +kernel
theorem dX9_sumRuns_22 : decode cX9_sumRuns 22 = .ok (.iload_n 3, 1) := by decide +kernel
theorem dX9_sumRuns_23 : decode cX9_sumRuns 23 = .ok (.invokevirtual 137, 3) := by decide +kernel
theorem dX9_sumRuns_26 : decode cX9_sumRuns 26 = .ok (.ifCond .eq 13, 3) := by decide +kernel
theorem dX9_sumRuns_29 : decode cX9_sumRuns 29 = .ok (.aload_n 0, 1) := by decide +kernel
theorem dX9_sumRuns_30 : decode cX9_sumRuns 30 = .ok (.getfield 49, 3) := by decide +kernel
theorem dX9_sumRuns_33 : decode cX9_sumRuns 33 = .ok (.iload 5, 2) := by decide +kernel
theorem dX9_sumRuns_35 : decode cX9_sumRuns 35 = .ok (.iaload, 1) := by decide +kernel
theorem dX9_sumRuns_36 : decode cX9_sumRuns 36 = .ok (.goto 4, 3) := by decide +kernel
theorem dX9_sumRuns_39 : decode cX9_sumRuns 39 = .ok (.iconst 0, 1) := by decide +kernel
theorem dX9_sumRuns_40 : decode cX9_sumRuns 40 = .ok (.iadd, 1) := by decide +kernel
theorem dX9_sumRuns_41 : decode cX9_sumRuns 41 = .ok (.istore 4, 2) := by decide +kernel
theorem dX9_sumRuns_43 : decode cX9_sumRuns 43 = .ok (.iinc 5 1, 3) := by decide +kernel
theorem dX9_sumRuns_46 : decode cX9_sumRuns 46 = .ok (.goto (-40), 3) := by decide +kernel
theorem dX9_sumRuns_49 : decode cX9_sumRuns 49 = .ok (.iload 4, 2) := by decide +kernel
theorem dX9_sumRuns_51 : decode cX9_sumRuns 51 = .ok (.ireturn, 1) := by decide +kernel
theorem dX9_orderRuns_0 : decode cX9_orderRuns 0 = .ok (.iconst 0, 1) := by decide +kernel
theorem dX9_orderRuns_1 : decode cX9_orderRuns 1 = .ok (.istore_n 3, 1) := by decide +kernel
theorem dX9_orderRuns_2 : decode cX9_orderRuns 2 = .ok (.iconst 0, 1) := by decide +kernel
theorem dX9_orderRuns_3 : decode cX9_orderRuns 3 = .ok (.istore 4, 2) := by decide +kernel
theorem dX9_orderRuns_5 : decode cX9_orderRuns 5 = .ok (.iload 4, 2) := by decide +kernel
theorem dX9_orderRuns_7 : decode cX9_orderRuns 7 = .ok (.aload_n 0, 1) := by decide +kernel
theorem dX9_orderRuns_8 : decode cX9_orderRuns 8 = .ok (.getfield 27, 3) := by decide +kernel
theorem dX9_orderRuns_11 : decode cX9_orderRuns 11 = .ok (.if_icmp .ge 80, 3) := by decide +kernel
theorem dX9_orderRuns_14 : decode cX9_orderRuns 14 = .ok (.iload_n 3, 1) := by decide +kernel
theorem dX9_orderRuns_15 : decode cX9_orderRuns 15 = .ok (.aload_n 2, 1) := by decide +kernel
theorem dX9_orderRuns_16 : decode cX9_orderRuns 16 = .ok (.arraylength, 1) := by decide +kernel
theorem dX9_orderRuns_17 : decode cX9_orderRuns 17 = .ok (.if_icmp .ge 74, 3) := by decide +kernel
theorem dX9_orderRuns_20 : decode cX9_orderRuns 20 = .ok (.aload_n 0, 1) := by decide +kernel
theorem dX9_orderRuns_21 : decode cX9_orderRuns 21 = .ok (.getfield 46, 3) := by decide +kernel
theorem dX9_orderRuns_24 : decode cX9_orderRuns 24 = .ok (.iload 4, 2) := by decide +kernel
theorem dX9_orderRuns_26 : decode cX9_orderRuns 26 = .ok (.iaload, 1) := by decide +kernel
theorem dX9_orderRuns_27 : decode cX9_orderRuns 27 = .ok (.iload_n 1, 1) := by decide +kernel
theorem dX9_orderRuns_28 : decode cX9_orderRuns 28 = .ok (.if_icmp .ne 57, 3) := by decide +kernel
theorem dX9_orderRuns_31 : decode cX9_orderRuns 31 = .ok (.iload_n 3, 1) := by decide +kernel
theorem dX9_orderRuns_32 : decode cX9_orderRuns 32 = .ok (.istore 5, 2) := by decide +kernel
theorem dX9_orderRuns_34 : decode cX9_orderRuns 34 = .ok (.iload 5, 2) := by decide +kernel
theorem dX9_orderRuns_36 : decode cX9_orderRuns 36 = .ok (.ifCond .le 40, 3) := by decide +kernel
theorem dX9_orderRuns_39 : decode cX9_orderRuns 39 = .ok (.aload_n 0, 1) := by decide +kernel
theorem dX9_orderRuns_40 : decode cX9_orderRuns 40 = .ok (.getfield 42, 3) := by decide +kernel
theorem dX9_orderRuns_43 : decode cX9_orderRuns 43 = .ok (.aload_n 2, 1) := by decide +kernel
theorem dX9_orderRuns_44 : decode cX9_orderRuns 44 = .ok (.iload 5, 2) := by decide +kernel
theorem dX9_orderRuns_46 : decode cX9_orderRuns 46 = .ok (.iconst 1, 1) := by decide +kernel
theorem dX9_orderRuns_47 : decode cX9_orderRuns 47 = .ok (.isub, 1) := by decide +kernel
theorem dX9_orderRuns_48 : decode cX9_orderRuns 48 = .ok (.iaload, 1) := by decide +kernel
theorem dX9_orderRuns_49 : decode cX9_orderRuns 49 = .ok (.iaload, 1) := by decide +kernel
theorem dX9_orderRuns_50 : decode cX9_orderRuns 50 = .ok (.aload_n 0, 1) := by decide +kernel
theorem dX9_orderRuns_51 : decode cX9_orderRuns 51 = .ok (.getfield 42, 3) := by decide +kernel
theorem dX9_orderRuns_54 : decode cX9_orderRuns 54 = .ok (.iload 4, 2) := by decide +kernel
theorem dX9_orderRuns_56 : decode cX9_orderRuns 56 = .ok (.iaload, 1) := by decide +kernel
theorem dX9_orderRuns_57 : decode cX9_orderRuns 57 = .ok (.if_icmp .le 19, 3) := by decide +kernel
theorem dX9_orderRuns_60 : decode cX9_orderRuns 60 = .ok (.aload_n 2, 1) := by decide +kernel
theorem dX9_orderRuns_61 : decode cX9_orderRuns 61 = .ok (.iload 5, 2) := by decide +kernel
theorem dX9_orderRuns_63 : decode cX9_orderRuns 63 = .ok (.aload_n 2, 1) := by decide +kernel
theorem dX9_orderRuns_64 : decode cX9_orderRuns 64 = .ok (.iload 5, 2) := by decide +kernel
theorem dX9_orderRuns_66 : decode cX9_orderRuns 66 = .ok (.iconst 1, 1) := by decide +kernel
theorem dX9_orderRuns_67 : decode cX9_orderRuns 67 = .ok (.isub, 1) := by decide +kernel
theorem dX9_orderRuns_68 : decode cX9_orderRuns 68 = .ok (.iaload, 1) := by decide +kernel
theorem dX9_orderRuns_69 : decode cX9_orderRuns 69 = .ok (.iastore, 1) := by decide +kernel
theorem dX9_orderRuns_70 : decode cX9_orderRuns 70 = .ok (.iinc 5 (-1), 3) := by decide +kernel
theorem dX9_orderRuns_73 : decode cX9_orderRuns 73 = .ok (.goto (-39), 3) := by decide +kernel
theorem dX9_orderRuns_76 : decode cX9_orderRuns 76 = .ok (.aload_n 2, 1) := by decide +kernel
theorem dX9_orderRuns_77 : decode cX9_orderRuns 77 = .ok (.iload 5, 2) := by decide +kernel
theorem dX9_orderRuns_79 : decode cX9_orderRuns 79 = .ok (.iload 4, 2) := by decide +kernel
theorem dX9_orderRuns_81 : decode cX9_orderRuns 81 = .ok (.iastore, 1) := by decide +kernel
theorem dX9_orderRuns_82 : decode cX9_orderRuns 82 = .ok (.iinc 3 1, 3) := by decide +kernel
theorem dX9_orderRuns_85 : decode cX9_orderRuns 85 = .ok (.iinc 4 1, 3) := by decide +kernel
theorem dX9_orderRuns_88 : decode cX9_orderRuns 88 = .ok (.goto (-83), 3) := by decide +kernel
theorem dX9_orderRuns_91 : decode cX9_orderRuns 91 = .ok (.iload_n 3, 1) := by decide +kernel
theorem dX9_orderRuns_92 : decode cX9_orderRuns 92 = .ok (.ireturn, 1) := by decide +kernel
theorem dX9_tellFacts_0 : decode cX9_tellFacts 0 = .ok (.iconst 0, 1) := by decide +kernel
theorem dX9_tellFacts_1 : decode cX9_tellFacts 1 = .ok (.istore_n 2, 1) := by decide +kernel
theorem dX9_tellFacts_2 : decode cX9_tellFacts 2 = .ok (.iconst 0, 1) := by decide +kernel
theorem dX9_tellFacts_3 : decode cX9_tellFacts 3 = .ok (.istore_n 3, 1) := by decide +kernel
theorem dX9_tellFacts_4 : decode cX9_tellFacts 4 = .ok (.iload_n 3, 1) := by decide +kernel
theorem dX9_tellFacts_5 : decode cX9_tellFacts 5 = .ok (.aload_n 0, 1) := by decide +kernel
theorem dX9_tellFacts_6 : decode cX9_tellFacts 6 = .ok (.getfield 24, 3) := by decide +kernel
theorem dX9_tellFacts_9 : decode cX9_tellFacts 9 = .ok (.if_icmp .ge 29, 3) := by decide +kernel
theorem dX9_tellFacts_12 : decode cX9_tellFacts 12 = .ok (.iload_n 2, 1) := by decide +kernel
theorem dX9_tellFacts_13 : decode cX9_tellFacts 13 = .ok (.aload_n 0, 1) := by decide +kernel
theorem dX9_tellFacts_14 : decode cX9_tellFacts 14 = .ok (.getfield 38, 3) := by decide +kernel
theorem dX9_tellFacts_17 : decode cX9_tellFacts 17 = .ok (.iload_n 3, 1) := by decide +kernel
theorem dX9_tellFacts_18 : decode cX9_tellFacts 18 = .ok (.aaload, 1) := by decide +kernel
theorem dX9_tellFacts_19 : decode cX9_tellFacts 19 = .ok (.getfield 141, 3) := by decide +kernel
theorem dX9_tellFacts_22 : decode cX9_tellFacts 22 = .ok (.ifCond .eq 7, 3) := by decide +kernel
theorem dX9_tellFacts_25 : decode cX9_tellFacts 25 = .ok (.iconst 1, 1) := by decide +kernel
theorem dX9_tellFacts_26 : decode cX9_tellFacts 26 = .ok (.goto 4, 3) := by decide +kernel
theorem dX9_tellFacts_29 : decode cX9_tellFacts 29 = .ok (.iconst 0, 1) := by decide +kernel
theorem dX9_tellFacts_30 : decode cX9_tellFacts 30 = .ok (.iadd, 1) := by decide +kernel
theorem dX9_tellFacts_31 : decode cX9_tellFacts 31 = .ok (.istore_n 2, 1) := by decide +kernel
theorem dX9_tellFacts_32 : decode cX9_tellFacts 32 = .ok (.iinc 3 1, 3) := by decide +kernel
theorem dX9_tellFacts_35 : decode cX9_tellFacts 35 = .ok (.goto (-31), 3) := by decide +kernel
theorem dX9_tellFacts_38 : decode cX9_tellFacts 38 = .ok (.aload_n 0, 1) := by decide +kernel
theorem dX9_tellFacts_39 : decode cX9_tellFacts 39 = .ok (.iconst 0, 1) := by decide +kernel
theorem dX9_tellFacts_40 : decode cX9_tellFacts 40 = .ok (.iconst 0, 1) := by decide +kernel
theorem dX9_tellFacts_41 : decode cX9_tellFacts 41 = .ok (.sipush 999, 3) := by decide +kernel
theorem dX9_tellFacts_44 : decode cX9_tellFacts 44 = .ok (.invokevirtual 145, 3) := by decide +kernel
theorem dX9_tellFacts_47 : decode cX9_tellFacts 47 = .ok (.istore_n 3, 1) := by decide +kernel
theorem dX9_tellFacts_48 : decode cX9_tellFacts 48 = .ok (.aload_n 1, 1) := by decide +kernel
theorem dX9_tellFacts_49 : decode cX9_tellFacts 49 = .ok (.iconst 0, 1) := by decide +kernel
theorem dX9_tellFacts_50 : decode cX9_tellFacts 50 = .ok (.aload_n 0, 1) := by decide +kernel
theorem dX9_tellFacts_51 : decode cX9_tellFacts 51 = .ok (.getfield 9, 3) := by decide +kernel
theorem dX9_tellFacts_54 : decode cX9_tellFacts 54 = .ok (.iastore, 1) := by decide +kernel
theorem dX9_tellFacts_55 : decode cX9_tellFacts 55 = .ok (.aload_n 1, 1) := by decide +kernel
theorem dX9_tellFacts_56 : decode cX9_tellFacts 56 = .ok (.iconst 1, 1) := by decide +kernel
theorem dX9_tellFacts_57 : decode cX9_tellFacts 57 = .ok (.aload_n 0, 1) := by decide +kernel
theorem dX9_tellFacts_58 : decode cX9_tellFacts 58 = .ok (.getfield 27, 3) := by decide +kernel
theorem dX9_tellFacts_61 : decode cX9_tellFacts 61 = .ok (.iastore, 1) := by decide +kernel
theorem dX9_tellFacts_62 : decode cX9_tellFacts 62 = .ok (.aload_n 1, 1) := by decide +kernel
theorem dX9_tellFacts_63 : decode cX9_tellFacts 63 = .ok (.iconst 2, 1) := by decide +kernel
theorem dX9_tellFacts_64 : decode cX9_tellFacts 64 = .ok (.iload_n 3, 1) := by decide +kernel
theorem dX9_tellFacts_65 : decode cX9_tellFacts 65 = .ok (.ifCond .ne 7, 3) := by decide +kernel
theorem dX9_tellFacts_68 : decode cX9_tellFacts 68 = .ok (.iconst 0, 1) := by decide +kernel
theorem dX9_tellFacts_69 : decode cX9_tellFacts 69 = .ok (.goto 14, 3) := by decide +kernel
theorem dX9_tellFacts_72 : decode cX9_tellFacts 72 = .ok (.aload_n 0, 1) := by decide +kernel
theorem dX9_tellFacts_73 : decode cX9_tellFacts 73 = .ok (.iconst 0, 1) := by decide +kernel
theorem dX9_tellFacts_74 : decode cX9_tellFacts 74 = .ok (.iconst 0, 1) := by decide +kernel
theorem dX9_tellFacts_75 : decode cX9_tellFacts 75 = .ok (.sipush 999, 3) := by decide +kernel
theorem dX9_tellFacts_78 : decode cX9_tellFacts 78 = .ok (.invokevirtual 148, 3) := by decide +kernel
theorem dX9_tellFacts_81 : decode cX9_tellFacts 81 = .ok (.iload_n 3, 1) := by decide +kernel
theorem dX9_tellFacts_82 : decode cX9_tellFacts 82 = .ok (.idiv, 1) := by decide +kernel
theorem dX9_tellFacts_83 : decode cX9_tellFacts 83 = .ok (.iastore, 1) := by decide +kernel
theorem dX9_tellFacts_84 : decode cX9_tellFacts 84 = .ok (.aload_n 1, 1) := by decide +kernel
theorem dX9_tellFacts_85 : decode cX9_tellFacts 85 = .ok (.iconst 3, 1) := by decide +kernel
theorem dX9_tellFacts_86 : decode cX9_tellFacts 86 = .ok (.iload_n 2, 1) := by decide +kernel
theorem dX9_tellFacts_87 : decode cX9_tellFacts 87 = .ok (.iastore, 1) := by decide +kernel
theorem dX9_tellFacts_88 : decode cX9_tellFacts 88 = .ok (.aload_n 1, 1) := by decide +kernel
theorem dX9_tellFacts_89 : decode cX9_tellFacts 89 = .ok (.iconst 4, 1) := by decide +kernel
theorem dX9_tellFacts_90 : decode cX9_tellFacts 90 = .ok (.aload_n 0, 1) := by decide +kernel
theorem dX9_tellFacts_91 : decode cX9_tellFacts 91 = .ok (.getfield 21, 3) := by decide +kernel
theorem dX9_tellFacts_94 : decode cX9_tellFacts 94 = .ok (.iastore, 1) := by decide +kernel
theorem dX9_tellFacts_95 : decode cX9_tellFacts 95 = .ok (.aload_n 1, 1) := by decide +kernel
theorem dX9_tellFacts_96 : decode cX9_tellFacts 96 = .ok (.iconst 5, 1) := by decide +kernel
theorem dX9_tellFacts_97 : decode cX9_tellFacts 97 = .ok (.aload_n 0, 1) := by decide +kernel
theorem dX9_tellFacts_98 : decode cX9_tellFacts 98 = .ok (.getfield 30, 3) := by decide +kernel
theorem dX9_tellFacts_101 : decode cX9_tellFacts 101 = .ok (.ifCond .ne 7, 3) := by decide +kernel
theorem dX9_tellFacts_104 : decode cX9_tellFacts 104 = .ok (.iconst 0, 1) := by decide +kernel
theorem dX9_tellFacts_105 : decode cX9_tellFacts 105 = .ok (.goto 11, 3) := by decide +kernel
theorem dX9_tellFacts_108 : decode cX9_tellFacts 108 = .ok (.aload_n 0, 1) := by decide +kernel
theorem dX9_tellFacts_109 : decode cX9_tellFacts 109 = .ok (.aload_n 0, 1) := by decide +kernel
theorem dX9_tellFacts_110 : decode cX9_tellFacts 110 = .ok (.invokevirtual 151, 3) := by decide +kernel
theorem dX9_tellFacts_113 : decode cX9_tellFacts 113 = .ok (.invokevirtual 113, 3) := by decide +kernel
theorem dX9_tellFacts_116 : decode cX9_tellFacts 116 = .ok (.iastore, 1) := by decide +kernel
theorem dX9_tellFacts_117 : decode cX9_tellFacts 117 = .ok (.aload_n 1, 1) := by decide +kernel
theorem dX9_tellFacts_118 : decode cX9_tellFacts 118 = .ok (.bipush 6, 2) := by decide +kernel
theorem dX9_tellFacts_120 : decode cX9_tellFacts 120 = .ok (.iconst 0, 1) := by decide +kernel
theorem dX9_tellFacts_121 : decode cX9_tellFacts 121 = .ok (.iastore, 1) := by decide +kernel
theorem dX9_tellFacts_122 : decode cX9_tellFacts 122 = .ok (.return_, 1) := by decide +kernel
