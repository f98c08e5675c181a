theorem dX0_init_0 : decode cX0_init 0 = .ok (.aload_n 0, 1) := by decide +kernel
theorem dX0_init_1 : decode cX0_init 1 = .ok (.invokespecial 3, 3) := by decide +kernel
theorem dX0_init_4 : decode cX0_init 4 = .ok (.aload_n 0, 1) := by decide +kernel
theorem dX0_init_5 : decode cX0_init 5 = .ok (.iload_n 1, 1) := by decide +kernel
theorem dX0_init_6 : decode cX0_init 6 = .ok (.putfield 9, 3) := by decide +kernel
theorem dX0_init_9 : decode cX0_init 9 = .ok (.aload_n 0, 1) := by decide +kernel
theorem dX0_init_10 : decode cX0_init 10 = .ok (.aload_n 2, 1) := by decide +kernel
theorem dX0_init_11 : decode cX0_init 11 = .ok (.putfield 15, 3) := by decide +kernel
theorem dX0_init_14 : decode cX0_init 14 = .ok (.aload_n 0, 1) := by decide +kernel
theorem dX0_init_15 : decode cX0_init 15 = .ok (.aload_n 2, 1) := by decide +kernel
theorem dX0_init_16 : decode cX0_init 16 = .ok (.getfield 19, 3) := by decide +kernel
theorem dX0_init_19 : decode cX0_init 19 = .ok (.putfield 24, 3) := by decide +kernel
theorem dX0_init_22 : decode cX0_init 22 = .ok (.return_, 1) := by decide +kernel
theorem dX0_isGenuine_0 : decode cX0_isGenuine 0 = .ok (.aload_n 0, 1) := by decide +kernel
theorem dX0_isGenuine_1 : decode cX0_isGenuine 1 = .ok (.getfield 25, 3) := by decide +kernel
theorem dX0_isGenuine_4 : decode cX0_isGenuine 4 = .ok (.ifCond .ne 17, 3) := by decide +kernel
theorem dX0_isGenuine_7 : decode cX0_isGenuine 7 = .ok (.aload_n 0, 1) := by decide +kernel
theorem dX0_isGenuine_8 : decode cX0_isGenuine 8 = .ok (.getfield 15, 3) := by decide +kernel
theorem dX0_isGenuine_11 : decode cX0_isGenuine 11 = .ok (.getfield 29, 3) := by decide +kernel
theorem dX0_isGenuine_14 : decode cX0_isGenuine 14 = .ok (.ifCond .ne 7, 3) := by decide +kernel
theorem dX0_isGenuine_17 : decode cX0_isGenuine 17 = .ok (.iconst 1, 1) := by decide +kernel
theorem dX0_isGenuine_18 : decode cX0_isGenuine 18 = .ok (.goto 4, 3) := by decide +kernel
theorem dX0_isGenuine_21 : decode cX0_isGenuine 21 = .ok (.iconst 0, 1) := by decide +kernel
theorem dX0_isGenuine_22 : decode cX0_isGenuine 22 = .ok (.ireturn, 1) := by decide +kernel
theorem dX0_priceNow_0 : decode cX0_priceNow 0 = .ok (.aload_n 0, 1) := by decide +kernel
theorem dX0_priceNow_1 : decode cX0_priceNow 1 = .ok (.invokevirtual 32, 3) := by decide +kernel
theorem dX0_priceNow_4 : decode cX0_priceNow 4 = .ok (.ifCond .eq 13, 3) := by decide +kernel
theorem dX0_priceNow_7 : decode cX0_priceNow 7 = .ok (.aload_n 0, 1) := by decide +kernel
theorem dX0_priceNow_8 : decode cX0_priceNow 8 = .ok (.getfield 15, 3) := by decide +kernel
theorem dX0_priceNow_11 : decode cX0_priceNow 11 = .ok (.invokevirtual 36, 3) := by decide +kernel
theorem dX0_priceNow_14 : decode cX0_priceNow 14 = .ok (.goto 4, 3) := by decide +kernel
theorem dX0_priceNow_17 : decode cX0_priceNow 17 = .ok (.iconst 0, 1) := by decide +kernel
theorem dX0_priceNow_18 : decode cX0_priceNow 18 = .ok (.ireturn, 1) := by decide +kernel
theorem dX0_ownerNumber_0 : decode cX0_ownerNumber 0 = .ok (.aload_n 0, 1) := by decide +kernel
theorem dX0_ownerNumber_1 : decode cX0_ownerNumber 1 = .ok (.getfield 40, 3) := by decide +kernel
theorem dX0_ownerNumber_4 : decode cX0_ownerNumber 4 = .ok (.ifnonnull 7, 3) := by decide +kernel
theorem dX0_ownerNumber_7 : decode cX0_ownerNumber 7 = .ok (.iconst (-1), 1) := by decide +kernel
theorem dX0_ownerNumber_8 : decode cX0_ownerNumber 8 = .ok (.goto 10, 3) := by decide +kernel
theorem dX0_ownerNumber_11 : decode cX0_ownerNumber 11 = .ok (.aload_n 0, 1) := by decide +kernel
theorem dX0_ownerNumber_12 : decode cX0_ownerNumber 12 = .ok (.getfield 40, 3) := by decide +kernel
theorem dX0_ownerNumber_15 : decode cX0_ownerNumber 15 = .ok (.getfield 44, 3) := by decide +kernel
theorem dX0_ownerNumber_18 : decode cX0_ownerNumber 18 = .ok (.ireturn, 1) := by decide +kernel
theorem dX1_init_0 : decode cX1_init 0 = .ok (.aload_n 0, 1) := by decide +kernel
theorem dX1_init_1 : decode cX1_init 1 = .ok (.invokespecial 3, 3) := by decide +kernel
theorem dX1_init_4 : decode cX1_init 4 = .ok (.aload_n 0, 1) := by decide +kernel
theorem dX1_init_5 : decode cX1_init 5 = .ok (.bipush 50, 2) := by decide +kernel
theorem dX1_init_7 : decode cX1_init 7 = .ok (.putfield 9, 3) := by decide +kernel
theorem dX1_init_10 : decode cX1_init 10 = .ok (.aload_n 0, 1) := by decide +kernel
theorem dX1_init_11 : decode cX1_init 11 = .ok (.new 15, 3) := by decide +kernel
theorem dX1_init_14 : decode cX1_init 14 = .ok (.dup, 1) := by decide +kernel
theorem dX1_init_15 : decode cX1_init 15 = .ok (.invokespecial 17, 3) := by decide +kernel
theorem dX1_init_18 : decode cX1_init 18 = .ok (.putfield 18, 3) := by decide +kernel
theorem dX1_init_21 : decode cX1_init 21 = .ok (.aload_n 0, 1) := by decide +kernel
theorem dX1_init_22 : decode cX1_init 22 = .ok (.new 15, 3) := by decide +kernel
theorem dX1_init_25 : decode cX1_init 25 = .ok (.dup, 1) := by decide +kernel
theorem dX1_init_26 : decode cX1_init 26 = .ok (.invokespecial 17, 3) := by decide +kernel
theorem dX1_init_29 : decode cX1_init 29 = .ok (.putfield 22, 3) := by decide +kernel
theorem dX1_init_32 : decode cX1_init 32 = .ok (.aload_n 0, 1) := by decide +kernel
theorem dX1_init_33 : decode cX1_init 33 = .ok (.iload_n 1, 1) := by decide +kernel
theorem dX1_init_34 : decode cX1_init 34 = .ok (.putfield 25, 3) := by decide +kernel
theorem dX1_init_37 : decode cX1_init 37 = .ok (.return_, 1) := by decide +kernel
theorem dX1_gain_0 : decode cX1_gain 0 = .ok (.aload_n 0, 1) := by decide +kernel
theorem dX1_gain_1 : decode cX1_gain 1 = .ok (.getfield 18, 3) := by decide +kernel
theorem dX1_gain_4 : decode cX1_gain 4 = .ok (.aload_n 1, 1) := by decide +kernel
theorem dX1_gain_5 : decode cX1_gain 5 = .ok (.invokevirtual 28, 3) := by decide +kernel
theorem dX1_gain_8 : decode cX1_gain 8 = .ok (.pop, 1) := by decide +kernel
theorem dX1_gain_9 : decode cX1_gain 9 = .ok (.aload_n 1, 1) := by decide +kernel
theorem dX1_gain_10 : decode cX1_gain 10 = .ok (.aload_n 0, 1) := by decide +kernel
theorem dX1_gain_11 : decode cX1_gain 11 = .ok (.putfield 32, 3) := by decide +kernel
theorem dX1_gain_14 : decode cX1_gain 14 = .ok (.aload_n 1, 1) := by decide +kernel
theorem dX1_gain_15 : decode cX1_gain 15 = .ok (.iconst 0, 1) := by decide +kernel
theorem dX1_gain_16 : decode cX1_gain 16 = .ok (.putfield 38, 3) := by decide +kernel
theorem dX1_gain_19 : decode cX1_gain 19 = .ok (.aload_n 0, 1) := by decide +kernel
theorem dX1_gain_20 : decode cX1_gain 20 = .ok (.dup, 1) := by decide +kernel
theorem dX1_gain_21 : decode cX1_gain 21 = .ok (.getfield 42, 3) := by decide +kernel
theorem dX1_gain_24 : decode cX1_gain 24 = .ok (.aload_n 1, 1) := by decide +kernel
theorem dX1_gain_25 : decode cX1_gain 25 = .ok (.getfield 45, 3) := by decide +kernel
theorem dX1_gain_28 : decode cX1_gain 28 = .ok (.invokevirtual 49, 3) := by decide +kernel
theorem dX1_gain_31 : decode cX1_gain 31 = .ok (.iconst (-1), 1) := by decide +kernel
theorem dX1_gain_32 : decode cX1_gain 32 = .ok (.ixor, 1) := by decide +kernel
theorem dX1_gain_33 : decode cX1_gain 33 = .ok (.iand, 1) := by decide +kernel
theorem dX1_gain_34 : decode cX1_gain 34 = .ok (.putfield 42, 3) := by decide +kernel
theorem dX1_gain_37 : decode cX1_gain 37 = .ok (.return_, 1) := by decide +kernel
theorem dX1_lose_0 : decode cX1_lose 0 = .ok (.iconst 0, 1) := by decide +kernel
theorem dX1_lose_1 : decode cX1_lose 1 = .ok (.istore_n 2, 1) := by decide +kernel
theorem dX1_lose_2 : decode cX1_lose 2 = .ok (.iload_n 2, 1) := by decide +kernel
theorem dX1_lose_3 : decode cX1_lose 3 = .ok (.aload_n 0, 1) := by decide +kernel
theorem dX1_lose_4 : decode cX1_lose 4 = .ok (.getfield 18, 3) := by decide +kernel
theorem dX1_lose_7 : decode cX1_lose 7 = .ok (.invokevirtual 55, 3) := by decide +kernel
theorem dX1_lose_10 : decode cX1_lose 10 = .ok (.if_icmp .ge 33, 3) := by decide +kernel
theorem dX1_lose_13 : decode cX1_lose 13 = .ok (.aload_n 0, 1) := by decide +kernel
theorem dX1_lose_14 : decode cX1_lose 14 = .ok (.getfield 18, 3) := by decide +kernel
theorem dX1_lose_17 : decode cX1_lose 17 = .ok (.iload_n 2, 1) := by decide +kernel
theorem dX1_lose_18 : decode cX1_lose 18 = .ok (.invokevirtual 58, 3) := by decide +kernel
theorem dX1_lose_21 : decode cX1_lose 21 = .ok (.aload_n 1, 1) := by decide +kernel
theorem dX1_lose_22 : decode cX1_lose 22 = .ok (.if_acmp .ne 15, 3) := by decide +kernel
theorem dX1_lose_25 : decode cX1_lose 25 = .ok (.aload_n 0, 1) := by decide +kernel
theorem dX1_lose_26 : decode cX1_lose 26 = .ok (.getfield 18, 3) := by decide +kernel
theorem dX1_lose_29 : decode cX1_lose 29 = .ok (.iload_n 2, 1) := by decide +kernel
theorem dX1_lose_30 : decode cX1_lose 30 = .ok (.invokevirtual 62, 3) := by decide +kernel
theorem dX1_lose_33 : decode cX1_lose 33 = .ok (.pop, 1) := by decide +kernel
theorem dX1_lose_34 : decode cX1_lose 34 = .ok (.goto 9, 3) := by decide +kernel
theorem dX1_lose_37 : decode cX1_lose 37 = .ok (.iinc 2 1, 3) := by decide +kernel
theorem dX1_lose_40 : decode cX1_lose 40 = .ok (.goto (-38), 3) := by decide +kernel
theorem dX1_lose_43 : decode cX1_lose 43 = .ok (.aload_n 1, 1) := by decide +kernel
theorem dX1_lose_44 : decode cX1_lose 44 = .ok (.aconst_null, 1) := by decide +kernel
theorem dX1_lose_45 : decode cX1_lose 45 = .ok (.putfield 32, 3) := by decide +kernel
theorem dX1_lose_48 : decode cX1_lose 48 = .ok (.return_, 1) := by decide +kernel
theorem dX1_listOffers_0 : decode cX1_listOffers 0 = .ok (.aload_n 0, 1) := by decide +kernel
theorem dX1_listOffers_1 : decode cX1_listOffers 1 = .ok (.getfield 22, 3) := by decide +kernel
theorem dX1_listOffers_4 : decode cX1_listOffers 4 = .ok (.invokevirtual 65, 3) := by decide +kernel
theorem dX1_listOffers_7 : decode cX1_listOffers 7 = .ok (.iconst 0, 1) := by decide +kernel
theorem dX1_listOffers_8 : decode cX1_listOffers 8 = .ok (.istore_n 2, 1) := by decide +kernel
theorem dX1_listOffers_9 : decode cX1_listOffers 9 = .ok (.iload_n 2, 1) := by decide +kernel
theorem dX1_listOffers_10 : decode cX1_listOffers 10 = .ok (.aload_n 1, 1) := by decide +kernel
theorem dX1_listOffers_11 : decode cX1_listOffers 11 = .ok (.invokevirtual 55, 3) := by decide +kernel
theorem dX1_listOffers_14 : decode cX1_listOffers 14 = .ok (.if_icmp .ge 35, 3) := by decide +kernel
theorem dX1_listOffers_17 : decode cX1_listOffers 17 = .ok (.aload_n 0, 1) := by decide +kernel
theorem dX1_listOffers_18 : decode cX1_listOffers 18 = .ok (.aload_n 1, 1) := by decide +kernel
theorem dX1_listOffers_19 : decode cX1_listOffers 19 = .ok (.iload_n 2, 1) := by decide +kernel
theorem dX1_listOffers_20 : decode cX1_listOffers 20 = .ok (.invokevirtual 58, 3) := by decide +kernel
theorem dX1_listOffers_23 : decode cX1_listOffers 23 = .ok (.checkcast 50, 3) := by decide +kernel
theorem dX1_listOffers_26 : decode cX1_listOffers 26 = .ok (.invokevirtual 68, 3) := by decide +kernel
theorem dX1_listOffers_29 : decode cX1_listOffers 29 = .ok (.astore_n 3, 1) := by decide +kernel
theorem dX1_listOffers_30 : decode cX1_listOffers 30 = .ok (.aload_n 3, 1) := by decide +kernel
theorem dX1_listOffers_31 : decode cX1_listOffers 31 = .ok (.ifnull 12, 3) := by decide +kernel
theorem dX1_listOffers_34 : decode cX1_listOffers 34 = .ok (.aload_n 0, 1) := by decide +kernel
theorem dX1_listOffers_35 : decode cX1_listOffers 35 = .ok (.getfield 22, 3) := by decide +kernel
theorem dX1_listOffers_38 : decode cX1_listOffers 38 = .ok (.aload_n 3, 1) := by decide +kernel
theorem dX1_listOffers_39 : decode cX1_listOffers 39 = .ok (.invokevirtual 28, 3) := by decide +kernel
theorem dX1_listOffers_42 : decode cX1_listOffers 42 = .ok (.pop, 1) := by decide +kernel
theorem dX1_listOffers_43 : decode cX1_listOffers 43 = .ok (.iinc 2 1, 3) := by decide +kernel
theorem dX1_listOffers_46 : decode cX1_listOffers 46 = .ok (.goto (-37), 3) := by decide +kernel
theorem dX1_listOffers_49 : decode cX1_listOffers 49 = .ok (.return_, 1) := by decide +kernel
theorem dX1_lowestOffered_0 : decode cX1_lowestOffered 0 = .ok (.aconst_null, 1) := by decide +kernel
theorem dX1_lowestOffered_1 : decode cX1_lowestOffered 1 = .ok (.astore_n 2, 1) := by decide +kernel
theorem dX1_lowestOffered_2 : decode cX1_lowestOffered 2 = .ok (.iconst 0, 1) := by decide +kernel
theorem dX1_lowestOffered_3 : decode cX1_lowestOffered 3 = .ok (.istore_n 3, 1) := by decide +kernel
theorem dX1_lowestOffered_4 : decode cX1_lowestOffered 4 = .ok (.iconst 0, 1) := by decide +kernel
theorem dX1_lowestOffered_5 : decode cX1_lowestOffered 5 = .ok (.istore 4, 2) := by decide +kernel
theorem dX1_lowestOffered_7 : decode cX1_lowestOffered 7 = .ok (.iconst 0, 1) := by decide +kernel
theorem dX1_lowestOffered_8 : decode cX1_lowestOffered 8 = .ok (.istore 5, 2) := by decide +kernel
theorem dX1_lowestOffered_10 : decode cX1_lowestOffered 10 = .ok (.iload 5, 2) := by decide +kernel
theorem dX1_lowestOffered_12 : decode cX1_lowestOffered 12 = .ok (.aload_n 0, 1) := by decide +kernel
theorem dX1_lowestOffered_13 : decode cX1_lowestOffered 13 = .ok (.getfield 18, 3) := by decide +kernel
theorem dX1_lowestOffered_16 : decode cX1_lowestOffered 16 = .ok (.invokevirtual 55, 3) := by decide +kernel
theorem dX1_lowestOffered_19 : decode cX1_lowestOffered 19 = .ok (.if_icmp .ge 82, 3) := by decide +kernel
theorem dX1_lowestOffered_22 : decode cX1_lowestOffered 22 = .ok (.aload_n 0, 1) := by decide +kernel
theorem dX1_lowestOffered_23 : decode cX1_lowestOffered 23 = .ok (.getfield 18, 3) := by decide +kernel
theorem dX1_lowestOffered_26 : decode cX1_lowestOffered 26 = .ok (.iload 5, 2) := by decide +kernel
theorem dX1_lowestOffered_28 : decode cX1_lowestOffered 28 = .ok (.invokevirtual 58, 3) := by decide +kernel
theorem dX1_lowestOffered_31 : decode cX1_lowestOffered 31 = .ok (.checkcast 33, 3) := by decide +kernel
theorem dX1_lowestOffered_34 : decode cX1_lowestOffered 34 = .ok (.astore 6, 2) := by decide +kernel
theorem dX1_lowestOffered_36 : decode cX1_lowestOffered 36 = .ok (.aload 6, 2) := by decide +kernel
theorem dX1_lowestOffered_38 : decode cX1_lowestOffered 38 = .ok (.getfield 45, 3) := by decide +kernel
theorem dX1_lowestOffered_41 : decode cX1_lowestOffered 41 = .ok (.aload_n 1, 1) := by decide +kernel
theorem dX1_lowestOffered_42 : decode cX1_lowestOffered 42 = .ok (.if_acmp .ne 53, 3) := by decide +kernel
theorem dX1_lowestOffered_45 : decode cX1_lowestOffered 45 = .ok (.aload 6, 2) := by decide +kernel
theorem dX1_lowestOffered_47 : decode cX1_lowestOffered 47 = .ok (.invokevirtual 72, 3) := by decide +kernel
theorem dX1_lowestOffered_50 : decode cX1_lowestOffered 50 = .ok (.ifCond .eq 45, 3) := by decide +kernel
theorem dX1_lowestOffered_53 : decode cX1_lowestOffered 53 = .ok (.iinc 3 1, 3) := by decide +kernel
theorem dX1_lowestOffered_56 : decode cX1_lowestOffered 56 = .ok (.iload 4, 2) := by decide +kernel
theorem dX1_lowestOffered_58 : decode cX1_lowestOffered 58 = .ok (.ifCond .ne 11, 3) := by decide +kernel
theorem dX1_lowestOffered_61 : decode cX1_lowestOffered 61 = .ok (.aload 6, 2) := by decide +kernel
theorem dX1_lowestOffered_63 : decode cX1_lowestOffered 63 = .ok (.getfield 38, 3) := by decide +kernel
theorem dX1_lowestOffered_66 : decode cX1_lowestOffered 66 = .ok (.ifCond .eq 7, 3) := by decide +kernel
theorem dX1_lowestOffered_69 : decode cX1_lowestOffered 69 = .ok (.iconst 1, 1) := by decide +kernel
theorem dX1_lowestOffered_70 : decode cX1_lowestOffered 70 = .ok (.goto 4, 3) := by decide +kernel
theorem dX1_lowestOffered_73 : decode cX1_lowestOffered 73 = .ok (.iconst 0, 1) := by decide +kernel
theorem dX1_lowestOffered_74 : decode cX1_lowestOffered 74 = .ok (.istore 4, 2) := by decide +kernel
theorem dX1_lowestOffered_76 : decode cX1_lowestOffered 76 = .ok (.aload_n 2, 1) := by decide +kernel
theorem dX1_lowestOffered_77 : decode cX1_lowestOffered 77 = .ok (.ifnull 15, 3) := by decide +kernel
theorem dX1_lowestOffered_80 : decode cX1_lowestOffered 80 = .ok (.aload 6, 2) := by decide +kernel
theorem dX1_lowestOffered_82 : decode cX1_lowestOffered 82 = .ok (.getfield 76, 3) := by decide +kernel
theorem dX1_lowestOffered_85 : decode cX1_lowestOffered 85 = .ok (.aload_n 2, 1) := by decide +kernel
theorem dX1_lowestOffered_86 : decode cX1_lowestOffered 86 = .ok (.getfield 76, 3) := by decide +kernel
theorem dX1_lowestOffered_89 : decode cX1_lowestOffered 89 = .ok (.if_icmp .ge 6, 3) := by decide +kernel
theorem dX1_lowestOffered_92 : decode cX1_lowestOffered 92 = .ok (.aload 6, 2) := by decide +kernel
theorem dX1_lowestOffered_94 : decode cX1_lowestOffered 94 = .ok (.astore_n 2, 1) := by decide +kernel
theorem dX1_lowestOffered_95 : decode cX1_lowestOffered 95 = .ok (.iinc 5 1, 3) := by decide +kernel
theorem dX1_lowestOffered_98 : decode cX1_lowestOffered 98 = .ok (.goto (-88), 3) := by decide +kernel
theorem dX1_lowestOffered_101 : decode cX1_lowestOffered 101 = .ok (.iload_n 3, 1) := by decide +kernel
theorem dX1_lowestOffered_102 : decode cX1_lowestOffered 102 = .ok (.iconst 1, 1) := by decide +kernel
theorem dX1_lowestOffered_103 : decode cX1_lowestOffered 103 = .ok (.if_icmp .gt 8, 3) := by decide +kernel
theorem dX1_lowestOffered_106 : decode cX1_lowestOffered 106 = .ok (.iload 4, 2) := by decide +kernel
theorem dX1_lowestOffered_108 : decode cX1_lowestOffered 108 = .ok (.ifCond .eq 7, 3) := by decide +kernel
theorem dX1_lowestOffered_111 : decode cX1_lowestOffered 111 = .ok (.aload_n 2, 1) := by decide +kernel
theorem dX1_lowestOffered_112 : decode cX1_lowestOffered 112 = .ok (.goto 4, 3) := by decide +kernel
theorem dX1_lowestOffered_115 : decode cX1_lowestOffered 115 = .ok (.aconst_null, 1) := by decide +kernel
theorem dX1_lowestOffered_116 : decode cX1_lowestOffered 116 = .ok (.areturn, 1) := by decide +kernel
theorem dX1_countDearerThan_0 : decode cX1_countDearerThan 0 = .ok (.iconst 0, 1) := by decide +kernel
theorem dX1_countDearerThan_1 : decode cX1_countDearerThan 1 = .ok (.istore_n 2, 1) := by decide +kernel
theorem dX1_countDearerThan_2 : decode cX1_countDearerThan 2 = .ok (.iconst 0, 1) := by decide +kernel
theorem dX1_countDearerThan_3 : decode cX1_countDearerThan 3 = .ok (.istore_n 3, 1) := by decide +kernel
theorem dX1_countDearerThan_4 : decode cX1_countDearerThan 4 = .ok (.iload_n 3, 1) := by decide +kernel
theorem dX1_countDearerThan_5 : decode cX1_countDearerThan 5 = .ok (.aload_n 0, 1) := by decide +kernel
theorem dX1_countDearerThan_6 : decode cX1_countDearerThan 6 = .ok (.getfield 18, 3) := by decide +kernel
theorem dX1_countDearerThan_9 : decode cX1_countDearerThan 9 = .ok (.invokevirtual 55, 3) := by decide +kernel
theorem dX1_countDearerThan_12 : decode cX1_countDearerThan 12 = .ok (.if_icmp .ge 59, 3) := by decide +kernel
theorem dX1_countDearerThan_15 : decode cX1_countDearerThan 15 = .ok (.aload_n 0, 1) := by decide +kernel
theorem dX1_countDearerThan_16 : decode cX1_countDearerThan 16 = .ok (.getfield 18, 3) := by decide +kernel
theorem dX1_countDearerThan_19 : decode cX1_countDearerThan 19 = .ok (.iload_n 3, 1) := by decide +kernel
theorem dX1_countDearerThan_20 : decode cX1_countDearerThan 20 = .ok (.invokevirtual 58, 3) := by decide +kernel
theorem dX1_countDearerThan_23 : decode cX1_countDearerThan 23 = .ok (.checkcast 33, 3) := by decide +kernel
theorem dX1_countDearerThan_26 : decode cX1_countDearerThan 26 = .ok (.astore 4, 2) := by decide +kernel
theorem dX1_countDearerThan_28 : decode cX1_countDearerThan 28 = .ok (.aload 4, 2) := by decide +kernel
theorem dX1_countDearerThan_30 : decode cX1_countDearerThan 30 = .ok (.invokevirtual 77, 3) := by decide +kernel
theorem dX1_countDearerThan_33 : decode cX1_countDearerThan 33 = .ok (.aload_n 1, 1) := by decide +kernel
theorem dX1_countDearerThan_34 : decode cX1_countDearerThan 34 = .ok (.invokevirtual 77, 3) := by decide +kernel
theorem dX1_countDearerThan_37 : decode cX1_countDearerThan 37 = .ok (.isub, 1) := by decide +kernel
theorem dX1_countDearerThan_38 : decode cX1_countDearerThan 38 = .ok (.istore 5, 2) := by decide +kernel
theorem dX1_countDearerThan_40 : decode cX1_countDearerThan 40 = .ok (.iload 5, 2) := by decide +kernel
theorem dX1_countDearerThan_42 : decode cX1_countDearerThan 42 = .ok (.ifCond .gt 20, 3) := by decide +kernel
theorem dX1_countDearerThan_45 : decode cX1_countDearerThan 45 = .ok (.iload 5, 2) := by decide +kernel
theorem dX1_countDearerThan_47 : decode cX1_countDearerThan 47 = .ok (.ifCond .ne 18, 3) := by decide +kernel
theorem dX1_countDearerThan_50 : decode cX1_countDearerThan 50 = .ok (.aload 4, 2) := by decide +kernel
theorem dX1_countDearerThan_52 : decode cX1_countDearerThan 52 = .ok (.getfield 76, 3) := by decide +kernel
theorem dX1_countDearerThan_55 : decode cX1_countDearerThan 55 = .ok (.aload_n 1, 1) := by decide +kernel
theorem dX1_countDearerThan_56 : decode cX1_countDearerThan 56 = .ok (.getfield 76, 3) := by decide +kernel
theorem dX1_countDearerThan_59 : decode cX1_countDearerThan 59 = .ok (.if_icmp .ge 6, 3) := by decide +kernel
theorem dX1_countDearerThan_62 : decode cX1_countDearerThan 62 = .ok (.iinc 2 1, 3) := by decide +kernel
theorem dX1_countDearerThan_65 : decode cX1_countDearerThan 65 = .ok (.iinc 3 1, 3) := by decide +kernel
theorem dX1_countDearerThan_68 : decode cX1_countDearerThan 68 = .ok (.goto (-64), 3) := by decide +kernel
theorem dX1_countDearerThan_71 : decode cX1_countDearerThan 71 = .ok (.iload_n 2, 1) := by decide +kernel
theorem dX1_countDearerThan_72 : decode cX1_countDearerThan 72 = .ok (.ireturn, 1) := by decide +kernel
theorem dX1_isAfter_0 : decode cX1_isAfter 0 = .ok (.aload_n 0, 1) := by decide +kernel
theorem dX1_isAfter_1 : decode cX1_isAfter 1 = .ok (.getfield 42, 3) := by decide +kernel
theorem dX1_isAfter_4 : decode cX1_isAfter 4 = .ok (.aload_n 1, 1) := by decide +kernel
theorem dX1_isAfter_5 : decode cX1_isAfter 5 = .ok (.invokevirtual 49, 3) := by decide +kernel
theorem dX1_isAfter_8 : decode cX1_isAfter 8 = .ok (.iand, 1) := by decide +kernel
theorem dX1_isAfter_9 : decode cX1_isAfter 9 = .ok (.ifCond .eq 7, 3) := by decide +kernel
theorem dX1_isAfter_12 : decode cX1_isAfter 12 = .ok (.iconst 1, 1) := by decide +kernel
theorem dX1_isAfter_13 : decode cX1_isAfter 13 = .ok (.goto 4, 3) := by decide +kernel
theorem dX1_isAfter_16 : decode cX1_isAfter 16 = .ok (.iconst 0, 1) := by decide +kernel
theorem dX1_isAfter_17 : decode cX1_isAfter 17 = .ok (.ireturn, 1) := by decide +kernel
theorem dX1_isContentWith_0 : decode cX1_isContentWith 0 = .ok (.aload_n 1, 1) := by decide +kernel
theorem dX1_isContentWith_1 : decode cX1_isContentWith 1 = .ok (.invokevirtual 77, 3) := by decide +kernel
theorem dX1_isContentWith_4 : decode cX1_isContentWith 4 = .ok (.bipush 100, 2) := by decide +kernel
theorem dX1_isContentWith_6 : decode cX1_isContentWith 6 = .ok (.imul, 1) := by decide +kernel
theorem dX1_isContentWith_7 : decode cX1_isContentWith 7 = .ok (.aload_n 0, 1) := by decide +kernel
theorem dX1_isContentWith_8 : decode cX1_isContentWith 8 = .ok (.getfield 9, 3) := by decide +kernel
theorem dX1_isContentWith_11 : decode cX1_isContentWith 11 = .ok (.aload_n 2, 1) := by decide +kernel
theorem dX1_isContentWith_12 : decode cX1_isContentWith 12 = .ok (.invokevirtual 77, 3) := by decide +kernel
theorem dX1_isContentWith_15 : decode cX1_isContentWith 15 = .ok (.imul, 1) := by decide +kernel
theorem dX1_isContentWith_16 : decode cX1_isContentWith 16 = .ok (.if_icmp .lt 7, 3) := by decide +kernel
theorem dX1_isContentWith_19 : decode cX1_isContentWith 19 = .ok (.iconst 1, 1) := by decide +kernel
theorem dX1_isContentWith_20 : decode cX1_isContentWith 20 = .ok (.goto 4, 3) := by decide +kernel
theorem dX1_isContentWith_23 : decode cX1_isContentWith 23 = .ok (.iconst 0, 1) := by decide +kernel
theorem dX1_isContentWith_24 : decode cX1_isContentWith 24 = .ok (.ireturn, 1) := by decide +kernel
theorem dX2_init_0 : decode cX2_init 0 = .ok (.aload_n 0, 1) := by decide +kernel
theorem dX2_init_1 : decode cX2_init 1 = .ok (.invokespecial 3, 3) := by decide +kernel
theorem dX2_init_4 : decode cX2_init 4 = .ok (.aload_n 0, 1) := by decide +kernel
theorem dX2_init_5 : decode cX2_init 5 = .ok (.new 9, 3) := by decide +kernel
theorem dX2_init_8 : decode cX2_init 8 = .ok (.dup, 1) := by decide +kernel
theorem dX2_init_9 : decode cX2_init 9 = .ok (.invokespecial 11, 3) := by decide +kernel
theorem dX2_init_12 : decode cX2_init 12 = .ok (.putfield 12, 3) := by decide +kernel
theorem dX2_init_15 : decode cX2_init 15 = .ok (.aload_n 0, 1) := by decide +kernel
theorem dX2_init_16 : decode cX2_init 16 = .ok (.iload_n 1, 1) := by decide +kernel
theorem dX2_init_17 : decode cX2_init 17 = .ok (.putfield 18, 3) := by decide +kernel
theorem dX2_init_20 : decode cX2_init 20 = .ok (.aload_n 0, 1) := by decide +kernel
theorem dX2_init_21 : decode cX2_init 21 = .ok (.iload_n 2, 1) := by decide +kernel
theorem dX2_init_22 : decode cX2_init 22 = .ok (.putfield 22, 3) := by decide +kernel
theorem dX2_init_25 : decode cX2_init 25 = .ok (.aload_n 0, 1) := by decide +kernel
theorem dX2_init_26 : decode cX2_init 26 = .ok (.iload_n 2, 1) := by decide +kernel
theorem dX2_init_27 : decode cX2_init 27 = .ok (.invokestatic 25, 3) := by decide +kernel
theorem dX2_init_30 : decode cX2_init 30 = .ok (.putfield 29, 3) := by decide +kernel
theorem dX2_init_33 : decode cX2_init 33 = .ok (.aload_n 0, 1) := by decide +kernel
theorem dX2_init_34 : decode cX2_init 34 = .ok (.iload_n 3, 1) := by decide +kernel
theorem dX2_init_35 : decode cX2_init 35 = .ok (.putfield 32, 3) := by decide +kernel
theorem dX2_init_38 : decode cX2_init 38 = .ok (.return_, 1) := by decide +kernel
theorem dX2_valueOf_0 : decode cX2_valueOf 0 = .ok (.iload_n 0, 1) := by decide +kernel
theorem dX2_valueOf_1 : decode cX2_valueOf 1 = .ok (.tableswitch 38 0 2 #[27, 30, 34], 27) := by decide +kernel
theorem dX2_valueOf_28 : decode cX2_valueOf 28 = .ok (.bipush 100, 2) := by decide +kernel
theorem dX2_valueOf_30 : decode cX2_valueOf 30 = .ok (.ireturn, 1) := by decide +kernel
theorem dX2_valueOf_31 : decode cX2_valueOf 31 = .ok (.sipush 200, 3) := by decide +kernel
theorem dX2_valueOf_34 : decode cX2_valueOf 34 = .ok (.ireturn, 1) := by decide +kernel
theorem dX2_valueOf_35 : decode cX2_valueOf 35 = .ok (.sipush 500, 3) := by decide +kernel
theorem dX2_valueOf_38 : decode cX2_valueOf 38 = .ok (.ireturn, 1) := by decide +kernel
theorem dX2_valueOf_39 : decode cX2_valueOf 39 = .ok (.sipush 1000, 3) := by decide +kernel
theorem dX2_valueOf_42 : decode cX2_valueOf 42 = .ok (.ireturn, 1) := by decide +kernel
theorem dX2_bit_0 : decode cX2_bit 0 = .ok (.iconst 1, 1) := by decide +kernel
theorem dX2_bit_1 : decode cX2_bit 1 = .ok (.aload_n 0, 1) := by decide +kernel
theorem dX2_bit_2 : decode cX2_bit 2 = .ok (.getfield 18, 3) := by decide +kernel
theorem dX2_bit_5 : decode cX2_bit 5 = .ok (.ishl, 1) := by decide +kernel
theorem dX2_bit_6 : decode cX2_bit 6 = .ok (.ireturn, 1) := by decide +kernel
theorem dX2_firstCoin_0 : decode cX2_firstCoin 0 = .ok (.aload_n 0, 1) := by decide +kernel
theorem dX2_firstCoin_1 : decode cX2_firstCoin 1 = .ok (.getfield 12, 3) := by decide +kernel
theorem dX2_firstCoin_4 : decode cX2_firstCoin 4 = .ok (.invokevirtual 35, 3) := by decide +kernel
theorem dX2_firstCoin_7 : decode cX2_firstCoin 7 = .ok (.ifCond .eq 7, 3) := by decide +kernel
theorem dX2_firstCoin_10 : decode cX2_firstCoin 10 = .ok (.aconst_null, 1) := by decide +kernel
theorem dX2_firstCoin_11 : decode cX2_firstCoin 11 = .ok (.goto 14, 3) := by decide +kernel
theorem dX2_firstCoin_14 : decode cX2_firstCoin 14 = .ok (.aload_n 0, 1) := by decide +kernel
theorem dX2_firstCoin_15 : decode cX2_firstCoin 15 = .ok (.getfield 12, 3) := by decide +kernel
theorem dX2_firstCoin_18 : decode cX2_firstCoin 18 = .ok (.iconst 0, 1) := by decide +kernel
theorem dX2_firstCoin_19 : decode cX2_firstCoin 19 = .ok (.invokevirtual 39, 3) := by decide +kernel
theorem dX2_firstCoin_22 : decode cX2_firstCoin 22 = .ok (.checkcast 43, 3) := by decide +kernel
theorem dX2_firstCoin_25 : decode cX2_firstCoin 25 = .ok (.areturn, 1) := by decide +kernel
theorem dX2_firstOfStage_0 : decode cX2_firstOfStage 0 = .ok (.iconst 0, 1) := by decide +kernel
theorem dX2_firstOfStage_1 : decode cX2_firstOfStage 1 = .ok (.istore_n 2, 1) := by decide +kernel
theorem dX2_firstOfStage_2 : decode cX2_firstOfStage 2 = .ok (.iload_n 2, 1) := by decide +kernel
theorem dX2_firstOfStage_3 : decode cX2_firstOfStage 3 = .ok (.aload_n 0, 1) := by decide +kernel
theorem dX2_firstOfStage_4 : decode cX2_firstOfStage 4 = .ok (.getfield 12, 3) := by decide +kernel
theorem dX2_firstOfStage_7 : decode cX2_firstOfStage 7 = .ok (.invokevirtual 45, 3) := by decide +kernel
theorem dX2_firstOfStage_10 : decode cX2_firstOfStage 10 = .ok (.if_icmp .ge 39, 3) := by decide +kernel
theorem dX2_firstOfStage_13 : decode cX2_firstOfStage 13 = .ok (.aload_n 0, 1) := by decide +kernel
theorem dX2_firstOfStage_14 : decode cX2_firstOfStage 14 = .ok (.getfield 12, 3) := by decide +kernel
theorem dX2_firstOfStage_17 : decode cX2_firstOfStage 17 = .ok (.iload_n 2, 1) := by decide +kernel
theorem dX2_firstOfStage_18 : decode cX2_firstOfStage 18 = .ok (.invokevirtual 39, 3) := by decide +kernel
theorem dX2_firstOfStage_21 : decode cX2_firstOfStage 21 = .ok (.checkcast 43, 3) := by decide +kernel
theorem dX2_firstOfStage_24 : decode cX2_firstOfStage 24 = .ok (.getfield 49, 3) := by decide +kernel
theorem dX2_firstOfStage_27 : decode cX2_firstOfStage 27 = .ok (.iload_n 1, 1) := by decide +kernel
theorem dX2_firstOfStage_28 : decode cX2_firstOfStage 28 = .ok (.if_icmp .ne 15, 3) := by decide +kernel
theorem dX2_firstOfStage_31 : decode cX2_firstOfStage 31 = .ok (.aload_n 0, 1) := by decide +kernel
theorem dX2_firstOfStage_32 : decode cX2_firstOfStage 32 = .ok (.getfield 12, 3) := by decide +kernel
theorem dX2_firstOfStage_35 : decode cX2_firstOfStage 35 = .ok (.iload_n 2, 1) := by decide +kernel
theorem dX2_firstOfStage_36 : decode cX2_firstOfStage 36 = .ok (.invokevirtual 39, 3) := by decide +kernel
theorem dX2_firstOfStage_39 : decode cX2_firstOfStage 39 = .ok (.checkcast 43, 3) := by decide +kernel
theorem dX2_firstOfStage_42 : decode cX2_firstOfStage 42 = .ok (.areturn, 1) := by decide +kernel
theorem dX2_firstOfStage_43 : decode cX2_firstOfStage 43 = .ok (.iinc 2 1, 3) := by decide +kernel
theorem dX2_firstOfStage_46 : decode cX2_firstOfStage 46 = .ok (.goto (-44), 3) := by decide +kernel
theorem dX2_firstOfStage_49 : decode cX2_firstOfStage 49 = .ok (.aconst_null, 1) := by decide +kernel
theorem dX2_firstOfStage_50 : decode cX2_firstOfStage 50 = .ok (.areturn, 1) := by decide +kernel
theorem dX2_countStages_0 : decode cX2_countStages 0 = .ok (.iconst 0, 1) := by decide +kernel
theorem dX2_countStages_1 : decode cX2_countStages 1 = .ok (.istore_n 1, 1) := by decide +kernel
theorem dX2_countStages_2 : decode cX2_countStages 2 = .ok (.iconst 0, 1) := by decide +kernel
theorem dX2_countStages_3 : decode cX2_countStages 3 = .ok (.istore_n 2, 1) := by decide +kernel
theorem dX2_countStages_4 : decode cX2_countStages 4 = .ok (.iload_n 2, 1) := by decide +kernel
theorem dX2_countStages_5 : decode cX2_countStages 5 = .ok (.aload_n 0, 1) := by decide +kernel
theorem dX2_countStages_6 : decode cX2_countStages 6 = .ok (.getfield 12, 3) := by decide +kernel
theorem dX2_countStages_9 : decode cX2_countStages 9 = .ok (.invokevirtual 45, 3) := by decide +kernel
theorem dX2_countStages_12 : decode cX2_countStages 12 = .ok (.if_icmp .ge 36, 3) := by decide +kernel
theorem dX2_countStages_15 : decode cX2_countStages 15 = .ok (.aload_n 0, 1) := by decide +kernel
theorem dX2_countStages_16 : decode cX2_countStages 16 = .ok (.getfield 12, 3) := by decide +kernel
theorem dX2_countStages_19 : decode cX2_countStages 19 = .ok (.iload_n 2, 1) := by decide +kernel
theorem dX2_countStages_20 : decode cX2_countStages 20 = .ok (.invokevirtual 39, 3) := by decide +kernel
theorem dX2_countStages_23 : decode cX2_countStages 23 = .ok (.checkcast 43, 3) := by decide +kernel
theorem dX2_countStages_26 : decode cX2_countStages 26 = .ok (.astore_n 3, 1) := by decide +kernel
theorem dX2_countStages_27 : decode cX2_countStages 27 = .ok (.aload_n 0, 1) := by decide +kernel
theorem dX2_countStages_28 : decode cX2_countStages 28 = .ok (.aload_n 3, 1) := by decide +kernel
theorem dX2_countStages_29 : decode cX2_countStages 29 = .ok (.getfield 49, 3) := by decide +kernel
theorem dX2_countStages_32 : decode cX2_countStages 32 = .ok (.invokevirtual 50, 3) := by decide +kernel
theorem dX2_countStages_35 : decode cX2_countStages 35 = .ok (.aload_n 3, 1) := by decide +kernel
theorem dX2_countStages_36 : decode cX2_countStages 36 = .ok (.if_acmp .ne 6, 3) := by decide +kernel
theorem dX2_countStages_39 : decode cX2_countStages 39 = .ok (.iinc 1 1, 3) := by decide +kernel
theorem dX2_countStages_42 : decode cX2_countStages 42 = .ok (.iinc 2 1, 3) := by decide +kernel
theorem dX2_countStages_45 : decode cX2_countStages 45 = .ok (.goto (-41), 3) := by decide +kernel
theorem dX2_countStages_48 : decode cX2_countStages 48 = .ok (.iload_n 1, 1) := by decide +kernel
theorem dX2_countStages_49 : decode cX2_countStages 49 = .ok (.ireturn, 1) := by decide +kernel
theorem dX2_priceOfTrueCoins_0 : decode cX2_priceOfTrueCoins 0 = .ok (.aload_n 0, 1) := by decide +kernel
theorem dX2_priceOfTrueCoins_1 : decode cX2_priceOfTrueCoins 1 = .ok (.getfield 54, 3) := by decide +kernel
theorem dX2_priceOfTrueCoins_4 : decode cX2_priceOfTrueCoins 4 = .ok (.ifCond .le 20, 3) := by decide +kernel
theorem dX2_priceOfTrueCoins_7 : decode cX2_priceOfTrueCoins 7 = .ok (.bipush 20, 2) := by decide +kernel
theorem dX2_priceOfTrueCoins_9 : decode cX2_priceOfTrueCoins 9 = .ok (.aload_n 0, 1) := by decide +kernel
theorem dX2_priceOfTrueCoins_10 : decode cX2_priceOfTrueCoins 10 = .ok (.getfield 29, 3) := by decide +kernel
theorem dX2_priceOfTrueCoins_13 : decode cX2_priceOfTrueCoins 13 = .ok (.imul, 1) := by decide +kernel
theorem dX2_priceOfTrueCoins_14 : decode cX2_priceOfTrueCoins 14 = .ok (.aload_n 0, 1) := by decide +kernel
theorem dX2_priceOfTrueCoins_15 : decode cX2_priceOfTrueCoins 15 = .ok (.getfield 54, 3) := by decide +kernel
theorem dX2_priceOfTrueCoins_18 : decode cX2_priceOfTrueCoins 18 = .ok (.iconst 1, 1) := by decide +kernel
theorem dX2_priceOfTrueCoins_19 : decode cX2_priceOfTrueCoins 19 = .ok (.iadd, 1) := by decide +kernel
theorem dX2_priceOfTrueCoins_20 : decode cX2_priceOfTrueCoins 20 = .ok (.idiv, 1) := by decide +kernel
theorem dX2_priceOfTrueCoins_21 : decode cX2_priceOfTrueCoins 21 = .ok (.goto 4, 3) := by decide +kernel
theorem dX2_priceOfTrueCoins_24 : decode cX2_priceOfTrueCoins 24 = .ok (.iconst 0, 1) := by decide +kernel
theorem dX2_priceOfTrueCoins_25 : decode cX2_priceOfTrueCoins 25 = .ok (.ireturn, 1) := by decide +kernel
theorem dX3_init_0 : decode cX3_init 0 = .ok (.aload_n 0, 1) := by decide +kernel
theorem dX3_init_1 : decode cX3_init 1 = .ok (.invokespecial 3, 3) := by decide +kernel
theorem dX3_init_4 : decode cX3_init 4 = .ok (.aload_n 0, 1) := by decide +kernel
theorem dX3_init_5 : decode cX3_init 5 = .ok (.new 9, 3) := by decide +kernel
theorem dX3_init_8 : decode cX3_init 8 = .ok (.dup, 1) := by decide +kernel
theorem dX3_init_9 : decode cX3_init 9 = .ok (.invokespecial 11, 3) := by decide +kernel
theorem dX3_init_12 : decode cX3_init 12 = .ok (.putfield 12, 3) := by decide +kernel
theorem dX3_init_15 : decode cX3_init 15 = .ok (.aload_n 0, 1) := by decide +kernel
theorem dX3_init_16 : decode cX3_init 16 = .ok (.new 9, 3) := by decide +kernel
theorem dX3_init_19 : decode cX3_init 19 = .ok (.dup, 1) := by decide +kernel
theorem dX3_init_20 : decode cX3_init 20 = .ok (.invokespecial 11, 3) := by decide +kernel
theorem dX3_init_23 : decode cX3_init 23 = .ok (.putfield 18, 3) := by decide +kernel
theorem dX3_init_26 : decode cX3_init 26 = .ok (.return_, 1) := by decide +kernel
theorem dX3_length_0 : decode cX3_length 0 = .ok (.aload_n 0, 1) := by decide +kernel
theorem dX3_length_1 : decode cX3_length 1 = .ok (.getfield 12, 3) := by decide +kernel
theorem dX3_length_4 : decode cX3_length 4 = .ok (.invokevirtual 21, 3) := by decide +kernel
theorem dX3_length_7 : decode cX3_length 7 = .ok (.aload_n 0, 1) := by decide +kernel
theorem dX3_length_8 : decode cX3_length 8 = .ok (.getfield 18, 3) := by decide +kernel
theorem dX3_length_11 : decode cX3_length 11 = .ok (.invokevirtual 21, 3) := by decide +kernel
theorem dX3_length_14 : decode cX3_length 14 = .ok (.invokestatic 25, 3) := by decide +kernel
theorem dX3_length_17 : decode cX3_length 17 = .ok (.ireturn, 1) := by decide +kernel
theorem dX3_empty_0 : decode cX3_empty 0 = .ok (.aload_n 0, 1) := by decide +kernel
theorem dX3_empty_1 : decode cX3_empty 1 = .ok (.getfield 12, 3) := by decide +kernel
theorem dX3_empty_4 : decode cX3_empty 4 = .ok (.invokevirtual 31, 3) := by decide +kernel
theorem dX3_empty_7 : decode cX3_empty 7 = .ok (.aload_n 0, 1) := by decide +kernel
theorem dX3_empty_8 : decode cX3_empty 8 = .ok (.getfield 18, 3) := by decide +kernel
theorem dX3_empty_11 : decode cX3_empty 11 = .ok (.invokevirtual 31, 3) := by decide +kernel
theorem dX3_empty_14 : decode cX3_empty 14 = .ok (.return_, 1) := by decide +kernel
theorem dX3_add_0 : decode cX3_add 0 = .ok (.aload_n 0, 1) := by decide +kernel
theorem dX3_add_1 : decode cX3_add 1 = .ok (.getfield 12, 3) := by decide +kernel
theorem dX3_add_4 : decode cX3_add 4 = .ok (.aload_n 1, 1) := by decide +kernel
theorem dX3_add_5 : decode cX3_add 5 = .ok (.invokevirtual 34, 3) := by decide +kernel
theorem dX3_add_8 : decode cX3_add 8 = .ok (.pop, 1) := by decide +kernel
theorem dX3_add_9 : decode cX3_add 9 = .ok (.aload_n 0, 1) := by decide +kernel
theorem dX3_add_10 : decode cX3_add 10 = .ok (.getfield 18, 3) := by decide +kernel
theorem dX3_add_13 : decode cX3_add 13 = .ok (.aload_n 2, 1) := by decide +kernel
theorem dX3_add_14 : decode cX3_add 14 = .ok (.invokevirtual 34, 3) := by decide +kernel
theorem dX3_add_17 : decode cX3_add 17 = .ok (.pop, 1) := by decide +kernel
theorem dX3_add_18 : decode cX3_add 18 = .ok (.return_, 1) := by decide +kernel
theorem dX3_removeLast_0 : decode cX3_removeLast 0 = .ok (.aload_n 0, 1) := by decide +kernel
theorem dX3_removeLast_1 : decode cX3_removeLast 1 = .ok (.invokevirtual 38, 3) := by decide +kernel
theorem dX3_removeLast_4 : decode cX3_removeLast 4 = .ok (.iconst 1, 1) := by decide +kernel
theorem dX3_removeLast_5 : decode cX3_removeLast 5 = .ok (.isub, 1) := by decide +kernel
theorem dX3_removeLast_6 : decode cX3_removeLast 6 = .ok (.istore_n 1, 1) := by decide +kernel
theorem dX3_removeLast_7 : decode cX3_removeLast 7 = .ok (.iload_n 1, 1) := by decide +kernel
theorem dX3_removeLast_8 : decode cX3_removeLast 8 = .ok (.ifCond .lt 21, 3) := by decide +kernel
theorem dX3_removeLast_11 : decode cX3_removeLast 11 = .ok (.aload_n 0, 1) := by decide +kernel
theorem dX3_removeLast_12 : decode cX3_removeLast 12 = .ok (.getfield 12, 3) := by decide +kernel
theorem dX3_removeLast_15 : decode cX3_removeLast 15 = .ok (.iload_n 1, 1) := by decide +kernel
theorem dX3_removeLast_16 : decode cX3_removeLast 16 = .ok (.invokevirtual 41, 3) := by decide +kernel
theorem dX3_removeLast_19 : decode cX3_removeLast 19 = .ok (.pop, 1) := by decide +kernel
theorem dX3_removeLast_20 : decode cX3_removeLast 20 = .ok (.aload_n 0, 1) := by decide +kernel
theorem dX3_removeLast_21 : decode cX3_removeLast 21 = .ok (.getfield 18, 3) := by decide +kernel
theorem dX3_removeLast_24 : decode cX3_removeLast 24 = .ok (.iload_n 1, 1) := by decide +kernel
theorem dX3_removeLast_25 : decode cX3_removeLast 25 = .ok (.invokevirtual 41, 3) := by decide +kernel
theorem dX3_removeLast_28 : decode cX3_removeLast 28 = .ok (.pop, 1) := by decide +kernel
theorem dX3_removeLast_29 : decode cX3_removeLast 29 = .ok (.return_, 1) := by decide +kernel
theorem dX3_mayBeJoinedBy_0 : decode cX3_mayBeJoinedBy 0 = .ok (.aload_n 0, 1) := by decide +kernel
theorem dX3_mayBeJoinedBy_1 : decode cX3_mayBeJoinedBy 1 = .ok (.invokevirtual 38, 3) := by decide +kernel
theorem dX3_mayBeJoinedBy_4 : decode cX3_mayBeJoinedBy 4 = .ok (.istore_n 2, 1) := by decide +kernel
theorem dX3_mayBeJoinedBy_5 : decode cX3_mayBeJoinedBy 5 = .ok (.iload_n 2, 1) := by decide +kernel
theorem dX3_mayBeJoinedBy_6 : decode cX3_mayBeJoinedBy 6 = .ok (.ifCond .ne 5, 3) := by decide +kernel
theorem dX3_mayBeJoinedBy_9 : decode cX3_mayBeJoinedBy 9 = .ok (.iconst 1, 1) := by decide +kernel
theorem dX3_mayBeJoinedBy_10 : decode cX3_mayBeJoinedBy 10 = .ok (.ireturn, 1) := by decide +kernel
theorem dX3_mayBeJoinedBy_11 : decode cX3_mayBeJoinedBy 11 = .ok (.aload_n 1, 1) := by decide +kernel
theorem dX3_mayBeJoinedBy_12 : decode cX3_mayBeJoinedBy 12 = .ok (.getfield 45, 3) := by decide +kernel
theorem dX3_mayBeJoinedBy_15 : decode cX3_mayBeJoinedBy 15 = .ok (.aload_n 0, 1) := by decide +kernel
theorem dX3_mayBeJoinedBy_16 : decode cX3_mayBeJoinedBy 16 = .ok (.getfield 12, 3) := by decide +kernel
theorem dX3_mayBeJoinedBy_19 : decode cX3_mayBeJoinedBy 19 = .ok (.iconst 0, 1) := by decide +kernel
theorem dX3_mayBeJoinedBy_20 : decode cX3_mayBeJoinedBy 20 = .ok (.invokevirtual 51, 3) := by decide +kernel
theorem dX3_mayBeJoinedBy_23 : decode cX3_mayBeJoinedBy 23 = .ok (.checkcast 46, 3) := by decide +kernel
theorem dX3_mayBeJoinedBy_26 : decode cX3_mayBeJoinedBy 26 = .ok (.getfield 45, 3) := by decide +kernel
theorem dX3_mayBeJoinedBy_29 : decode cX3_mayBeJoinedBy 29 = .ok (.if_icmp .gt 5, 3) := by decide +kernel
theorem dX3_mayBeJoinedBy_32 : decode cX3_mayBeJoinedBy 32 = .ok (.iconst 0, 1) := by decide +kernel
theorem dX3_mayBeJoinedBy_33 : decode cX3_mayBeJoinedBy 33 = .ok (.ireturn, 1) := by decide +kernel
theorem dX3_mayBeJoinedBy_34 : decode cX3_mayBeJoinedBy 34 = .ok (.iconst 1, 1) := by decide +kernel
theorem dX3_mayBeJoinedBy_35 : decode cX3_mayBeJoinedBy 35 = .ok (.istore_n 3, 1) := by decide +kernel
theorem dX3_mayBeJoinedBy_36 : decode cX3_mayBeJoinedBy 36 = .ok (.iload_n 3, 1) := by decide +kernel
theorem dX3_mayBeJoinedBy_37 : decode cX3_mayBeJoinedBy 37 = .ok (.iload_n 2, 1) := by decide +kernel
theorem dX3_mayBeJoinedBy_38 : decode cX3_mayBeJoinedBy 38 = .ok (.if_icmp .ge 23, 3) := by decide +kernel
theorem dX3_mayBeJoinedBy_41 : decode cX3_mayBeJoinedBy 41 = .ok (.aload_n 0, 1) := by decide +kernel
theorem dX3_mayBeJoinedBy_42 : decode cX3_mayBeJoinedBy 42 = .ok (.getfield 12, 3) := by decide +kernel
theorem dX3_mayBeJoinedBy_45 : decode cX3_mayBeJoinedBy 45 = .ok (.iload_n 3, 1) := by decide +kernel
theorem dX3_mayBeJoinedBy_46 : decode cX3_mayBeJoinedBy 46 = .ok (.invokevirtual 51, 3) := by decide +kernel
theorem dX3_mayBeJoinedBy_49 : decode cX3_mayBeJoinedBy 49 = .ok (.aload_n 1, 1) := by decide +kernel
theorem dX3_mayBeJoinedBy_50 : decode cX3_mayBeJoinedBy 50 = .ok (.if_acmp .ne 5, 3) := by decide +kernel
theorem dX3_mayBeJoinedBy_53 : decode cX3_mayBeJoinedBy 53 = .ok (.iconst 0, 1) := by decide +kernel
theorem dX3_mayBeJoinedBy_54 : decode cX3_mayBeJoinedBy 54 = .ok (.ireturn, 1) := by decide +kernel
theorem dX3_mayBeJoinedBy_55 : decode cX3_mayBeJoinedBy 55 = .ok (.iinc 3 1, 3) := by decide +kernel
theorem dX3_mayBeJoinedBy_58 : decode cX3_mayBeJoinedBy 58 = .ok (.goto (-22), 3) := by decide +kernel
theorem dX3_mayBeJoinedBy_61 : decode cX3_mayBeJoinedBy 61 = .ok (.aload_n 1, 1) := by decide +kernel
theorem dX3_mayBeJoinedBy_62 : decode cX3_mayBeJoinedBy 62 = .ok (.aload_n 0, 1) := by decide +kernel
theorem dX3_mayBeJoinedBy_63 : decode cX3_mayBeJoinedBy 63 = .ok (.getfield 18, 3) := by decide +kernel
theorem dX3_mayBeJoinedBy_66 : decode cX3_mayBeJoinedBy 66 = .ok (.iload_n 2, 1) := by decide +kernel
theorem dX3_mayBeJoinedBy_67 : decode cX3_mayBeJoinedBy 67 = .ok (.iconst 1, 1) := by decide +kernel
theorem dX3_mayBeJoinedBy_68 : decode cX3_mayBeJoinedBy 68 = .ok (.isub, 1) := by decide +kernel
theorem dX3_mayBeJoinedBy_69 : decode cX3_mayBeJoinedBy 69 = .ok (.invokevirtual 51, 3) := by decide +kernel
theorem dX3_mayBeJoinedBy_72 : decode cX3_mayBeJoinedBy 72 = .ok (.checkcast 54, 3) := by decide +kernel
theorem dX3_mayBeJoinedBy_75 : decode cX3_mayBeJoinedBy 75 = .ok (.getfield 56, 3) := by decide +kernel
theorem dX3_mayBeJoinedBy_78 : decode cX3_mayBeJoinedBy 78 = .ok (.invokevirtual 60, 3) := by decide +kernel
theorem dX3_mayBeJoinedBy_81 : decode cX3_mayBeJoinedBy 81 = .ok (.ireturn, 1) := by decide +kernel
theorem dX3_pleases_0 : decode cX3_pleases 0 = .ok (.aload_n 0, 1) := by decide +kernel
theorem dX3_pleases_1 : decode cX3_pleases 1 = .ok (.invokevirtual 38, 3) := by decide +kernel
theorem dX3_pleases_4 : decode cX3_pleases 4 = .ok (.iconst 1, 1) := by decide +kernel
theorem dX3_pleases_5 : decode cX3_pleases 5 = .ok (.isub, 1) := by decide +kernel
theorem dX3_pleases_6 : decode cX3_pleases 6 = .ok (.istore_n 3, 1) := by decide +kernel
theorem dX3_pleases_7 : decode cX3_pleases 7 = .ok (.iload_n 3, 1) := by decide +kernel
theorem dX3_pleases_8 : decode cX3_pleases 8 = .ok (.ifCond .lt 22, 3) := by decide +kernel
theorem dX3_pleases_11 : decode cX3_pleases 11 = .ok (.aload_n 1, 1) := by decide +kernel
theorem dX3_pleases_12 : decode cX3_pleases 12 = .ok (.aload_n 0, 1) := by decide +kernel
theorem dX3_pleases_13 : decode cX3_pleases 13 = .ok (.getfield 18, 3) := by decide +kernel
theorem dX3_pleases_16 : decode cX3_pleases 16 = .ok (.iload_n 3, 1) := by decide +kernel
theorem dX3_pleases_17 : decode cX3_pleases 17 = .ok (.invokevirtual 51, 3) := by decide +kernel
theorem dX3_pleases_20 : decode cX3_pleases 20 = .ok (.checkcast 54, 3) := by decide +kernel
theorem dX3_pleases_23 : decode cX3_pleases 23 = .ok (.aload_n 2, 1) := by decide +kernel
theorem dX3_pleases_24 : decode cX3_pleases 24 = .ok (.invokevirtual 64, 3) := by decide +kernel
theorem dX3_pleases_27 : decode cX3_pleases 27 = .ok (.ifCond .eq 7, 3) := by decide +kernel
theorem dX3_pleases_30 : decode cX3_pleases 30 = .ok (.iconst 1, 1) := by decide +kernel
theorem dX3_pleases_31 : decode cX3_pleases 31 = .ok (.goto 4, 3) := by decide +kernel
theorem dX3_pleases_34 : decode cX3_pleases 34 = .ok (.iconst 0, 1) := by decide +kernel
theorem dX3_pleases_35 : decode cX3_pleases 35 = .ok (.ireturn, 1) := by decide +kernel
theorem dX3_closes_0 : decode cX3_closes 0 = .ok (.aload_n 0, 1) := by decide +kernel
theorem dX3_closes_1 : decode cX3_closes 1 = .ok (.invokevirtual 38, 3) := by decide +kernel
theorem dX3_closes_4 : decode cX3_closes 4 = .ok (.iconst 1, 1) := by decide +kernel
theorem dX3_closes_5 : decode cX3_closes 5 = .ok (.isub, 1) := by decide +kernel
theorem dX3_closes_6 : decode cX3_closes 6 = .ok (.istore_n 1, 1) := by decide +kernel
theorem dX3_closes_7 : decode cX3_closes 7 = .ok (.iload_n 1, 1) := by decide +kernel
theorem dX3_closes_8 : decode cX3_closes 8 = .ok (.iconst 1, 1) := by decide +kernel
theorem dX3_closes_9 : decode cX3_closes 9 = .ok (.if_icmp .ge 5, 3) := by decide +kernel
theorem dX3_closes_12 : decode cX3_closes 12 = .ok (.iconst 0, 1) := by decide +kernel
theorem dX3_closes_13 : decode cX3_closes 13 = .ok (.ireturn, 1) := by decide +kernel
theorem dX3_closes_14 : decode cX3_closes 14 = .ok (.aload_n 0, 1) := by decide +kernel
theorem dX3_closes_15 : decode cX3_closes 15 = .ok (.getfield 12, 3) := by decide +kernel
theorem dX3_closes_18 : decode cX3_closes 18 = .ok (.iconst 0, 1) := by decide +kernel
theorem dX3_closes_19 : decode cX3_closes 19 = .ok (.invokevirtual 51, 3) := by decide +kernel
theorem dX3_closes_22 : decode cX3_closes 22 = .ok (.checkcast 46, 3) := by decide +kernel
theorem dX3_closes_25 : decode cX3_closes 25 = .ok (.astore_n 2, 1) := by decide +kernel
theorem dX3_closes_26 : decode cX3_closes 26 = .ok (.aload_n 0, 1) := by decide +kernel
theorem dX3_closes_27 : decode cX3_closes 27 = .ok (.getfield 18, 3) := by decide +kernel
theorem dX3_closes_30 : decode cX3_closes 30 = .ok (.iload_n 1, 1) := by decide +kernel
theorem dX3_closes_31 : decode cX3_closes 31 = .ok (.invokevirtual 51, 3) := by decide +kernel
theorem dX3_closes_34 : decode cX3_closes 34 = .ok (.checkcast 54, 3) := by decide +kernel
theorem dX3_closes_37 : decode cX3_closes 37 = .ok (.astore_n 3, 1) := by decide +kernel
theorem dX3_closes_38 : decode cX3_closes 38 = .ok (.aload_n 2, 1) := by decide +kernel
theorem dX3_closes_39 : decode cX3_closes 39 = .ok (.aload_n 3, 1) := by decide +kernel
theorem dX3_closes_40 : decode cX3_closes 40 = .ok (.getfield 56, 3) := by decide +kernel
theorem dX3_closes_43 : decode cX3_closes 43 = .ok (.invokevirtual 60, 3) := by decide +kernel
theorem dX3_closes_46 : decode cX3_closes 46 = .ok (.ifCond .eq 26, 3) := by decide +kernel
theorem dX3_closes_49 : decode cX3_closes 49 = .ok (.aload_n 2, 1) := by decide +kernel
theorem dX3_closes_50 : decode cX3_closes 50 = .ok (.aload_n 3, 1) := by decide +kernel
theorem dX3_closes_51 : decode cX3_closes 51 = .ok (.aload_n 0, 1) := by decide +kernel
theorem dX3_closes_52 : decode cX3_closes 52 = .ok (.getfield 18, 3) := by decide +kernel
theorem dX3_closes_55 : decode cX3_closes 55 = .ok (.iconst 0, 1) := by decide +kernel
theorem dX3_closes_56 : decode cX3_closes 56 = .ok (.invokevirtual 51, 3) := by decide +kernel
theorem dX3_closes_59 : decode cX3_closes 59 = .ok (.checkcast 54, 3) := by decide +kernel
theorem dX3_closes_62 : decode cX3_closes 62 = .ok (.invokevirtual 64, 3) := by decide +kernel
theorem dX3_closes_65 : decode cX3_closes 65 = .ok (.ifCond .eq 7, 3) := by decide +kernel
theorem dX3_closes_68 : decode cX3_closes 68 = .ok (.iconst 1, 1) := by decide +kernel
theorem dX3_closes_69 : decode cX3_closes 69 = .ok (.goto 4, 3) := by decide +kernel
theorem dX3_closes_72 : decode cX3_closes 72 = .ok (.iconst 0, 1) := by decide +kernel
theorem dX3_closes_73 : decode cX3_closes 73 = .ok (.ireturn, 1) := by decide +kernel
theorem dX3_handOver_0 : decode cX3_handOver 0 = .ok (.aload_n 0, 1) := by decide +kernel
theorem dX3_handOver_1 : decode cX3_handOver 1 = .ok (.invokevirtual 38, 3) := by decide +kernel
theorem dX3_handOver_4 : decode cX3_handOver 4 = .ok (.istore_n 1, 1) := by decide +kernel
theorem dX3_handOver_5 : decode cX3_handOver 5 = .ok (.iconst 0, 1) := by decide +kernel
theorem dX3_handOver_6 : decode cX3_handOver 6 = .ok (.istore_n 2, 1) := by decide +kernel
theorem dX3_handOver_7 : decode cX3_handOver 7 = .ok (.iload_n 2, 1) := by decide +kernel
theorem dX3_handOver_8 : decode cX3_handOver 8 = .ok (.iload_n 1, 1) := by decide +kernel
theorem dX3_handOver_9 : decode cX3_handOver 9 = .ok (.if_icmp .ge 69, 3) := by decide +kernel
theorem dX3_handOver_12 : decode cX3_handOver 12 = .ok (.iload_n 2, 1) := by decide +kernel
theorem dX3_handOver_13 : decode cX3_handOver 13 = .ok (.iconst 1, 1) := by decide +kernel
theorem dX3_handOver_14 : decode cX3_handOver 14 = .ok (.iadd, 1) := by decide +kernel
theorem dX3_handOver_15 : decode cX3_handOver 15 = .ok (.iload_n 1, 1) := by decide +kernel
theorem dX3_handOver_16 : decode cX3_handOver 16 = .ok (.if_icmp .ge 9, 3) := by decide +kernel
theorem dX3_handOver_19 : decode cX3_handOver 19 = .ok (.iload_n 2, 1) := by decide +kernel
theorem dX3_handOver_20 : decode cX3_handOver 20 = .ok (.iconst 1, 1) := by decide +kernel
theorem dX3_handOver_21 : decode cX3_handOver 21 = .ok (.iadd, 1) := by decide +kernel
theorem dX3_handOver_22 : decode cX3_handOver 22 = .ok (.goto 4, 3) := by decide +kernel
theorem dX3_handOver_25 : decode cX3_handOver 25 = .ok (.iconst 0, 1) := by decide +kernel
theorem dX3_handOver_26 : decode cX3_handOver 26 = .ok (.istore_n 3, 1) := by decide +kernel
theorem dX3_handOver_27 : decode cX3_handOver 27 = .ok (.aload_n 0, 1) := by decide +kernel
theorem dX3_handOver_28 : decode cX3_handOver 28 = .ok (.getfield 18, 3) := by decide +kernel
theorem dX3_handOver_31 : decode cX3_handOver 31 = .ok (.iload_n 2, 1) := by decide +kernel
theorem dX3_handOver_32 : decode cX3_handOver 32 = .ok (.invokevirtual 51, 3) := by decide +kernel
theorem dX3_handOver_35 : decode cX3_handOver 35 = .ok (.checkcast 54, 3) := by decide +kernel
theorem dX3_handOver_38 : decode cX3_handOver 38 = .ok (.astore 4, 2) := by decide +kernel
theorem dX3_handOver_40 : decode cX3_handOver 40 = .ok (.aload_n 0, 1) := by decide +kernel
theorem dX3_handOver_41 : decode cX3_handOver 41 = .ok (.getfield 12, 3) := by decide +kernel
theorem dX3_handOver_44 : decode cX3_handOver 44 = .ok (.iload_n 2, 1) := by decide +kernel
theorem dX3_handOver_45 : decode cX3_handOver 45 = .ok (.invokevirtual 51, 3) := by decide +kernel
theorem dX3_handOver_48 : decode cX3_handOver 48 = .ok (.checkcast 46, 3) := by decide +kernel
theorem dX3_handOver_51 : decode cX3_handOver 51 = .ok (.aload 4, 2) := by decide +kernel
theorem dX3_handOver_53 : decode cX3_handOver 53 = .ok (.invokevirtual 68, 3) := by decide +kernel
theorem dX3_handOver_56 : decode cX3_handOver 56 = .ok (.aload_n 0, 1) := by decide +kernel
theorem dX3_handOver_57 : decode cX3_handOver 57 = .ok (.getfield 12, 3) := by decide +kernel
theorem dX3_handOver_60 : decode cX3_handOver 60 = .ok (.iload_n 3, 1) := by decide +kernel
theorem dX3_handOver_61 : decode cX3_handOver 61 = .ok (.invokevirtual 51, 3) := by decide +kernel
theorem dX3_handOver_64 : decode cX3_handOver 64 = .ok (.checkcast 46, 3) := by decide +kernel
theorem dX3_handOver_67 : decode cX3_handOver 67 = .ok (.aload 4, 2) := by decide +kernel
theorem dX3_handOver_69 : decode cX3_handOver 69 = .ok (.invokevirtual 72, 3) := by decide +kernel
theorem dX3_handOver_72 : decode cX3_handOver 72 = .ok (.iinc 2 1, 3) := by decide +kernel
theorem dX3_handOver_75 : decode cX3_handOver 75 = .ok (.goto (-68), 3) := by decide +kernel
theorem dX3_handOver_78 : decode cX3_handOver 78 = .ok (.return_, 1) := by decide +kernel
theorem dX3_tell_0 : decode cX3_tell 0 = .ok (.iload_n 1, 1) := by decide +kernel
theorem dX3_tell_1 : decode cX3_tell 1 = .ok (.ifCond .lt 11, 3) := by decide +kernel
theorem dX3_tell_4 : decode cX3_tell 4 = .ok (.iload_n 1, 1) := by decide +kernel
theorem dX3_tell_5 : decode cX3_tell 5 = .ok (.aload_n 0, 1) := by decide +kernel
theorem dX3_tell_6 : decode cX3_tell 6 = .ok (.invokevirtual 38, 3) := by decide +kernel
theorem dX3_tell_9 : decode cX3_tell 9 = .ok (.if_icmp .lt 13, 3) := by decide +kernel
theorem dX3_tell_12 : decode cX3_tell 12 = .ok (.new 75, 3) := by decide +kernel
theorem dX3_tell_15 : decode cX3_tell 15 = .ok (.dup, 1) := by decide +kernel
theorem dX3_tell_16 : decode cX3_tell 16 = .ok (.ldc 77, 2) := by decide +kernel
theorem dX3_tell_18 : decode cX3_tell 18 = .ok (.invokespecial 79, 3) := by decide +kernel
theorem dX3_tell_21 : decode cX3_tell 21 = .ok (.athrow, 1) := by decide +kernel
theorem dX3_tell_22 : decode cX3_tell 22 = .ok (.sipush 1000, 3) := by decide +kernel
theorem dX3_tell_25 : decode cX3_tell 25 = .ok (.aload_n 0, 1) := by decide +kernel
theorem dX3_tell_26 : decode cX3_tell 26 = .ok (.getfield 12, 3) := by decide +kernel
theorem dX3_tell_29 : decode cX3_tell 29 = .ok (.iload_n 1, 1) := by decide +kernel
theorem dX3_tell_30 : decode cX3_tell 30 = .ok (.invokevirtual 51, 3) := by decide +kernel
theorem dX3_tell_33 : decode cX3_tell 33 = .ok (.checkcast 46, 3) := by decide +kernel
theorem dX3_tell_36 : decode cX3_tell 36 = .ok (.getfield 45, 3) := by decide +kernel
theorem dX3_tell_39 : decode cX3_tell 39 = .ok (.imul, 1) := by decide +kernel
theorem dX3_tell_40 : decode cX3_tell 40 = .ok (.aload_n 0, 1) := by decide +kernel
theorem dX3_tell_41 : decode cX3_tell 41 = .ok (.getfield 18, 3) := by decide +kernel
theorem dX3_tell_44 : decode cX3_tell 44 = .ok (.iload_n 1, 1) := by decide +kernel
theorem dX3_tell_45 : decode cX3_tell 45 = .ok (.invokevirtual 51, 3) := by decide +kernel
theorem dX3_tell_48 : decode cX3_tell 48 = .ok (.checkcast 54, 3) := by decide +kernel
theorem dX3_tell_51 : decode cX3_tell 51 = .ok (.getfield 82, 3) := by decide +kernel
theorem dX3_tell_54 : decode cX3_tell 54 = .ok (.iadd, 1) := by decide +kernel
theorem dX3_tell_55 : decode cX3_tell 55 = .ok (.ireturn, 1) := by decide +kernel
theorem dX3_hasFalseGift_0 : decode cX3_hasFalseGift 0 = .ok (.iconst 0, 1) := by decide +kernel
theorem dX3_hasFalseGift_1 : decode cX3_hasFalseGift 1 = .ok (.istore_n 1, 1) := by decide +kernel
theorem dX3_hasFalseGift_2 : decode cX3_hasFalseGift 2 = .ok (.iload_n 1, 1) := by decide +kernel
theorem dX3_hasFalseGift_3 : decode cX3_hasFalseGift 3 = .ok (.aload_n 0, 1) := by decide +kernel
theorem dX3_hasFalseGift_4 : decode cX3_hasFalseGift 4 = .ok (.invokevirtual 38, 3) := by decide +kernel
theorem dX3_hasFalseGift_7 : decode cX3_hasFalseGift 7 = .ok (.if_icmp .ge 28, 3) := by decide +kernel
theorem dX3_hasFalseGift_10 : decode cX3_hasFalseGift 10 = .ok (.aload_n 0, 1) := by decide +kernel
theorem dX3_hasFalseGift_11 : decode cX3_hasFalseGift 11 = .ok (.getfield 18, 3) := by decide +kernel
theorem dX3_hasFalseGift_14 : decode cX3_hasFalseGift 14 = .ok (.iload_n 1, 1) := by decide +kernel
theorem dX3_hasFalseGift_15 : decode cX3_hasFalseGift 15 = .ok (.invokevirtual 51, 3) := by decide +kernel
theorem dX3_hasFalseGift_18 : decode cX3_hasFalseGift 18 = .ok (.checkcast 54, 3) := by decide +kernel
theorem dX3_hasFalseGift_21 : decode cX3_hasFalseGift 21 = .ok (.invokevirtual 83, 3) := by decide +kernel
theorem dX3_hasFalseGift_24 : decode cX3_hasFalseGift 24 = .ok (.ifCond .ne 5, 3) := by decide +kernel
theorem dX3_hasFalseGift_27 : decode cX3_hasFalseGift 27 = .ok (.iconst 1, 1) := by decide +kernel
theorem dX3_hasFalseGift_28 : decode cX3_hasFalseGift 28 = .ok (.ireturn, 1) := by decide +kernel
theorem dX3_hasFalseGift_29 : decode cX3_hasFalseGift 29 = .ok (.iinc 1 1, 3) := by decide +kernel
theorem dX3_hasFalseGift_32 : decode cX3_hasFalseGift 32 = .ok (.goto (-30), 3) := by decide +kernel
theorem dX3_hasFalseGift_35 : decode cX3_hasFalseGift 35 = .ok (.iconst 0, 1) := by decide +kernel
theorem dX3_hasFalseGift_36 : decode cX3_hasFalseGift 36 = .ok (.ireturn, 1) := by decide +kernel
theorem dX4_init_0 : decode cX4_init 0 = .ok (.aload_n 0, 1) := by decide +kernel
theorem dX4_init_1 : decode cX4_init 1 = .ok (.invokespecial 1, 3) := by decide +kernel
theorem dX4_init_4 : decode cX4_init 4 = .ok (.aload_n 0, 1) := by decide +kernel
theorem dX4_init_5 : decode cX4_init 5 = .ok (.new 7, 3) := by decide +kernel
theorem dX4_init_8 : decode cX4_init 8 = .ok (.dup, 1) := by decide +kernel
theorem dX4_init_9 : decode cX4_init 9 = .ok (.invokespecial 9, 3) := by decide +kernel
theorem dX4_init_12 : decode cX4_init 12 = .ok (.putfield 10, 3) := by decide +kernel
theorem dX4_init_15 : decode cX4_init 15 = .ok (.aload_n 0, 1) := by decide +kernel
theorem dX4_init_16 : decode cX4_init 16 = .ok (.new 7, 3) := by decide +kernel
theorem dX4_init_19 : decode cX4_init 19 = .ok (.dup, 1) := by decide +kernel
theorem dX4_init_20 : decode cX4_init 20 = .ok (.invokespecial 9, 3) := by decide +kernel
theorem dX4_init_23 : decode cX4_init 23 = .ok (.putfield 16, 3) := by decide +kernel
theorem dX4_init_26 : decode cX4_init 26 = .ok (.aload_n 0, 1) := by decide +kernel
theorem dX4_init_27 : decode cX4_init 27 = .ok (.bipush 8, 2) := by decide +kernel
theorem dX4_init_29 : decode cX4_init 29 = .ok (.anewarray 19, 3) := by decide +kernel
theorem dX4_init_32 : decode cX4_init 32 = .ok (.putfield 21, 3) := by decide +kernel
theorem dX4_init_35 : decode cX4_init 35 = .ok (.aload_n 0, 1) := by decide +kernel
theorem dX4_init_36 : decode cX4_init 36 = .ok (.new 7, 3) := by decide +kernel
theorem dX4_init_39 : decode cX4_init 39 = .ok (.dup, 1) := by decide +kernel
theorem dX4_init_40 : decode cX4_init 40 = .ok (.invokespecial 9, 3) := by decide +kernel
theorem dX4_init_43 : decode cX4_init 43 = .ok (.putfield 25, 3) := by decide +kernel
theorem dX4_init_46 : decode cX4_init 46 = .ok (.aload_n 0, 1) := by decide +kernel
theorem dX4_init_47 : decode cX4_init 47 = .ok (.new 28, 3) := by decide +kernel
theorem dX4_init_50 : decode cX4_init 50 = .ok (.dup, 1) := by decide +kernel
theorem dX4_init_51 : decode cX4_init 51 = .ok (.invokespecial 30, 3) := by decide +kernel
theorem dX4_init_54 : decode cX4_init 54 = .ok (.putfield 31, 3) := by decide +kernel
theorem dX4_init_57 : decode cX4_init 57 = .ok (.iconst 0, 1) := by decide +kernel
theorem dX4_init_58 : decode cX4_init 58 = .ok (.istore_n 1, 1) := by decide +kernel
theorem dX4_init_59 : decode cX4_init 59 = .ok (.iload_n 1, 1) := by decide +kernel
theorem dX4_init_60 : decode cX4_init 60 = .ok (.bipush 8, 2) := by decide +kernel
theorem dX4_init_62 : decode cX4_init 62 = .ok (.if_icmp .ge 23, 3) := by decide +kernel
theorem dX4_init_65 : decode cX4_init 65 = .ok (.aload_n 0, 1) := by decide +kernel
theorem dX4_init_66 : decode cX4_init 66 = .ok (.getfield 21, 3) := by decide +kernel
theorem dX4_init_69 : decode cX4_init 69 = .ok (.iload_n 1, 1) := by decide +kernel
theorem dX4_init_70 : decode cX4_init 70 = .ok (.new 19, 3) := by decide +kernel
theorem dX4_init_73 : decode cX4_init 73 = .ok (.dup, 1) := by decide +kernel
theorem dX4_init_74 : decode cX4_init 74 = .ok (.iload_n 1, 1) := by decide +kernel
theorem dX4_init_75 : decode cX4_init 75 = .ok (.invokespecial 35, 3) := by decide +kernel
theorem dX4_init_78 : decode cX4_init 78 = .ok (.aastore, 1) := by decide +kernel
theorem dX4_init_79 : decode cX4_init 79 = .ok (.iinc 1 1, 3) := by decide +kernel
theorem dX4_init_82 : decode cX4_init 82 = .ok (.goto (-23), 3) := by decide +kernel
theorem dX4_init_85 : decode cX4_init 85 = .ok (.return_, 1) := by decide +kernel
theorem dX4_addDie_0 : decode cX4_addDie 0 = .ok (.iload_n 1, 1) := by decide +kernel
theorem dX4_addDie_1 : decode cX4_addDie 1 = .ok (.ifCond .lt 8, 3) := by decide +kernel
theorem dX4_addDie_4 : decode cX4_addDie 4 = .ok (.iload_n 1, 1) := by decide +kernel
theorem dX4_addDie_5 : decode cX4_addDie 5 = .ok (.iconst 4, 1) := by decide +kernel
theorem dX4_addDie_6 : decode cX4_addDie 6 = .ok (.if_icmp .lt 13, 3) := by decide +kernel
theorem dX4_addDie_9 : decode cX4_addDie 9 = .ok (.new 38, 3) := by decide +kernel
theorem dX4_addDie_12 : decode cX4_addDie 12 = .ok (.dup, 1) := by decide +kernel
theorem dX4_addDie_13 : decode cX4_addDie 13 = .ok (.ldc 40, 2) := by decide +kernel
theorem dX4_addDie_15 : decode cX4_addDie 15 = .ok (.invokespecial 42, 3) := by decide +kernel
theorem dX4_addDie_18 : decode cX4_addDie 18 = .ok (.athrow, 1) := by decide +kernel
theorem dX4_addDie_19 : decode cX4_addDie 19 = .ok (.aload_n 0, 1) := by decide +kernel
theorem dX4_addDie_20 : decode cX4_addDie 20 = .ok (.iload_n 1, 1) := by decide +kernel
theorem dX4_addDie_21 : decode cX4_addDie 21 = .ok (.iconst 0, 1) := by decide +kernel
theorem dX4_addDie_22 : decode cX4_addDie 22 = .ok (.invokevirtual 45, 3) := by decide +kernel
theorem dX4_addDie_25 : decode cX4_addDie 25 = .ok (.ireturn, 1) := by decide +kernel
theorem dX4_crack_0 : decode cX4_crack 0 = .ok (.aload_n 0, 1) := by decide +kernel
theorem dX4_crack_1 : decode cX4_crack 1 = .ok (.iload_n 1, 1) := by decide +kernel
theorem dX4_crack_2 : decode cX4_crack 2 = .ok (.invokevirtual 49, 3) := by decide +kernel
theorem dX4_crack_5 : decode cX4_crack 5 = .ok (.astore_n 3, 1) := by decide +kernel
theorem dX4_crack_6 : decode cX4_crack 6 = .ok (.iload_n 2, 1) := by decide +kernel
theorem dX4_crack_7 : decode cX4_crack 7 = .ok (.ifCond .lt 9, 3) := by decide +kernel
theorem dX4_crack_10 : decode cX4_crack 10 = .ok (.iload_n 2, 1) := by decide +kernel
theorem dX4_crack_11 : decode cX4_crack 11 = .ok (.bipush 16, 2) := by decide +kernel
theorem dX4_crack_13 : decode cX4_crack 13 = .ok (.if_icmp .lt 13, 3) := by decide +kernel
theorem dX4_crack_16 : decode cX4_crack 16 = .ok (.new 53, 3) := by decide +kernel
theorem dX4_crack_19 : decode cX4_crack 19 = .ok (.dup, 1) := by decide +kernel
theorem dX4_crack_20 : decode cX4_crack 20 = .ok (.ldc 55, 2) := by decide +kernel
theorem dX4_crack_22 : decode cX4_crack 22 = .ok (.invokespecial 57, 3) := by decide +kernel
theorem dX4_crack_25 : decode cX4_crack 25 = .ok (.athrow, 1) := by decide +kernel
theorem dX4_crack_26 : decode cX4_crack 26 = .ok (.iconst 1, 1) := by decide +kernel
theorem dX4_crack_27 : decode cX4_crack 27 = .ok (.iload_n 2, 1) := by decide +kernel
theorem dX4_crack_28 : decode cX4_crack 28 = .ok (.ishl, 1) := by decide +kernel
theorem dX4_crack_29 : decode cX4_crack 29 = .ok (.istore 4, 2) := by decide +kernel
theorem dX4_crack_31 : decode cX4_crack 31 = .ok (.aload_n 3, 1) := by decide +kernel
theorem dX4_crack_32 : decode cX4_crack 32 = .ok (.getfield 58, 3) := by decide +kernel
theorem dX4_crack_35 : decode cX4_crack 35 = .ok (.ifCond .ne 13, 3) := by decide +kernel
theorem dX4_crack_38 : decode cX4_crack 38 = .ok (.aload_n 3, 1) := by decide +kernel
theorem dX4_crack_39 : decode cX4_crack 39 = .ok (.getfield 64, 3) := by decide +kernel
theorem dX4_crack_42 : decode cX4_crack 42 = .ok (.iload 4, 2) := by decide +kernel
theorem dX4_crack_44 : decode cX4_crack 44 = .ok (.iand, 1) := by decide +kernel
theorem dX4_crack_45 : decode cX4_crack 45 = .ok (.ifCond .eq 13, 3) := by decide +kernel
theorem dX4_crack_48 : decode cX4_crack 48 = .ok (.new 68, 3) := by decide +kernel
theorem dX4_crack_51 : decode cX4_crack 51 = .ok (.dup, 1) := by decide +kernel
theorem dX4_crack_52 : decode cX4_crack 52 = .ok (.ldc 70, 2) := by decide +kernel
theorem dX4_crack_54 : decode cX4_crack 54 = .ok (.invokespecial 72, 3) := by decide +kernel
theorem dX4_crack_57 : decode cX4_crack 57 = .ok (.athrow, 1) := by decide +kernel
theorem dX4_crack_58 : decode cX4_crack 58 = .ok (.aload_n 3, 1) := by decide +kernel
theorem dX4_crack_59 : decode cX4_crack 59 = .ok (.dup, 1) := by decide +kernel
theorem dX4_crack_60 : decode cX4_crack 60 = .ok (.getfield 64, 3) := by decide +kernel
theorem dX4_crack_63 : decode cX4_crack 63 = .ok (.iload 4, 2) := by decide +kernel
theorem dX4_crack_65 : decode cX4_crack 65 = .ok (.ior, 1) := by decide +kernel
theorem dX4_crack_66 : decode cX4_crack 66 = .ok (.putfield 64, 3) := by decide +kernel
theorem dX4_crack_69 : decode cX4_crack 69 = .ok (.aload_n 3, 1) := by decide +kernel
theorem dX4_crack_70 : decode cX4_crack 70 = .ok (.getfield 64, 3) := by decide +kernel
theorem dX4_crack_73 : decode cX4_crack 73 = .ok (.invokestatic 73, 3) := by decide +kernel
theorem dX4_crack_76 : decode cX4_crack 76 = .ok (.ireturn, 1) := by decide +kernel
theorem dX4_strike_0 : decode cX4_strike 0 = .ok (.aload_n 0, 1) := by decide +kernel
theorem dX4_strike_1 : decode cX4_strike 1 = .ok (.iload_n 1, 1) := by decide +kernel
theorem dX4_strike_2 : decode cX4_strike 2 = .ok (.invokevirtual 49, 3) := by decide +kernel
theorem dX4_strike_5 : decode cX4_strike 5 = .ok (.astore_n 3, 1) := by decide +kernel
theorem dX4_strike_6 : decode cX4_strike 6 = .ok (.iload_n 2, 1) := by decide +kernel
theorem dX4_strike_7 : decode cX4_strike 7 = .ok (.iconst 1, 1) := by decide +kernel
theorem dX4_strike_8 : decode cX4_strike 8 = .ok (.if_icmp .lt 9, 3) := by decide +kernel
theorem dX4_strike_11 : decode cX4_strike 11 = .ok (.iload_n 2, 1) := by decide +kernel
theorem dX4_strike_12 : decode cX4_strike 12 = .ok (.bipush 20, 2) := by decide +kernel
theorem dX4_strike_14 : decode cX4_strike 14 = .ok (.if_icmp .le 13, 3) := by decide +kernel
theorem dX4_strike_17 : decode cX4_strike 17 = .ok (.new 53, 3) := by decide +kernel
theorem dX4_strike_20 : decode cX4_strike 20 = .ok (.dup, 1) := by decide +kernel
theorem dX4_strike_21 : decode cX4_strike 21 = .ok (.ldc 79, 2) := by decide +kernel
theorem dX4_strike_23 : decode cX4_strike 23 = .ok (.invokespecial 57, 3) := by decide +kernel
theorem dX4_strike_26 : decode cX4_strike 26 = .ok (.athrow, 1) := by decide +kernel
theorem dX4_strike_27 : decode cX4_strike 27 = .ok (.aload_n 0, 1) := by decide +kernel
theorem dX4_strike_28 : decode cX4_strike 28 = .ok (.getfield 16, 3) := by decide +kernel
theorem dX4_strike_31 : decode cX4_strike 31 = .ok (.invokevirtual 81, 3) := by decide +kernel
theorem dX4_strike_34 : decode cX4_strike 34 = .ok (.istore 4, 2) := by decide +kernel
theorem dX4_strike_36 : decode cX4_strike 36 = .ok (.aload_n 3, 1) := by decide +kernel
theorem dX4_strike_37 : decode cX4_strike 37 = .ok (.getfield 58, 3) := by decide +kernel
theorem dX4_strike_40 : decode cX4_strike 40 = .ok (.ifCond .ne 27, 3) := by decide +kernel
theorem dX4_strike_43 : decode cX4_strike 43 = .ok (.aload_n 3, 1) := by decide +kernel
theorem dX4_strike_44 : decode cX4_strike 44 = .ok (.getfield 85, 3) := by decide +kernel
theorem dX4_strike_47 : decode cX4_strike 47 = .ok (.invokevirtual 81, 3) := by decide +kernel
theorem dX4_strike_50 : decode cX4_strike 50 = .ok (.iload_n 2, 1) := by decide +kernel
theorem dX4_strike_51 : decode cX4_strike 51 = .ok (.iadd, 1) := by decide +kernel
theorem dX4_strike_52 : decode cX4_strike 52 = .ok (.bipush 40, 2) := by decide +kernel
theorem dX4_strike_54 : decode cX4_strike 54 = .ok (.if_icmp .gt 13, 3) := by decide +kernel
theorem dX4_strike_57 : decode cX4_strike 57 = .ok (.iload 4, 2) := by decide +kernel
theorem dX4_strike_59 : decode cX4_strike 59 = .ok (.iload_n 2, 1) := by decide +kernel
theorem dX4_strike_60 : decode cX4_strike 60 = .ok (.iadd, 1) := by decide +kernel
theorem dX4_strike_61 : decode cX4_strike 61 = .ok (.sipush 150, 3) := by decide +kernel
theorem dX4_strike_64 : decode cX4_strike 64 = .ok (.if_icmp .le 13, 3) := by decide +kernel
theorem dX4_strike_67 : decode cX4_strike 67 = .ok (.new 68, 3) := by decide +kernel
theorem dX4_strike_70 : decode cX4_strike 70 = .ok (.dup, 1) := by decide +kernel
theorem dX4_strike_71 : decode cX4_strike 71 = .ok (.ldc 86, 2) := by decide +kernel
theorem dX4_strike_73 : decode cX4_strike 73 = .ok (.invokespecial 72, 3) := by decide +kernel
theorem dX4_strike_76 : decode cX4_strike 76 = .ok (.athrow, 1) := by decide +kernel
theorem dX4_strike_77 : decode cX4_strike 77 = .ok (.iconst 0, 1) := by decide +kernel
theorem dX4_strike_78 : decode cX4_strike 78 = .ok (.istore 5, 2) := by decide +kernel
theorem dX4_strike_80 : decode cX4_strike 80 = .ok (.iload 5, 2) := by decide +kernel
theorem dX4_strike_82 : decode cX4_strike 82 = .ok (.iload_n 2, 1) := by decide +kernel
theorem dX4_strike_83 : decode cX4_strike 83 = .ok (.if_icmp .ge 44, 3) := by decide +kernel
theorem dX4_strike_86 : decode cX4_strike 86 = .ok (.new 88, 3) := by decide +kernel
theorem dX4_strike_89 : decode cX4_strike 89 = .ok (.dup, 1) := by decide +kernel
theorem dX4_strike_90 : decode cX4_strike 90 = .ok (.iload 4, 2) := by decide +kernel
theorem dX4_strike_92 : decode cX4_strike 92 = .ok (.iload 5, 2) := by decide +kernel
theorem dX4_strike_94 : decode cX4_strike 94 = .ok (.iadd, 1) := by decide +kernel
theorem dX4_strike_95 : decode cX4_strike 95 = .ok (.aload_n 3, 1) := by decide +kernel
theorem dX4_strike_96 : decode cX4_strike 96 = .ok (.invokespecial 90, 3) := by decide +kernel
theorem dX4_strike_99 : decode cX4_strike 99 = .ok (.astore 6, 2) := by decide +kernel
theorem dX4_strike_101 : decode cX4_strike 101 = .ok (.aload_n 0, 1) := by decide +kernel
theorem dX4_strike_102 : decode cX4_strike 102 = .ok (.getfield 16, 3) := by decide +kernel
theorem dX4_strike_105 : decode cX4_strike 105 = .ok (.aload 6, 2) := by decide +kernel
theorem dX4_strike_107 : decode cX4_strike 107 = .ok (.invokevirtual 93, 3) := by decide +kernel
theorem dX4_strike_110 : decode cX4_strike 110 = .ok (.pop, 1) := by decide +kernel
theorem dX4_strike_111 : decode cX4_strike 111 = .ok (.aload_n 3, 1) := by decide +kernel
theorem dX4_strike_112 : decode cX4_strike 112 = .ok (.getfield 85, 3) := by decide +kernel
theorem dX4_strike_115 : decode cX4_strike 115 = .ok (.aload 6, 2) := by decide +kernel
theorem dX4_strike_117 : decode cX4_strike 117 = .ok (.invokevirtual 93, 3) := by decide +kernel
theorem dX4_strike_120 : decode cX4_strike 120 = .ok (.pop, 1) := by decide +kernel
theorem dX4_strike_121 : decode cX4_strike 121 = .ok (.iinc 5 1, 3) := by decide +kernel
theorem dX4_strike_124 : decode cX4_strike 124 = .ok (.goto (-44), 3) := by decide +kernel
theorem dX4_strike_127 : decode cX4_strike 127 = .ok (.aload_n 3, 1) := by decide +kernel
theorem dX4_strike_128 : decode cX4_strike 128 = .ok (.dup, 1) := by decide +kernel
theorem dX4_strike_129 : decode cX4_strike 129 = .ok (.getfield 97, 3) := by decide +kernel
theorem dX4_strike_132 : decode cX4_strike 132 = .ok (.iload_n 2, 1) := by decide +kernel
theorem dX4_strike_133 : decode cX4_strike 133 = .ok (.iadd, 1) := by decide +kernel
theorem dX4_strike_134 : decode cX4_strike 134 = .ok (.putfield 97, 3) := by decide +kernel
theorem dX4_strike_137 : decode cX4_strike 137 = .ok (.iload 4, 2) := by decide +kernel
theorem dX4_strike_139 : decode cX4_strike 139 = .ok (.ireturn, 1) := by decide +kernel
theorem dX4_cast_0 : decode cX4_cast 0 = .ok (.aload_n 0, 1) := by decide +kernel
theorem dX4_cast_1 : decode cX4_cast 1 = .ok (.iload_n 1, 1) := by decide +kernel
theorem dX4_cast_2 : decode cX4_cast 2 = .ok (.invokevirtual 100, 3) := by decide +kernel
theorem dX4_cast_5 : decode cX4_cast 5 = .ok (.astore_n 2, 1) := by decide +kernel
theorem dX4_cast_6 : decode cX4_cast 6 = .ok (.aload_n 2, 1) := by decide +kernel
theorem dX4_cast_7 : decode cX4_cast 7 = .ok (.getfield 104, 3) := by decide +kernel
theorem dX4_cast_10 : decode cX4_cast 10 = .ok (.ifCond .eq 13, 3) := by decide +kernel
theorem dX4_cast_13 : decode cX4_cast 13 = .ok (.new 68, 3) := by decide +kernel
theorem dX4_cast_16 : decode cX4_cast 16 = .ok (.dup, 1) := by decide +kernel
theorem dX4_cast_17 : decode cX4_cast 17 = .ok (.ldc 107, 2) := by decide +kernel
theorem dX4_cast_19 : decode cX4_cast 19 = .ok (.invokespecial 72, 3) := by decide +kernel
theorem dX4_cast_22 : decode cX4_cast 22 = .ok (.athrow, 1) := by decide +kernel
theorem dX4_cast_23 : decode cX4_cast 23 = .ok (.aload_n 0, 1) := by decide +kernel
theorem dX4_cast_24 : decode cX4_cast 24 = .ok (.aload_n 2, 1) := by decide +kernel
theorem dX4_cast_25 : decode cX4_cast 25 = .ok (.getfield 109, 3) := by decide +kernel
theorem dX4_cast_28 : decode cX4_cast 28 = .ok (.getfield 113, 3) := by decide +kernel
theorem dX4_cast_31 : decode cX4_cast 31 = .ok (.aload_n 2, 1) := by decide +kernel
theorem dX4_cast_32 : decode cX4_cast 32 = .ok (.getfield 116, 3) := by decide +kernel
theorem dX4_cast_35 : decode cX4_cast 35 = .ok (.invokevirtual 45, 3) := by decide +kernel
theorem dX4_cast_38 : decode cX4_cast 38 = .ok (.ireturn, 1) := by decide +kernel
theorem dX4_melt_0 : decode cX4_melt 0 = .ok (.aload_n 0, 1) := by decide +kernel
theorem dX4_melt_1 : decode cX4_melt 1 = .ok (.iload_n 1, 1) := by decide +kernel
theorem dX4_melt_2 : decode cX4_melt 2 = .ok (.invokevirtual 100, 3) := by decide +kernel
theorem dX4_melt_5 : decode cX4_melt 5 = .ok (.astore_n 2, 1) := by decide +kernel
theorem dX4_melt_6 : decode cX4_melt 6 = .ok (.aload_n 2, 1) := by decide +kernel
theorem dX4_melt_7 : decode cX4_melt 7 = .ok (.getfield 104, 3) := by decide +kernel
theorem dX4_melt_10 : decode cX4_melt 10 = .ok (.ifCond .eq 13, 3) := by decide +kernel
theorem dX4_melt_13 : decode cX4_melt 13 = .ok (.new 68, 3) := by decide +kernel
theorem dX4_melt_16 : decode cX4_melt 16 = .ok (.dup, 1) := by decide +kernel
theorem dX4_melt_17 : decode cX4_melt 17 = .ok (.ldc 107, 2) := by decide +kernel
theorem dX4_melt_19 : decode cX4_melt 19 = .ok (.invokespecial 72, 3) := by decide +kernel
theorem dX4_melt_22 : decode cX4_melt 22 = .ok (.athrow, 1) := by decide +kernel
theorem dX4_melt_23 : decode cX4_melt 23 = .ok (.aload_n 2, 1) := by decide +kernel
theorem dX4_melt_24 : decode cX4_melt 24 = .ok (.invokevirtual 117, 3) := by decide +kernel
theorem dX4_melt_27 : decode cX4_melt 27 = .ok (.ifCond .eq 16, 3) := by decide +kernel
theorem dX4_melt_30 : decode cX4_melt 30 = .ok (.aload_n 2, 1) := by decide +kernel
theorem dX4_melt_31 : decode cX4_melt 31 = .ok (.getfield 109, 3) := by decide +kernel
theorem dX4_melt_34 : decode cX4_melt 34 = .ok (.dup, 1) := by decide +kernel
theorem dX4_melt_35 : decode cX4_melt 35 = .ok (.getfield 97, 3) := by decide +kernel
theorem dX4_melt_38 : decode cX4_melt 38 = .ok (.iconst 1, 1) := by decide +kernel
theorem dX4_melt_39 : decode cX4_melt 39 = .ok (.isub, 1) := by decide +kernel
theorem dX4_melt_40 : decode cX4_melt 40 = .ok (.putfield 97, 3) := by decide +kernel
theorem dX4_melt_43 : decode cX4_melt 43 = .ok (.aload_n 2, 1) := by decide +kernel
theorem dX4_melt_44 : decode cX4_melt 44 = .ok (.invokevirtual 121, 3) := by decide +kernel
theorem dX4_melt_47 : decode cX4_melt 47 = .ok (.istore_n 3, 1) := by decide +kernel
theorem dX4_melt_48 : decode cX4_melt 48 = .ok (.aload_n 2, 1) := by decide +kernel
theorem dX4_melt_49 : decode cX4_melt 49 = .ok (.getfield 124, 3) := by decide +kernel
theorem dX4_melt_52 : decode cX4_melt 52 = .ok (.ifnull 11, 3) := by decide +kernel
theorem dX4_melt_55 : decode cX4_melt 55 = .ok (.aload_n 2, 1) := by decide +kernel
theorem dX4_melt_56 : decode cX4_melt 56 = .ok (.getfield 124, 3) := by decide +kernel
theorem dX4_melt_59 : decode cX4_melt 59 = .ok (.aload_n 2, 1) := by decide +kernel
theorem dX4_melt_60 : decode cX4_melt 60 = .ok (.invokevirtual 128, 3) := by decide +kernel
theorem dX4_melt_63 : decode cX4_melt 63 = .ok (.aload_n 2, 1) := by decide +kernel
theorem dX4_melt_64 : decode cX4_melt 64 = .ok (.iconst 1, 1) := by decide +kernel
theorem dX4_melt_65 : decode cX4_melt 65 = .ok (.putfield 104, 3) := by decide +kernel
theorem dX4_melt_68 : decode cX4_melt 68 = .ok (.iload_n 3, 1) := by decide +kernel
theorem dX4_melt_69 : decode cX4_melt 69 = .ok (.ireturn, 1) := by decide +kernel
theorem dX4_struck_0 : decode cX4_struck 0 = .ok (.aload_n 0, 1) := by decide +kernel
theorem dX4_struck_1 : decode cX4_struck 1 = .ok (.getfield 16, 3) := by decide +kernel
theorem dX4_struck_4 : decode cX4_struck 4 = .ok (.invokevirtual 81, 3) := by decide +kernel
theorem dX4_struck_7 : decode cX4_struck 7 = .ok (.ireturn, 1) := by decide +kernel
theorem dX4_defects_0 : decode cX4_defects 0 = .ok (.aload_n 0, 1) := by decide +kernel
theorem dX4_defects_1 : decode cX4_defects 1 = .ok (.iload_n 1, 1) := by decide +kernel
theorem dX4_defects_2 : decode cX4_defects 2 = .ok (.invokevirtual 100, 3) := by decide +kernel
theorem dX4_defects_5 : decode cX4_defects 5 = .ok (.getfield 116, 3) := by decide +kernel
theorem dX4_defects_8 : decode cX4_defects 8 = .ok (.ireturn, 1) := by decide +kernel
theorem dX4_couldBeOf_0 : decode cX4_couldBeOf 0 = .ok (.aload_n 0, 1) := by decide +kernel
theorem dX4_couldBeOf_1 : decode cX4_couldBeOf 1 = .ok (.iload_n 1, 1) := by decide +kernel
theorem dX4_couldBeOf_2 : decode cX4_couldBeOf 2 = .ok (.invokevirtual 100, 3) := by decide +kernel
theorem dX4_couldBeOf_5 : decode cX4_couldBeOf 5 = .ok (.astore_n 2, 1) := by decide +kernel
theorem dX4_couldBeOf_6 : decode cX4_couldBeOf 6 = .ok (.iconst 0, 1) := by decide +kernel
theorem dX4_couldBeOf_7 : decode cX4_couldBeOf 7 = .ok (.istore_n 3, 1) := by decide +kernel
theorem dX4_couldBeOf_8 : decode cX4_couldBeOf 8 = .ok (.iconst 0, 1) := by decide +kernel
theorem dX4_couldBeOf_9 : decode cX4_couldBeOf 9 = .ok (.istore 4, 2) := by decide +kernel
theorem dX4_couldBeOf_11 : decode cX4_couldBeOf 11 = .ok (.iload 4, 2) := by decide +kernel
theorem dX4_couldBeOf_13 : decode cX4_couldBeOf 13 = .ok (.aload_n 0, 1) := by decide +kernel
theorem dX4_couldBeOf_14 : decode cX4_couldBeOf 14 = .ok (.getfield 10, 3) := by decide +kernel
theorem dX4_couldBeOf_17 : decode cX4_couldBeOf 17 = .ok (.invokevirtual 81, 3) := by decide +kernel
theorem dX4_couldBeOf_20 : decode cX4_couldBeOf 20 = .ok (.if_icmp .ge 58, 3) := by decide +kernel
theorem dX4_couldBeOf_23 : decode cX4_couldBeOf 23 = .ok (.aload_n 0, 1) := by decide +kernel
theorem dX4_couldBeOf_24 : decode cX4_couldBeOf 24 = .ok (.getfield 10, 3) := by decide +kernel
theorem dX4_couldBeOf_27 : decode cX4_couldBeOf 27 = .ok (.iload 4, 2) := by decide +kernel
theorem dX4_couldBeOf_29 : decode cX4_couldBeOf 29 = .ok (.invokevirtual 132, 3) := by decide +kernel
theorem dX4_couldBeOf_32 : decode cX4_couldBeOf 32 = .ok (.checkcast 59, 3) := by decide +kernel
theorem dX4_couldBeOf_35 : decode cX4_couldBeOf 35 = .ok (.astore 5, 2) := by decide +kernel
theorem dX4_couldBeOf_37 : decode cX4_couldBeOf 37 = .ok (.aload 5, 2) := by decide +kernel
theorem dX4_couldBeOf_39 : decode cX4_couldBeOf 39 = .ok (.getfield 113, 3) := by decide +kernel
theorem dX4_couldBeOf_42 : decode cX4_couldBeOf 42 = .ok (.aload_n 2, 1) := by decide +kernel
theorem dX4_couldBeOf_43 : decode cX4_couldBeOf 43 = .ok (.getfield 109, 3) := by decide +kernel
theorem dX4_couldBeOf_46 : decode cX4_couldBeOf 46 = .ok (.getfield 113, 3) := by decide +kernel
theorem dX4_couldBeOf_49 : decode cX4_couldBeOf 49 = .ok (.if_icmp .ne 23, 3) := by decide +kernel
theorem dX4_couldBeOf_52 : decode cX4_couldBeOf 52 = .ok (.aload 5, 2) := by decide +kernel
theorem dX4_couldBeOf_54 : decode cX4_couldBeOf 54 = .ok (.aload_n 2, 1) := by decide +kernel
theorem dX4_couldBeOf_55 : decode cX4_couldBeOf 55 = .ok (.getfield 116, 3) := by decide +kernel
theorem dX4_couldBeOf_58 : decode cX4_couldBeOf 58 = .ok (.invokevirtual 136, 3) := by decide +kernel
theorem dX4_couldBeOf_61 : decode cX4_couldBeOf 61 = .ok (.ifnull 11, 3) := by decide +kernel
theorem dX4_couldBeOf_64 : decode cX4_couldBeOf 64 = .ok (.iload_n 3, 1) := by decide +kernel
theorem dX4_couldBeOf_65 : decode cX4_couldBeOf 65 = .ok (.aload 5, 2) := by decide +kernel
theorem dX4_couldBeOf_67 : decode cX4_couldBeOf 67 = .ok (.invokevirtual 139, 3) := by decide +kernel
theorem dX4_couldBeOf_70 : decode cX4_couldBeOf 70 = .ok (.ior, 1) := by decide +kernel
theorem dX4_couldBeOf_71 : decode cX4_couldBeOf 71 = .ok (.istore_n 3, 1) := by decide +kernel
theorem dX4_couldBeOf_72 : decode cX4_couldBeOf 72 = .ok (.iinc 4 1, 3) := by decide +kernel
theorem dX4_couldBeOf_75 : decode cX4_couldBeOf 75 = .ok (.goto (-64), 3) := by decide +kernel
theorem dX4_couldBeOf_78 : decode cX4_couldBeOf 78 = .ok (.iload_n 3, 1) := by decide +kernel
theorem dX4_couldBeOf_79 : decode cX4_couldBeOf 79 = .ok (.ireturn, 1) := by decide +kernel
theorem dX4_stages_0 : decode cX4_stages 0 = .ok (.aload_n 0, 1) := by decide +kernel
theorem dX4_stages_1 : decode cX4_stages 1 = .ok (.iload_n 1, 1) := by decide +kernel
theorem dX4_stages_2 : decode cX4_stages 2 = .ok (.invokevirtual 49, 3) := by decide +kernel
theorem dX4_stages_5 : decode cX4_stages 5 = .ok (.invokevirtual 142, 3) := by decide +kernel
theorem dX4_stages_8 : decode cX4_stages 8 = .ok (.ireturn, 1) := by decide +kernel
theorem dX4_proof_0 : decode cX4_proof 0 = .ok (.aload_n 0, 1) := by decide +kernel
theorem dX4_proof_1 : decode cX4_proof 1 = .ok (.aload_n 0, 1) := by decide +kernel
theorem dX4_proof_2 : decode cX4_proof 2 = .ok (.iload_n 1, 1) := by decide +kernel
theorem dX4_proof_3 : decode cX4_proof 3 = .ok (.invokevirtual 49, 3) := by decide +kernel
theorem dX4_proof_6 : decode cX4_proof 6 = .ok (.invokevirtual 145, 3) := by decide +kernel
theorem dX4_proof_9 : decode cX4_proof 9 = .ok (.ireturn, 1) := by decide +kernel
theorem dX4_condemn_0 : decode cX4_condemn 0 = .ok (.aload_n 0, 1) := by decide +kernel
theorem dX4_condemn_1 : decode cX4_condemn 1 = .ok (.iload_n 1, 1) := by decide +kernel
theorem dX4_condemn_2 : decode cX4_condemn 2 = .ok (.invokevirtual 49, 3) := by decide +kernel
theorem dX4_condemn_5 : decode cX4_condemn 5 = .ok (.astore_n 2, 1) := by decide +kernel
theorem dX4_condemn_6 : decode cX4_condemn 6 = .ok (.aload_n 2, 1) := by decide +kernel
theorem dX4_condemn_7 : decode cX4_condemn 7 = .ok (.getfield 58, 3) := by decide +kernel
theorem dX4_condemn_10 : decode cX4_condemn 10 = .ok (.ifCond .ne 12, 3) := by decide +kernel
theorem dX4_condemn_13 : decode cX4_condemn 13 = .ok (.aload_n 0, 1) := by decide +kernel
theorem dX4_condemn_14 : decode cX4_condemn 14 = .ok (.aload_n 2, 1) := by decide +kernel
theorem dX4_condemn_15 : decode cX4_condemn 15 = .ok (.invokevirtual 145, 3) := by decide +kernel
theorem dX4_condemn_18 : decode cX4_condemn 18 = .ok (.iconst (-1), 1) := by decide +kernel
theorem dX4_condemn_19 : decode cX4_condemn 19 = .ok (.if_icmp .ne 13, 3) := by decide +kernel
theorem dX4_condemn_22 : decode cX4_condemn 22 = .ok (.new 68, 3) := by decide +kernel
theorem dX4_condemn_25 : decode cX4_condemn 25 = .ok (.dup, 1) := by decide +kernel
theorem dX4_condemn_26 : decode cX4_condemn 26 = .ok (.ldc 149, 2) := by decide +kernel
theorem dX4_condemn_28 : decode cX4_condemn 28 = .ok (.invokespecial 72, 3) := by decide +kernel
theorem dX4_condemn_31 : decode cX4_condemn 31 = .ok (.athrow, 1) := by decide +kernel
theorem dX4_condemn_32 : decode cX4_condemn 32 = .ok (.aload_n 2, 1) := by decide +kernel
theorem dX4_condemn_33 : decode cX4_condemn 33 = .ok (.getfield 97, 3) := by decide +kernel
theorem dX4_condemn_36 : decode cX4_condemn 36 = .ok (.istore_n 3, 1) := by decide +kernel
theorem dX4_condemn_37 : decode cX4_condemn 37 = .ok (.aload_n 2, 1) := by decide +kernel
theorem dX4_condemn_38 : decode cX4_condemn 38 = .ok (.iconst 1, 1) := by decide +kernel
theorem dX4_condemn_39 : decode cX4_condemn 39 = .ok (.putfield 58, 3) := by decide +kernel
theorem dX4_condemn_42 : decode cX4_condemn 42 = .ok (.aload_n 2, 1) := by decide +kernel
theorem dX4_condemn_43 : decode cX4_condemn 43 = .ok (.iconst 0, 1) := by decide +kernel
theorem dX4_condemn_44 : decode cX4_condemn 44 = .ok (.putfield 97, 3) := by decide +kernel
theorem dX4_condemn_47 : decode cX4_condemn 47 = .ok (.aload_n 0, 1) := by decide +kernel
theorem dX4_condemn_48 : decode cX4_condemn 48 = .ok (.getfield 21, 3) := by decide +kernel
theorem dX4_condemn_51 : decode cX4_condemn 51 = .ok (.astore 4, 2) := by decide +kernel
theorem dX4_condemn_53 : decode cX4_condemn 53 = .ok (.aload 4, 2) := by decide +kernel
theorem dX4_condemn_55 : decode cX4_condemn 55 = .ok (.arraylength, 1) := by decide +kernel
theorem dX4_condemn_56 : decode cX4_condemn 56 = .ok (.istore 5, 2) := by decide +kernel
theorem dX4_condemn_58 : decode cX4_condemn 58 = .ok (.iconst 0, 1) := by decide +kernel
theorem dX4_condemn_59 : decode cX4_condemn 59 = .ok (.istore 6, 2) := by decide +kernel
theorem dX4_condemn_61 : decode cX4_condemn 61 = .ok (.iload 6, 2) := by decide +kernel
theorem dX4_condemn_63 : decode cX4_condemn 63 = .ok (.iload 5, 2) := by decide +kernel
theorem dX4_condemn_65 : decode cX4_condemn 65 = .ok (.if_icmp .ge 32, 3) := by decide +kernel
theorem dX4_condemn_68 : decode cX4_condemn 68 = .ok (.aload 4, 2) := by decide +kernel
theorem dX4_condemn_70 : decode cX4_condemn 70 = .ok (.iload 6, 2) := by decide +kernel
theorem dX4_condemn_72 : decode cX4_condemn 72 = .ok (.aaload, 1) := by decide +kernel
theorem dX4_condemn_73 : decode cX4_condemn 73 = .ok (.astore 7, 2) := by decide +kernel
theorem dX4_condemn_75 : decode cX4_condemn 75 = .ok (.aload 7, 2) := by decide +kernel
theorem dX4_condemn_77 : decode cX4_condemn 77 = .ok (.dup, 1) := by decide +kernel
theorem dX4_condemn_78 : decode cX4_condemn 78 = .ok (.getfield 151, 3) := by decide +kernel
theorem dX4_condemn_81 : decode cX4_condemn 81 = .ok (.aload_n 2, 1) := by decide +kernel
theorem dX4_condemn_82 : decode cX4_condemn 82 = .ok (.invokevirtual 139, 3) := by decide +kernel
theorem dX4_condemn_85 : decode cX4_condemn 85 = .ok (.iconst (-1), 1) := by decide +kernel
theorem dX4_condemn_86 : decode cX4_condemn 86 = .ok (.ixor, 1) := by decide +kernel
theorem dX4_condemn_87 : decode cX4_condemn 87 = .ok (.iand, 1) := by decide +kernel
theorem dX4_condemn_88 : decode cX4_condemn 88 = .ok (.putfield 151, 3) := by decide +kernel
theorem dX4_condemn_91 : decode cX4_condemn 91 = .ok (.iinc 6 1, 3) := by decide +kernel
theorem dX4_condemn_94 : decode cX4_condemn 94 = .ok (.goto (-33), 3) := by decide +kernel
theorem dX4_condemn_97 : decode cX4_condemn 97 = .ok (.iload_n 3, 1) := by decide +kernel
theorem dX4_condemn_98 : decode cX4_condemn 98 = .ok (.ireturn, 1) := by decide +kernel
theorem dX4_isCondemned_0 : decode cX4_isCondemned 0 = .ok (.aload_n 0, 1) := by decide +kernel
theorem dX4_isCondemned_1 : decode cX4_isCondemned 1 = .ok (.iload_n 1, 1) := by decide +kernel
theorem dX4_isCondemned_2 : decode cX4_isCondemned 2 = .ok (.invokevirtual 49, 3) := by decide +kernel
theorem dX4_isCondemned_5 : decode cX4_isCondemned 5 = .ok (.getfield 58, 3) := by decide +kernel
theorem dX4_isCondemned_8 : decode cX4_isCondemned 8 = .ok (.ireturn, 1) := by decide +kernel
theorem dX4_isTrue_0 : decode cX4_isTrue 0 = .ok (.aload_n 0, 1) := by decide +kernel
theorem dX4_isTrue_1 : decode cX4_isTrue 1 = .ok (.iload_n 1, 1) := by decide +kernel
theorem dX4_isTrue_2 : decode cX4_isTrue 2 = .ok (.invokevirtual 100, 3) := by decide +kernel
theorem dX4_isTrue_5 : decode cX4_isTrue 5 = .ok (.invokevirtual 117, 3) := by decide +kernel
theorem dX4_isTrue_8 : decode cX4_isTrue 8 = .ok (.ireturn, 1) := by decide +kernel
theorem dX4_rarity_0 : decode cX4_rarity 0 = .ok (.aload_n 0, 1) := by decide +kernel
theorem dX4_rarity_1 : decode cX4_rarity 1 = .ok (.iload_n 1, 1) := by decide +kernel
theorem dX4_rarity_2 : decode cX4_rarity 2 = .ok (.invokevirtual 49, 3) := by decide +kernel
theorem dX4_rarity_5 : decode cX4_rarity 5 = .ok (.getfield 97, 3) := by decide +kernel
theorem dX4_rarity_8 : decode cX4_rarity 8 = .ok (.ireturn, 1) := by decide +kernel
theorem dX4_rarityByCoins_0 : decode cX4_rarityByCoins 0 = .ok (.aload_n 0, 1) := by decide +kernel
theorem dX4_rarityByCoins_1 : decode cX4_rarityByCoins 1 = .ok (.iload_n 1, 1) := by decide +kernel
theorem dX4_rarityByCoins_2 : decode cX4_rarityByCoins 2 = .ok (.invokevirtual 49, 3) := by decide +kernel
theorem dX4_rarityByCoins_5 : decode cX4_rarityByCoins 5 = .ok (.astore_n 2, 1) := by decide +kernel
theorem dX4_rarityByCoins_6 : decode cX4_rarityByCoins 6 = .ok (.iconst 0, 1) := by decide +kernel
theorem dX4_rarityByCoins_7 : decode cX4_rarityByCoins 7 = .ok (.istore_n 3, 1) := by decide +kernel
theorem dX4_rarityByCoins_8 : decode cX4_rarityByCoins 8 = .ok (.iconst 0, 1) := by decide +kernel
theorem dX4_rarityByCoins_9 : decode cX4_rarityByCoins 9 = .ok (.istore 4, 2) := by decide +kernel
theorem dX4_rarityByCoins_11 : decode cX4_rarityByCoins 11 = .ok (.iload 4, 2) := by decide +kernel
theorem dX4_rarityByCoins_13 : decode cX4_rarityByCoins 13 = .ok (.aload_n 0, 1) := by decide +kernel
theorem dX4_rarityByCoins_14 : decode cX4_rarityByCoins 14 = .ok (.getfield 16, 3) := by decide +kernel
theorem dX4_rarityByCoins_17 : decode cX4_rarityByCoins 17 = .ok (.invokevirtual 81, 3) := by decide +kernel
theorem dX4_rarityByCoins_20 : decode cX4_rarityByCoins 20 = .ok (.if_icmp .ge 43, 3) := by decide +kernel
theorem dX4_rarityByCoins_23 : decode cX4_rarityByCoins 23 = .ok (.aload_n 0, 1) := by decide +kernel
theorem dX4_rarityByCoins_24 : decode cX4_rarityByCoins 24 = .ok (.getfield 16, 3) := by decide +kernel
theorem dX4_rarityByCoins_27 : decode cX4_rarityByCoins 27 = .ok (.iload 4, 2) := by decide +kernel
theorem dX4_rarityByCoins_29 : decode cX4_rarityByCoins 29 = .ok (.invokevirtual 132, 3) := by decide +kernel
theorem dX4_rarityByCoins_32 : decode cX4_rarityByCoins 32 = .ok (.checkcast 88, 3) := by decide +kernel
theorem dX4_rarityByCoins_35 : decode cX4_rarityByCoins 35 = .ok (.astore 5, 2) := by decide +kernel
theorem dX4_rarityByCoins_37 : decode cX4_rarityByCoins 37 = .ok (.aload 5, 2) := by decide +kernel
theorem dX4_rarityByCoins_39 : decode cX4_rarityByCoins 39 = .ok (.getfield 109, 3) := by decide +kernel
theorem dX4_rarityByCoins_42 : decode cX4_rarityByCoins 42 = .ok (.aload_n 2, 1) := by decide +kernel
theorem dX4_rarityByCoins_43 : decode cX4_rarityByCoins 43 = .ok (.if_acmp .ne 14, 3) := by decide +kernel
theorem dX4_rarityByCoins_46 : decode cX4_rarityByCoins 46 = .ok (.aload 5, 2) := by decide +kernel
theorem dX4_rarityByCoins_48 : decode cX4_rarityByCoins 48 = .ok (.invokevirtual 117, 3) := by decide +kernel
theorem dX4_rarityByCoins_51 : decode cX4_rarityByCoins 51 = .ok (.ifCond .eq 6, 3) := by decide +kernel
theorem dX4_rarityByCoins_54 : decode cX4_rarityByCoins 54 = .ok (.iinc 3 1, 3) := by decide +kernel
theorem dX4_rarityByCoins_57 : decode cX4_rarityByCoins 57 = .ok (.iinc 4 1, 3) := by decide +kernel
theorem dX4_rarityByCoins_60 : decode cX4_rarityByCoins 60 = .ok (.goto (-49), 3) := by decide +kernel
theorem dX4_rarityByCoins_63 : decode cX4_rarityByCoins 63 = .ok (.iload_n 3, 1) := by decide +kernel
theorem dX4_rarityByCoins_64 : decode cX4_rarityByCoins 64 = .ok (.ireturn, 1) := by decide +kernel
theorem dX4_price_0 : decode cX4_price 0 = .ok (.aload_n 0, 1) := by decide +kernel
theorem dX4_price_1 : decode cX4_price 1 = .ok (.iload_n 1, 1) := by decide +kernel
theorem dX4_price_2 : decode cX4_price 2 = .ok (.invokevirtual 100, 3) := by decide +kernel
theorem dX4_price_5 : decode cX4_price 5 = .ok (.invokevirtual 154, 3) := by decide +kernel
theorem dX4_price_8 : decode cX4_price 8 = .ok (.ireturn, 1) := by decide +kernel
theorem dX4_give_0 : decode cX4_give 0 = .ok (.aload_n 0, 1) := by decide +kernel
theorem dX4_give_1 : decode cX4_give 1 = .ok (.iload_n 1, 1) := by decide +kernel
theorem dX4_give_2 : decode cX4_give 2 = .ok (.invokevirtual 100, 3) := by decide +kernel
theorem dX4_give_5 : decode cX4_give 5 = .ok (.astore_n 3, 1) := by decide +kernel
theorem dX4_give_6 : decode cX4_give 6 = .ok (.aload_n 0, 1) := by decide +kernel
theorem dX4_give_7 : decode cX4_give 7 = .ok (.iload_n 2, 1) := by decide +kernel
theorem dX4_give_8 : decode cX4_give 8 = .ok (.invokevirtual 157, 3) := by decide +kernel
theorem dX4_give_11 : decode cX4_give 11 = .ok (.astore 4, 2) := by decide +kernel
theorem dX4_give_13 : decode cX4_give 13 = .ok (.aload_n 3, 1) := by decide +kernel
theorem dX4_give_14 : decode cX4_give 14 = .ok (.getfield 104, 3) := by decide +kernel
theorem dX4_give_17 : decode cX4_give 17 = .ok (.ifCond .ne 23, 3) := by decide +kernel
theorem dX4_give_20 : decode cX4_give 20 = .ok (.aload_n 3, 1) := by decide +kernel
theorem dX4_give_21 : decode cX4_give 21 = .ok (.getfield 124, 3) := by decide +kernel
theorem dX4_give_24 : decode cX4_give 24 = .ok (.ifnonnull 16, 3) := by decide +kernel
theorem dX4_give_27 : decode cX4_give 27 = .ok (.aload 4, 2) := by decide +kernel
theorem dX4_give_29 : decode cX4_give 29 = .ok (.getfield 161, 3) := by decide +kernel
theorem dX4_give_32 : decode cX4_give 32 = .ok (.invokevirtual 81, 3) := by decide +kernel
theorem dX4_give_35 : decode cX4_give 35 = .ok (.bipush 10, 2) := by decide +kernel
theorem dX4_give_37 : decode cX4_give 37 = .ok (.if_icmp .lt 13, 3) := by decide +kernel
theorem dX4_give_40 : decode cX4_give 40 = .ok (.new 68, 3) := by decide +kernel
theorem dX4_give_43 : decode cX4_give 43 = .ok (.dup, 1) := by decide +kernel
theorem dX4_give_44 : decode cX4_give 44 = .ok (.ldc 164, 2) := by decide +kernel
theorem dX4_give_46 : decode cX4_give 46 = .ok (.invokespecial 72, 3) := by decide +kernel
theorem dX4_give_49 : decode cX4_give 49 = .ok (.athrow, 1) := by decide +kernel
theorem dX4_give_50 : decode cX4_give 50 = .ok (.aload 4, 2) := by decide +kernel
theorem dX4_give_52 : decode cX4_give 52 = .ok (.aload_n 3, 1) := by decide +kernel
theorem dX4_give_53 : decode cX4_give 53 = .ok (.invokevirtual 166, 3) := by decide +kernel
theorem dX4_give_56 : decode cX4_give 56 = .ok (.aload 4, 2) := by decide +kernel
theorem dX4_give_58 : decode cX4_give 58 = .ok (.getfield 161, 3) := by decide +kernel
theorem dX4_give_61 : decode cX4_give 61 = .ok (.invokevirtual 81, 3) := by decide +kernel
theorem dX4_give_64 : decode cX4_give 64 = .ok (.ireturn, 1) := by decide +kernel
theorem dX4_want_0 : decode cX4_want 0 = .ok (.aload_n 0, 1) := by decide +kernel
theorem dX4_want_1 : decode cX4_want 1 = .ok (.iload_n 1, 1) := by decide +kernel
theorem dX4_want_2 : decode cX4_want 2 = .ok (.invokevirtual 157, 3) := by decide +kernel
theorem dX4_want_5 : decode cX4_want 5 = .ok (.astore 4, 2) := by decide +kernel
theorem dX4_want_7 : decode cX4_want 7 = .ok (.aload_n 0, 1) := by decide +kernel
theorem dX4_want_8 : decode cX4_want 8 = .ok (.iload_n 2, 1) := by decide +kernel
theorem dX4_want_9 : decode cX4_want 9 = .ok (.invokevirtual 49, 3) := by decide +kernel
theorem dX4_want_12 : decode cX4_want 12 = .ok (.astore 5, 2) := by decide +kernel
theorem dX4_want_14 : decode cX4_want 14 = .ok (.iload_n 3, 1) := by decide +kernel
theorem dX4_want_15 : decode cX4_want 15 = .ok (.ifCond .eq 21, 3) := by decide +kernel
theorem dX4_want_18 : decode cX4_want 18 = .ok (.aload 5, 2) := by decide +kernel
theorem dX4_want_20 : decode cX4_want 20 = .ok (.getfield 58, 3) := by decide +kernel
theorem dX4_want_23 : decode cX4_want 23 = .ok (.ifCond .eq 13, 3) := by decide +kernel
theorem dX4_want_26 : decode cX4_want 26 = .ok (.new 68, 3) := by decide +kernel
theorem dX4_want_29 : decode cX4_want 29 = .ok (.dup, 1) := by decide +kernel
theorem dX4_want_30 : decode cX4_want 30 = .ok (.ldc 169, 2) := by decide +kernel
theorem dX4_want_32 : decode cX4_want 32 = .ok (.invokespecial 72, 3) := by decide +kernel
theorem dX4_want_35 : decode cX4_want 35 = .ok (.athrow, 1) := by decide +kernel
theorem dX4_want_36 : decode cX4_want 36 = .ok (.iload_n 3, 1) := by decide +kernel
theorem dX4_want_37 : decode cX4_want 37 = .ok (.ifCond .eq 21, 3) := by decide +kernel
theorem dX4_want_40 : decode cX4_want 40 = .ok (.aload 4, 2) := by decide +kernel
theorem dX4_want_42 : decode cX4_want 42 = .ok (.dup, 1) := by decide +kernel
theorem dX4_want_43 : decode cX4_want 43 = .ok (.getfield 151, 3) := by decide +kernel
theorem dX4_want_46 : decode cX4_want 46 = .ok (.aload 5, 2) := by decide +kernel
theorem dX4_want_48 : decode cX4_want 48 = .ok (.invokevirtual 139, 3) := by decide +kernel
theorem dX4_want_51 : decode cX4_want 51 = .ok (.ior, 1) := by decide +kernel
theorem dX4_want_52 : decode cX4_want 52 = .ok (.putfield 151, 3) := by decide +kernel
theorem dX4_want_55 : decode cX4_want 55 = .ok (.goto 20, 3) := by decide +kernel
theorem dX4_want_58 : decode cX4_want 58 = .ok (.aload 4, 2) := by decide +kernel
theorem dX4_want_60 : decode cX4_want 60 = .ok (.dup, 1) := by decide +kernel
theorem dX4_want_61 : decode cX4_want 61 = .ok (.getfield 151, 3) := by decide +kernel
theorem dX4_want_64 : decode cX4_want 64 = .ok (.aload 5, 2) := by decide +kernel
theorem dX4_want_66 : decode cX4_want 66 = .ok (.invokevirtual 139, 3) := by decide +kernel
theorem dX4_want_69 : decode cX4_want 69 = .ok (.iconst (-1), 1) := by decide +kernel
theorem dX4_want_70 : decode cX4_want 70 = .ok (.ixor, 1) := by decide +kernel
theorem dX4_want_71 : decode cX4_want 71 = .ok (.iand, 1) := by decide +kernel
theorem dX4_want_72 : decode cX4_want 72 = .ok (.putfield 151, 3) := by decide +kernel
theorem dX4_want_75 : decode cX4_want 75 = .ok (.aload 4, 2) := by decide +kernel
theorem dX4_want_77 : decode cX4_want 77 = .ok (.getfield 151, 3) := by decide +kernel
theorem dX4_want_80 : decode cX4_want 80 = .ok (.invokestatic 73, 3) := by decide +kernel
theorem dX4_want_83 : decode cX4_want 83 = .ok (.ireturn, 1) := by decide +kernel
theorem dX4_setFairness_0 : decode cX4_setFairness 0 = .ok (.aload_n 0, 1) := by decide +kernel
theorem dX4_setFairness_1 : decode cX4_setFairness 1 = .ok (.iload_n 1, 1) := by decide +kernel
theorem dX4_setFairness_2 : decode cX4_setFairness 2 = .ok (.invokevirtual 157, 3) := by decide +kernel
theorem dX4_setFairness_5 : decode cX4_setFairness 5 = .ok (.astore_n 3, 1) := by decide +kernel
theorem dX4_setFairness_6 : decode cX4_setFairness 6 = .ok (.iload_n 2, 1) := by decide +kernel
theorem dX4_setFairness_7 : decode cX4_setFairness 7 = .ok (.ifCond .lt 9, 3) := by decide +kernel
theorem dX4_setFairness_10 : decode cX4_setFairness 10 = .ok (.iload_n 2, 1) := by decide +kernel
theorem dX4_setFairness_11 : decode cX4_setFairness 11 = .ok (.bipush 100, 2) := by decide +kernel
theorem dX4_setFairness_13 : decode cX4_setFairness 13 = .ok (.if_icmp .le 13, 3) := by decide +kernel
theorem dX4_setFairness_16 : decode cX4_setFairness 16 = .ok (.new 53, 3) := by decide +kernel
theorem dX4_setFairness_19 : decode cX4_setFairness 19 = .ok (.dup, 1) := by decide +kernel
theorem dX4_setFairness_20 : decode cX4_setFairness 20 = .ok (.ldc 171, 2) := by decide +kernel
theorem dX4_setFairness_22 : decode cX4_setFairness 22 = .ok (.invokespecial 57, 3) := by decide +kernel
theorem dX4_setFairness_25 : decode cX4_setFairness 25 = .ok (.athrow, 1) := by decide +kernel
theorem dX4_setFairness_26 : decode cX4_setFairness 26 = .ok (.aload_n 3, 1) := by decide +kernel
theorem dX4_setFairness_27 : decode cX4_setFairness 27 = .ok (.getfield 173, 3) := by decide +kernel
theorem dX4_setFairness_30 : decode cX4_setFairness 30 = .ok (.istore 4, 2) := by decide +kernel
theorem dX4_setFairness_32 : decode cX4_setFairness 32 = .ok (.aload_n 3, 1) := by decide +kernel
theorem dX4_setFairness_33 : decode cX4_setFairness 33 = .ok (.iload_n 2, 1) := by decide +kernel
theorem dX4_setFairness_34 : decode cX4_setFairness 34 = .ok (.putfield 173, 3) := by decide +kernel
theorem dX4_setFairness_37 : decode cX4_setFairness 37 = .ok (.iload 4, 2) := by decide +kernel
theorem dX4_setFairness_39 : decode cX4_setFairness 39 = .ok (.ireturn, 1) := by decide +kernel
theorem dX4_mark_0 : decode cX4_mark 0 = .ok (.aload_n 0, 1) := by decide +kernel
theorem dX4_mark_1 : decode cX4_mark 1 = .ok (.iload_n 1, 1) := by decide +kernel
theorem dX4_mark_2 : decode cX4_mark 2 = .ok (.invokevirtual 100, 3) := by decide +kernel
theorem dX4_mark_5 : decode cX4_mark 5 = .ok (.astore_n 3, 1) := by decide +kernel
theorem dX4_mark_6 : decode cX4_mark 6 = .ok (.aload_n 3, 1) := by decide +kernel
theorem dX4_mark_7 : decode cX4_mark 7 = .ok (.getfield 124, 3) := by decide +kernel
theorem dX4_mark_10 : decode cX4_mark 10 = .ok (.ifnonnull 13, 3) := by decide +kernel
theorem dX4_mark_13 : decode cX4_mark 13 = .ok (.new 68, 3) := by decide +kernel
theorem dX4_mark_16 : decode cX4_mark 16 = .ok (.dup, 1) := by decide +kernel
theorem dX4_mark_17 : decode cX4_mark 17 = .ok (.ldc 176, 2) := by decide +kernel
theorem dX4_mark_19 : decode cX4_mark 19 = .ok (.invokespecial 72, 3) := by decide +kernel
theorem dX4_mark_22 : decode cX4_mark 22 = .ok (.athrow, 1) := by decide +kernel
theorem dX4_mark_23 : decode cX4_mark 23 = .ok (.aload_n 3, 1) := by decide +kernel
theorem dX4_mark_24 : decode cX4_mark 24 = .ok (.getfield 178, 3) := by decide +kernel
theorem dX4_mark_27 : decode cX4_mark 27 = .ok (.istore 4, 2) := by decide +kernel
theorem dX4_mark_29 : decode cX4_mark 29 = .ok (.aload_n 3, 1) := by decide +kernel
theorem dX4_mark_30 : decode cX4_mark 30 = .ok (.iload_n 2, 1) := by decide +kernel
theorem dX4_mark_31 : decode cX4_mark 31 = .ok (.putfield 178, 3) := by decide +kernel
theorem dX4_mark_34 : decode cX4_mark 34 = .ok (.iload 4, 2) := by decide +kernel
theorem dX4_mark_36 : decode cX4_mark 36 = .ok (.ireturn, 1) := by decide +kernel
theorem dX4_owner_0 : decode cX4_owner 0 = .ok (.aload_n 0, 1) := by decide +kernel
theorem dX4_owner_1 : decode cX4_owner 1 = .ok (.iload_n 1, 1) := by decide +kernel
theorem dX4_owner_2 : decode cX4_owner 2 = .ok (.invokevirtual 100, 3) := by decide +kernel
theorem dX4_owner_5 : decode cX4_owner 5 = .ok (.invokevirtual 121, 3) := by decide +kernel
theorem dX4_owner_8 : decode cX4_owner 8 = .ok (.ireturn, 1) := by decide +kernel
theorem dX4_wants_0 : decode cX4_wants 0 = .ok (.aload_n 0, 1) := by decide +kernel
theorem dX4_wants_1 : decode cX4_wants 1 = .ok (.iload_n 1, 1) := by decide +kernel
theorem dX4_wants_2 : decode cX4_wants 2 = .ok (.invokevirtual 157, 3) := by decide +kernel
theorem dX4_wants_5 : decode cX4_wants 5 = .ok (.getfield 151, 3) := by decide +kernel
theorem dX4_wants_8 : decode cX4_wants 8 = .ok (.ireturn, 1) := by decide +kernel
theorem dX4_offers_0 : decode cX4_offers 0 = .ok (.aload_n 0, 1) := by decide +kernel
theorem dX4_offers_1 : decode cX4_offers 1 = .ok (.iload_n 1, 1) := by decide +kernel
theorem dX4_offers_2 : decode cX4_offers 2 = .ok (.invokevirtual 157, 3) := by decide +kernel
theorem dX4_offers_5 : decode cX4_offers 5 = .ok (.astore_n 2, 1) := by decide +kernel
theorem dX4_offers_6 : decode cX4_offers 6 = .ok (.aload_n 2, 1) := by decide +kernel
theorem dX4_offers_7 : decode cX4_offers 7 = .ok (.aload_n 0, 1) := by decide +kernel
theorem dX4_offers_8 : decode cX4_offers 8 = .ok (.getfield 10, 3) := by decide +kernel
theorem dX4_offers_11 : decode cX4_offers 11 = .ok (.invokevirtual 181, 3) := by decide +kernel
theorem dX4_offers_14 : decode cX4_offers 14 = .ok (.iconst 0, 1) := by decide +kernel
theorem dX4_offers_15 : decode cX4_offers 15 = .ok (.istore_n 3, 1) := by decide +kernel
theorem dX4_offers_16 : decode cX4_offers 16 = .ok (.iconst 0, 1) := by decide +kernel
theorem dX4_offers_17 : decode cX4_offers 17 = .ok (.istore 4, 2) := by decide +kernel
theorem dX4_offers_19 : decode cX4_offers 19 = .ok (.iload 4, 2) := by decide +kernel
theorem dX4_offers_21 : decode cX4_offers 21 = .ok (.aload_n 2, 1) := by decide +kernel
theorem dX4_offers_22 : decode cX4_offers 22 = .ok (.getfield 185, 3) := by decide +kernel
theorem dX4_offers_25 : decode cX4_offers 25 = .ok (.invokevirtual 81, 3) := by decide +kernel
theorem dX4_offers_28 : decode cX4_offers 28 = .ok (.if_icmp .ge 30, 3) := by decide +kernel
theorem dX4_offers_31 : decode cX4_offers 31 = .ok (.iload_n 3, 1) := by decide +kernel
theorem dX4_offers_32 : decode cX4_offers 32 = .ok (.aload_n 2, 1) := by decide +kernel
theorem dX4_offers_33 : decode cX4_offers 33 = .ok (.getfield 185, 3) := by decide +kernel
theorem dX4_offers_36 : decode cX4_offers 36 = .ok (.iload 4, 2) := by decide +kernel
theorem dX4_offers_38 : decode cX4_offers 38 = .ok (.invokevirtual 132, 3) := by decide +kernel
theorem dX4_offers_41 : decode cX4_offers 41 = .ok (.checkcast 88, 3) := by decide +kernel
theorem dX4_offers_44 : decode cX4_offers 44 = .ok (.getfield 109, 3) := by decide +kernel
theorem dX4_offers_47 : decode cX4_offers 47 = .ok (.invokevirtual 139, 3) := by decide +kernel
theorem dX4_offers_50 : decode cX4_offers 50 = .ok (.ior, 1) := by decide +kernel
theorem dX4_offers_51 : decode cX4_offers 51 = .ok (.istore_n 3, 1) := by decide +kernel
theorem dX4_offers_52 : decode cX4_offers 52 = .ok (.iinc 4 1, 3) := by decide +kernel
theorem dX4_offers_55 : decode cX4_offers 55 = .ok (.goto (-36), 3) := by decide +kernel
theorem dX4_offers_58 : decode cX4_offers 58 = .ok (.iload_n 3, 1) := by decide +kernel
theorem dX4_offers_59 : decode cX4_offers 59 = .ok (.ireturn, 1) := by decide +kernel
theorem dX4_worth_0 : decode cX4_worth 0 = .ok (.aload_n 0, 1) := by decide +kernel
theorem dX4_worth_1 : decode cX4_worth 1 = .ok (.iload_n 1, 1) := by decide +kernel
theorem dX4_worth_2 : decode cX4_worth 2 = .ok (.invokevirtual 157, 3) := by decide +kernel
theorem dX4_worth_5 : decode cX4_worth 5 = .ok (.getfield 161, 3) := by decide +kernel
theorem dX4_worth_8 : decode cX4_worth 8 = .ok (.astore_n 2, 1) := by decide +kernel
theorem dX4_worth_9 : decode cX4_worth 9 = .ok (.iconst 0, 1) := by decide +kernel
theorem dX4_worth_10 : decode cX4_worth 10 = .ok (.istore_n 3, 1) := by decide +kernel
theorem dX4_worth_11 : decode cX4_worth 11 = .ok (.iconst 0, 1) := by decide +kernel
theorem dX4_worth_12 : decode cX4_worth 12 = .ok (.istore 4, 2) := by decide +kernel
theorem dX4_worth_14 : decode cX4_worth 14 = .ok (.iload 4, 2) := by decide +kernel
theorem dX4_worth_16 : decode cX4_worth 16 = .ok (.aload_n 2, 1) := by decide +kernel
theorem dX4_worth_17 : decode cX4_worth 17 = .ok (.invokevirtual 81, 3) := by decide +kernel
theorem dX4_worth_20 : decode cX4_worth 20 = .ok (.if_icmp .ge 24, 3) := by decide +kernel
theorem dX4_worth_23 : decode cX4_worth 23 = .ok (.iload_n 3, 1) := by decide +kernel
theorem dX4_worth_24 : decode cX4_worth 24 = .ok (.aload_n 2, 1) := by decide +kernel
theorem dX4_worth_25 : decode cX4_worth 25 = .ok (.iload 4, 2) := by decide +kernel
theorem dX4_worth_27 : decode cX4_worth 27 = .ok (.invokevirtual 132, 3) := by decide +kernel
theorem dX4_worth_30 : decode cX4_worth 30 = .ok (.checkcast 88, 3) := by decide +kernel
theorem dX4_worth_33 : decode cX4_worth 33 = .ok (.invokevirtual 154, 3) := by decide +kernel
theorem dX4_worth_36 : decode cX4_worth 36 = .ok (.iadd, 1) := by decide +kernel
theorem dX4_worth_37 : decode cX4_worth 37 = .ok (.istore_n 3, 1) := by decide +kernel
theorem dX4_worth_38 : decode cX4_worth 38 = .ok (.iinc 4 1, 3) := by decide +kernel
theorem dX4_worth_41 : decode cX4_worth 41 = .ok (.goto (-27), 3) := by decide +kernel
theorem dX4_worth_44 : decode cX4_worth 44 = .ok (.iload_n 3, 1) := by decide +kernel
theorem dX4_worth_45 : decode cX4_worth 45 = .ok (.ireturn, 1) := by decide +kernel
theorem dX4_coinAt_0 : decode cX4_coinAt 0 = .ok (.aload_n 0, 1) := by decide +kernel
theorem dX4_coinAt_1 : decode cX4_coinAt 1 = .ok (.iload_n 1, 1) := by decide +kernel
theorem dX4_coinAt_2 : decode cX4_coinAt 2 = .ok (.invokevirtual 157, 3) := by decide +kernel
theorem dX4_coinAt_5 : decode cX4_coinAt 5 = .ok (.astore_n 3, 1) := by decide +kernel
theorem dX4_coinAt_6 : decode cX4_coinAt 6 = .ok (.iconst 0, 1) := by decide +kernel
theorem dX4_coinAt_7 : decode cX4_coinAt 7 = .ok (.istore 4, 2) := by decide +kernel
theorem dX4_coinAt_9 : decode cX4_coinAt 9 = .ok (.iload 4, 2) := by decide +kernel
theorem dX4_coinAt_11 : decode cX4_coinAt 11 = .ok (.aload_n 3, 1) := by decide +kernel
theorem dX4_coinAt_12 : decode cX4_coinAt 12 = .ok (.getfield 161, 3) := by decide +kernel
theorem dX4_coinAt_15 : decode cX4_coinAt 15 = .ok (.invokevirtual 81, 3) := by decide +kernel
theorem dX4_coinAt_18 : decode cX4_coinAt 18 = .ok (.if_icmp .ge 39, 3) := by decide +kernel
theorem dX4_coinAt_21 : decode cX4_coinAt 21 = .ok (.aload_n 3, 1) := by decide +kernel
theorem dX4_coinAt_22 : decode cX4_coinAt 22 = .ok (.getfield 161, 3) := by decide +kernel
theorem dX4_coinAt_25 : decode cX4_coinAt 25 = .ok (.iload 4, 2) := by decide +kernel
theorem dX4_coinAt_27 : decode cX4_coinAt 27 = .ok (.invokevirtual 132, 3) := by decide +kernel
theorem dX4_coinAt_30 : decode cX4_coinAt 30 = .ok (.checkcast 88, 3) := by decide +kernel
theorem dX4_coinAt_33 : decode cX4_coinAt 33 = .ok (.astore 5, 2) := by decide +kernel
theorem dX4_coinAt_35 : decode cX4_coinAt 35 = .ok (.aload_n 3, 1) := by decide +kernel
theorem dX4_coinAt_36 : decode cX4_coinAt 36 = .ok (.aload 5, 2) := by decide +kernel
theorem dX4_coinAt_38 : decode cX4_coinAt 38 = .ok (.invokevirtual 188, 3) := by decide +kernel
theorem dX4_coinAt_41 : decode cX4_coinAt 41 = .ok (.iload_n 2, 1) := by decide +kernel
theorem dX4_coinAt_42 : decode cX4_coinAt 42 = .ok (.if_icmp .ne 9, 3) := by decide +kernel
theorem dX4_coinAt_45 : decode cX4_coinAt 45 = .ok (.aload 5, 2) := by decide +kernel
theorem dX4_coinAt_47 : decode cX4_coinAt 47 = .ok (.getfield 192, 3) := by decide +kernel
theorem dX4_coinAt_50 : decode cX4_coinAt 50 = .ok (.ireturn, 1) := by decide +kernel
theorem dX4_coinAt_51 : decode cX4_coinAt 51 = .ok (.iinc 4 1, 3) := by decide +kernel
theorem dX4_coinAt_54 : decode cX4_coinAt 54 = .ok (.goto (-45), 3) := by decide +kernel
theorem dX4_coinAt_57 : decode cX4_coinAt 57 = .ok (.new 38, 3) := by decide +kernel
theorem dX4_coinAt_60 : decode cX4_coinAt 60 = .ok (.dup, 1) := by decide +kernel
theorem dX4_coinAt_61 : decode cX4_coinAt 61 = .ok (.ldc 195, 2) := by decide +kernel
theorem dX4_coinAt_63 : decode cX4_coinAt 63 = .ok (.invokespecial 42, 3) := by decide +kernel
theorem dX4_coinAt_66 : decode cX4_coinAt 66 = .ok (.athrow, 1) := by decide +kernel
theorem dX4_ring_0 : decode cX4_ring 0 = .ok (.aload_n 0, 1) := by decide +kernel
theorem dX4_ring_1 : decode cX4_ring 1 = .ok (.invokevirtual 197, 3) := by decide +kernel
theorem dX4_ring_4 : decode cX4_ring 4 = .ok (.aload_n 0, 1) := by decide +kernel
theorem dX4_ring_5 : decode cX4_ring 5 = .ok (.getfield 31, 3) := by decide +kernel
theorem dX4_ring_8 : decode cX4_ring 8 = .ok (.invokevirtual 200, 3) := by decide +kernel
theorem dX4_ring_11 : decode cX4_ring 11 = .ok (.ireturn, 1) := by decide +kernel
theorem dX4_ringAt_0 : decode cX4_ringAt 0 = .ok (.aload_n 0, 1) := by decide +kernel
theorem dX4_ringAt_1 : decode cX4_ringAt 1 = .ok (.invokevirtual 197, 3) := by decide +kernel
theorem dX4_ringAt_4 : decode cX4_ringAt 4 = .ok (.aload_n 0, 1) := by decide +kernel
theorem dX4_ringAt_5 : decode cX4_ringAt 5 = .ok (.getfield 31, 3) := by decide +kernel
theorem dX4_ringAt_8 : decode cX4_ringAt 8 = .ok (.iload_n 1, 1) := by decide +kernel
theorem dX4_ringAt_9 : decode cX4_ringAt 9 = .ok (.invokevirtual 203, 3) := by decide +kernel
theorem dX4_ringAt_12 : decode cX4_ringAt 12 = .ok (.ireturn, 1) := by decide +kernel
theorem dX4_swap_0 : decode cX4_swap 0 = .ok (.aload_n 0, 1) := by decide +kernel
theorem dX4_swap_1 : decode cX4_swap 1 = .ok (.invokevirtual 197, 3) := by decide +kernel
theorem dX4_swap_4 : decode cX4_swap 4 = .ok (.aload_n 0, 1) := by decide +kernel
theorem dX4_swap_5 : decode cX4_swap 5 = .ok (.getfield 31, 3) := by decide +kernel
theorem dX4_swap_8 : decode cX4_swap 8 = .ok (.invokevirtual 200, 3) := by decide +kernel
theorem dX4_swap_11 : decode cX4_swap 11 = .ok (.istore_n 1, 1) := by decide +kernel
theorem dX4_swap_12 : decode cX4_swap 12 = .ok (.iload_n 1, 1) := by decide +kernel
theorem dX4_swap_13 : decode cX4_swap 13 = .ok (.ifCond .eq 15, 3) := by decide +kernel
theorem dX4_swap_16 : decode cX4_swap 16 = .ok (.aload_n 0, 1) := by decide +kernel
theorem dX4_swap_17 : decode cX4_swap 17 = .ok (.getfield 25, 3) := by decide +kernel
theorem dX4_swap_20 : decode cX4_swap 20 = .ok (.invokevirtual 81, 3) := by decide +kernel
theorem dX4_swap_23 : decode cX4_swap 23 = .ok (.bipush 60, 2) := by decide +kernel
theorem dX4_swap_25 : decode cX4_swap 25 = .ok (.if_icmp .lt 13, 3) := by decide +kernel
theorem dX4_swap_28 : decode cX4_swap 28 = .ok (.new 68, 3) := by decide +kernel
theorem dX4_swap_31 : decode cX4_swap 31 = .ok (.dup, 1) := by decide +kernel
theorem dX4_swap_32 : decode cX4_swap 32 = .ok (.ldc 206, 2) := by decide +kernel
theorem dX4_swap_34 : decode cX4_swap 34 = .ok (.invokespecial 72, 3) := by decide +kernel
theorem dX4_swap_37 : decode cX4_swap 37 = .ok (.athrow, 1) := by decide +kernel
theorem dX4_swap_38 : decode cX4_swap 38 = .ok (.aload_n 0, 1) := by decide +kernel
theorem dX4_swap_39 : decode cX4_swap 39 = .ok (.getfield 31, 3) := by decide +kernel
theorem dX4_swap_42 : decode cX4_swap 42 = .ok (.invokevirtual 208, 3) := by decide +kernel
theorem dX4_swap_45 : decode cX4_swap 45 = .ok (.aload_n 0, 1) := by decide +kernel
theorem dX4_swap_46 : decode cX4_swap 46 = .ok (.getfield 25, 3) := by decide +kernel
theorem dX4_swap_49 : decode cX4_swap 49 = .ok (.aload_n 0, 1) := by decide +kernel
theorem dX4_swap_50 : decode cX4_swap 50 = .ok (.getfield 31, 3) := by decide +kernel
theorem dX4_swap_53 : decode cX4_swap 53 = .ok (.invokevirtual 93, 3) := by decide +kernel
theorem dX4_swap_56 : decode cX4_swap 56 = .ok (.pop, 1) := by decide +kernel
theorem dX4_swap_57 : decode cX4_swap 57 = .ok (.aload_n 0, 1) := by decide +kernel
theorem dX4_swap_58 : decode cX4_swap 58 = .ok (.new 28, 3) := by decide +kernel
theorem dX4_swap_61 : decode cX4_swap 61 = .ok (.dup, 1) := by decide +kernel
theorem dX4_swap_62 : decode cX4_swap 62 = .ok (.invokespecial 30, 3) := by decide +kernel
theorem dX4_swap_65 : decode cX4_swap 65 = .ok (.putfield 31, 3) := by decide +kernel
theorem dX4_swap_68 : decode cX4_swap 68 = .ok (.iload_n 1, 1) := by decide +kernel
theorem dX4_swap_69 : decode cX4_swap 69 = .ok (.ireturn, 1) := by decide +kernel
theorem dX4_swaps_0 : decode cX4_swaps 0 = .ok (.aload_n 0, 1) := by decide +kernel
theorem dX4_swaps_1 : decode cX4_swaps 1 = .ok (.getfield 25, 3) := by decide +kernel
theorem dX4_swaps_4 : decode cX4_swaps 4 = .ok (.invokevirtual 81, 3) := by decide +kernel
theorem dX4_swaps_7 : decode cX4_swaps 7 = .ok (.ireturn, 1) := by decide +kernel
theorem dX4_swapAt_0 : decode cX4_swapAt 0 = .ok (.iload_n 1, 1) := by decide +kernel
theorem dX4_swapAt_1 : decode cX4_swapAt 1 = .ok (.ifCond .lt 14, 3) := by decide +kernel
theorem dX4_swapAt_4 : decode cX4_swapAt 4 = .ok (.iload_n 1, 1) := by decide +kernel
theorem dX4_swapAt_5 : decode cX4_swapAt 5 = .ok (.aload_n 0, 1) := by decide +kernel
theorem dX4_swapAt_6 : decode cX4_swapAt 6 = .ok (.getfield 25, 3) := by decide +kernel
theorem dX4_swapAt_9 : decode cX4_swapAt 9 = .ok (.invokevirtual 81, 3) := by decide +kernel
theorem dX4_swapAt_12 : decode cX4_swapAt 12 = .ok (.if_icmp .lt 13, 3) := by decide +kernel
theorem dX4_swapAt_15 : decode cX4_swapAt 15 = .ok (.new 38, 3) := by decide +kernel
theorem dX4_swapAt_18 : decode cX4_swapAt 18 = .ok (.dup, 1) := by decide +kernel
theorem dX4_swapAt_19 : decode cX4_swapAt 19 = .ok (.ldc 211, 2) := by decide +kernel
theorem dX4_swapAt_21 : decode cX4_swapAt 21 = .ok (.invokespecial 42, 3) := by decide +kernel
theorem dX4_swapAt_24 : decode cX4_swapAt 24 = .ok (.athrow, 1) := by decide +kernel
theorem dX4_swapAt_25 : decode cX4_swapAt 25 = .ok (.aload_n 0, 1) := by decide +kernel
theorem dX4_swapAt_26 : decode cX4_swapAt 26 = .ok (.getfield 25, 3) := by decide +kernel
theorem dX4_swapAt_29 : decode cX4_swapAt 29 = .ok (.iload_n 1, 1) := by decide +kernel
theorem dX4_swapAt_30 : decode cX4_swapAt 30 = .ok (.invokevirtual 132, 3) := by decide +kernel
theorem dX4_swapAt_33 : decode cX4_swapAt 33 = .ok (.checkcast 28, 3) := by decide +kernel
theorem dX4_swapAt_36 : decode cX4_swapAt 36 = .ok (.iload_n 2, 1) := by decide +kernel
theorem dX4_swapAt_37 : decode cX4_swapAt 37 = .ok (.invokevirtual 203, 3) := by decide +kernel
theorem dX4_swapAt_40 : decode cX4_swapAt 40 = .ok (.ireturn, 1) := by decide +kernel
theorem dX4_spoiled_0 : decode cX4_spoiled 0 = .ok (.iconst 0, 1) := by decide +kernel
theorem dX4_spoiled_1 : decode cX4_spoiled 1 = .ok (.istore_n 1, 1) := by decide +kernel
theorem dX4_spoiled_2 : decode cX4_spoiled 2 = .ok (.iconst 0, 1) := by decide +kernel
theorem dX4_spoiled_3 : decode cX4_spoiled 3 = .ok (.istore_n 2, 1) := by decide +kernel
theorem dX4_spoiled_4 : decode cX4_spoiled 4 = .ok (.iload_n 2, 1) := by decide +kernel
theorem dX4_spoiled_5 : decode cX4_spoiled 5 = .ok (.aload_n 0, 1) := by decide +kernel
theorem dX4_spoiled_6 : decode cX4_spoiled 6 = .ok (.getfield 25, 3) := by decide +kernel
theorem dX4_spoiled_9 : decode cX4_spoiled 9 = .ok (.invokevirtual 81, 3) := by decide +kernel
theorem dX4_spoiled_12 : decode cX4_spoiled 12 = .ok (.if_icmp .ge 29, 3) := by decide +kernel
theorem dX4_spoiled_15 : decode cX4_spoiled 15 = .ok (.aload_n 0, 1) := by decide +kernel
theorem dX4_spoiled_16 : decode cX4_spoiled 16 = .ok (.getfield 25, 3) := by decide +kernel
theorem dX4_spoiled_19 : decode cX4_spoiled 19 = .ok (.iload_n 2, 1) := by decide +kernel
theorem dX4_spoiled_20 : decode cX4_spoiled 20 = .ok (.invokevirtual 132, 3) := by decide +kernel
theorem dX4_spoiled_23 : decode cX4_spoiled 23 = .ok (.checkcast 28, 3) := by decide +kernel
theorem dX4_spoiled_26 : decode cX4_spoiled 26 = .ok (.invokevirtual 213, 3) := by decide +kernel
theorem dX4_spoiled_29 : decode cX4_spoiled 29 = .ok (.ifCond .eq 6, 3) := by decide +kernel
theorem dX4_spoiled_32 : decode cX4_spoiled 32 = .ok (.iinc 1 1, 3) := by decide +kernel
theorem dX4_spoiled_35 : decode cX4_spoiled 35 = .ok (.iinc 2 1, 3) := by decide +kernel
theorem dX4_spoiled_38 : decode cX4_spoiled 38 = .ok (.goto (-34), 3) := by decide +kernel
theorem dX4_spoiled_41 : decode cX4_spoiled 41 = .ok (.iload_n 1, 1) := by decide +kernel
theorem dX4_spoiled_42 : decode cX4_spoiled 42 = .ok (.ireturn, 1) := by decide +kernel
theorem dX4_theDie_0 : decode cX4_theDie 0 = .ok (.iload_n 1, 1) := by decide +kernel
theorem dX4_theDie_1 : decode cX4_theDie 1 = .ok (.ifCond .lt 14, 3) := by decide +kernel
theorem dX4_theDie_4 : decode cX4_theDie 4 = .ok (.iload_n 1, 1) := by decide +kernel
theorem dX4_theDie_5 : decode cX4_theDie 5 = .ok (.aload_n 0, 1) := by decide +kernel
theorem dX4_theDie_6 : decode cX4_theDie 6 = .ok (.getfield 10, 3) := by decide +kernel
theorem dX4_theDie_9 : decode cX4_theDie 9 = .ok (.invokevirtual 81, 3) := by decide +kernel
theorem dX4_theDie_12 : decode cX4_theDie 12 = .ok (.if_icmp .lt 13, 3) := by decide +kernel
theorem dX4_theDie_15 : decode cX4_theDie 15 = .ok (.new 38, 3) := by decide +kernel
theorem dX4_theDie_18 : decode cX4_theDie 18 = .ok (.dup, 1) := by decide +kernel
theorem dX4_theDie_19 : decode cX4_theDie 19 = .ok (.ldc 216, 2) := by decide +kernel
theorem dX4_theDie_21 : decode cX4_theDie 21 = .ok (.invokespecial 42, 3) := by decide +kernel
theorem dX4_theDie_24 : decode cX4_theDie 24 = .ok (.athrow, 1) := by decide +kernel
theorem dX4_theDie_25 : decode cX4_theDie 25 = .ok (.aload_n 0, 1) := by decide +kernel
theorem dX4_theDie_26 : decode cX4_theDie 26 = .ok (.getfield 10, 3) := by decide +kernel
theorem dX4_theDie_29 : decode cX4_theDie 29 = .ok (.iload_n 1, 1) := by decide +kernel
theorem dX4_theDie_30 : decode cX4_theDie 30 = .ok (.invokevirtual 132, 3) := by decide +kernel
theorem dX4_theDie_33 : decode cX4_theDie 33 = .ok (.checkcast 59, 3) := by decide +kernel
theorem dX4_theDie_36 : decode cX4_theDie 36 = .ok (.areturn, 1) := by decide +kernel
theorem dX4_theCoin_0 : decode cX4_theCoin 0 = .ok (.iload_n 1, 1) := by decide +kernel
theorem dX4_theCoin_1 : decode cX4_theCoin 1 = .ok (.ifCond .lt 14, 3) := by decide +kernel
theorem dX4_theCoin_4 : decode cX4_theCoin 4 = .ok (.iload_n 1, 1) := by decide +kernel
theorem dX4_theCoin_5 : decode cX4_theCoin 5 = .ok (.aload_n 0, 1) := by decide +kernel
theorem dX4_theCoin_6 : decode cX4_theCoin 6 = .ok (.getfield 16, 3) := by decide +kernel
theorem dX4_theCoin_9 : decode cX4_theCoin 9 = .ok (.invokevirtual 81, 3) := by decide +kernel
theorem dX4_theCoin_12 : decode cX4_theCoin 12 = .ok (.if_icmp .lt 13, 3) := by decide +kernel
theorem dX4_theCoin_15 : decode cX4_theCoin 15 = .ok (.new 38, 3) := by decide +kernel
theorem dX4_theCoin_18 : decode cX4_theCoin 18 = .ok (.dup, 1) := by decide +kernel
theorem dX4_theCoin_19 : decode cX4_theCoin 19 = .ok (.ldc 218, 2) := by decide +kernel
theorem dX4_theCoin_21 : decode cX4_theCoin 21 = .ok (.invokespecial 42, 3) := by decide +kernel
theorem dX4_theCoin_24 : decode cX4_theCoin 24 = .ok (.athrow, 1) := by decide +kernel
theorem dX4_theCoin_25 : decode cX4_theCoin 25 = .ok (.aload_n 0, 1) := by decide +kernel
theorem dX4_theCoin_26 : decode cX4_theCoin 26 = .ok (.getfield 16, 3) := by decide +kernel
theorem dX4_theCoin_29 : decode cX4_theCoin 29 = .ok (.iload_n 1, 1) := by decide +kernel
theorem dX4_theCoin_30 : decode cX4_theCoin 30 = .ok (.invokevirtual 132, 3) := by decide +kernel
theorem dX4_theCoin_33 : decode cX4_theCoin 33 = .ok (.checkcast 88, 3) := by decide +kernel
theorem dX4_theCoin_36 : decode cX4_theCoin 36 = .ok (.areturn, 1) := by decide +kernel
theorem dX4_theCollector_0 : decode cX4_theCollector 0 = .ok (.iload_n 1, 1) := by decide +kernel
theorem dX4_theCollector_1 : decode cX4_theCollector 1 = .ok (.ifCond .lt 9, 3) := by decide +kernel
theorem dX4_theCollector_4 : decode cX4_theCollector 4 = .ok (.iload_n 1, 1) := by decide +kernel
theorem dX4_theCollector_5 : decode cX4_theCollector 5 = .ok (.bipush 8, 2) := by decide +kernel
theorem dX4_theCollector_7 : decode cX4_theCollector 7 = .ok (.if_icmp .lt 13, 3) := by decide +kernel
theorem dX4_theCollector_10 : decode cX4_theCollector 10 = .ok (.new 38, 3) := by decide +kernel
theorem dX4_theCollector_13 : decode cX4_theCollector 13 = .ok (.dup, 1) := by decide +kernel
theorem dX4_theCollector_14 : decode cX4_theCollector 14 = .ok (.ldc 220, 2) := by decide +kernel
theorem dX4_theCollector_16 : decode cX4_theCollector 16 = .ok (.invokespecial 42, 3) := by decide +kernel
theorem dX4_theCollector_19 : decode cX4_theCollector 19 = .ok (.athrow, 1) := by decide +kernel
theorem dX4_theCollector_20 : decode cX4_theCollector 20 = .ok (.aload_n 0, 1) := by decide +kernel
theorem dX4_theCollector_21 : decode cX4_theCollector 21 = .ok (.getfield 21, 3) := by decide +kernel
theorem dX4_theCollector_24 : decode cX4_theCollector 24 = .ok (.iload_n 1, 1) := by decide +kernel
theorem dX4_theCollector_25 : decode cX4_theCollector 25 = .ok (.aaload, 1) := by decide +kernel
theorem dX4_theCollector_26 : decode cX4_theCollector 26 = .ok (.areturn, 1) := by decide +kernel
theorem dX4_newDie_0 : decode cX4_newDie 0 = .ok (.aload_n 0, 1) := by decide +kernel
theorem dX4_newDie_1 : decode cX4_newDie 1 = .ok (.getfield 10, 3) := by decide +kernel
theorem dX4_newDie_4 : decode cX4_newDie 4 = .ok (.invokevirtual 81, 3) := by decide +kernel
theorem dX4_newDie_7 : decode cX4_newDie 7 = .ok (.istore_n 3, 1) := by decide +kernel
theorem dX4_newDie_8 : decode cX4_newDie 8 = .ok (.iload_n 3, 1) := by decide +kernel
theorem dX4_newDie_9 : decode cX4_newDie 9 = .ok (.bipush 16, 2) := by decide +kernel
theorem dX4_newDie_11 : decode cX4_newDie 11 = .ok (.if_icmp .lt 13, 3) := by decide +kernel
theorem dX4_newDie_14 : decode cX4_newDie 14 = .ok (.new 68, 3) := by decide +kernel
theorem dX4_newDie_17 : decode cX4_newDie 17 = .ok (.dup, 1) := by decide +kernel
theorem dX4_newDie_18 : decode cX4_newDie 18 = .ok (.ldc 222, 2) := by decide +kernel
theorem dX4_newDie_20 : decode cX4_newDie 20 = .ok (.invokespecial 72, 3) := by decide +kernel
theorem dX4_newDie_23 : decode cX4_newDie 23 = .ok (.athrow, 1) := by decide +kernel
theorem dX4_newDie_24 : decode cX4_newDie 24 = .ok (.aload_n 0, 1) := by decide +kernel
theorem dX4_newDie_25 : decode cX4_newDie 25 = .ok (.getfield 10, 3) := by decide +kernel
theorem dX4_newDie_28 : decode cX4_newDie 28 = .ok (.new 59, 3) := by decide +kernel
theorem dX4_newDie_31 : decode cX4_newDie 31 = .ok (.dup, 1) := by decide +kernel
theorem dX4_newDie_32 : decode cX4_newDie 32 = .ok (.iload_n 3, 1) := by decide +kernel
theorem dX4_newDie_33 : decode cX4_newDie 33 = .ok (.iload_n 1, 1) := by decide +kernel
theorem dX4_newDie_34 : decode cX4_newDie 34 = .ok (.iload_n 2, 1) := by decide +kernel
theorem dX4_newDie_35 : decode cX4_newDie 35 = .ok (.invokespecial 224, 3) := by decide +kernel
theorem dX4_newDie_38 : decode cX4_newDie 38 = .ok (.invokevirtual 93, 3) := by decide +kernel
theorem dX4_newDie_41 : decode cX4_newDie 41 = .ok (.pop, 1) := by decide +kernel
theorem dX4_newDie_42 : decode cX4_newDie 42 = .ok (.iload_n 3, 1) := by decide +kernel
theorem dX4_newDie_43 : decode cX4_newDie 43 = .ok (.ireturn, 1) := by decide +kernel
theorem dX4_provedSource_0 : decode cX4_provedSource 0 = .ok (.aload_n 1, 1) := by decide +kernel
theorem dX4_provedSource_1 : decode cX4_provedSource 1 = .ok (.invokevirtual 227, 3) := by decide +kernel
theorem dX4_provedSource_4 : decode cX4_provedSource 4 = .ok (.astore_n 2, 1) := by decide +kernel
theorem dX4_provedSource_5 : decode cX4_provedSource 5 = .ok (.aload_n 2, 1) := by decide +kernel
theorem dX4_provedSource_6 : decode cX4_provedSource 6 = .ok (.ifnull 14, 3) := by decide +kernel
theorem dX4_provedSource_9 : decode cX4_provedSource 9 = .ok (.aload_n 2, 1) := by decide +kernel
theorem dX4_provedSource_10 : decode cX4_provedSource 10 = .ok (.getfield 116, 3) := by decide +kernel
theorem dX4_provedSource_13 : decode cX4_provedSource 13 = .ok (.invokestatic 73, 3) := by decide +kernel
theorem dX4_provedSource_16 : decode cX4_provedSource 16 = .ok (.iconst 2, 1) := by decide +kernel
theorem dX4_provedSource_17 : decode cX4_provedSource 17 = .ok (.if_icmp .ge 5, 3) := by decide +kernel
theorem dX4_provedSource_20 : decode cX4_provedSource 20 = .ok (.iconst (-1), 1) := by decide +kernel
theorem dX4_provedSource_21 : decode cX4_provedSource 21 = .ok (.ireturn, 1) := by decide +kernel
theorem dX4_provedSource_22 : decode cX4_provedSource 22 = .ok (.iconst 0, 1) := by decide +kernel
theorem dX4_provedSource_23 : decode cX4_provedSource 23 = .ok (.istore_n 3, 1) := by decide +kernel
theorem dX4_provedSource_24 : decode cX4_provedSource 24 = .ok (.iload_n 3, 1) := by decide +kernel
theorem dX4_provedSource_25 : decode cX4_provedSource 25 = .ok (.aload_n 0, 1) := by decide +kernel
theorem dX4_provedSource_26 : decode cX4_provedSource 26 = .ok (.getfield 10, 3) := by decide +kernel
theorem dX4_provedSource_29 : decode cX4_provedSource 29 = .ok (.invokevirtual 81, 3) := by decide +kernel
theorem dX4_provedSource_32 : decode cX4_provedSource 32 = .ok (.if_icmp .ge 74, 3) := by decide +kernel
theorem dX4_provedSource_35 : decode cX4_provedSource 35 = .ok (.aload_n 0, 1) := by decide +kernel
theorem dX4_provedSource_36 : decode cX4_provedSource 36 = .ok (.getfield 10, 3) := by decide +kernel
theorem dX4_provedSource_39 : decode cX4_provedSource 39 = .ok (.iload_n 3, 1) := by decide +kernel
theorem dX4_provedSource_40 : decode cX4_provedSource 40 = .ok (.invokevirtual 132, 3) := by decide +kernel
theorem dX4_provedSource_43 : decode cX4_provedSource 43 = .ok (.checkcast 59, 3) := by decide +kernel
theorem dX4_provedSource_46 : decode cX4_provedSource 46 = .ok (.astore 4, 2) := by decide +kernel
theorem dX4_provedSource_48 : decode cX4_provedSource 48 = .ok (.aload 4, 2) := by decide +kernel
theorem dX4_provedSource_50 : decode cX4_provedSource 50 = .ok (.aload_n 1, 1) := by decide +kernel
theorem dX4_provedSource_51 : decode cX4_provedSource 51 = .ok (.if_acmp .eq 49, 3) := by decide +kernel
theorem dX4_provedSource_54 : decode cX4_provedSource 54 = .ok (.aload 4, 2) := by decide +kernel
theorem dX4_provedSource_56 : decode cX4_provedSource 56 = .ok (.getfield 113, 3) := by decide +kernel
theorem dX4_provedSource_59 : decode cX4_provedSource 59 = .ok (.aload_n 1, 1) := by decide +kernel
theorem dX4_provedSource_60 : decode cX4_provedSource 60 = .ok (.getfield 113, 3) := by decide +kernel
theorem dX4_provedSource_63 : decode cX4_provedSource 63 = .ok (.if_icmp .ne 37, 3) := by decide +kernel
theorem dX4_provedSource_66 : decode cX4_provedSource 66 = .ok (.aload 4, 2) := by decide +kernel
theorem dX4_provedSource_68 : decode cX4_provedSource 68 = .ok (.aload_n 2, 1) := by decide +kernel
theorem dX4_provedSource_69 : decode cX4_provedSource 69 = .ok (.getfield 116, 3) := by decide +kernel
theorem dX4_provedSource_72 : decode cX4_provedSource 72 = .ok (.invokevirtual 136, 3) := by decide +kernel
theorem dX4_provedSource_75 : decode cX4_provedSource 75 = .ok (.astore 5, 2) := by decide +kernel
theorem dX4_provedSource_77 : decode cX4_provedSource 77 = .ok (.aload 5, 2) := by decide +kernel
theorem dX4_provedSource_79 : decode cX4_provedSource 79 = .ok (.ifnull 21, 3) := by decide +kernel
theorem dX4_provedSource_82 : decode cX4_provedSource 82 = .ok (.aload 5, 2) := by decide +kernel
theorem dX4_provedSource_84 : decode cX4_provedSource 84 = .ok (.getfield 192, 3) := by decide +kernel
theorem dX4_provedSource_87 : decode cX4_provedSource 87 = .ok (.aload_n 2, 1) := by decide +kernel
theorem dX4_provedSource_88 : decode cX4_provedSource 88 = .ok (.getfield 192, 3) := by decide +kernel
theorem dX4_provedSource_91 : decode cX4_provedSource 91 = .ok (.if_icmp .ge 9, 3) := by decide +kernel
theorem dX4_provedSource_94 : decode cX4_provedSource 94 = .ok (.aload 4, 2) := by decide +kernel
theorem dX4_provedSource_96 : decode cX4_provedSource 96 = .ok (.getfield 231, 3) := by decide +kernel
theorem dX4_provedSource_99 : decode cX4_provedSource 99 = .ok (.ireturn, 1) := by decide +kernel
theorem dX4_provedSource_100 : decode cX4_provedSource 100 = .ok (.iinc 3 1, 3) := by decide +kernel
theorem dX4_provedSource_103 : decode cX4_provedSource 103 = .ok (.goto (-79), 3) := by decide +kernel
theorem dX4_provedSource_106 : decode cX4_provedSource 106 = .ok (.iconst (-1), 1) := by decide +kernel
theorem dX4_provedSource_107 : decode cX4_provedSource 107 = .ok (.ireturn, 1) := by decide +kernel
theorem dX4_findRing_0 : decode cX4_findRing 0 = .ok (.aload_n 0, 1) := by decide +kernel
theorem dX4_findRing_1 : decode cX4_findRing 1 = .ok (.getfield 21, 3) := by decide +kernel
theorem dX4_findRing_4 : decode cX4_findRing 4 = .ok (.astore_n 1, 1) := by decide +kernel
theorem dX4_findRing_5 : decode cX4_findRing 5 = .ok (.aload_n 1, 1) := by decide +kernel
theorem dX4_findRing_6 : decode cX4_findRing 6 = .ok (.arraylength, 1) := by decide +kernel
theorem dX4_findRing_7 : decode cX4_findRing 7 = .ok (.istore_n 2, 1) := by decide +kernel
theorem dX4_findRing_8 : decode cX4_findRing 8 = .ok (.iconst 0, 1) := by decide +kernel
theorem dX4_findRing_9 : decode cX4_findRing 9 = .ok (.istore_n 3, 1) := by decide +kernel
theorem dX4_findRing_10 : decode cX4_findRing 10 = .ok (.iload_n 3, 1) := by decide +kernel
theorem dX4_findRing_11 : decode cX4_findRing 11 = .ok (.iload_n 2, 1) := by decide +kernel
theorem dX4_findRing_12 : decode cX4_findRing 12 = .ok (.if_icmp .ge 23, 3) := by decide +kernel
theorem dX4_findRing_15 : decode cX4_findRing 15 = .ok (.aload_n 1, 1) := by decide +kernel
theorem dX4_findRing_16 : decode cX4_findRing 16 = .ok (.iload_n 3, 1) := by decide +kernel
theorem dX4_findRing_17 : decode cX4_findRing 17 = .ok (.aaload, 1) := by decide +kernel
theorem dX4_findRing_18 : decode cX4_findRing 18 = .ok (.astore 4, 2) := by decide +kernel
theorem dX4_findRing_20 : decode cX4_findRing 20 = .ok (.aload 4, 2) := by decide +kernel
theorem dX4_findRing_22 : decode cX4_findRing 22 = .ok (.aload_n 0, 1) := by decide +kernel
theorem dX4_findRing_23 : decode cX4_findRing 23 = .ok (.getfield 10, 3) := by decide +kernel
theorem dX4_findRing_26 : decode cX4_findRing 26 = .ok (.invokevirtual 181, 3) := by decide +kernel
theorem dX4_findRing_29 : decode cX4_findRing 29 = .ok (.iinc 3 1, 3) := by decide +kernel
theorem dX4_findRing_32 : decode cX4_findRing 32 = .ok (.goto (-22), 3) := by decide +kernel
theorem dX4_findRing_35 : decode cX4_findRing 35 = .ok (.aload_n 0, 1) := by decide +kernel
theorem dX4_findRing_36 : decode cX4_findRing 36 = .ok (.getfield 31, 3) := by decide +kernel
theorem dX4_findRing_39 : decode cX4_findRing 39 = .ok (.invokevirtual 232, 3) := by decide +kernel
theorem dX4_findRing_42 : decode cX4_findRing 42 = .ok (.iconst 2, 1) := by decide +kernel
theorem dX4_findRing_43 : decode cX4_findRing 43 = .ok (.istore_n 1, 1) := by decide +kernel
theorem dX4_findRing_44 : decode cX4_findRing 44 = .ok (.iload_n 1, 1) := by decide +kernel
theorem dX4_findRing_45 : decode cX4_findRing 45 = .ok (.iconst 4, 1) := by decide +kernel
theorem dX4_findRing_46 : decode cX4_findRing 46 = .ok (.if_icmp .gt 26, 3) := by decide +kernel
theorem dX4_findRing_49 : decode cX4_findRing 49 = .ok (.aload_n 0, 1) := by decide +kernel
theorem dX4_findRing_50 : decode cX4_findRing 50 = .ok (.getfield 21, 3) := by decide +kernel
theorem dX4_findRing_53 : decode cX4_findRing 53 = .ok (.aload_n 0, 1) := by decide +kernel
theorem dX4_findRing_54 : decode cX4_findRing 54 = .ok (.getfield 31, 3) := by decide +kernel
theorem dX4_findRing_57 : decode cX4_findRing 57 = .ok (.iload_n 1, 1) := by decide +kernel
theorem dX4_findRing_58 : decode cX4_findRing 58 = .ok (.iconst 0, 1) := by decide +kernel
theorem dX4_findRing_59 : decode cX4_findRing 59 = .ok (.invokestatic 235, 3) := by decide +kernel
theorem dX4_findRing_62 : decode cX4_findRing 62 = .ok (.ifCond .eq 4, 3) := by decide +kernel
theorem dX4_findRing_65 : decode cX4_findRing 65 = .ok (.return_, 1) := by decide +kernel
theorem dX4_findRing_66 : decode cX4_findRing 66 = .ok (.iinc 1 1, 3) := by decide +kernel
theorem dX4_findRing_69 : decode cX4_findRing 69 = .ok (.goto (-25), 3) := by decide +kernel
theorem dX4_findRing_72 : decode cX4_findRing 72 = .ok (.return_, 1) := by decide +kernel
theorem dX4_lengthen_0 : decode cX4_lengthen 0 = .ok (.iload_n 3, 1) := by decide +kernel
theorem dX4_lengthen_1 : decode cX4_lengthen 1 = .ok (.iload_n 2, 1) := by decide +kernel
theorem dX4_lengthen_2 : decode cX4_lengthen 2 = .ok (.if_icmp .ge 8, 3) := by decide +kernel
theorem dX4_lengthen_5 : decode cX4_lengthen 5 = .ok (.iload_n 3, 1) := by decide +kernel
theorem dX4_lengthen_6 : decode cX4_lengthen 6 = .ok (.iconst 4, 1) := by decide +kernel
theorem dX4_lengthen_7 : decode cX4_lengthen 7 = .ok (.if_icmp .lt 8, 3) := by decide +kernel
theorem dX4_lengthen_10 : decode cX4_lengthen 10 = .ok (.aload_n 1, 1) := by decide +kernel
theorem dX4_lengthen_11 : decode cX4_lengthen 11 = .ok (.invokevirtual 239, 3) := by decide +kernel
theorem dX4_lengthen_14 : decode cX4_lengthen 14 = .ok (.ireturn, 1) := by decide +kernel
theorem dX4_lengthen_15 : decode cX4_lengthen 15 = .ok (.aload_n 0, 1) := by decide +kernel
theorem dX4_lengthen_16 : decode cX4_lengthen 16 = .ok (.astore 4, 2) := by decide +kernel
theorem dX4_lengthen_18 : decode cX4_lengthen 18 = .ok (.aload 4, 2) := by decide +kernel
theorem dX4_lengthen_20 : decode cX4_lengthen 20 = .ok (.arraylength, 1) := by decide +kernel
theorem dX4_lengthen_21 : decode cX4_lengthen 21 = .ok (.istore 5, 2) := by decide +kernel
theorem dX4_lengthen_23 : decode cX4_lengthen 23 = .ok (.iconst 0, 1) := by decide +kernel
theorem dX4_lengthen_24 : decode cX4_lengthen 24 = .ok (.istore 6, 2) := by decide +kernel
theorem dX4_lengthen_26 : decode cX4_lengthen 26 = .ok (.iload 6, 2) := by decide +kernel
theorem dX4_lengthen_28 : decode cX4_lengthen 28 = .ok (.iload 5, 2) := by decide +kernel
theorem dX4_lengthen_30 : decode cX4_lengthen 30 = .ok (.if_icmp .ge 102, 3) := by decide +kernel
theorem dX4_lengthen_33 : decode cX4_lengthen 33 = .ok (.aload 4, 2) := by decide +kernel
theorem dX4_lengthen_35 : decode cX4_lengthen 35 = .ok (.iload 6, 2) := by decide +kernel
theorem dX4_lengthen_37 : decode cX4_lengthen 37 = .ok (.aaload, 1) := by decide +kernel
theorem dX4_lengthen_38 : decode cX4_lengthen 38 = .ok (.astore 7, 2) := by decide +kernel
theorem dX4_lengthen_40 : decode cX4_lengthen 40 = .ok (.aload_n 1, 1) := by decide +kernel
theorem dX4_lengthen_41 : decode cX4_lengthen 41 = .ok (.aload 7, 2) := by decide +kernel
theorem dX4_lengthen_43 : decode cX4_lengthen 43 = .ok (.invokevirtual 242, 3) := by decide +kernel
theorem dX4_lengthen_46 : decode cX4_lengthen 46 = .ok (.ifCond .ne 6, 3) := by decide +kernel
theorem dX4_lengthen_49 : decode cX4_lengthen 49 = .ok (.goto 77, 3) := by decide +kernel
theorem dX4_lengthen_52 : decode cX4_lengthen 52 = .ok (.iconst 0, 1) := by decide +kernel
theorem dX4_lengthen_53 : decode cX4_lengthen 53 = .ok (.istore 8, 2) := by decide +kernel
theorem dX4_lengthen_55 : decode cX4_lengthen 55 = .ok (.iload 8, 2) := by decide +kernel
theorem dX4_lengthen_57 : decode cX4_lengthen 57 = .ok (.aload 7, 2) := by decide +kernel
theorem dX4_lengthen_59 : decode cX4_lengthen 59 = .ok (.getfield 185, 3) := by decide +kernel
theorem dX4_lengthen_62 : decode cX4_lengthen 62 = .ok (.invokevirtual 81, 3) := by decide +kernel
theorem dX4_lengthen_65 : decode cX4_lengthen 65 = .ok (.if_icmp .ge 61, 3) := by decide +kernel
theorem dX4_lengthen_68 : decode cX4_lengthen 68 = .ok (.aload 7, 2) := by decide +kernel
theorem dX4_lengthen_70 : decode cX4_lengthen 70 = .ok (.getfield 185, 3) := by decide +kernel
theorem dX4_lengthen_73 : decode cX4_lengthen 73 = .ok (.iload 8, 2) := by decide +kernel
theorem dX4_lengthen_75 : decode cX4_lengthen 75 = .ok (.invokevirtual 132, 3) := by decide +kernel
theorem dX4_lengthen_78 : decode cX4_lengthen 78 = .ok (.checkcast 88, 3) := by decide +kernel
theorem dX4_lengthen_81 : decode cX4_lengthen 81 = .ok (.astore 9, 2) := by decide +kernel
theorem dX4_lengthen_83 : decode cX4_lengthen 83 = .ok (.aload_n 1, 1) := by decide +kernel
theorem dX4_lengthen_84 : decode cX4_lengthen 84 = .ok (.aload 7, 2) := by decide +kernel
theorem dX4_lengthen_86 : decode cX4_lengthen 86 = .ok (.aload 9, 2) := by decide +kernel
theorem dX4_lengthen_88 : decode cX4_lengthen 88 = .ok (.invokevirtual 246, 3) := by decide +kernel
theorem dX4_lengthen_91 : decode cX4_lengthen 91 = .ok (.ifCond .eq 29, 3) := by decide +kernel
theorem dX4_lengthen_94 : decode cX4_lengthen 94 = .ok (.aload_n 1, 1) := by decide +kernel
theorem dX4_lengthen_95 : decode cX4_lengthen 95 = .ok (.aload 7, 2) := by decide +kernel
theorem dX4_lengthen_97 : decode cX4_lengthen 97 = .ok (.aload 9, 2) := by decide +kernel
theorem dX4_lengthen_99 : decode cX4_lengthen 99 = .ok (.invokevirtual 250, 3) := by decide +kernel
theorem dX4_lengthen_102 : decode cX4_lengthen 102 = .ok (.aload_n 0, 1) := by decide +kernel
theorem dX4_lengthen_103 : decode cX4_lengthen 103 = .ok (.aload_n 1, 1) := by decide +kernel
theorem dX4_lengthen_104 : decode cX4_lengthen 104 = .ok (.iload_n 2, 1) := by decide +kernel
theorem dX4_lengthen_105 : decode cX4_lengthen 105 = .ok (.iload_n 3, 1) := by decide +kernel
theorem dX4_lengthen_106 : decode cX4_lengthen 106 = .ok (.iconst 1, 1) := by decide +kernel
theorem dX4_lengthen_107 : decode cX4_lengthen 107 = .ok (.iadd, 1) := by decide +kernel
theorem dX4_lengthen_108 : decode cX4_lengthen 108 = .ok (.invokestatic 235, 3) := by decide +kernel
theorem dX4_lengthen_111 : decode cX4_lengthen 111 = .ok (.ifCond .eq 5, 3) := by decide +kernel
theorem dX4_lengthen_114 : decode cX4_lengthen 114 = .ok (.iconst 1, 1) := by decide +kernel
theorem dX4_lengthen_115 : decode cX4_lengthen 115 = .ok (.ireturn, 1) := by decide +kernel
theorem dX4_lengthen_116 : decode cX4_lengthen 116 = .ok (.aload_n 1, 1) := by decide +kernel
theorem dX4_lengthen_117 : decode cX4_lengthen 117 = .ok (.invokevirtual 253, 3) := by decide +kernel
theorem dX4_lengthen_120 : decode cX4_lengthen 120 = .ok (.iinc 8 1, 3) := by decide +kernel
theorem dX4_lengthen_123 : decode cX4_lengthen 123 = .ok (.goto (-68), 3) := by decide +kernel
theorem dX4_lengthen_126 : decode cX4_lengthen 126 = .ok (.iinc 6 1, 3) := by decide +kernel
theorem dX4_lengthen_129 : decode cX4_lengthen 129 = .ok (.goto (-103), 3) := by decide +kernel
theorem dX4_lengthen_132 : decode cX4_lengthen 132 = .ok (.iconst 0, 1) := by decide +kernel
theorem dX4_lengthen_133 : decode cX4_lengthen 133 = .ok (.ireturn, 1) := by decide +kernel
theorem dX5_init_0 : decode cX5_init 0 = .ok (.aload_n 0, 1) := by decide +kernel
theorem dX5_init_1 : decode cX5_init 1 = .ok (.invokespecial 1, 3) := by decide +kernel
theorem dX5_init_4 : decode cX5_init 4 = .ok (.aload_n 0, 1) := by decide +kernel
theorem dX5_init_5 : decode cX5_init 5 = .ok (.bipush 16, 2) := by decide +kernel
theorem dX5_init_7 : decode cX5_init 7 = .ok (.newarray .int, 2) := by decide +kernel
theorem dX5_init_9 : decode cX5_init 9 = .ok (.putfield 7, 3) := by decide +kernel
theorem dX5_init_12 : decode cX5_init 12 = .ok (.aload_n 0, 1) := by decide +kernel
theorem dX5_init_13 : decode cX5_init 13 = .ok (.bipush 16, 2) := by decide +kernel
theorem dX5_init_15 : decode cX5_init 15 = .ok (.newarray .int, 2) := by decide +kernel
theorem dX5_init_17 : decode cX5_init 17 = .ok (.putfield 13, 3) := by decide +kernel
theorem dX5_init_20 : decode cX5_init 20 = .ok (.aload_n 0, 1) := by decide +kernel
theorem dX5_init_21 : decode cX5_init 21 = .ok (.bipush 16, 2) := by decide +kernel
theorem dX5_init_23 : decode cX5_init 23 = .ok (.newarray .int, 2) := by decide +kernel
theorem dX5_init_25 : decode cX5_init 25 = .ok (.putfield 16, 3) := by decide +kernel
theorem dX5_init_28 : decode cX5_init 28 = .ok (.aload_n 0, 1) := by decide +kernel
theorem dX5_init_29 : decode cX5_init 29 = .ok (.bipush 16, 2) := by decide +kernel
theorem dX5_init_31 : decode cX5_init 31 = .ok (.newarray .int, 2) := by decide +kernel
theorem dX5_init_33 : decode cX5_init 33 = .ok (.putfield 19, 3) := by decide +kernel
theorem dX5_init_36 : decode cX5_init 36 = .ok (.aload_n 0, 1) := by decide +kernel
theorem dX5_init_37 : decode cX5_init 37 = .ok (.sipush 150, 3) := by decide +kernel
theorem dX5_init_40 : decode cX5_init 40 = .ok (.newarray .int, 2) := by decide +kernel
theorem dX5_init_42 : decode cX5_init 42 = .ok (.putfield 22, 3) := by decide +kernel
theorem dX5_init_45 : decode cX5_init 45 = .ok (.aload_n 0, 1) := by decide +kernel
theorem dX5_init_46 : decode cX5_init 46 = .ok (.sipush 150, 3) := by decide +kernel
theorem dX5_init_49 : decode cX5_init 49 = .ok (.newarray .int, 2) := by decide +kernel
theorem dX5_init_51 : decode cX5_init 51 = .ok (.putfield 25, 3) := by decide +kernel
theorem dX5_init_54 : decode cX5_init 54 = .ok (.aload_n 0, 1) := by decide +kernel
theorem dX5_init_55 : decode cX5_init 55 = .ok (.sipush 150, 3) := by decide +kernel
theorem dX5_init_58 : decode cX5_init 58 = .ok (.newarray .int, 2) := by decide +kernel
theorem dX5_init_60 : decode cX5_init 60 = .ok (.putfield 28, 3) := by decide +kernel
theorem dX5_init_63 : decode cX5_init 63 = .ok (.aload_n 0, 1) := by decide +kernel
theorem dX5_init_64 : decode cX5_init 64 = .ok (.sipush 150, 3) := by decide +kernel
theorem dX5_init_67 : decode cX5_init 67 = .ok (.newarray .int, 2) := by decide +kernel
theorem dX5_init_69 : decode cX5_init 69 = .ok (.putfield 31, 3) := by decide +kernel
theorem dX5_init_72 : decode cX5_init 72 = .ok (.aload_n 0, 1) := by decide +kernel
theorem dX5_init_73 : decode cX5_init 73 = .ok (.sipush 150, 3) := by decide +kernel
theorem dX5_init_76 : decode cX5_init 76 = .ok (.newarray .int, 2) := by decide +kernel
theorem dX5_init_78 : decode cX5_init 78 = .ok (.putfield 34, 3) := by decide +kernel
theorem dX5_init_81 : decode cX5_init 81 = .ok (.aload_n 0, 1) := by decide +kernel
theorem dX5_init_82 : decode cX5_init 82 = .ok (.bipush 8, 2) := by decide +kernel
theorem dX5_init_84 : decode cX5_init 84 = .ok (.newarray .int, 2) := by decide +kernel
theorem dX5_init_86 : decode cX5_init 86 = .ok (.putfield 37, 3) := by decide +kernel
theorem dX5_init_89 : decode cX5_init 89 = .ok (.aload_n 0, 1) := by decide +kernel
theorem dX5_init_90 : decode cX5_init 90 = .ok (.bipush 8, 2) := by decide +kernel
theorem dX5_init_92 : decode cX5_init 92 = .ok (.newarray .int, 2) := by decide +kernel
theorem dX5_init_94 : decode cX5_init 94 = .ok (.putfield 40, 3) := by decide +kernel
theorem dX5_init_97 : decode cX5_init 97 = .ok (.aload_n 0, 1) := by decide +kernel
theorem dX5_init_98 : decode cX5_init 98 = .ok (.bipush 60, 2) := by decide +kernel
theorem dX5_init_100 : decode cX5_init 100 = .ok (.newarray .int, 2) := by decide +kernel
theorem dX5_init_102 : decode cX5_init 102 = .ok (.putfield 43, 3) := by decide +kernel
theorem dX5_init_105 : decode cX5_init 105 = .ok (.aload_n 0, 1) := by decide +kernel
theorem dX5_init_106 : decode cX5_init 106 = .ok (.sipush 240, 3) := by decide +kernel
theorem dX5_init_109 : decode cX5_init 109 = .ok (.newarray .int, 2) := by decide +kernel
theorem dX5_init_111 : decode cX5_init 111 = .ok (.putfield 46, 3) := by decide +kernel
theorem dX5_init_114 : decode cX5_init 114 = .ok (.aload_n 0, 1) := by decide +kernel
theorem dX5_init_115 : decode cX5_init 115 = .ok (.iconst 4, 1) := by decide +kernel
theorem dX5_init_116 : decode cX5_init 116 = .ok (.newarray .int, 2) := by decide +kernel
theorem dX5_init_118 : decode cX5_init 118 = .ok (.putfield 49, 3) := by decide +kernel
theorem dX5_init_121 : decode cX5_init 121 = .ok (.iconst 0, 1) := by decide +kernel
theorem dX5_init_122 : decode cX5_init 122 = .ok (.istore_n 1, 1) := by decide +kernel
theorem dX5_init_123 : decode cX5_init 123 = .ok (.iload_n 1, 1) := by decide +kernel
theorem dX5_init_124 : decode cX5_init 124 = .ok (.bipush 8, 2) := by decide +kernel
theorem dX5_init_126 : decode cX5_init 126 = .ok (.if_icmp .ge 17, 3) := by decide +kernel
theorem dX5_init_129 : decode cX5_init 129 = .ok (.aload_n 0, 1) := by decide +kernel
theorem dX5_init_130 : decode cX5_init 130 = .ok (.getfield 40, 3) := by decide +kernel
theorem dX5_init_133 : decode cX5_init 133 = .ok (.iload_n 1, 1) := by decide +kernel
theorem dX5_init_134 : decode cX5_init 134 = .ok (.bipush 50, 2) := by decide +kernel
theorem dX5_init_136 : decode cX5_init 136 = .ok (.iastore, 1) := by decide +kernel
theorem dX5_init_137 : decode cX5_init 137 = .ok (.iinc 1 1, 3) := by decide +kernel
theorem dX5_init_140 : decode cX5_init 140 = .ok (.goto (-17), 3) := by decide +kernel
theorem dX5_init_143 : decode cX5_init 143 = .ok (.return_, 1) := by decide +kernel
theorem dX5_thrown_0 : decode cX5_thrown 0 = .ok (.aload_n 0, 1) := by decide +kernel
theorem dX5_thrown_1 : decode cX5_thrown 1 = .ok (.getfield 52, 3) := by decide +kernel
theorem dX5_thrown_4 : decode cX5_thrown 4 = .ok (.ireturn, 1) := by decide +kernel
theorem dX5_in_0 : decode cX5_in 0 = .ok (.iload_n 0, 1) := by decide +kernel
theorem dX5_in_1 : decode cX5_in 1 = .ok (.iload_n 1, 1) := by decide +kernel
theorem dX5_in_2 : decode cX5_in 2 = .ok (.if_icmp .lt 12, 3) := by decide +kernel
theorem dX5_in_5 : decode cX5_in 5 = .ok (.iload_n 0, 1) := by decide +kernel
theorem dX5_in_6 : decode cX5_in 6 = .ok (.iload_n 2, 1) := by decide +kernel
theorem dX5_in_7 : decode cX5_in 7 = .ok (.if_icmp .gt 7, 3) := by decide +kernel
theorem dX5_in_10 : decode cX5_in 10 = .ok (.iconst 1, 1) := by decide +kernel
theorem dX5_in_11 : decode cX5_in 11 = .ok (.goto 4, 3) := by decide +kernel
theorem dX5_in_14 : decode cX5_in 14 = .ok (.iconst 0, 1) := by decide +kernel
theorem dX5_in_15 : decode cX5_in 15 = .ok (.ireturn, 1) := by decide +kernel
theorem dX5_isDie_0 : decode cX5_isDie 0 = .ok (.iload_n 1, 1) := by decide +kernel
theorem dX5_isDie_1 : decode cX5_isDie 1 = .ok (.iconst 0, 1) := by decide +kernel
theorem dX5_isDie_2 : decode cX5_isDie 2 = .ok (.aload_n 0, 1) := by decide +kernel
theorem dX5_isDie_3 : decode cX5_isDie 3 = .ok (.getfield 56, 3) := by decide +kernel
theorem dX5_isDie_6 : decode cX5_isDie 6 = .ok (.iconst 1, 1) := by decide +kernel
theorem dX5_isDie_7 : decode cX5_isDie 7 = .ok (.isub, 1) := by decide +kernel
theorem dX5_isDie_8 : decode cX5_isDie 8 = .ok (.invokestatic 59, 3) := by decide +kernel
theorem dX5_isDie_11 : decode cX5_isDie 11 = .ok (.ireturn, 1) := by decide +kernel
theorem dX5_isCoin_0 : decode cX5_isCoin 0 = .ok (.iload_n 1, 1) := by decide +kernel
theorem dX5_isCoin_1 : decode cX5_isCoin 1 = .ok (.iconst 0, 1) := by decide +kernel
theorem dX5_isCoin_2 : decode cX5_isCoin 2 = .ok (.aload_n 0, 1) := by decide +kernel
theorem dX5_isCoin_3 : decode cX5_isCoin 3 = .ok (.getfield 63, 3) := by decide +kernel
theorem dX5_isCoin_6 : decode cX5_isCoin 6 = .ok (.iconst 1, 1) := by decide +kernel
theorem dX5_isCoin_7 : decode cX5_isCoin 7 = .ok (.isub, 1) := by decide +kernel
theorem dX5_isCoin_8 : decode cX5_isCoin 8 = .ok (.invokestatic 59, 3) := by decide +kernel
theorem dX5_isCoin_11 : decode cX5_isCoin 11 = .ok (.ireturn, 1) := by decide +kernel
theorem dX5_isCollector_0 : decode cX5_isCollector 0 = .ok (.iload_n 0, 1) := by decide +kernel
theorem dX5_isCollector_1 : decode cX5_isCollector 1 = .ok (.iconst 0, 1) := by decide +kernel
theorem dX5_isCollector_2 : decode cX5_isCollector 2 = .ok (.bipush 7, 2) := by decide +kernel
theorem dX5_isCollector_4 : decode cX5_isCollector 4 = .ok (.invokestatic 59, 3) := by decide +kernel
theorem dX5_isCollector_7 : decode cX5_isCollector 7 = .ok (.ireturn, 1) := by decide +kernel
theorem dX5_count_0 : decode cX5_count 0 = .ok (.iconst 0, 1) := by decide +kernel
theorem dX5_count_1 : decode cX5_count 1 = .ok (.istore_n 1, 1) := by decide +kernel
theorem dX5_count_2 : decode cX5_count 2 = .ok (.iconst 0, 1) := by decide +kernel
theorem dX5_count_3 : decode cX5_count 3 = .ok (.istore_n 2, 1) := by decide +kernel
theorem dX5_count_4 : decode cX5_count 4 = .ok (.iload_n 2, 1) := by decide +kernel
theorem dX5_count_5 : decode cX5_count 5 = .ok (.bipush 16, 2) := by decide +kernel
theorem dX5_count_7 : decode cX5_count 7 = .ok (.if_icmp .ge 17, 3) := by decide +kernel
theorem dX5_count_10 : decode cX5_count 10 = .ok (.iload_n 1, 1) := by decide +kernel
theorem dX5_count_11 : decode cX5_count 11 = .ok (.iload_n 0, 1) := by decide +kernel
theorem dX5_count_12 : decode cX5_count 12 = .ok (.iload_n 2, 1) := by decide +kernel
theorem dX5_count_13 : decode cX5_count 13 = .ok (.ishr, 1) := by decide +kernel
theorem dX5_count_14 : decode cX5_count 14 = .ok (.iconst 1, 1) := by decide +kernel
theorem dX5_count_15 : decode cX5_count 15 = .ok (.iand, 1) := by decide +kernel
theorem dX5_count_16 : decode cX5_count 16 = .ok (.iadd, 1) := by decide +kernel
theorem dX5_count_17 : decode cX5_count 17 = .ok (.istore_n 1, 1) := by decide +kernel
theorem dX5_count_18 : decode cX5_count 18 = .ok (.iinc 2 1, 3) := by decide +kernel
theorem dX5_count_21 : decode cX5_count 21 = .ok (.goto (-17), 3) := by decide +kernel
theorem dX5_count_24 : decode cX5_count 24 = .ok (.iload_n 1, 1) := by decide +kernel
theorem dX5_count_25 : decode cX5_count 25 = .ok (.ireturn, 1) := by decide +kernel
theorem dX5_addDie_0 : decode cX5_addDie 0 = .ok (.aload_n 0, 1) := by decide +kernel
theorem dX5_addDie_1 : decode cX5_addDie 1 = .ok (.iload_n 1, 1) := by decide +kernel
theorem dX5_addDie_2 : decode cX5_addDie 2 = .ok (.iconst 0, 1) := by decide +kernel
theorem dX5_addDie_3 : decode cX5_addDie 3 = .ok (.iconst 3, 1) := by decide +kernel
theorem dX5_addDie_4 : decode cX5_addDie 4 = .ok (.invokestatic 59, 3) := by decide +kernel
theorem dX5_addDie_7 : decode cX5_addDie 7 = .ok (.ifCond .ne 7, 3) := by decide +kernel
theorem dX5_addDie_10 : decode cX5_addDie 10 = .ok (.iconst 1, 1) := by decide +kernel
theorem dX5_addDie_11 : decode cX5_addDie 11 = .ok (.goto 17, 3) := by decide +kernel
theorem dX5_addDie_14 : decode cX5_addDie 14 = .ok (.aload_n 0, 1) := by decide +kernel
theorem dX5_addDie_15 : decode cX5_addDie 15 = .ok (.getfield 56, 3) := by decide +kernel
theorem dX5_addDie_18 : decode cX5_addDie 18 = .ok (.bipush 16, 2) := by decide +kernel
theorem dX5_addDie_20 : decode cX5_addDie 20 = .ok (.if_icmp .ne 7, 3) := by decide +kernel
theorem dX5_addDie_23 : decode cX5_addDie 23 = .ok (.iconst 2, 1) := by decide +kernel
theorem dX5_addDie_24 : decode cX5_addDie 24 = .ok (.goto 4, 3) := by decide +kernel
theorem dX5_addDie_27 : decode cX5_addDie 27 = .ok (.iconst 0, 1) := by decide +kernel
theorem dX5_addDie_28 : decode cX5_addDie 28 = .ok (.putfield 52, 3) := by decide +kernel
theorem dX5_addDie_31 : decode cX5_addDie 31 = .ok (.aload_n 0, 1) := by decide +kernel
theorem dX5_addDie_32 : decode cX5_addDie 32 = .ok (.getfield 52, 3) := by decide +kernel
theorem dX5_addDie_35 : decode cX5_addDie 35 = .ok (.ifCond .le 5, 3) := by decide +kernel
theorem dX5_addDie_38 : decode cX5_addDie 38 = .ok (.iconst 0, 1) := by decide +kernel
theorem dX5_addDie_39 : decode cX5_addDie 39 = .ok (.ireturn, 1) := by decide +kernel
theorem dX5_addDie_40 : decode cX5_addDie 40 = .ok (.aload_n 0, 1) := by decide +kernel
theorem dX5_addDie_41 : decode cX5_addDie 41 = .ok (.getfield 7, 3) := by decide +kernel
theorem dX5_addDie_44 : decode cX5_addDie 44 = .ok (.aload_n 0, 1) := by decide +kernel
theorem dX5_addDie_45 : decode cX5_addDie 45 = .ok (.getfield 56, 3) := by decide +kernel
theorem dX5_addDie_48 : decode cX5_addDie 48 = .ok (.iload_n 1, 1) := by decide +kernel
theorem dX5_addDie_49 : decode cX5_addDie 49 = .ok (.iastore, 1) := by decide +kernel
theorem dX5_addDie_50 : decode cX5_addDie 50 = .ok (.aload_n 0, 1) := by decide +kernel
theorem dX5_addDie_51 : decode cX5_addDie 51 = .ok (.dup, 1) := by decide +kernel
theorem dX5_addDie_52 : decode cX5_addDie 52 = .ok (.getfield 56, 3) := by decide +kernel
theorem dX5_addDie_55 : decode cX5_addDie 55 = .ok (.iconst 1, 1) := by decide +kernel
theorem dX5_addDie_56 : decode cX5_addDie 56 = .ok (.iadd, 1) := by decide +kernel
theorem dX5_addDie_57 : decode cX5_addDie 57 = .ok (.putfield 56, 3) := by decide +kernel
theorem dX5_addDie_60 : decode cX5_addDie 60 = .ok (.aload_n 0, 1) := by decide +kernel
theorem dX5_addDie_61 : decode cX5_addDie 61 = .ok (.getfield 56, 3) := by decide +kernel
theorem dX5_addDie_64 : decode cX5_addDie 64 = .ok (.iconst 1, 1) := by decide +kernel
theorem dX5_addDie_65 : decode cX5_addDie 65 = .ok (.isub, 1) := by decide +kernel
theorem dX5_addDie_66 : decode cX5_addDie 66 = .ok (.ireturn, 1) := by decide +kernel
theorem dX5_crack_0 : decode cX5_crack 0 = .ok (.aload_n 0, 1) := by decide +kernel
theorem dX5_crack_1 : decode cX5_crack 1 = .ok (.aload_n 0, 1) := by decide +kernel
theorem dX5_crack_2 : decode cX5_crack 2 = .ok (.iload_n 1, 1) := by decide +kernel
theorem dX5_crack_3 : decode cX5_crack 3 = .ok (.invokevirtual 66, 3) := by decide +kernel
theorem dX5_crack_6 : decode cX5_crack 6 = .ok (.ifCond .ne 7, 3) := by decide +kernel
theorem dX5_crack_9 : decode cX5_crack 9 = .ok (.iconst 1, 1) := by decide +kernel
theorem dX5_crack_10 : decode cX5_crack 10 = .ok (.goto 46, 3) := by decide +kernel
theorem dX5_crack_13 : decode cX5_crack 13 = .ok (.iload_n 2, 1) := by decide +kernel
theorem dX5_crack_14 : decode cX5_crack 14 = .ok (.iconst 0, 1) := by decide +kernel
theorem dX5_crack_15 : decode cX5_crack 15 = .ok (.bipush 15, 2) := by decide +kernel
theorem dX5_crack_17 : decode cX5_crack 17 = .ok (.invokestatic 59, 3) := by decide +kernel
theorem dX5_crack_20 : decode cX5_crack 20 = .ok (.ifCond .ne 7, 3) := by decide +kernel
theorem dX5_crack_23 : decode cX5_crack 23 = .ok (.iconst 2, 1) := by decide +kernel
theorem dX5_crack_24 : decode cX5_crack 24 = .ok (.goto 32, 3) := by decide +kernel
theorem dX5_crack_27 : decode cX5_crack 27 = .ok (.aload_n 0, 1) := by decide +kernel
theorem dX5_crack_28 : decode cX5_crack 28 = .ok (.getfield 19, 3) := by decide +kernel
theorem dX5_crack_31 : decode cX5_crack 31 = .ok (.iload_n 1, 1) := by decide +kernel
theorem dX5_crack_32 : decode cX5_crack 32 = .ok (.iaload, 1) := by decide +kernel
theorem dX5_crack_33 : decode cX5_crack 33 = .ok (.iconst 1, 1) := by decide +kernel
theorem dX5_crack_34 : decode cX5_crack 34 = .ok (.if_icmp .eq 17, 3) := by decide +kernel
theorem dX5_crack_37 : decode cX5_crack 37 = .ok (.aload_n 0, 1) := by decide +kernel
theorem dX5_crack_38 : decode cX5_crack 38 = .ok (.getfield 13, 3) := by decide +kernel
theorem dX5_crack_41 : decode cX5_crack 41 = .ok (.iload_n 1, 1) := by decide +kernel
theorem dX5_crack_42 : decode cX5_crack 42 = .ok (.iaload, 1) := by decide +kernel
theorem dX5_crack_43 : decode cX5_crack 43 = .ok (.iload_n 2, 1) := by decide +kernel
theorem dX5_crack_44 : decode cX5_crack 44 = .ok (.ishr, 1) := by decide +kernel
theorem dX5_crack_45 : decode cX5_crack 45 = .ok (.iconst 1, 1) := by decide +kernel
theorem dX5_crack_46 : decode cX5_crack 46 = .ok (.iand, 1) := by decide +kernel
theorem dX5_crack_47 : decode cX5_crack 47 = .ok (.iconst 1, 1) := by decide +kernel
theorem dX5_crack_48 : decode cX5_crack 48 = .ok (.if_icmp .ne 7, 3) := by decide +kernel
theorem dX5_crack_51 : decode cX5_crack 51 = .ok (.iconst 3, 1) := by decide +kernel
theorem dX5_crack_52 : decode cX5_crack 52 = .ok (.goto 4, 3) := by decide +kernel
theorem dX5_crack_55 : decode cX5_crack 55 = .ok (.iconst 0, 1) := by decide +kernel
theorem dX5_crack_56 : decode cX5_crack 56 = .ok (.putfield 52, 3) := by decide +kernel
theorem dX5_crack_59 : decode cX5_crack 59 = .ok (.aload_n 0, 1) := by decide +kernel
theorem dX5_crack_60 : decode cX5_crack 60 = .ok (.getfield 52, 3) := by decide +kernel
theorem dX5_crack_63 : decode cX5_crack 63 = .ok (.ifCond .le 5, 3) := by decide +kernel
theorem dX5_crack_66 : decode cX5_crack 66 = .ok (.iconst 0, 1) := by decide +kernel
theorem dX5_crack_67 : decode cX5_crack 67 = .ok (.ireturn, 1) := by decide +kernel
theorem dX5_crack_68 : decode cX5_crack 68 = .ok (.aload_n 0, 1) := by decide +kernel
theorem dX5_crack_69 : decode cX5_crack 69 = .ok (.getfield 13, 3) := by decide +kernel
theorem dX5_crack_72 : decode cX5_crack 72 = .ok (.iload_n 1, 1) := by decide +kernel
theorem dX5_crack_73 : decode cX5_crack 73 = .ok (.dup2, 1) := by decide +kernel
theorem dX5_crack_74 : decode cX5_crack 74 = .ok (.iaload, 1) := by decide +kernel
theorem dX5_crack_75 : decode cX5_crack 75 = .ok (.iconst 1, 1) := by decide +kernel
theorem dX5_crack_76 : decode cX5_crack 76 = .ok (.iload_n 2, 1) := by decide +kernel
theorem dX5_crack_77 : decode cX5_crack 77 = .ok (.ishl, 1) := by decide +kernel
theorem dX5_crack_78 : decode cX5_crack 78 = .ok (.ior, 1) := by decide +kernel
theorem dX5_crack_79 : decode cX5_crack 79 = .ok (.iastore, 1) := by decide +kernel
theorem dX5_crack_80 : decode cX5_crack 80 = .ok (.aload_n 0, 1) := by decide +kernel
theorem dX5_crack_81 : decode cX5_crack 81 = .ok (.getfield 13, 3) := by decide +kernel
theorem dX5_crack_84 : decode cX5_crack 84 = .ok (.iload_n 1, 1) := by decide +kernel
theorem dX5_crack_85 : decode cX5_crack 85 = .ok (.iaload, 1) := by decide +kernel
theorem dX5_crack_86 : decode cX5_crack 86 = .ok (.invokestatic 70, 3) := by decide +kernel
theorem dX5_crack_89 : decode cX5_crack 89 = .ok (.ireturn, 1) := by decide +kernel
theorem dX5_strike_0 : decode cX5_strike 0 = .ok (.aload_n 0, 1) := by decide +kernel
theorem dX5_strike_1 : decode cX5_strike 1 = .ok (.aload_n 0, 1) := by decide +kernel
theorem dX5_strike_2 : decode cX5_strike 2 = .ok (.iload_n 1, 1) := by decide +kernel
theorem dX5_strike_3 : decode cX5_strike 3 = .ok (.invokevirtual 66, 3) := by decide +kernel
theorem dX5_strike_6 : decode cX5_strike 6 = .ok (.ifCond .ne 7, 3) := by decide +kernel
theorem dX5_strike_9 : decode cX5_strike 9 = .ok (.iconst 1, 1) := by decide +kernel
theorem dX5_strike_10 : decode cX5_strike 10 = .ok (.goto 57, 3) := by decide +kernel
theorem dX5_strike_13 : decode cX5_strike 13 = .ok (.iload_n 2, 1) := by decide +kernel
theorem dX5_strike_14 : decode cX5_strike 14 = .ok (.iconst 1, 1) := by decide +kernel
theorem dX5_strike_15 : decode cX5_strike 15 = .ok (.bipush 20, 2) := by decide +kernel
theorem dX5_strike_17 : decode cX5_strike 17 = .ok (.invokestatic 59, 3) := by decide +kernel
theorem dX5_strike_20 : decode cX5_strike 20 = .ok (.ifCond .ne 7, 3) := by decide +kernel
theorem dX5_strike_23 : decode cX5_strike 23 = .ok (.iconst 2, 1) := by decide +kernel
theorem dX5_strike_24 : decode cX5_strike 24 = .ok (.goto 43, 3) := by decide +kernel
theorem dX5_strike_27 : decode cX5_strike 27 = .ok (.aload_n 0, 1) := by decide +kernel
theorem dX5_strike_28 : decode cX5_strike 28 = .ok (.getfield 19, 3) := by decide +kernel
theorem dX5_strike_31 : decode cX5_strike 31 = .ok (.iload_n 1, 1) := by decide +kernel
theorem dX5_strike_32 : decode cX5_strike 32 = .ok (.iaload, 1) := by decide +kernel
theorem dX5_strike_33 : decode cX5_strike 33 = .ok (.iconst 1, 1) := by decide +kernel
theorem dX5_strike_34 : decode cX5_strike 34 = .ok (.if_icmp .eq 28, 3) := by decide +kernel
theorem dX5_strike_37 : decode cX5_strike 37 = .ok (.aload_n 0, 1) := by decide +kernel
theorem dX5_strike_38 : decode cX5_strike 38 = .ok (.getfield 16, 3) := by decide +kernel
theorem dX5_strike_41 : decode cX5_strike 41 = .ok (.iload_n 1, 1) := by decide +kernel
theorem dX5_strike_42 : decode cX5_strike 42 = .ok (.iaload, 1) := by decide +kernel
theorem dX5_strike_43 : decode cX5_strike 43 = .ok (.iload_n 2, 1) := by decide +kernel
theorem dX5_strike_44 : decode cX5_strike 44 = .ok (.iadd, 1) := by decide +kernel
theorem dX5_strike_45 : decode cX5_strike 45 = .ok (.bipush 40, 2) := by decide +kernel
theorem dX5_strike_47 : decode cX5_strike 47 = .ok (.if_icmp .gt 15, 3) := by decide +kernel
theorem dX5_strike_50 : decode cX5_strike 50 = .ok (.aload_n 0, 1) := by decide +kernel
theorem dX5_strike_51 : decode cX5_strike 51 = .ok (.getfield 63, 3) := by decide +kernel
theorem dX5_strike_54 : decode cX5_strike 54 = .ok (.iload_n 2, 1) := by decide +kernel
theorem dX5_strike_55 : decode cX5_strike 55 = .ok (.iadd, 1) := by decide +kernel
theorem dX5_strike_56 : decode cX5_strike 56 = .ok (.sipush 150, 3) := by decide +kernel
theorem dX5_strike_59 : decode cX5_strike 59 = .ok (.if_icmp .le 7, 3) := by decide +kernel
theorem dX5_strike_62 : decode cX5_strike 62 = .ok (.iconst 3, 1) := by decide +kernel
theorem dX5_strike_63 : decode cX5_strike 63 = .ok (.goto 4, 3) := by decide +kernel
theorem dX5_strike_66 : decode cX5_strike 66 = .ok (.iconst 0, 1) := by decide +kernel
theorem dX5_strike_67 : decode cX5_strike 67 = .ok (.putfield 52, 3) := by decide +kernel
theorem dX5_strike_70 : decode cX5_strike 70 = .ok (.aload_n 0, 1) := by decide +kernel
theorem dX5_strike_71 : decode cX5_strike 71 = .ok (.getfield 52, 3) := by decide +kernel
theorem dX5_strike_74 : decode cX5_strike 74 = .ok (.ifCond .le 5, 3) := by decide +kernel
theorem dX5_strike_77 : decode cX5_strike 77 = .ok (.iconst 0, 1) := by decide +kernel
theorem dX5_strike_78 : decode cX5_strike 78 = .ok (.ireturn, 1) := by decide +kernel
theorem dX5_strike_79 : decode cX5_strike 79 = .ok (.iconst 0, 1) := by decide +kernel
theorem dX5_strike_80 : decode cX5_strike 80 = .ok (.istore_n 3, 1) := by decide +kernel
theorem dX5_strike_81 : decode cX5_strike 81 = .ok (.iload_n 3, 1) := by decide +kernel
theorem dX5_strike_82 : decode cX5_strike 82 = .ok (.iload_n 2, 1) := by decide +kernel
theorem dX5_strike_83 : decode cX5_strike 83 = .ok (.if_icmp .ge 44, 3) := by decide +kernel
theorem dX5_strike_86 : decode cX5_strike 86 = .ok (.aload_n 0, 1) := by decide +kernel
theorem dX5_strike_87 : decode cX5_strike 87 = .ok (.getfield 22, 3) := by decide +kernel
theorem dX5_strike_90 : decode cX5_strike 90 = .ok (.aload_n 0, 1) := by decide +kernel
theorem dX5_strike_91 : decode cX5_strike 91 = .ok (.getfield 63, 3) := by decide +kernel
theorem dX5_strike_94 : decode cX5_strike 94 = .ok (.iload_n 1, 1) := by decide +kernel
theorem dX5_strike_95 : decode cX5_strike 95 = .ok (.iastore, 1) := by decide +kernel
theorem dX5_strike_96 : decode cX5_strike 96 = .ok (.aload_n 0, 1) := by decide +kernel
theorem dX5_strike_97 : decode cX5_strike 97 = .ok (.getfield 25, 3) := by decide +kernel
theorem dX5_strike_100 : decode cX5_strike 100 = .ok (.aload_n 0, 1) := by decide +kernel
theorem dX5_strike_101 : decode cX5_strike 101 = .ok (.getfield 63, 3) := by decide +kernel
theorem dX5_strike_104 : decode cX5_strike 104 = .ok (.aload_n 0, 1) := by decide +kernel
theorem dX5_strike_105 : decode cX5_strike 105 = .ok (.getfield 13, 3) := by decide +kernel
theorem dX5_strike_108 : decode cX5_strike 108 = .ok (.iload_n 1, 1) := by decide +kernel
theorem dX5_strike_109 : decode cX5_strike 109 = .ok (.iaload, 1) := by decide +kernel
theorem dX5_strike_110 : decode cX5_strike 110 = .ok (.iastore, 1) := by decide +kernel
theorem dX5_strike_111 : decode cX5_strike 111 = .ok (.aload_n 0, 1) := by decide +kernel
theorem dX5_strike_112 : decode cX5_strike 112 = .ok (.dup, 1) := by decide +kernel
theorem dX5_strike_113 : decode cX5_strike 113 = .ok (.getfield 63, 3) := by decide +kernel
theorem dX5_strike_116 : decode cX5_strike 116 = .ok (.iconst 1, 1) := by decide +kernel
theorem dX5_strike_117 : decode cX5_strike 117 = .ok (.iadd, 1) := by decide +kernel
theorem dX5_strike_118 : decode cX5_strike 118 = .ok (.putfield 63, 3) := by decide +kernel
theorem dX5_strike_121 : decode cX5_strike 121 = .ok (.iinc 3 1, 3) := by decide +kernel
theorem dX5_strike_124 : decode cX5_strike 124 = .ok (.goto (-43), 3) := by decide +kernel
theorem dX5_strike_127 : decode cX5_strike 127 = .ok (.aload_n 0, 1) := by decide +kernel
theorem dX5_strike_128 : decode cX5_strike 128 = .ok (.getfield 16, 3) := by decide +kernel
theorem dX5_strike_131 : decode cX5_strike 131 = .ok (.iload_n 1, 1) := by decide +kernel
theorem dX5_strike_132 : decode cX5_strike 132 = .ok (.dup2, 1) := by decide +kernel
theorem dX5_strike_133 : decode cX5_strike 133 = .ok (.iaload, 1) := by decide +kernel
theorem dX5_strike_134 : decode cX5_strike 134 = .ok (.iload_n 2, 1) := by decide +kernel
theorem dX5_strike_135 : decode cX5_strike 135 = .ok (.iadd, 1) := by decide +kernel
theorem dX5_strike_136 : decode cX5_strike 136 = .ok (.iastore, 1) := by decide +kernel
theorem dX5_strike_137 : decode cX5_strike 137 = .ok (.aload_n 0, 1) := by decide +kernel
theorem dX5_strike_138 : decode cX5_strike 138 = .ok (.getfield 63, 3) := by decide +kernel
theorem dX5_strike_141 : decode cX5_strike 141 = .ok (.iload_n 2, 1) := by decide +kernel
theorem dX5_strike_142 : decode cX5_strike 142 = .ok (.isub, 1) := by decide +kernel
theorem dX5_strike_143 : decode cX5_strike 143 = .ok (.ireturn, 1) := by decide +kernel
theorem dX5_cast_0 : decode cX5_cast 0 = .ok (.aload_n 0, 1) := by decide +kernel
theorem dX5_cast_1 : decode cX5_cast 1 = .ok (.aload_n 0, 1) := by decide +kernel
theorem dX5_cast_2 : decode cX5_cast 2 = .ok (.iload_n 1, 1) := by decide +kernel
theorem dX5_cast_3 : decode cX5_cast 3 = .ok (.invokevirtual 74, 3) := by decide +kernel
theorem dX5_cast_6 : decode cX5_cast 6 = .ok (.ifCond .ne 7, 3) := by decide +kernel
theorem dX5_cast_9 : decode cX5_cast 9 = .ok (.iconst 1, 1) := by decide +kernel
theorem dX5_cast_10 : decode cX5_cast 10 = .ok (.goto 27, 3) := by decide +kernel
theorem dX5_cast_13 : decode cX5_cast 13 = .ok (.aload_n 0, 1) := by decide +kernel
theorem dX5_cast_14 : decode cX5_cast 14 = .ok (.getfield 28, 3) := by decide +kernel
theorem dX5_cast_17 : decode cX5_cast 17 = .ok (.iload_n 1, 1) := by decide +kernel
theorem dX5_cast_18 : decode cX5_cast 18 = .ok (.iaload, 1) := by decide +kernel
theorem dX5_cast_19 : decode cX5_cast 19 = .ok (.iconst 1, 1) := by decide +kernel
theorem dX5_cast_20 : decode cX5_cast 20 = .ok (.if_icmp .eq 12, 3) := by decide +kernel
theorem dX5_cast_23 : decode cX5_cast 23 = .ok (.aload_n 0, 1) := by decide +kernel
theorem dX5_cast_24 : decode cX5_cast 24 = .ok (.getfield 56, 3) := by decide +kernel
theorem dX5_cast_27 : decode cX5_cast 27 = .ok (.bipush 16, 2) := by decide +kernel
theorem dX5_cast_29 : decode cX5_cast 29 = .ok (.if_icmp .ne 7, 3) := by decide +kernel
theorem dX5_cast_32 : decode cX5_cast 32 = .ok (.iconst 2, 1) := by decide +kernel
theorem dX5_cast_33 : decode cX5_cast 33 = .ok (.goto 4, 3) := by decide +kernel
theorem dX5_cast_36 : decode cX5_cast 36 = .ok (.iconst 0, 1) := by decide +kernel
theorem dX5_cast_37 : decode cX5_cast 37 = .ok (.putfield 52, 3) := by decide +kernel
theorem dX5_cast_40 : decode cX5_cast 40 = .ok (.aload_n 0, 1) := by decide +kernel
theorem dX5_cast_41 : decode cX5_cast 41 = .ok (.getfield 52, 3) := by decide +kernel
theorem dX5_cast_44 : decode cX5_cast 44 = .ok (.ifCond .le 5, 3) := by decide +kernel
theorem dX5_cast_47 : decode cX5_cast 47 = .ok (.iconst 0, 1) := by decide +kernel
theorem dX5_cast_48 : decode cX5_cast 48 = .ok (.ireturn, 1) := by decide +kernel
theorem dX5_cast_49 : decode cX5_cast 49 = .ok (.aload_n 0, 1) := by decide +kernel
theorem dX5_cast_50 : decode cX5_cast 50 = .ok (.getfield 7, 3) := by decide +kernel
theorem dX5_cast_53 : decode cX5_cast 53 = .ok (.aload_n 0, 1) := by decide +kernel
theorem dX5_cast_54 : decode cX5_cast 54 = .ok (.getfield 56, 3) := by decide +kernel
theorem dX5_cast_57 : decode cX5_cast 57 = .ok (.aload_n 0, 1) := by decide +kernel
theorem dX5_cast_58 : decode cX5_cast 58 = .ok (.getfield 7, 3) := by decide +kernel
theorem dX5_cast_61 : decode cX5_cast 61 = .ok (.aload_n 0, 1) := by decide +kernel
theorem dX5_cast_62 : decode cX5_cast 62 = .ok (.getfield 22, 3) := by decide +kernel
theorem dX5_cast_65 : decode cX5_cast 65 = .ok (.iload_n 1, 1) := by decide +kernel
theorem dX5_cast_66 : decode cX5_cast 66 = .ok (.iaload, 1) := by decide +kernel
theorem dX5_cast_67 : decode cX5_cast 67 = .ok (.iaload, 1) := by decide +kernel
theorem dX5_cast_68 : decode cX5_cast 68 = .ok (.iastore, 1) := by decide +kernel
theorem dX5_cast_69 : decode cX5_cast 69 = .ok (.aload_n 0, 1) := by decide +kernel
theorem dX5_cast_70 : decode cX5_cast 70 = .ok (.getfield 13, 3) := by decide +kernel
theorem dX5_cast_73 : decode cX5_cast 73 = .ok (.aload_n 0, 1) := by decide +kernel
theorem dX5_cast_74 : decode cX5_cast 74 = .ok (.getfield 56, 3) := by decide +kernel
theorem dX5_cast_77 : decode cX5_cast 77 = .ok (.aload_n 0, 1) := by decide +kernel
theorem dX5_cast_78 : decode cX5_cast 78 = .ok (.getfield 25, 3) := by decide +kernel
theorem dX5_cast_81 : decode cX5_cast 81 = .ok (.iload_n 1, 1) := by decide +kernel
theorem dX5_cast_82 : decode cX5_cast 82 = .ok (.iaload, 1) := by decide +kernel
theorem dX5_cast_83 : decode cX5_cast 83 = .ok (.iastore, 1) := by decide +kernel
theorem dX5_cast_84 : decode cX5_cast 84 = .ok (.aload_n 0, 1) := by decide +kernel
theorem dX5_cast_85 : decode cX5_cast 85 = .ok (.dup, 1) := by decide +kernel
theorem dX5_cast_86 : decode cX5_cast 86 = .ok (.getfield 56, 3) := by decide +kernel
theorem dX5_cast_89 : decode cX5_cast 89 = .ok (.iconst 1, 1) := by decide +kernel
theorem dX5_cast_90 : decode cX5_cast 90 = .ok (.iadd, 1) := by decide +kernel
theorem dX5_cast_91 : decode cX5_cast 91 = .ok (.putfield 56, 3) := by decide +kernel
theorem dX5_cast_94 : decode cX5_cast 94 = .ok (.aload_n 0, 1) := by decide +kernel
theorem dX5_cast_95 : decode cX5_cast 95 = .ok (.getfield 56, 3) := by decide +kernel
theorem dX5_cast_98 : decode cX5_cast 98 = .ok (.iconst 1, 1) := by decide +kernel
theorem dX5_cast_99 : decode cX5_cast 99 = .ok (.isub, 1) := by decide +kernel
theorem dX5_cast_100 : decode cX5_cast 100 = .ok (.ireturn, 1) := by decide +kernel
theorem dX5_melt_0 : decode cX5_melt 0 = .ok (.aload_n 0, 1) := by decide +kernel
theorem dX5_melt_1 : decode cX5_melt 1 = .ok (.aload_n 0, 1) := by decide +kernel
theorem dX5_melt_2 : decode cX5_melt 2 = .ok (.iload_n 1, 1) := by decide +kernel
theorem dX5_melt_3 : decode cX5_melt 3 = .ok (.invokevirtual 74, 3) := by decide +kernel
theorem dX5_melt_6 : decode cX5_melt 6 = .ok (.ifCond .ne 7, 3) := by decide +kernel
theorem dX5_melt_9 : decode cX5_melt 9 = .ok (.iconst 1, 1) := by decide +kernel
theorem dX5_melt_10 : decode cX5_melt 10 = .ok (.goto 18, 3) := by decide +kernel
theorem dX5_melt_13 : decode cX5_melt 13 = .ok (.aload_n 0, 1) := by decide +kernel
theorem dX5_melt_14 : decode cX5_melt 14 = .ok (.getfield 28, 3) := by decide +kernel
theorem dX5_melt_17 : decode cX5_melt 17 = .ok (.iload_n 1, 1) := by decide +kernel
theorem dX5_melt_18 : decode cX5_melt 18 = .ok (.iaload, 1) := by decide +kernel
theorem dX5_melt_19 : decode cX5_melt 19 = .ok (.iconst 1, 1) := by decide +kernel
theorem dX5_melt_20 : decode cX5_melt 20 = .ok (.if_icmp .ne 7, 3) := by decide +kernel
theorem dX5_melt_23 : decode cX5_melt 23 = .ok (.iconst 2, 1) := by decide +kernel
theorem dX5_melt_24 : decode cX5_melt 24 = .ok (.goto 4, 3) := by decide +kernel
theorem dX5_melt_27 : decode cX5_melt 27 = .ok (.iconst 0, 1) := by decide +kernel
theorem dX5_melt_28 : decode cX5_melt 28 = .ok (.putfield 52, 3) := by decide +kernel
theorem dX5_melt_31 : decode cX5_melt 31 = .ok (.aload_n 0, 1) := by decide +kernel
theorem dX5_melt_32 : decode cX5_melt 32 = .ok (.getfield 52, 3) := by decide +kernel
theorem dX5_melt_35 : decode cX5_melt 35 = .ok (.ifCond .le 5, 3) := by decide +kernel
theorem dX5_melt_38 : decode cX5_melt 38 = .ok (.iconst 0, 1) := by decide +kernel
theorem dX5_melt_39 : decode cX5_melt 39 = .ok (.ireturn, 1) := by decide +kernel
theorem dX5_melt_40 : decode cX5_melt 40 = .ok (.aload_n 0, 1) := by decide +kernel
theorem dX5_melt_41 : decode cX5_melt 41 = .ok (.getfield 31, 3) := by decide +kernel
theorem dX5_melt_44 : decode cX5_melt 44 = .ok (.iload_n 1, 1) := by decide +kernel
theorem dX5_melt_45 : decode cX5_melt 45 = .ok (.iaload, 1) := by decide +kernel
theorem dX5_melt_46 : decode cX5_melt 46 = .ok (.iconst 1, 1) := by decide +kernel
theorem dX5_melt_47 : decode cX5_melt 47 = .ok (.isub, 1) := by decide +kernel
theorem dX5_melt_48 : decode cX5_melt 48 = .ok (.istore_n 2, 1) := by decide +kernel
theorem dX5_melt_49 : decode cX5_melt 49 = .ok (.aload_n 0, 1) := by decide +kernel
theorem dX5_melt_50 : decode cX5_melt 50 = .ok (.getfield 28, 3) := by decide +kernel
theorem dX5_melt_53 : decode cX5_melt 53 = .ok (.iload_n 1, 1) := by decide +kernel
theorem dX5_melt_54 : decode cX5_melt 54 = .ok (.iconst 1, 1) := by decide +kernel
theorem dX5_melt_55 : decode cX5_melt 55 = .ok (.iastore, 1) := by decide +kernel
theorem dX5_melt_56 : decode cX5_melt 56 = .ok (.aload_n 0, 1) := by decide +kernel
theorem dX5_melt_57 : decode cX5_melt 57 = .ok (.getfield 31, 3) := by decide +kernel
theorem dX5_melt_60 : decode cX5_melt 60 = .ok (.iload_n 1, 1) := by decide +kernel
theorem dX5_melt_61 : decode cX5_melt 61 = .ok (.iconst 0, 1) := by decide +kernel
theorem dX5_melt_62 : decode cX5_melt 62 = .ok (.iastore, 1) := by decide +kernel
theorem dX5_melt_63 : decode cX5_melt 63 = .ok (.aload_n 0, 1) := by decide +kernel
theorem dX5_melt_64 : decode cX5_melt 64 = .ok (.getfield 34, 3) := by decide +kernel
theorem dX5_melt_67 : decode cX5_melt 67 = .ok (.iload_n 1, 1) := by decide +kernel
theorem dX5_melt_68 : decode cX5_melt 68 = .ok (.iconst 0, 1) := by decide +kernel
theorem dX5_melt_69 : decode cX5_melt 69 = .ok (.iastore, 1) := by decide +kernel
theorem dX5_melt_70 : decode cX5_melt 70 = .ok (.iload_n 2, 1) := by decide +kernel
theorem dX5_melt_71 : decode cX5_melt 71 = .ok (.ireturn, 1) := by decide +kernel
theorem dX5_struck_0 : decode cX5_struck 0 = .ok (.aload_n 0, 1) := by decide +kernel
theorem dX5_struck_1 : decode cX5_struck 1 = .ok (.iconst 0, 1) := by decide +kernel
theorem dX5_struck_2 : decode cX5_struck 2 = .ok (.putfield 52, 3) := by decide +kernel
theorem dX5_struck_5 : decode cX5_struck 5 = .ok (.aload_n 0, 1) := by decide +kernel
theorem dX5_struck_6 : decode cX5_struck 6 = .ok (.getfield 63, 3) := by decide +kernel
theorem dX5_struck_9 : decode cX5_struck 9 = .ok (.ireturn, 1) := by decide +kernel
theorem dX5_defects_0 : decode cX5_defects 0 = .ok (.aload_n 0, 1) := by decide +kernel
theorem dX5_defects_1 : decode cX5_defects 1 = .ok (.aload_n 0, 1) := by decide +kernel
theorem dX5_defects_2 : decode cX5_defects 2 = .ok (.iload_n 1, 1) := by decide +kernel
theorem dX5_defects_3 : decode cX5_defects 3 = .ok (.invokevirtual 74, 3) := by decide +kernel
theorem dX5_defects_6 : decode cX5_defects 6 = .ok (.ifCond .eq 7, 3) := by decide +kernel
theorem dX5_defects_9 : decode cX5_defects 9 = .ok (.iconst 0, 1) := by decide +kernel
theorem dX5_defects_10 : decode cX5_defects 10 = .ok (.goto 4, 3) := by decide +kernel
theorem dX5_defects_13 : decode cX5_defects 13 = .ok (.iconst 1, 1) := by decide +kernel
theorem dX5_defects_14 : decode cX5_defects 14 = .ok (.putfield 52, 3) := by decide +kernel
theorem dX5_defects_17 : decode cX5_defects 17 = .ok (.aload_n 0, 1) := by decide +kernel
theorem dX5_defects_18 : decode cX5_defects 18 = .ok (.getfield 52, 3) := by decide +kernel
theorem dX5_defects_21 : decode cX5_defects 21 = .ok (.ifCond .ne 12, 3) := by decide +kernel
theorem dX5_defects_24 : decode cX5_defects 24 = .ok (.aload_n 0, 1) := by decide +kernel
theorem dX5_defects_25 : decode cX5_defects 25 = .ok (.getfield 25, 3) := by decide +kernel
theorem dX5_defects_28 : decode cX5_defects 28 = .ok (.iload_n 1, 1) := by decide +kernel
theorem dX5_defects_29 : decode cX5_defects 29 = .ok (.iaload, 1) := by decide +kernel
theorem dX5_defects_30 : decode cX5_defects 30 = .ok (.goto 4, 3) := by decide +kernel
theorem dX5_defects_33 : decode cX5_defects 33 = .ok (.iconst 0, 1) := by decide +kernel
theorem dX5_defects_34 : decode cX5_defects 34 = .ok (.ireturn, 1) := by decide +kernel
theorem dX5_firstOf_0 : decode cX5_firstOf 0 = .ok (.iconst 0, 1) := by decide +kernel
theorem dX5_firstOf_1 : decode cX5_firstOf 1 = .ok (.istore_n 3, 1) := by decide +kernel
theorem dX5_firstOf_2 : decode cX5_firstOf 2 = .ok (.iload_n 3, 1) := by decide +kernel
theorem dX5_firstOf_3 : decode cX5_firstOf 3 = .ok (.aload_n 0, 1) := by decide +kernel
theorem dX5_firstOf_4 : decode cX5_firstOf 4 = .ok (.getfield 63, 3) := by decide +kernel
theorem dX5_firstOf_7 : decode cX5_firstOf 7 = .ok (.if_icmp .ge 31, 3) := by decide +kernel
theorem dX5_firstOf_10 : decode cX5_firstOf 10 = .ok (.aload_n 0, 1) := by decide +kernel
theorem dX5_firstOf_11 : decode cX5_firstOf 11 = .ok (.getfield 22, 3) := by decide +kernel
theorem dX5_firstOf_14 : decode cX5_firstOf 14 = .ok (.iload_n 3, 1) := by decide +kernel
theorem dX5_firstOf_15 : decode cX5_firstOf 15 = .ok (.iaload, 1) := by decide +kernel
theorem dX5_firstOf_16 : decode cX5_firstOf 16 = .ok (.iload_n 1, 1) := by decide +kernel
theorem dX5_firstOf_17 : decode cX5_firstOf 17 = .ok (.if_icmp .ne 15, 3) := by decide +kernel
theorem dX5_firstOf_20 : decode cX5_firstOf 20 = .ok (.aload_n 0, 1) := by decide +kernel
theorem dX5_firstOf_21 : decode cX5_firstOf 21 = .ok (.getfield 25, 3) := by decide +kernel
theorem dX5_firstOf_24 : decode cX5_firstOf 24 = .ok (.iload_n 3, 1) := by decide +kernel
theorem dX5_firstOf_25 : decode cX5_firstOf 25 = .ok (.iaload, 1) := by decide +kernel
theorem dX5_firstOf_26 : decode cX5_firstOf 26 = .ok (.iload_n 2, 1) := by decide +kernel
theorem dX5_firstOf_27 : decode cX5_firstOf 27 = .ok (.if_icmp .ne 5, 3) := by decide +kernel
theorem dX5_firstOf_30 : decode cX5_firstOf 30 = .ok (.iload_n 3, 1) := by decide +kernel
theorem dX5_firstOf_31 : decode cX5_firstOf 31 = .ok (.ireturn, 1) := by decide +kernel
theorem dX5_firstOf_32 : decode cX5_firstOf 32 = .ok (.iinc 3 1, 3) := by decide +kernel
theorem dX5_firstOf_35 : decode cX5_firstOf 35 = .ok (.goto (-33), 3) := by decide +kernel
theorem dX5_firstOf_38 : decode cX5_firstOf 38 = .ok (.iconst (-1), 1) := by decide +kernel
theorem dX5_firstOf_39 : decode cX5_firstOf 39 = .ok (.ireturn, 1) := by decide +kernel
theorem dX5_couldBeOf_0 : decode cX5_couldBeOf 0 = .ok (.aload_n 0, 1) := by decide +kernel
theorem dX5_couldBeOf_1 : decode cX5_couldBeOf 1 = .ok (.aload_n 0, 1) := by decide +kernel
theorem dX5_couldBeOf_2 : decode cX5_couldBeOf 2 = .ok (.iload_n 1, 1) := by decide +kernel
theorem dX5_couldBeOf_3 : decode cX5_couldBeOf 3 = .ok (.invokevirtual 74, 3) := by decide +kernel
theorem dX5_couldBeOf_6 : decode cX5_couldBeOf 6 = .ok (.ifCond .eq 7, 3) := by decide +kernel
theorem dX5_couldBeOf_9 : decode cX5_couldBeOf 9 = .ok (.iconst 0, 1) := by decide +kernel
theorem dX5_couldBeOf_10 : decode cX5_couldBeOf 10 = .ok (.goto 4, 3) := by decide +kernel
theorem dX5_couldBeOf_13 : decode cX5_couldBeOf 13 = .ok (.iconst 1, 1) := by decide +kernel
theorem dX5_couldBeOf_14 : decode cX5_couldBeOf 14 = .ok (.putfield 52, 3) := by decide +kernel
theorem dX5_couldBeOf_17 : decode cX5_couldBeOf 17 = .ok (.iconst 0, 1) := by decide +kernel
theorem dX5_couldBeOf_18 : decode cX5_couldBeOf 18 = .ok (.istore_n 2, 1) := by decide +kernel
theorem dX5_couldBeOf_19 : decode cX5_couldBeOf 19 = .ok (.iconst 0, 1) := by decide +kernel
theorem dX5_couldBeOf_20 : decode cX5_couldBeOf 20 = .ok (.istore_n 3, 1) := by decide +kernel
theorem dX5_couldBeOf_21 : decode cX5_couldBeOf 21 = .ok (.iload_n 3, 1) := by decide +kernel
theorem dX5_couldBeOf_22 : decode cX5_couldBeOf 22 = .ok (.aload_n 0, 1) := by decide +kernel
theorem dX5_couldBeOf_23 : decode cX5_couldBeOf 23 = .ok (.getfield 56, 3) := by decide +kernel
theorem dX5_couldBeOf_26 : decode cX5_couldBeOf 26 = .ok (.if_icmp .ge 61, 3) := by decide +kernel
theorem dX5_couldBeOf_29 : decode cX5_couldBeOf 29 = .ok (.aload_n 0, 1) := by decide +kernel
theorem dX5_couldBeOf_30 : decode cX5_couldBeOf 30 = .ok (.getfield 52, 3) := by decide +kernel
theorem dX5_couldBeOf_33 : decode cX5_couldBeOf 33 = .ok (.ifCond .ne 54, 3) := by decide +kernel
theorem dX5_couldBeOf_36 : decode cX5_couldBeOf 36 = .ok (.iload_n 2, 1) := by decide +kernel
theorem dX5_couldBeOf_37 : decode cX5_couldBeOf 37 = .ok (.aload_n 0, 1) := by decide +kernel
theorem dX5_couldBeOf_38 : decode cX5_couldBeOf 38 = .ok (.getfield 7, 3) := by decide +kernel
theorem dX5_couldBeOf_41 : decode cX5_couldBeOf 41 = .ok (.iload_n 3, 1) := by decide +kernel
theorem dX5_couldBeOf_42 : decode cX5_couldBeOf 42 = .ok (.iaload, 1) := by decide +kernel
theorem dX5_couldBeOf_43 : decode cX5_couldBeOf 43 = .ok (.aload_n 0, 1) := by decide +kernel
theorem dX5_couldBeOf_44 : decode cX5_couldBeOf 44 = .ok (.getfield 7, 3) := by decide +kernel
theorem dX5_couldBeOf_47 : decode cX5_couldBeOf 47 = .ok (.aload_n 0, 1) := by decide +kernel
theorem dX5_couldBeOf_48 : decode cX5_couldBeOf 48 = .ok (.getfield 22, 3) := by decide +kernel
theorem dX5_couldBeOf_51 : decode cX5_couldBeOf 51 = .ok (.iload_n 1, 1) := by decide +kernel
theorem dX5_couldBeOf_52 : decode cX5_couldBeOf 52 = .ok (.iaload, 1) := by decide +kernel
theorem dX5_couldBeOf_53 : decode cX5_couldBeOf 53 = .ok (.iaload, 1) := by decide +kernel
theorem dX5_couldBeOf_54 : decode cX5_couldBeOf 54 = .ok (.if_icmp .ne 24, 3) := by decide +kernel
theorem dX5_couldBeOf_57 : decode cX5_couldBeOf 57 = .ok (.aload_n 0, 1) := by decide +kernel
theorem dX5_couldBeOf_58 : decode cX5_couldBeOf 58 = .ok (.iload_n 3, 1) := by decide +kernel
theorem dX5_couldBeOf_59 : decode cX5_couldBeOf 59 = .ok (.aload_n 0, 1) := by decide +kernel
theorem dX5_couldBeOf_60 : decode cX5_couldBeOf 60 = .ok (.getfield 25, 3) := by decide +kernel
theorem dX5_couldBeOf_63 : decode cX5_couldBeOf 63 = .ok (.iload_n 1, 1) := by decide +kernel
theorem dX5_couldBeOf_64 : decode cX5_couldBeOf 64 = .ok (.iaload, 1) := by decide +kernel
theorem dX5_couldBeOf_65 : decode cX5_couldBeOf 65 = .ok (.invokevirtual 77, 3) := by decide +kernel
theorem dX5_couldBeOf_68 : decode cX5_couldBeOf 68 = .ok (.iconst (-1), 1) := by decide +kernel
theorem dX5_couldBeOf_69 : decode cX5_couldBeOf 69 = .ok (.if_icmp .eq 9, 3) := by decide +kernel
theorem dX5_couldBeOf_72 : decode cX5_couldBeOf 72 = .ok (.iconst 1, 1) := by decide +kernel
theorem dX5_couldBeOf_73 : decode cX5_couldBeOf 73 = .ok (.iload_n 3, 1) := by decide +kernel
theorem dX5_couldBeOf_74 : decode cX5_couldBeOf 74 = .ok (.ishl, 1) := by decide +kernel
theorem dX5_couldBeOf_75 : decode cX5_couldBeOf 75 = .ok (.goto 4, 3) := by decide +kernel
theorem dX5_couldBeOf_78 : decode cX5_couldBeOf 78 = .ok (.iconst 0, 1) := by decide +kernel
theorem dX5_couldBeOf_79 : decode cX5_couldBeOf 79 = .ok (.ior, 1) := by decide +kernel
theorem dX5_couldBeOf_80 : decode cX5_couldBeOf 80 = .ok (.istore_n 2, 1) := by decide +kernel
theorem dX5_couldBeOf_81 : decode cX5_couldBeOf 81 = .ok (.iinc 3 1, 3) := by decide +kernel
theorem dX5_couldBeOf_84 : decode cX5_couldBeOf 84 = .ok (.goto (-63), 3) := by decide +kernel
theorem dX5_couldBeOf_87 : decode cX5_couldBeOf 87 = .ok (.iload_n 2, 1) := by decide +kernel
theorem dX5_couldBeOf_88 : decode cX5_couldBeOf 88 = .ok (.ireturn, 1) := by decide +kernel
theorem dX5_stages_0 : decode cX5_stages 0 = .ok (.aload_n 0, 1) := by decide +kernel
theorem dX5_stages_1 : decode cX5_stages 1 = .ok (.aload_n 0, 1) := by decide +kernel
theorem dX5_stages_2 : decode cX5_stages 2 = .ok (.iload_n 1, 1) := by decide +kernel
theorem dX5_stages_3 : decode cX5_stages 3 = .ok (.invokevirtual 66, 3) := by decide +kernel
theorem dX5_stages_6 : decode cX5_stages 6 = .ok (.ifCond .eq 7, 3) := by decide +kernel
theorem dX5_stages_9 : decode cX5_stages 9 = .ok (.iconst 0, 1) := by decide +kernel
theorem dX5_stages_10 : decode cX5_stages 10 = .ok (.goto 4, 3) := by decide +kernel
theorem dX5_stages_13 : decode cX5_stages 13 = .ok (.iconst 1, 1) := by decide +kernel
theorem dX5_stages_14 : decode cX5_stages 14 = .ok (.putfield 52, 3) := by decide +kernel
theorem dX5_stages_17 : decode cX5_stages 17 = .ok (.iconst 0, 1) := by decide +kernel
theorem dX5_stages_18 : decode cX5_stages 18 = .ok (.istore_n 2, 1) := by decide +kernel
theorem dX5_stages_19 : decode cX5_stages 19 = .ok (.iconst 0, 1) := by decide +kernel
theorem dX5_stages_20 : decode cX5_stages 20 = .ok (.istore_n 3, 1) := by decide +kernel
theorem dX5_stages_21 : decode cX5_stages 21 = .ok (.iload_n 3, 1) := by decide +kernel
theorem dX5_stages_22 : decode cX5_stages 22 = .ok (.aload_n 0, 1) := by decide +kernel
theorem dX5_stages_23 : decode cX5_stages 23 = .ok (.getfield 63, 3) := by decide +kernel
theorem dX5_stages_26 : decode cX5_stages 26 = .ok (.if_icmp .ge 49, 3) := by decide +kernel
theorem dX5_stages_29 : decode cX5_stages 29 = .ok (.aload_n 0, 1) := by decide +kernel
theorem dX5_stages_30 : decode cX5_stages 30 = .ok (.getfield 52, 3) := by decide +kernel
theorem dX5_stages_33 : decode cX5_stages 33 = .ok (.ifCond .ne 42, 3) := by decide +kernel
theorem dX5_stages_36 : decode cX5_stages 36 = .ok (.iload_n 2, 1) := by decide +kernel
theorem dX5_stages_37 : decode cX5_stages 37 = .ok (.aload_n 0, 1) := by decide +kernel
theorem dX5_stages_38 : decode cX5_stages 38 = .ok (.getfield 22, 3) := by decide +kernel
theorem dX5_stages_41 : decode cX5_stages 41 = .ok (.iload_n 3, 1) := by decide +kernel
theorem dX5_stages_42 : decode cX5_stages 42 = .ok (.iaload, 1) := by decide +kernel
theorem dX5_stages_43 : decode cX5_stages 43 = .ok (.iload_n 1, 1) := by decide +kernel
theorem dX5_stages_44 : decode cX5_stages 44 = .ok (.if_icmp .ne 22, 3) := by decide +kernel
theorem dX5_stages_47 : decode cX5_stages 47 = .ok (.aload_n 0, 1) := by decide +kernel
theorem dX5_stages_48 : decode cX5_stages 48 = .ok (.iload_n 1, 1) := by decide +kernel
theorem dX5_stages_49 : decode cX5_stages 49 = .ok (.aload_n 0, 1) := by decide +kernel
theorem dX5_stages_50 : decode cX5_stages 50 = .ok (.getfield 25, 3) := by decide +kernel
theorem dX5_stages_53 : decode cX5_stages 53 = .ok (.iload_n 3, 1) := by decide +kernel
theorem dX5_stages_54 : decode cX5_stages 54 = .ok (.iaload, 1) := by decide +kernel
theorem dX5_stages_55 : decode cX5_stages 55 = .ok (.invokevirtual 77, 3) := by decide +kernel
theorem dX5_stages_58 : decode cX5_stages 58 = .ok (.iload_n 3, 1) := by decide +kernel
theorem dX5_stages_59 : decode cX5_stages 59 = .ok (.if_icmp .ne 7, 3) := by decide +kernel
theorem dX5_stages_62 : decode cX5_stages 62 = .ok (.iconst 1, 1) := by decide +kernel
theorem dX5_stages_63 : decode cX5_stages 63 = .ok (.goto 4, 3) := by decide +kernel
theorem dX5_stages_66 : decode cX5_stages 66 = .ok (.iconst 0, 1) := by decide +kernel
theorem dX5_stages_67 : decode cX5_stages 67 = .ok (.iadd, 1) := by decide +kernel
theorem dX5_stages_68 : decode cX5_stages 68 = .ok (.istore_n 2, 1) := by decide +kernel
theorem dX5_stages_69 : decode cX5_stages 69 = .ok (.iinc 3 1, 3) := by decide +kernel
theorem dX5_stages_72 : decode cX5_stages 72 = .ok (.goto (-51), 3) := by decide +kernel
theorem dX5_stages_75 : decode cX5_stages 75 = .ok (.iload_n 2, 1) := by decide +kernel
theorem dX5_stages_76 : decode cX5_stages 76 = .ok (.ireturn, 1) := by decide +kernel
theorem dX5_proofOf_0 : decode cX5_proofOf 0 = .ok (.iconst 0, 1) := by decide +kernel
theorem dX5_proofOf_1 : decode cX5_proofOf 1 = .ok (.istore_n 2, 1) := by decide +kernel
theorem dX5_proofOf_2 : decode cX5_proofOf 2 = .ok (.iload_n 2, 1) := by decide +kernel
theorem dX5_proofOf_3 : decode cX5_proofOf 3 = .ok (.aload_n 0, 1) := by decide +kernel
theorem dX5_proofOf_4 : decode cX5_proofOf 4 = .ok (.getfield 63, 3) := by decide +kernel
theorem dX5_proofOf_7 : decode cX5_proofOf 7 = .ok (.if_icmp .ge 19, 3) := by decide +kernel
theorem dX5_proofOf_10 : decode cX5_proofOf 10 = .ok (.aload_n 0, 1) := by decide +kernel
theorem dX5_proofOf_11 : decode cX5_proofOf 11 = .ok (.getfield 22, 3) := by decide +kernel
theorem dX5_proofOf_14 : decode cX5_proofOf 14 = .ok (.iload_n 2, 1) := by decide +kernel
theorem dX5_proofOf_15 : decode cX5_proofOf 15 = .ok (.iaload, 1) := by decide +kernel
theorem dX5_proofOf_16 : decode cX5_proofOf 16 = .ok (.iload_n 1, 1) := by decide +kernel
theorem dX5_proofOf_17 : decode cX5_proofOf 17 = .ok (.if_icmp .eq 9, 3) := by decide +kernel
theorem dX5_proofOf_20 : decode cX5_proofOf 20 = .ok (.iinc 2 1, 3) := by decide +kernel
theorem dX5_proofOf_23 : decode cX5_proofOf 23 = .ok (.goto (-21), 3) := by decide +kernel
theorem dX5_proofOf_26 : decode cX5_proofOf 26 = .ok (.iload_n 2, 1) := by decide +kernel
theorem dX5_proofOf_27 : decode cX5_proofOf 27 = .ok (.aload_n 0, 1) := by decide +kernel
theorem dX5_proofOf_28 : decode cX5_proofOf 28 = .ok (.getfield 63, 3) := by decide +kernel
theorem dX5_proofOf_31 : decode cX5_proofOf 31 = .ok (.if_icmp .eq 16, 3) := by decide +kernel
theorem dX5_proofOf_34 : decode cX5_proofOf 34 = .ok (.aload_n 0, 1) := by decide +kernel
theorem dX5_proofOf_35 : decode cX5_proofOf 35 = .ok (.getfield 25, 3) := by decide +kernel
theorem dX5_proofOf_38 : decode cX5_proofOf 38 = .ok (.iload_n 2, 1) := by decide +kernel
theorem dX5_proofOf_39 : decode cX5_proofOf 39 = .ok (.iaload, 1) := by decide +kernel
theorem dX5_proofOf_40 : decode cX5_proofOf 40 = .ok (.invokestatic 70, 3) := by decide +kernel
theorem dX5_proofOf_43 : decode cX5_proofOf 43 = .ok (.iconst 2, 1) := by decide +kernel
theorem dX5_proofOf_44 : decode cX5_proofOf 44 = .ok (.if_icmp .ge 5, 3) := by decide +kernel
theorem dX5_proofOf_47 : decode cX5_proofOf 47 = .ok (.iconst (-1), 1) := by decide +kernel
theorem dX5_proofOf_48 : decode cX5_proofOf 48 = .ok (.ireturn, 1) := by decide +kernel
theorem dX5_proofOf_49 : decode cX5_proofOf 49 = .ok (.iconst 0, 1) := by decide +kernel
theorem dX5_proofOf_50 : decode cX5_proofOf 50 = .ok (.istore_n 3, 1) := by decide +kernel
theorem dX5_proofOf_51 : decode cX5_proofOf 51 = .ok (.iload_n 3, 1) := by decide +kernel
theorem dX5_proofOf_52 : decode cX5_proofOf 52 = .ok (.aload_n 0, 1) := by decide +kernel
theorem dX5_proofOf_53 : decode cX5_proofOf 53 = .ok (.getfield 56, 3) := by decide +kernel
theorem dX5_proofOf_56 : decode cX5_proofOf 56 = .ok (.if_icmp .ge 56, 3) := by decide +kernel
theorem dX5_proofOf_59 : decode cX5_proofOf 59 = .ok (.aload_n 0, 1) := by decide +kernel
theorem dX5_proofOf_60 : decode cX5_proofOf 60 = .ok (.iload_n 3, 1) := by decide +kernel
theorem dX5_proofOf_61 : decode cX5_proofOf 61 = .ok (.aload_n 0, 1) := by decide +kernel
theorem dX5_proofOf_62 : decode cX5_proofOf 62 = .ok (.getfield 25, 3) := by decide +kernel
theorem dX5_proofOf_65 : decode cX5_proofOf 65 = .ok (.iload_n 2, 1) := by decide +kernel
theorem dX5_proofOf_66 : decode cX5_proofOf 66 = .ok (.iaload, 1) := by decide +kernel
theorem dX5_proofOf_67 : decode cX5_proofOf 67 = .ok (.invokevirtual 77, 3) := by decide +kernel
theorem dX5_proofOf_70 : decode cX5_proofOf 70 = .ok (.istore 4, 2) := by decide +kernel
theorem dX5_proofOf_72 : decode cX5_proofOf 72 = .ok (.iload_n 3, 1) := by decide +kernel
theorem dX5_proofOf_73 : decode cX5_proofOf 73 = .ok (.iload_n 1, 1) := by decide +kernel
theorem dX5_proofOf_74 : decode cX5_proofOf 74 = .ok (.if_icmp .eq 32, 3) := by decide +kernel
theorem dX5_proofOf_77 : decode cX5_proofOf 77 = .ok (.aload_n 0, 1) := by decide +kernel
theorem dX5_proofOf_78 : decode cX5_proofOf 78 = .ok (.getfield 7, 3) := by decide +kernel
theorem dX5_proofOf_81 : decode cX5_proofOf 81 = .ok (.iload_n 3, 1) := by decide +kernel
theorem dX5_proofOf_82 : decode cX5_proofOf 82 = .ok (.iaload, 1) := by decide +kernel
theorem dX5_proofOf_83 : decode cX5_proofOf 83 = .ok (.aload_n 0, 1) := by decide +kernel
theorem dX5_proofOf_84 : decode cX5_proofOf 84 = .ok (.getfield 7, 3) := by decide +kernel
theorem dX5_proofOf_87 : decode cX5_proofOf 87 = .ok (.iload_n 1, 1) := by decide +kernel
theorem dX5_proofOf_88 : decode cX5_proofOf 88 = .ok (.iaload, 1) := by decide +kernel
theorem dX5_proofOf_89 : decode cX5_proofOf 89 = .ok (.if_icmp .ne 17, 3) := by decide +kernel
theorem dX5_proofOf_92 : decode cX5_proofOf 92 = .ok (.iload 4, 2) := by decide +kernel
theorem dX5_proofOf_94 : decode cX5_proofOf 94 = .ok (.iconst (-1), 1) := by decide +kernel
theorem dX5_proofOf_95 : decode cX5_proofOf 95 = .ok (.if_icmp .eq 11, 3) := by decide +kernel
theorem dX5_proofOf_98 : decode cX5_proofOf 98 = .ok (.iload 4, 2) := by decide +kernel
theorem dX5_proofOf_100 : decode cX5_proofOf 100 = .ok (.iload_n 2, 1) := by decide +kernel
theorem dX5_proofOf_101 : decode cX5_proofOf 101 = .ok (.if_icmp .ge 5, 3) := by decide +kernel
theorem dX5_proofOf_104 : decode cX5_proofOf 104 = .ok (.iload_n 3, 1) := by decide +kernel
theorem dX5_proofOf_105 : decode cX5_proofOf 105 = .ok (.ireturn, 1) := by decide +kernel
theorem dX5_proofOf_106 : decode cX5_proofOf 106 = .ok (.iinc 3 1, 3) := by decide +kernel
theorem dX5_proofOf_109 : decode cX5_proofOf 109 = .ok (.goto (-58), 3) := by decide +kernel
theorem dX5_proofOf_112 : decode cX5_proofOf 112 = .ok (.iconst (-1), 1) := by decide +kernel
theorem dX5_proofOf_113 : decode cX5_proofOf 113 = .ok (.ireturn, 1) := by decide +kernel
theorem dX5_proof_0 : decode cX5_proof 0 = .ok (.aload_n 0, 1) := by decide +kernel
theorem dX5_proof_1 : decode cX5_proof 1 = .ok (.aload_n 0, 1) := by decide +kernel
theorem dX5_proof_2 : decode cX5_proof 2 = .ok (.iload_n 1, 1) := by decide +kernel
theorem dX5_proof_3 : decode cX5_proof 3 = .ok (.invokevirtual 66, 3) := by decide +kernel
theorem dX5_proof_6 : decode cX5_proof 6 = .ok (.ifCond .eq 7, 3) := by decide +kernel
theorem dX5_proof_9 : decode cX5_proof 9 = .ok (.iconst 0, 1) := by decide +kernel
theorem dX5_proof_10 : decode cX5_proof 10 = .ok (.goto 4, 3) := by decide +kernel
theorem dX5_proof_13 : decode cX5_proof 13 = .ok (.iconst 1, 1) := by decide +kernel
theorem dX5_proof_14 : decode cX5_proof 14 = .ok (.putfield 52, 3) := by decide +kernel
theorem dX5_proof_17 : decode cX5_proof 17 = .ok (.aload_n 0, 1) := by decide +kernel
theorem dX5_proof_18 : decode cX5_proof 18 = .ok (.getfield 52, 3) := by decide +kernel
theorem dX5_proof_21 : decode cX5_proof 21 = .ok (.ifCond .ne 11, 3) := by decide +kernel
theorem dX5_proof_24 : decode cX5_proof 24 = .ok (.aload_n 0, 1) := by decide +kernel
theorem dX5_proof_25 : decode cX5_proof 25 = .ok (.iload_n 1, 1) := by decide +kernel
theorem dX5_proof_26 : decode cX5_proof 26 = .ok (.invokevirtual 81, 3) := by decide +kernel
theorem dX5_proof_29 : decode cX5_proof 29 = .ok (.goto 4, 3) := by decide +kernel
theorem dX5_proof_32 : decode cX5_proof 32 = .ok (.iconst 0, 1) := by decide +kernel
theorem dX5_proof_33 : decode cX5_proof 33 = .ok (.ireturn, 1) := by decide +kernel
theorem dX5_isTrueNow_0 : decode cX5_isTrueNow 0 = .ok (.aload_n 0, 1) := by decide +kernel
theorem dX5_isTrueNow_1 : decode cX5_isTrueNow 1 = .ok (.getfield 28, 3) := by decide +kernel
theorem dX5_isTrueNow_4 : decode cX5_isTrueNow 4 = .ok (.iload_n 1, 1) := by decide +kernel
theorem dX5_isTrueNow_5 : decode cX5_isTrueNow 5 = .ok (.iaload, 1) := by decide +kernel
theorem dX5_isTrueNow_6 : decode cX5_isTrueNow 6 = .ok (.ifCond .ne 21, 3) := by decide +kernel
theorem dX5_isTrueNow_9 : decode cX5_isTrueNow 9 = .ok (.aload_n 0, 1) := by decide +kernel
theorem dX5_isTrueNow_10 : decode cX5_isTrueNow 10 = .ok (.getfield 19, 3) := by decide +kernel
theorem dX5_isTrueNow_13 : decode cX5_isTrueNow 13 = .ok (.aload_n 0, 1) := by decide +kernel
theorem dX5_isTrueNow_14 : decode cX5_isTrueNow 14 = .ok (.getfield 22, 3) := by decide +kernel
theorem dX5_isTrueNow_17 : decode cX5_isTrueNow 17 = .ok (.iload_n 1, 1) := by decide +kernel
theorem dX5_isTrueNow_18 : decode cX5_isTrueNow 18 = .ok (.iaload, 1) := by decide +kernel
theorem dX5_isTrueNow_19 : decode cX5_isTrueNow 19 = .ok (.iaload, 1) := by decide +kernel
theorem dX5_isTrueNow_20 : decode cX5_isTrueNow 20 = .ok (.ifCond .ne 7, 3) := by decide +kernel
theorem dX5_isTrueNow_23 : decode cX5_isTrueNow 23 = .ok (.iconst 1, 1) := by decide +kernel
theorem dX5_isTrueNow_24 : decode cX5_isTrueNow 24 = .ok (.goto 4, 3) := by decide +kernel
theorem dX5_isTrueNow_27 : decode cX5_isTrueNow 27 = .ok (.iconst 0, 1) := by decide +kernel
theorem dX5_isTrueNow_28 : decode cX5_isTrueNow 28 = .ok (.ireturn, 1) := by decide +kernel
theorem dX5_rarityOf_0 : decode cX5_rarityOf 0 = .ok (.iconst 0, 1) := by decide +kernel
theorem dX5_rarityOf_1 : decode cX5_rarityOf 1 = .ok (.istore_n 2, 1) := by decide +kernel
theorem dX5_rarityOf_2 : decode cX5_rarityOf 2 = .ok (.iconst 0, 1) := by decide +kernel
theorem dX5_rarityOf_3 : decode cX5_rarityOf 3 = .ok (.istore_n 3, 1) := by decide +kernel
theorem dX5_rarityOf_4 : decode cX5_rarityOf 4 = .ok (.iload_n 3, 1) := by decide +kernel
theorem dX5_rarityOf_5 : decode cX5_rarityOf 5 = .ok (.aload_n 0, 1) := by decide +kernel
theorem dX5_rarityOf_6 : decode cX5_rarityOf 6 = .ok (.getfield 63, 3) := by decide +kernel
theorem dX5_rarityOf_9 : decode cX5_rarityOf 9 = .ok (.if_icmp .ge 35, 3) := by decide +kernel
theorem dX5_rarityOf_12 : decode cX5_rarityOf 12 = .ok (.iload_n 2, 1) := by decide +kernel
theorem dX5_rarityOf_13 : decode cX5_rarityOf 13 = .ok (.aload_n 0, 1) := by decide +kernel
theorem dX5_rarityOf_14 : decode cX5_rarityOf 14 = .ok (.getfield 22, 3) := by decide +kernel
theorem dX5_rarityOf_17 : decode cX5_rarityOf 17 = .ok (.iload_n 3, 1) := by decide +kernel
theorem dX5_rarityOf_18 : decode cX5_rarityOf 18 = .ok (.iaload, 1) := by decide +kernel
theorem dX5_rarityOf_19 : decode cX5_rarityOf 19 = .ok (.iload_n 1, 1) := by decide +kernel
theorem dX5_rarityOf_20 : decode cX5_rarityOf 20 = .ok (.if_icmp .ne 15, 3) := by decide +kernel
theorem dX5_rarityOf_23 : decode cX5_rarityOf 23 = .ok (.aload_n 0, 1) := by decide +kernel
theorem dX5_rarityOf_24 : decode cX5_rarityOf 24 = .ok (.iload_n 3, 1) := by decide +kernel
theorem dX5_rarityOf_25 : decode cX5_rarityOf 25 = .ok (.invokevirtual 84, 3) := by decide +kernel
theorem dX5_rarityOf_28 : decode cX5_rarityOf 28 = .ok (.ifCond .eq 7, 3) := by decide +kernel
theorem dX5_rarityOf_31 : decode cX5_rarityOf 31 = .ok (.iconst 1, 1) := by decide +kernel
theorem dX5_rarityOf_32 : decode cX5_rarityOf 32 = .ok (.goto 4, 3) := by decide +kernel
theorem dX5_rarityOf_35 : decode cX5_rarityOf 35 = .ok (.iconst 0, 1) := by decide +kernel
theorem dX5_rarityOf_36 : decode cX5_rarityOf 36 = .ok (.iadd, 1) := by decide +kernel
theorem dX5_rarityOf_37 : decode cX5_rarityOf 37 = .ok (.istore_n 2, 1) := by decide +kernel
theorem dX5_rarityOf_38 : decode cX5_rarityOf 38 = .ok (.iinc 3 1, 3) := by decide +kernel
theorem dX5_rarityOf_41 : decode cX5_rarityOf 41 = .ok (.goto (-37), 3) := by decide +kernel
theorem dX5_rarityOf_44 : decode cX5_rarityOf 44 = .ok (.iload_n 2, 1) := by decide +kernel
theorem dX5_rarityOf_45 : decode cX5_rarityOf 45 = .ok (.ireturn, 1) := by decide +kernel
theorem dX5_condemn_0 : decode cX5_condemn 0 = .ok (.aload_n 0, 1) := by decide +kernel
theorem dX5_condemn_1 : decode cX5_condemn 1 = .ok (.aload_n 0, 1) := by decide +kernel
theorem dX5_condemn_2 : decode cX5_condemn 2 = .ok (.iload_n 1, 1) := by decide +kernel
theorem dX5_condemn_3 : decode cX5_condemn 3 = .ok (.invokevirtual 66, 3) := by decide +kernel
theorem dX5_condemn_6 : decode cX5_condemn 6 = .ok (.ifCond .ne 7, 3) := by decide +kernel
theorem dX5_condemn_9 : decode cX5_condemn 9 = .ok (.iconst 1, 1) := by decide +kernel
theorem dX5_condemn_10 : decode cX5_condemn 10 = .ok (.goto 27, 3) := by decide +kernel
theorem dX5_condemn_13 : decode cX5_condemn 13 = .ok (.aload_n 0, 1) := by decide +kernel
theorem dX5_condemn_14 : decode cX5_condemn 14 = .ok (.getfield 19, 3) := by decide +kernel
theorem dX5_condemn_17 : decode cX5_condemn 17 = .ok (.iload_n 1, 1) := by decide +kernel
theorem dX5_condemn_18 : decode cX5_condemn 18 = .ok (.iaload, 1) := by decide +kernel
theorem dX5_condemn_19 : decode cX5_condemn 19 = .ok (.iconst 1, 1) := by decide +kernel
theorem dX5_condemn_20 : decode cX5_condemn 20 = .ok (.if_icmp .eq 12, 3) := by decide +kernel
theorem dX5_condemn_23 : decode cX5_condemn 23 = .ok (.aload_n 0, 1) := by decide +kernel
theorem dX5_condemn_24 : decode cX5_condemn 24 = .ok (.iload_n 1, 1) := by decide +kernel
theorem dX5_condemn_25 : decode cX5_condemn 25 = .ok (.invokevirtual 81, 3) := by decide +kernel
theorem dX5_condemn_28 : decode cX5_condemn 28 = .ok (.iconst (-1), 1) := by decide +kernel
theorem dX5_condemn_29 : decode cX5_condemn 29 = .ok (.if_icmp .ne 7, 3) := by decide +kernel
theorem dX5_condemn_32 : decode cX5_condemn 32 = .ok (.iconst 2, 1) := by decide +kernel
theorem dX5_condemn_33 : decode cX5_condemn 33 = .ok (.goto 4, 3) := by decide +kernel
theorem dX5_condemn_36 : decode cX5_condemn 36 = .ok (.iconst 0, 1) := by decide +kernel
theorem dX5_condemn_37 : decode cX5_condemn 37 = .ok (.putfield 52, 3) := by decide +kernel
theorem dX5_condemn_40 : decode cX5_condemn 40 = .ok (.aload_n 0, 1) := by decide +kernel
theorem dX5_condemn_41 : decode cX5_condemn 41 = .ok (.getfield 52, 3) := by decide +kernel
theorem dX5_condemn_44 : decode cX5_condemn 44 = .ok (.ifCond .le 5, 3) := by decide +kernel
theorem dX5_condemn_47 : decode cX5_condemn 47 = .ok (.iconst 0, 1) := by decide +kernel
theorem dX5_condemn_48 : decode cX5_condemn 48 = .ok (.ireturn, 1) := by decide +kernel
theorem dX5_condemn_49 : decode cX5_condemn 49 = .ok (.aload_n 0, 1) := by decide +kernel
theorem dX5_condemn_50 : decode cX5_condemn 50 = .ok (.iload_n 1, 1) := by decide +kernel
theorem dX5_condemn_51 : decode cX5_condemn 51 = .ok (.invokevirtual 87, 3) := by decide +kernel
theorem dX5_condemn_54 : decode cX5_condemn 54 = .ok (.istore_n 2, 1) := by decide +kernel
theorem dX5_condemn_55 : decode cX5_condemn 55 = .ok (.aload_n 0, 1) := by decide +kernel
theorem dX5_condemn_56 : decode cX5_condemn 56 = .ok (.getfield 19, 3) := by decide +kernel
theorem dX5_condemn_59 : decode cX5_condemn 59 = .ok (.iload_n 1, 1) := by decide +kernel
theorem dX5_condemn_60 : decode cX5_condemn 60 = .ok (.iconst 1, 1) := by decide +kernel
theorem dX5_condemn_61 : decode cX5_condemn 61 = .ok (.iastore, 1) := by decide +kernel
theorem dX5_condemn_62 : decode cX5_condemn 62 = .ok (.iconst 0, 1) := by decide +kernel
theorem dX5_condemn_63 : decode cX5_condemn 63 = .ok (.istore_n 3, 1) := by decide +kernel
theorem dX5_condemn_64 : decode cX5_condemn 64 = .ok (.iload_n 3, 1) := by decide +kernel
theorem dX5_condemn_65 : decode cX5_condemn 65 = .ok (.bipush 8, 2) := by decide +kernel
theorem dX5_condemn_67 : decode cX5_condemn 67 = .ok (.if_icmp .ge 23, 3) := by decide +kernel
theorem dX5_condemn_70 : decode cX5_condemn 70 = .ok (.aload_n 0, 1) := by decide +kernel
theorem dX5_condemn_71 : decode cX5_condemn 71 = .ok (.getfield 37, 3) := by decide +kernel
theorem dX5_condemn_74 : decode cX5_condemn 74 = .ok (.iload_n 3, 1) := by decide +kernel
theorem dX5_condemn_75 : decode cX5_condemn 75 = .ok (.dup2, 1) := by decide +kernel
theorem dX5_condemn_76 : decode cX5_condemn 76 = .ok (.iaload, 1) := by decide +kernel
theorem dX5_condemn_77 : decode cX5_condemn 77 = .ok (.iconst 1, 1) := by decide +kernel
theorem dX5_condemn_78 : decode cX5_condemn 78 = .ok (.iload_n 1, 1) := by decide +kernel
theorem dX5_condemn_79 : decode cX5_condemn 79 = .ok (.ishl, 1) := by decide +kernel
theorem dX5_condemn_80 : decode cX5_condemn 80 = .ok (.iconst (-1), 1) := by decide +kernel
theorem dX5_condemn_81 : decode cX5_condemn 81 = .ok (.ixor, 1) := by decide +kernel
theorem dX5_condemn_82 : decode cX5_condemn 82 = .ok (.iand, 1) := by decide +kernel
theorem dX5_condemn_83 : decode cX5_condemn 83 = .ok (.iastore, 1) := by decide +kernel
theorem dX5_condemn_84 : decode cX5_condemn 84 = .ok (.iinc 3 1, 3) := by decide +kernel
theorem dX5_condemn_87 : decode cX5_condemn 87 = .ok (.goto (-23), 3) := by decide +kernel
theorem dX5_condemn_90 : decode cX5_condemn 90 = .ok (.iload_n 2, 1) := by decide +kernel
theorem dX5_condemn_91 : decode cX5_condemn 91 = .ok (.ireturn, 1) := by decide +kernel
theorem dX5_isCondemned_0 : decode cX5_isCondemned 0 = .ok (.aload_n 0, 1) := by decide +kernel
theorem dX5_isCondemned_1 : decode cX5_isCondemned 1 = .ok (.aload_n 0, 1) := by decide +kernel
theorem dX5_isCondemned_2 : decode cX5_isCondemned 2 = .ok (.iload_n 1, 1) := by decide +kernel
theorem dX5_isCondemned_3 : decode cX5_isCondemned 3 = .ok (.invokevirtual 66, 3) := by decide +kernel
theorem dX5_isCondemned_6 : decode cX5_isCondemned 6 = .ok (.ifCond .eq 7, 3) := by decide +kernel
theorem dX5_isCondemned_9 : decode cX5_isCondemned 9 = .ok (.iconst 0, 1) := by decide +kernel
theorem dX5_isCondemned_10 : decode cX5_isCondemned 10 = .ok (.goto 4, 3) := by decide +kernel
theorem dX5_isCondemned_13 : decode cX5_isCondemned 13 = .ok (.iconst 1, 1) := by decide +kernel
theorem dX5_isCondemned_14 : decode cX5_isCondemned 14 = .ok (.putfield 52, 3) := by decide +kernel
theorem dX5_isCondemned_17 : decode cX5_isCondemned 17 = .ok (.aload_n 0, 1) := by decide +kernel
theorem dX5_isCondemned_18 : decode cX5_isCondemned 18 = .ok (.getfield 52, 3) := by decide +kernel
theorem dX5_isCondemned_21 : decode cX5_isCondemned 21 = .ok (.ifCond .ne 17, 3) := by decide +kernel
theorem dX5_isCondemned_24 : decode cX5_isCondemned 24 = .ok (.aload_n 0, 1) := by decide +kernel
theorem dX5_isCondemned_25 : decode cX5_isCondemned 25 = .ok (.getfield 19, 3) := by decide +kernel
theorem dX5_isCondemned_28 : decode cX5_isCondemned 28 = .ok (.iload_n 1, 1) := by decide +kernel
theorem dX5_isCondemned_29 : decode cX5_isCondemned 29 = .ok (.iaload, 1) := by decide +kernel
theorem dX5_isCondemned_30 : decode cX5_isCondemned 30 = .ok (.iconst 1, 1) := by decide +kernel
theorem dX5_isCondemned_31 : decode cX5_isCondemned 31 = .ok (.if_icmp .ne 7, 3) := by decide +kernel
theorem dX5_isCondemned_34 : decode cX5_isCondemned 34 = .ok (.iconst 1, 1) := by decide +kernel
theorem dX5_isCondemned_35 : decode cX5_isCondemned 35 = .ok (.goto 4, 3) := by decide +kernel
theorem dX5_isCondemned_38 : decode cX5_isCondemned 38 = .ok (.iconst 0, 1) := by decide +kernel
theorem dX5_isCondemned_39 : decode cX5_isCondemned 39 = .ok (.ireturn, 1) := by decide +kernel
theorem dX5_isTrue_0 : decode cX5_isTrue 0 = .ok (.aload_n 0, 1) := by decide +kernel
theorem dX5_isTrue_1 : decode cX5_isTrue 1 = .ok (.aload_n 0, 1) := by decide +kernel
theorem dX5_isTrue_2 : decode cX5_isTrue 2 = .ok (.iload_n 1, 1) := by decide +kernel
theorem dX5_isTrue_3 : decode cX5_isTrue 3 = .ok (.invokevirtual 74, 3) := by decide +kernel
theorem dX5_isTrue_6 : decode cX5_isTrue 6 = .ok (.ifCond .eq 7, 3) := by decide +kernel
theorem dX5_isTrue_9 : decode cX5_isTrue 9 = .ok (.iconst 0, 1) := by decide +kernel
theorem dX5_isTrue_10 : decode cX5_isTrue 10 = .ok (.goto 4, 3) := by decide +kernel
theorem dX5_isTrue_13 : decode cX5_isTrue 13 = .ok (.iconst 1, 1) := by decide +kernel
theorem dX5_isTrue_14 : decode cX5_isTrue 14 = .ok (.putfield 52, 3) := by decide +kernel
theorem dX5_isTrue_17 : decode cX5_isTrue 17 = .ok (.aload_n 0, 1) := by decide +kernel
theorem dX5_isTrue_18 : decode cX5_isTrue 18 = .ok (.getfield 52, 3) := by decide +kernel
theorem dX5_isTrue_21 : decode cX5_isTrue 21 = .ok (.ifCond .ne 15, 3) := by decide +kernel
theorem dX5_isTrue_24 : decode cX5_isTrue 24 = .ok (.aload_n 0, 1) := by decide +kernel
theorem dX5_isTrue_25 : decode cX5_isTrue 25 = .ok (.iload_n 1, 1) := by decide +kernel
theorem dX5_isTrue_26 : decode cX5_isTrue 26 = .ok (.invokevirtual 84, 3) := by decide +kernel
theorem dX5_isTrue_29 : decode cX5_isTrue 29 = .ok (.ifCond .eq 7, 3) := by decide +kernel
theorem dX5_isTrue_32 : decode cX5_isTrue 32 = .ok (.iconst 1, 1) := by decide +kernel
theorem dX5_isTrue_33 : decode cX5_isTrue 33 = .ok (.goto 4, 3) := by decide +kernel
theorem dX5_isTrue_36 : decode cX5_isTrue 36 = .ok (.iconst 0, 1) := by decide +kernel
theorem dX5_isTrue_37 : decode cX5_isTrue 37 = .ok (.ireturn, 1) := by decide +kernel
theorem dX5_rarity_0 : decode cX5_rarity 0 = .ok (.aload_n 0, 1) := by decide +kernel
theorem dX5_rarity_1 : decode cX5_rarity 1 = .ok (.aload_n 0, 1) := by decide +kernel
theorem dX5_rarity_2 : decode cX5_rarity 2 = .ok (.iload_n 1, 1) := by decide +kernel
theorem dX5_rarity_3 : decode cX5_rarity 3 = .ok (.invokevirtual 66, 3) := by decide +kernel
theorem dX5_rarity_6 : decode cX5_rarity 6 = .ok (.ifCond .eq 7, 3) := by decide +kernel
theorem dX5_rarity_9 : decode cX5_rarity 9 = .ok (.iconst 0, 1) := by decide +kernel
theorem dX5_rarity_10 : decode cX5_rarity 10 = .ok (.goto 4, 3) := by decide +kernel
theorem dX5_rarity_13 : decode cX5_rarity 13 = .ok (.iconst 1, 1) := by decide +kernel
theorem dX5_rarity_14 : decode cX5_rarity 14 = .ok (.putfield 52, 3) := by decide +kernel
theorem dX5_rarity_17 : decode cX5_rarity 17 = .ok (.aload_n 0, 1) := by decide +kernel
theorem dX5_rarity_18 : decode cX5_rarity 18 = .ok (.getfield 52, 3) := by decide +kernel
theorem dX5_rarity_21 : decode cX5_rarity 21 = .ok (.ifCond .ne 11, 3) := by decide +kernel
theorem dX5_rarity_24 : decode cX5_rarity 24 = .ok (.aload_n 0, 1) := by decide +kernel
theorem dX5_rarity_25 : decode cX5_rarity 25 = .ok (.iload_n 1, 1) := by decide +kernel
theorem dX5_rarity_26 : decode cX5_rarity 26 = .ok (.invokevirtual 87, 3) := by decide +kernel
theorem dX5_rarity_29 : decode cX5_rarity 29 = .ok (.goto 4, 3) := by decide +kernel
theorem dX5_rarity_32 : decode cX5_rarity 32 = .ok (.iconst 0, 1) := by decide +kernel
theorem dX5_rarity_33 : decode cX5_rarity 33 = .ok (.ireturn, 1) := by decide +kernel
theorem dX5_rarityByCoins_0 : decode cX5_rarityByCoins 0 = .ok (.aload_n 0, 1) := by decide +kernel
theorem dX5_rarityByCoins_1 : decode cX5_rarityByCoins 1 = .ok (.iload_n 1, 1) := by decide +kernel
theorem dX5_rarityByCoins_2 : decode cX5_rarityByCoins 2 = .ok (.invokevirtual 90, 3) := by decide +kernel
theorem dX5_rarityByCoins_5 : decode cX5_rarityByCoins 5 = .ok (.ireturn, 1) := by decide +kernel
theorem dX5_priceBy_0 : decode cX5_priceBy 0 = .ok (.aload_n 0, 1) := by decide +kernel
theorem dX5_priceBy_1 : decode cX5_priceBy 1 = .ok (.getfield 7, 3) := by decide +kernel
theorem dX5_priceBy_4 : decode cX5_priceBy 4 = .ok (.iload_n 1, 1) := by decide +kernel
theorem dX5_priceBy_5 : decode cX5_priceBy 5 = .ok (.iaload, 1) := by decide +kernel
theorem dX5_priceBy_6 : decode cX5_priceBy 6 = .ok (.istore_n 2, 1) := by decide +kernel
theorem dX5_priceBy_7 : decode cX5_priceBy 7 = .ok (.iload_n 2, 1) := by decide +kernel
theorem dX5_priceBy_8 : decode cX5_priceBy 8 = .ok (.ifCond .ne 8, 3) := by decide +kernel
theorem dX5_priceBy_11 : decode cX5_priceBy 11 = .ok (.bipush 100, 2) := by decide +kernel
theorem dX5_priceBy_13 : decode cX5_priceBy 13 = .ok (.goto 28, 3) := by decide +kernel
theorem dX5_priceBy_16 : decode cX5_priceBy 16 = .ok (.iload_n 2, 1) := by decide +kernel
theorem dX5_priceBy_17 : decode cX5_priceBy 17 = .ok (.iconst 1, 1) := by decide +kernel
theorem dX5_priceBy_18 : decode cX5_priceBy 18 = .ok (.if_icmp .ne 9, 3) := by decide +kernel
theorem dX5_priceBy_21 : decode cX5_priceBy 21 = .ok (.sipush 200, 3) := by decide +kernel
theorem dX5_priceBy_24 : decode cX5_priceBy 24 = .ok (.goto 17, 3) := by decide +kernel
theorem dX5_priceBy_27 : decode cX5_priceBy 27 = .ok (.iload_n 2, 1) := by decide +kernel
theorem dX5_priceBy_28 : decode cX5_priceBy 28 = .ok (.iconst 2, 1) := by decide +kernel
theorem dX5_priceBy_29 : decode cX5_priceBy 29 = .ok (.if_icmp .ne 9, 3) := by decide +kernel
theorem dX5_priceBy_32 : decode cX5_priceBy 32 = .ok (.sipush 500, 3) := by decide +kernel
theorem dX5_priceBy_35 : decode cX5_priceBy 35 = .ok (.goto 6, 3) := by decide +kernel
theorem dX5_priceBy_38 : decode cX5_priceBy 38 = .ok (.sipush 1000, 3) := by decide +kernel
theorem dX5_priceBy_41 : decode cX5_priceBy 41 = .ok (.istore_n 3, 1) := by decide +kernel
theorem dX5_priceBy_42 : decode cX5_priceBy 42 = .ok (.bipush 20, 2) := by decide +kernel
theorem dX5_priceBy_44 : decode cX5_priceBy 44 = .ok (.iload_n 3, 1) := by decide +kernel
theorem dX5_priceBy_45 : decode cX5_priceBy 45 = .ok (.imul, 1) := by decide +kernel
theorem dX5_priceBy_46 : decode cX5_priceBy 46 = .ok (.aload_n 0, 1) := by decide +kernel
theorem dX5_priceBy_47 : decode cX5_priceBy 47 = .ok (.iload_n 1, 1) := by decide +kernel
theorem dX5_priceBy_48 : decode cX5_priceBy 48 = .ok (.invokevirtual 87, 3) := by decide +kernel
theorem dX5_priceBy_51 : decode cX5_priceBy 51 = .ok (.iconst 1, 1) := by decide +kernel
theorem dX5_priceBy_52 : decode cX5_priceBy 52 = .ok (.iadd, 1) := by decide +kernel
theorem dX5_priceBy_53 : decode cX5_priceBy 53 = .ok (.idiv, 1) := by decide +kernel
theorem dX5_priceBy_54 : decode cX5_priceBy 54 = .ok (.ireturn, 1) := by decide +kernel
theorem dX5_priceOf_0 : decode cX5_priceOf 0 = .ok (.aload_n 0, 1) := by decide +kernel
theorem dX5_priceOf_1 : decode cX5_priceOf 1 = .ok (.iload_n 1, 1) := by decide +kernel
theorem dX5_priceOf_2 : decode cX5_priceOf 2 = .ok (.invokevirtual 84, 3) := by decide +kernel
theorem dX5_priceOf_5 : decode cX5_priceOf 5 = .ok (.ifCond .eq 16, 3) := by decide +kernel
theorem dX5_priceOf_8 : decode cX5_priceOf 8 = .ok (.aload_n 0, 1) := by decide +kernel
theorem dX5_priceOf_9 : decode cX5_priceOf 9 = .ok (.aload_n 0, 1) := by decide +kernel
theorem dX5_priceOf_10 : decode cX5_priceOf 10 = .ok (.getfield 22, 3) := by decide +kernel
theorem dX5_priceOf_13 : decode cX5_priceOf 13 = .ok (.iload_n 1, 1) := by decide +kernel
theorem dX5_priceOf_14 : decode cX5_priceOf 14 = .ok (.iaload, 1) := by decide +kernel
theorem dX5_priceOf_15 : decode cX5_priceOf 15 = .ok (.invokevirtual 93, 3) := by decide +kernel
theorem dX5_priceOf_18 : decode cX5_priceOf 18 = .ok (.goto 4, 3) := by decide +kernel
theorem dX5_priceOf_21 : decode cX5_priceOf 21 = .ok (.iconst 0, 1) := by decide +kernel
theorem dX5_priceOf_22 : decode cX5_priceOf 22 = .ok (.ireturn, 1) := by decide +kernel
theorem dX5_price_0 : decode cX5_price 0 = .ok (.aload_n 0, 1) := by decide +kernel
theorem dX5_price_1 : decode cX5_price 1 = .ok (.aload_n 0, 1) := by decide +kernel
theorem dX5_price_2 : decode cX5_price 2 = .ok (.iload_n 1, 1) := by decide +kernel
theorem dX5_price_3 : decode cX5_price 3 = .ok (.invokevirtual 74, 3) := by decide +kernel
theorem dX5_price_6 : decode cX5_price 6 = .ok (.ifCond .eq 7, 3) := by decide +kernel
theorem dX5_price_9 : decode cX5_price 9 = .ok (.iconst 0, 1) := by decide +kernel
theorem dX5_price_10 : decode cX5_price 10 = .ok (.goto 4, 3) := by decide +kernel
theorem dX5_price_13 : decode cX5_price 13 = .ok (.iconst 1, 1) := by decide +kernel
theorem dX5_price_14 : decode cX5_price 14 = .ok (.putfield 52, 3) := by decide +kernel
theorem dX5_price_17 : decode cX5_price 17 = .ok (.aload_n 0, 1) := by decide +kernel
theorem dX5_price_18 : decode cX5_price 18 = .ok (.getfield 52, 3) := by decide +kernel
theorem dX5_price_21 : decode cX5_price 21 = .ok (.ifCond .ne 11, 3) := by decide +kernel
theorem dX5_price_24 : decode cX5_price 24 = .ok (.aload_n 0, 1) := by decide +kernel
theorem dX5_price_25 : decode cX5_price 25 = .ok (.iload_n 1, 1) := by decide +kernel
theorem dX5_price_26 : decode cX5_price 26 = .ok (.invokevirtual 96, 3) := by decide +kernel
theorem dX5_price_29 : decode cX5_price 29 = .ok (.goto 4, 3) := by decide +kernel
theorem dX5_price_32 : decode cX5_price 32 = .ok (.iconst 0, 1) := by decide +kernel
theorem dX5_price_33 : decode cX5_price 33 = .ok (.ireturn, 1) := by decide +kernel
theorem dX5_owned_0 : decode cX5_owned 0 = .ok (.iconst 0, 1) := by decide +kernel
theorem dX5_owned_1 : decode cX5_owned 1 = .ok (.istore_n 2, 1) := by decide +kernel
theorem dX5_owned_2 : decode cX5_owned 2 = .ok (.iconst 0, 1) := by decide +kernel
theorem dX5_owned_3 : decode cX5_owned 3 = .ok (.istore_n 3, 1) := by decide +kernel
theorem dX5_owned_4 : decode cX5_owned 4 = .ok (.iload_n 3, 1) := by decide +kernel
theorem dX5_owned_5 : decode cX5_owned 5 = .ok (.aload_n 0, 1) := by decide +kernel
theorem dX5_owned_6 : decode cX5_owned 6 = .ok (.getfield 63, 3) := by decide +kernel
theorem dX5_owned_9 : decode cX5_owned 9 = .ok (.if_icmp .ge 29, 3) := by decide +kernel
theorem dX5_owned_12 : decode cX5_owned 12 = .ok (.iload_n 2, 1) := by decide +kernel
theorem dX5_owned_13 : decode cX5_owned 13 = .ok (.aload_n 0, 1) := by decide +kernel
theorem dX5_owned_14 : decode cX5_owned 14 = .ok (.getfield 31, 3) := by decide +kernel
theorem dX5_owned_17 : decode cX5_owned 17 = .ok (.iload_n 3, 1) := by decide +kernel
theorem dX5_owned_18 : decode cX5_owned 18 = .ok (.iaload, 1) := by decide +kernel
theorem dX5_owned_19 : decode cX5_owned 19 = .ok (.iload_n 1, 1) := by decide +kernel
theorem dX5_owned_20 : decode cX5_owned 20 = .ok (.iconst 1, 1) := by decide +kernel
theorem dX5_owned_21 : decode cX5_owned 21 = .ok (.iadd, 1) := by decide +kernel
theorem dX5_owned_22 : decode cX5_owned 22 = .ok (.if_icmp .ne 7, 3) := by decide +kernel
theorem dX5_owned_25 : decode cX5_owned 25 = .ok (.iconst 1, 1) := by decide +kernel
theorem dX5_owned_26 : decode cX5_owned 26 = .ok (.goto 4, 3) := by decide +kernel
theorem dX5_owned_29 : decode cX5_owned 29 = .ok (.iconst 0, 1) := by decide +kernel
theorem dX5_owned_30 : decode cX5_owned 30 = .ok (.iadd, 1) := by decide +kernel
theorem dX5_owned_31 : decode cX5_owned 31 = .ok (.istore_n 2, 1) := by decide +kernel
theorem dX5_owned_32 : decode cX5_owned 32 = .ok (.iinc 3 1, 3) := by decide +kernel
theorem dX5_owned_35 : decode cX5_owned 35 = .ok (.goto (-31), 3) := by decide +kernel
theorem dX5_owned_38 : decode cX5_owned 38 = .ok (.iload_n 2, 1) := by decide +kernel
theorem dX5_owned_39 : decode cX5_owned 39 = .ok (.ireturn, 1) := by decide +kernel
theorem dX5_gets_0 : decode cX5_gets 0 = .ok (.aload_n 0, 1) := by decide +kernel
theorem dX5_gets_1 : decode cX5_gets 1 = .ok (.getfield 31, 3) := by decide +kernel
theorem dX5_gets_4 : decode cX5_gets 4 = .ok (.iload_n 2, 1) := by decide +kernel
theorem dX5_gets_5 : decode cX5_gets 5 = .ok (.iload_n 1, 1) := by decide +kernel
theorem dX5_gets_6 : decode cX5_gets 6 = .ok (.iconst 1, 1) := by decide +kernel
theorem dX5_gets_7 : decode cX5_gets 7 = .ok (.iadd, 1) := by decide +kernel
theorem dX5_gets_8 : decode cX5_gets 8 = .ok (.iastore, 1) := by decide +kernel
theorem dX5_gets_9 : decode cX5_gets 9 = .ok (.aload_n 0, 1) := by decide +kernel
theorem dX5_gets_10 : decode cX5_gets 10 = .ok (.getfield 34, 3) := by decide +kernel
theorem dX5_gets_13 : decode cX5_gets 13 = .ok (.iload_n 2, 1) := by decide +kernel
theorem dX5_gets_14 : decode cX5_gets 14 = .ok (.iconst 0, 1) := by decide +kernel
theorem dX5_gets_15 : decode cX5_gets 15 = .ok (.iastore, 1) := by decide +kernel
theorem dX5_gets_16 : decode cX5_gets 16 = .ok (.aload_n 0, 1) := by decide +kernel
theorem dX5_gets_17 : decode cX5_gets 17 = .ok (.getfield 37, 3) := by decide +kernel
theorem dX5_gets_20 : decode cX5_gets 20 = .ok (.iload_n 1, 1) := by decide +kernel
theorem dX5_gets_21 : decode cX5_gets 21 = .ok (.dup2, 1) := by decide +kernel
theorem dX5_gets_22 : decode cX5_gets 22 = .ok (.iaload, 1) := by decide +kernel
theorem dX5_gets_23 : decode cX5_gets 23 = .ok (.iconst 1, 1) := by decide +kernel
theorem dX5_gets_24 : decode cX5_gets 24 = .ok (.aload_n 0, 1) := by decide +kernel
theorem dX5_gets_25 : decode cX5_gets 25 = .ok (.getfield 22, 3) := by decide +kernel
theorem dX5_gets_28 : decode cX5_gets 28 = .ok (.iload_n 2, 1) := by decide +kernel
theorem dX5_gets_29 : decode cX5_gets 29 = .ok (.iaload, 1) := by decide +kernel
theorem dX5_gets_30 : decode cX5_gets 30 = .ok (.ishl, 1) := by decide +kernel
theorem dX5_gets_31 : decode cX5_gets 31 = .ok (.iconst (-1), 1) := by decide +kernel
theorem dX5_gets_32 : decode cX5_gets 32 = .ok (.ixor, 1) := by decide +kernel
theorem dX5_gets_33 : decode cX5_gets 33 = .ok (.iand, 1) := by decide +kernel
theorem dX5_gets_34 : decode cX5_gets 34 = .ok (.iastore, 1) := by decide +kernel
theorem dX5_gets_35 : decode cX5_gets 35 = .ok (.return_, 1) := by decide +kernel
theorem dX5_give_0 : decode cX5_give 0 = .ok (.aload_n 0, 1) := by decide +kernel
theorem dX5_give_1 : decode cX5_give 1 = .ok (.aload_n 0, 1) := by decide +kernel
theorem dX5_give_2 : decode cX5_give 2 = .ok (.iload_n 1, 1) := by decide +kernel
theorem dX5_give_3 : decode cX5_give 3 = .ok (.invokevirtual 74, 3) := by decide +kernel
theorem dX5_give_6 : decode cX5_give 6 = .ok (.ifCond .eq 10, 3) := by decide +kernel
theorem dX5_give_9 : decode cX5_give 9 = .ok (.iload_n 2, 1) := by decide +kernel
theorem dX5_give_10 : decode cX5_give 10 = .ok (.invokestatic 99, 3) := by decide +kernel
theorem dX5_give_13 : decode cX5_give 13 = .ok (.ifCond .ne 7, 3) := by decide +kernel
theorem dX5_give_16 : decode cX5_give 16 = .ok (.iconst 1, 1) := by decide +kernel
theorem dX5_give_17 : decode cX5_give 17 = .ok (.goto 4, 3) := by decide +kernel
theorem dX5_give_20 : decode cX5_give 20 = .ok (.iconst 0, 1) := by decide +kernel
theorem dX5_give_21 : decode cX5_give 21 = .ok (.putfield 52, 3) := by decide +kernel
theorem dX5_give_24 : decode cX5_give 24 = .ok (.aload_n 0, 1) := by decide +kernel
theorem dX5_give_25 : decode cX5_give 25 = .ok (.getfield 52, 3) := by decide +kernel
theorem dX5_give_28 : decode cX5_give 28 = .ok (.ifCond .le 5, 3) := by decide +kernel
theorem dX5_give_31 : decode cX5_give 31 = .ok (.iconst 0, 1) := by decide +kernel
theorem dX5_give_32 : decode cX5_give 32 = .ok (.ireturn, 1) := by decide +kernel
theorem dX5_give_33 : decode cX5_give 33 = .ok (.aload_n 0, 1) := by decide +kernel
theorem dX5_give_34 : decode cX5_give 34 = .ok (.aload_n 0, 1) := by decide +kernel
theorem dX5_give_35 : decode cX5_give 35 = .ok (.getfield 28, 3) := by decide +kernel
theorem dX5_give_38 : decode cX5_give 38 = .ok (.iload_n 1, 1) := by decide +kernel
theorem dX5_give_39 : decode cX5_give 39 = .ok (.iaload, 1) := by decide +kernel
theorem dX5_give_40 : decode cX5_give 40 = .ok (.iconst 1, 1) := by decide +kernel
theorem dX5_give_41 : decode cX5_give 41 = .ok (.if_icmp .eq 22, 3) := by decide +kernel
theorem dX5_give_44 : decode cX5_give 44 = .ok (.aload_n 0, 1) := by decide +kernel
theorem dX5_give_45 : decode cX5_give 45 = .ok (.getfield 31, 3) := by decide +kernel
theorem dX5_give_48 : decode cX5_give 48 = .ok (.iload_n 1, 1) := by decide +kernel
theorem dX5_give_49 : decode cX5_give 49 = .ok (.iaload, 1) := by decide +kernel
theorem dX5_give_50 : decode cX5_give 50 = .ok (.ifCond .gt 13, 3) := by decide +kernel
theorem dX5_give_53 : decode cX5_give 53 = .ok (.aload_n 0, 1) := by decide +kernel
theorem dX5_give_54 : decode cX5_give 54 = .ok (.iload_n 2, 1) := by decide +kernel
theorem dX5_give_55 : decode cX5_give 55 = .ok (.invokevirtual 102, 3) := by decide +kernel
theorem dX5_give_58 : decode cX5_give 58 = .ok (.bipush 10, 2) := by decide +kernel
theorem dX5_give_60 : decode cX5_give 60 = .ok (.if_icmp .ne 7, 3) := by decide +kernel
theorem dX5_give_63 : decode cX5_give 63 = .ok (.iconst 2, 1) := by decide +kernel
theorem dX5_give_64 : decode cX5_give 64 = .ok (.goto 4, 3) := by decide +kernel
theorem dX5_give_67 : decode cX5_give 67 = .ok (.iconst 0, 1) := by decide +kernel
theorem dX5_give_68 : decode cX5_give 68 = .ok (.putfield 52, 3) := by decide +kernel
theorem dX5_give_71 : decode cX5_give 71 = .ok (.aload_n 0, 1) := by decide +kernel
theorem dX5_give_72 : decode cX5_give 72 = .ok (.getfield 52, 3) := by decide +kernel
theorem dX5_give_75 : decode cX5_give 75 = .ok (.ifCond .le 5, 3) := by decide +kernel
theorem dX5_give_78 : decode cX5_give 78 = .ok (.iconst 0, 1) := by decide +kernel
theorem dX5_give_79 : decode cX5_give 79 = .ok (.ireturn, 1) := by decide +kernel
theorem dX5_give_80 : decode cX5_give 80 = .ok (.aload_n 0, 1) := by decide +kernel
theorem dX5_give_81 : decode cX5_give 81 = .ok (.iload_n 2, 1) := by decide +kernel
theorem dX5_give_82 : decode cX5_give 82 = .ok (.iload_n 1, 1) := by decide +kernel
theorem dX5_give_83 : decode cX5_give 83 = .ok (.invokevirtual 105, 3) := by decide +kernel
theorem dX5_give_86 : decode cX5_give 86 = .ok (.aload_n 0, 1) := by decide +kernel
theorem dX5_give_87 : decode cX5_give 87 = .ok (.iload_n 2, 1) := by decide +kernel
theorem dX5_give_88 : decode cX5_give 88 = .ok (.invokevirtual 102, 3) := by decide +kernel
theorem dX5_give_91 : decode cX5_give 91 = .ok (.ireturn, 1) := by decide +kernel
theorem dX5_want_0 : decode cX5_want 0 = .ok (.aload_n 0, 1) := by decide +kernel
theorem dX5_want_1 : decode cX5_want 1 = .ok (.iload_n 1, 1) := by decide +kernel
theorem dX5_want_2 : decode cX5_want 2 = .ok (.invokestatic 99, 3) := by decide +kernel
theorem dX5_want_5 : decode cX5_want 5 = .ok (.ifCond .eq 11, 3) := by decide +kernel
theorem dX5_want_8 : decode cX5_want 8 = .ok (.aload_n 0, 1) := by decide +kernel
theorem dX5_want_9 : decode cX5_want 9 = .ok (.iload_n 2, 1) := by decide +kernel
theorem dX5_want_10 : decode cX5_want 10 = .ok (.invokevirtual 66, 3) := by decide +kernel
theorem dX5_want_13 : decode cX5_want 13 = .ok (.ifCond .ne 7, 3) := by decide +kernel
theorem dX5_want_16 : decode cX5_want 16 = .ok (.iconst 1, 1) := by decide +kernel
theorem dX5_want_17 : decode cX5_want 17 = .ok (.goto 22, 3) := by decide +kernel
theorem dX5_want_20 : decode cX5_want 20 = .ok (.iload_n 3, 1) := by decide +kernel
theorem dX5_want_21 : decode cX5_want 21 = .ok (.ifCond .eq 17, 3) := by decide +kernel
theorem dX5_want_24 : decode cX5_want 24 = .ok (.aload_n 0, 1) := by decide +kernel
theorem dX5_want_25 : decode cX5_want 25 = .ok (.getfield 19, 3) := by decide +kernel
theorem dX5_want_28 : decode cX5_want 28 = .ok (.iload_n 2, 1) := by decide +kernel
theorem dX5_want_29 : decode cX5_want 29 = .ok (.iaload, 1) := by decide +kernel
theorem dX5_want_30 : decode cX5_want 30 = .ok (.iconst 1, 1) := by decide +kernel
theorem dX5_want_31 : decode cX5_want 31 = .ok (.if_icmp .ne 7, 3) := by decide +kernel
theorem dX5_want_34 : decode cX5_want 34 = .ok (.iconst 2, 1) := by decide +kernel
theorem dX5_want_35 : decode cX5_want 35 = .ok (.goto 4, 3) := by decide +kernel
theorem dX5_want_38 : decode cX5_want 38 = .ok (.iconst 0, 1) := by decide +kernel
theorem dX5_want_39 : decode cX5_want 39 = .ok (.putfield 52, 3) := by decide +kernel
theorem dX5_want_42 : decode cX5_want 42 = .ok (.aload_n 0, 1) := by decide +kernel
theorem dX5_want_43 : decode cX5_want 43 = .ok (.getfield 52, 3) := by decide +kernel
theorem dX5_want_46 : decode cX5_want 46 = .ok (.ifCond .le 5, 3) := by decide +kernel
theorem dX5_want_49 : decode cX5_want 49 = .ok (.iconst 0, 1) := by decide +kernel
theorem dX5_want_50 : decode cX5_want 50 = .ok (.ireturn, 1) := by decide +kernel
theorem dX5_want_51 : decode cX5_want 51 = .ok (.aload_n 0, 1) := by decide +kernel
theorem dX5_want_52 : decode cX5_want 52 = .ok (.getfield 37, 3) := by decide +kernel
theorem dX5_want_55 : decode cX5_want 55 = .ok (.iload_n 1, 1) := by decide +kernel
theorem dX5_want_56 : decode cX5_want 56 = .ok (.iload_n 3, 1) := by decide +kernel
theorem dX5_want_57 : decode cX5_want 57 = .ok (.ifCond .eq 16, 3) := by decide +kernel
theorem dX5_want_60 : decode cX5_want 60 = .ok (.aload_n 0, 1) := by decide +kernel
theorem dX5_want_61 : decode cX5_want 61 = .ok (.getfield 37, 3) := by decide +kernel
theorem dX5_want_64 : decode cX5_want 64 = .ok (.iload_n 1, 1) := by decide +kernel
theorem dX5_want_65 : decode cX5_want 65 = .ok (.iaload, 1) := by decide +kernel
theorem dX5_want_66 : decode cX5_want 66 = .ok (.iconst 1, 1) := by decide +kernel
theorem dX5_want_67 : decode cX5_want 67 = .ok (.iload_n 2, 1) := by decide +kernel
theorem dX5_want_68 : decode cX5_want 68 = .ok (.ishl, 1) := by decide +kernel
theorem dX5_want_69 : decode cX5_want 69 = .ok (.ior, 1) := by decide +kernel
theorem dX5_want_70 : decode cX5_want 70 = .ok (.goto 15, 3) := by decide +kernel
theorem dX5_want_73 : decode cX5_want 73 = .ok (.aload_n 0, 1) := by decide +kernel
theorem dX5_want_74 : decode cX5_want 74 = .ok (.getfield 37, 3) := by decide +kernel
theorem dX5_want_77 : decode cX5_want 77 = .ok (.iload_n 1, 1) := by decide +kernel
theorem dX5_want_78 : decode cX5_want 78 = .ok (.iaload, 1) := by decide +kernel
theorem dX5_want_79 : decode cX5_want 79 = .ok (.iconst 1, 1) := by decide +kernel
theorem dX5_want_80 : decode cX5_want 80 = .ok (.iload_n 2, 1) := by decide +kernel
theorem dX5_want_81 : decode cX5_want 81 = .ok (.ishl, 1) := by decide +kernel
theorem dX5_want_82 : decode cX5_want 82 = .ok (.iconst (-1), 1) := by decide +kernel
theorem dX5_want_83 : decode cX5_want 83 = .ok (.ixor, 1) := by decide +kernel
theorem dX5_want_84 : decode cX5_want 84 = .ok (.iand, 1) := by decide +kernel
theorem dX5_want_85 : decode cX5_want 85 = .ok (.iastore, 1) := by decide +kernel
theorem dX5_want_86 : decode cX5_want 86 = .ok (.aload_n 0, 1) := by decide +kernel
theorem dX5_want_87 : decode cX5_want 87 = .ok (.getfield 37, 3) := by decide +kernel
theorem dX5_want_90 : decode cX5_want 90 = .ok (.iload_n 1, 1) := by decide +kernel
theorem dX5_want_91 : decode cX5_want 91 = .ok (.iaload, 1) := by decide +kernel
theorem dX5_want_92 : decode cX5_want 92 = .ok (.invokestatic 70, 3) := by decide +kernel
theorem dX5_want_95 : decode cX5_want 95 = .ok (.ireturn, 1) := by decide +kernel
theorem dX5_setFairness_0 : decode cX5_setFairness 0 = .ok (.aload_n 0, 1) := by decide +kernel
theorem dX5_setFairness_1 : decode cX5_setFairness 1 = .ok (.iload_n 1, 1) := by decide +kernel
theorem dX5_setFairness_2 : decode cX5_setFairness 2 = .ok (.invokestatic 99, 3) := by decide +kernel
theorem dX5_setFairness_5 : decode cX5_setFairness 5 = .ok (.ifCond .ne 7, 3) := by decide +kernel
theorem dX5_setFairness_8 : decode cX5_setFairness 8 = .ok (.iconst 1, 1) := by decide +kernel
theorem dX5_setFairness_9 : decode cX5_setFairness 9 = .ok (.goto 18, 3) := by decide +kernel
theorem dX5_setFairness_12 : decode cX5_setFairness 12 = .ok (.iload_n 2, 1) := by decide +kernel
theorem dX5_setFairness_13 : decode cX5_setFairness 13 = .ok (.iconst 0, 1) := by decide +kernel
theorem dX5_setFairness_14 : decode cX5_setFairness 14 = .ok (.bipush 100, 2) := by decide +kernel
theorem dX5_setFairness_16 : decode cX5_setFairness 16 = .ok (.invokestatic 59, 3) := by decide +kernel
theorem dX5_setFairness_19 : decode cX5_setFairness 19 = .ok (.ifCond .ne 7, 3) := by decide +kernel
theorem dX5_setFairness_22 : decode cX5_setFairness 22 = .ok (.iconst 2, 1) := by decide +kernel
theorem dX5_setFairness_23 : decode cX5_setFairness 23 = .ok (.goto 4, 3) := by decide +kernel
theorem dX5_setFairness_26 : decode cX5_setFairness 26 = .ok (.iconst 0, 1) := by decide +kernel
theorem dX5_setFairness_27 : decode cX5_setFairness 27 = .ok (.putfield 52, 3) := by decide +kernel
theorem dX5_setFairness_30 : decode cX5_setFairness 30 = .ok (.aload_n 0, 1) := by decide +kernel
theorem dX5_setFairness_31 : decode cX5_setFairness 31 = .ok (.getfield 52, 3) := by decide +kernel
theorem dX5_setFairness_34 : decode cX5_setFairness 34 = .ok (.ifCond .le 5, 3) := by decide +kernel
theorem dX5_setFairness_37 : decode cX5_setFairness 37 = .ok (.iconst 0, 1) := by decide +kernel
theorem dX5_setFairness_38 : decode cX5_setFairness 38 = .ok (.ireturn, 1) := by decide +kernel
theorem dX5_setFairness_39 : decode cX5_setFairness 39 = .ok (.aload_n 0, 1) := by decide +kernel
theorem dX5_setFairness_40 : decode cX5_setFairness 40 = .ok (.getfield 40, 3) := by decide +kernel
theorem dX5_setFairness_43 : decode cX5_setFairness 43 = .ok (.iload_n 1, 1) := by decide +kernel
theorem dX5_setFairness_44 : decode cX5_setFairness 44 = .ok (.iaload, 1) := by decide +kernel
theorem dX5_setFairness_45 : decode cX5_setFairness 45 = .ok (.istore_n 3, 1) := by decide +kernel
theorem dX5_setFairness_46 : decode cX5_setFairness 46 = .ok (.aload_n 0, 1) := by decide +kernel
theorem dX5_setFairness_47 : decode cX5_setFairness 47 = .ok (.getfield 40, 3) := by decide +kernel
theorem dX5_setFairness_50 : decode cX5_setFairness 50 = .ok (.iload_n 1, 1) := by decide +kernel
theorem dX5_setFairness_51 : decode cX5_setFairness 51 = .ok (.iload_n 2, 1) := by decide +kernel
theorem dX5_setFairness_52 : decode cX5_setFairness 52 = .ok (.iastore, 1) := by decide +kernel
theorem dX5_setFairness_53 : decode cX5_setFairness 53 = .ok (.iload_n 3, 1) := by decide +kernel
theorem dX5_setFairness_54 : decode cX5_setFairness 54 = .ok (.ireturn, 1) := by decide +kernel
theorem dX5_mark_0 : decode cX5_mark 0 = .ok (.aload_n 0, 1) := by decide +kernel
theorem dX5_mark_1 : decode cX5_mark 1 = .ok (.aload_n 0, 1) := by decide +kernel
theorem dX5_mark_2 : decode cX5_mark 2 = .ok (.iload_n 1, 1) := by decide +kernel
theorem dX5_mark_3 : decode cX5_mark 3 = .ok (.invokevirtual 74, 3) := by decide +kernel
theorem dX5_mark_6 : decode cX5_mark 6 = .ok (.ifCond .ne 7, 3) := by decide +kernel
theorem dX5_mark_9 : decode cX5_mark 9 = .ok (.iconst 1, 1) := by decide +kernel
theorem dX5_mark_10 : decode cX5_mark 10 = .ok (.goto 17, 3) := by decide +kernel
theorem dX5_mark_13 : decode cX5_mark 13 = .ok (.aload_n 0, 1) := by decide +kernel
theorem dX5_mark_14 : decode cX5_mark 14 = .ok (.getfield 31, 3) := by decide +kernel
theorem dX5_mark_17 : decode cX5_mark 17 = .ok (.iload_n 1, 1) := by decide +kernel
theorem dX5_mark_18 : decode cX5_mark 18 = .ok (.iaload, 1) := by decide +kernel
theorem dX5_mark_19 : decode cX5_mark 19 = .ok (.ifCond .ne 7, 3) := by decide +kernel
theorem dX5_mark_22 : decode cX5_mark 22 = .ok (.iconst 2, 1) := by decide +kernel
theorem dX5_mark_23 : decode cX5_mark 23 = .ok (.goto 4, 3) := by decide +kernel
theorem dX5_mark_26 : decode cX5_mark 26 = .ok (.iconst 0, 1) := by decide +kernel
theorem dX5_mark_27 : decode cX5_mark 27 = .ok (.putfield 52, 3) := by decide +kernel
theorem dX5_mark_30 : decode cX5_mark 30 = .ok (.aload_n 0, 1) := by decide +kernel
theorem dX5_mark_31 : decode cX5_mark 31 = .ok (.getfield 52, 3) := by decide +kernel
theorem dX5_mark_34 : decode cX5_mark 34 = .ok (.ifCond .le 5, 3) := by decide +kernel
theorem dX5_mark_37 : decode cX5_mark 37 = .ok (.iconst 0, 1) := by decide +kernel
theorem dX5_mark_38 : decode cX5_mark 38 = .ok (.ireturn, 1) := by decide +kernel
theorem dX5_mark_39 : decode cX5_mark 39 = .ok (.aload_n 0, 1) := by decide +kernel
theorem dX5_mark_40 : decode cX5_mark 40 = .ok (.getfield 34, 3) := by decide +kernel
theorem dX5_mark_43 : decode cX5_mark 43 = .ok (.iload_n 1, 1) := by decide +kernel
theorem dX5_mark_44 : decode cX5_mark 44 = .ok (.iaload, 1) := by decide +kernel
theorem dX5_mark_45 : decode cX5_mark 45 = .ok (.iconst 1, 1) := by decide +kernel
theorem dX5_mark_46 : decode cX5_mark 46 = .ok (.if_icmp .ne 7, 3) := by decide +kernel
theorem dX5_mark_49 : decode cX5_mark 49 = .ok (.iconst 1, 1) := by decide +kernel
theorem dX5_mark_50 : decode cX5_mark 50 = .ok (.goto 4, 3) := by decide +kernel
theorem dX5_mark_53 : decode cX5_mark 53 = .ok (.iconst 0, 1) := by decide +kernel
theorem dX5_mark_54 : decode cX5_mark 54 = .ok (.istore_n 3, 1) := by decide +kernel
theorem dX5_mark_55 : decode cX5_mark 55 = .ok (.aload_n 0, 1) := by decide +kernel
theorem dX5_mark_56 : decode cX5_mark 56 = .ok (.getfield 34, 3) := by decide +kernel
theorem dX5_mark_59 : decode cX5_mark 59 = .ok (.iload_n 1, 1) := by decide +kernel
theorem dX5_mark_60 : decode cX5_mark 60 = .ok (.iload_n 2, 1) := by decide +kernel
theorem dX5_mark_61 : decode cX5_mark 61 = .ok (.ifCond .eq 7, 3) := by decide +kernel
theorem dX5_mark_64 : decode cX5_mark 64 = .ok (.iconst 1, 1) := by decide +kernel
theorem dX5_mark_65 : decode cX5_mark 65 = .ok (.goto 4, 3) := by decide +kernel
theorem dX5_mark_68 : decode cX5_mark 68 = .ok (.iconst 0, 1) := by decide +kernel
theorem dX5_mark_69 : decode cX5_mark 69 = .ok (.iastore, 1) := by decide +kernel
theorem dX5_mark_70 : decode cX5_mark 70 = .ok (.iload_n 3, 1) := by decide +kernel
theorem dX5_mark_71 : decode cX5_mark 71 = .ok (.ireturn, 1) := by decide +kernel
theorem dX5_owner_0 : decode cX5_owner 0 = .ok (.aload_n 0, 1) := by decide +kernel
theorem dX5_owner_1 : decode cX5_owner 1 = .ok (.aload_n 0, 1) := by decide +kernel
theorem dX5_owner_2 : decode cX5_owner 2 = .ok (.iload_n 1, 1) := by decide +kernel
theorem dX5_owner_3 : decode cX5_owner 3 = .ok (.invokevirtual 74, 3) := by decide +kernel
theorem dX5_owner_6 : decode cX5_owner 6 = .ok (.ifCond .eq 7, 3) := by decide +kernel
theorem dX5_owner_9 : decode cX5_owner 9 = .ok (.iconst 0, 1) := by decide +kernel
theorem dX5_owner_10 : decode cX5_owner 10 = .ok (.goto 4, 3) := by decide +kernel
theorem dX5_owner_13 : decode cX5_owner 13 = .ok (.iconst 1, 1) := by decide +kernel
theorem dX5_owner_14 : decode cX5_owner 14 = .ok (.putfield 52, 3) := by decide +kernel
theorem dX5_owner_17 : decode cX5_owner 17 = .ok (.aload_n 0, 1) := by decide +kernel
theorem dX5_owner_18 : decode cX5_owner 18 = .ok (.getfield 52, 3) := by decide +kernel
theorem dX5_owner_21 : decode cX5_owner 21 = .ok (.ifCond .ne 14, 3) := by decide +kernel
theorem dX5_owner_24 : decode cX5_owner 24 = .ok (.aload_n 0, 1) := by decide +kernel
theorem dX5_owner_25 : decode cX5_owner 25 = .ok (.getfield 31, 3) := by decide +kernel
theorem dX5_owner_28 : decode cX5_owner 28 = .ok (.iload_n 1, 1) := by decide +kernel
theorem dX5_owner_29 : decode cX5_owner 29 = .ok (.iaload, 1) := by decide +kernel
theorem dX5_owner_30 : decode cX5_owner 30 = .ok (.iconst 1, 1) := by decide +kernel
theorem dX5_owner_31 : decode cX5_owner 31 = .ok (.isub, 1) := by decide +kernel
theorem dX5_owner_32 : decode cX5_owner 32 = .ok (.goto 4, 3) := by decide +kernel
theorem dX5_owner_35 : decode cX5_owner 35 = .ok (.iconst 0, 1) := by decide +kernel
theorem dX5_owner_36 : decode cX5_owner 36 = .ok (.ireturn, 1) := by decide +kernel
theorem dX5_wants_0 : decode cX5_wants 0 = .ok (.aload_n 0, 1) := by decide +kernel
theorem dX5_wants_1 : decode cX5_wants 1 = .ok (.iload_n 1, 1) := by decide +kernel
theorem dX5_wants_2 : decode cX5_wants 2 = .ok (.invokestatic 99, 3) := by decide +kernel
theorem dX5_wants_5 : decode cX5_wants 5 = .ok (.ifCond .eq 7, 3) := by decide +kernel
theorem dX5_wants_8 : decode cX5_wants 8 = .ok (.iconst 0, 1) := by decide +kernel
theorem dX5_wants_9 : decode cX5_wants 9 = .ok (.goto 4, 3) := by decide +kernel
theorem dX5_wants_12 : decode cX5_wants 12 = .ok (.iconst 1, 1) := by decide +kernel
theorem dX5_wants_13 : decode cX5_wants 13 = .ok (.putfield 52, 3) := by decide +kernel
theorem dX5_wants_16 : decode cX5_wants 16 = .ok (.aload_n 0, 1) := by decide +kernel
theorem dX5_wants_17 : decode cX5_wants 17 = .ok (.getfield 52, 3) := by decide +kernel
theorem dX5_wants_20 : decode cX5_wants 20 = .ok (.ifCond .ne 12, 3) := by decide +kernel
theorem dX5_wants_23 : decode cX5_wants 23 = .ok (.aload_n 0, 1) := by decide +kernel
theorem dX5_wants_24 : decode cX5_wants 24 = .ok (.getfield 37, 3) := by decide +kernel
theorem dX5_wants_27 : decode cX5_wants 27 = .ok (.iload_n 1, 1) := by decide +kernel
theorem dX5_wants_28 : decode cX5_wants 28 = .ok (.iaload, 1) := by decide +kernel
theorem dX5_wants_29 : decode cX5_wants 29 = .ok (.goto 4, 3) := by decide +kernel
theorem dX5_wants_32 : decode cX5_wants 32 = .ok (.iconst 0, 1) := by decide +kernel
theorem dX5_wants_33 : decode cX5_wants 33 = .ok (.ireturn, 1) := by decide +kernel
theorem dX5_offer_0 : decode cX5_offer 0 = .ok (.iconst 0, 1) := by decide +kernel
theorem dX5_offer_1 : decode cX5_offer 1 = .ok (.istore_n 3, 1) := by decide +kernel
theorem dX5_offer_2 : decode cX5_offer 2 = .ok (.iconst (-1), 1) := by decide +kernel
theorem dX5_offer_3 : decode cX5_offer 3 = .ok (.istore 4, 2) := by decide +kernel
theorem dX5_offer_5 : decode cX5_offer 5 = .ok (.aload_n 0, 1) := by decide +kernel
theorem dX5_offer_6 : decode cX5_offer 6 = .ok (.getfield 63, 3) := by decide +kernel
theorem dX5_offer_9 : decode cX5_offer 9 = .ok (.iconst 1, 1) := by decide +kernel
theorem dX5_offer_10 : decode cX5_offer 10 = .ok (.isub, 1) := by decide +kernel
theorem dX5_offer_11 : decode cX5_offer 11 = .ok (.istore 5, 2) := by decide +kernel
theorem dX5_offer_13 : decode cX5_offer 13 = .ok (.iload 5, 2) := by decide +kernel
theorem dX5_offer_15 : decode cX5_offer 15 = .ok (.ifCond .lt 49, 3) := by decide +kernel
theorem dX5_offer_18 : decode cX5_offer 18 = .ok (.aload_n 0, 1) := by decide +kernel
theorem dX5_offer_19 : decode cX5_offer 19 = .ok (.getfield 22, 3) := by decide +kernel
theorem dX5_offer_22 : decode cX5_offer 22 = .ok (.iload 5, 2) := by decide +kernel
theorem dX5_offer_24 : decode cX5_offer 24 = .ok (.iaload, 1) := by decide +kernel
theorem dX5_offer_25 : decode cX5_offer 25 = .ok (.iload_n 2, 1) := by decide +kernel
theorem dX5_offer_26 : decode cX5_offer 26 = .ok (.if_icmp .ne 32, 3) := by decide +kernel
theorem dX5_offer_29 : decode cX5_offer 29 = .ok (.aload_n 0, 1) := by decide +kernel
theorem dX5_offer_30 : decode cX5_offer 30 = .ok (.getfield 31, 3) := by decide +kernel
theorem dX5_offer_33 : decode cX5_offer 33 = .ok (.iload 5, 2) := by decide +kernel
theorem dX5_offer_35 : decode cX5_offer 35 = .ok (.iaload, 1) := by decide +kernel
theorem dX5_offer_36 : decode cX5_offer 36 = .ok (.iload_n 1, 1) := by decide +kernel
theorem dX5_offer_37 : decode cX5_offer 37 = .ok (.iconst 1, 1) := by decide +kernel
theorem dX5_offer_38 : decode cX5_offer 38 = .ok (.iadd, 1) := by decide +kernel
theorem dX5_offer_39 : decode cX5_offer 39 = .ok (.if_icmp .ne 19, 3) := by decide +kernel
theorem dX5_offer_42 : decode cX5_offer 42 = .ok (.aload_n 0, 1) := by decide +kernel
theorem dX5_offer_43 : decode cX5_offer 43 = .ok (.iload 5, 2) := by decide +kernel
theorem dX5_offer_45 : decode cX5_offer 45 = .ok (.invokevirtual 84, 3) := by decide +kernel
theorem dX5_offer_48 : decode cX5_offer 48 = .ok (.ifCond .eq 10, 3) := by decide +kernel
theorem dX5_offer_51 : decode cX5_offer 51 = .ok (.iinc 3 1, 3) := by decide +kernel
theorem dX5_offer_54 : decode cX5_offer 54 = .ok (.iload 5, 2) := by decide +kernel
theorem dX5_offer_56 : decode cX5_offer 56 = .ok (.istore 4, 2) := by decide +kernel
theorem dX5_offer_58 : decode cX5_offer 58 = .ok (.iinc 5 (-1), 3) := by decide +kernel
theorem dX5_offer_61 : decode cX5_offer 61 = .ok (.goto (-48), 3) := by decide +kernel
theorem dX5_offer_64 : decode cX5_offer 64 = .ok (.iload_n 3, 1) := by decide +kernel
theorem dX5_offer_65 : decode cX5_offer 65 = .ok (.iconst 1, 1) := by decide +kernel
theorem dX5_offer_66 : decode cX5_offer 66 = .ok (.if_icmp .gt 19, 3) := by decide +kernel
theorem dX5_offer_69 : decode cX5_offer 69 = .ok (.iload_n 3, 1) := by decide +kernel
theorem dX5_offer_70 : decode cX5_offer 70 = .ok (.iconst 1, 1) := by decide +kernel
theorem dX5_offer_71 : decode cX5_offer 71 = .ok (.if_icmp .ne 19, 3) := by decide +kernel
theorem dX5_offer_74 : decode cX5_offer 74 = .ok (.aload_n 0, 1) := by decide +kernel
theorem dX5_offer_75 : decode cX5_offer 75 = .ok (.getfield 34, 3) := by decide +kernel
theorem dX5_offer_78 : decode cX5_offer 78 = .ok (.iload 4, 2) := by decide +kernel
theorem dX5_offer_80 : decode cX5_offer 80 = .ok (.iaload, 1) := by decide +kernel
theorem dX5_offer_81 : decode cX5_offer 81 = .ok (.iconst 1, 1) := by decide +kernel
theorem dX5_offer_82 : decode cX5_offer 82 = .ok (.if_icmp .ne 8, 3) := by decide +kernel
theorem dX5_offer_85 : decode cX5_offer 85 = .ok (.iload 4, 2) := by decide +kernel
theorem dX5_offer_87 : decode cX5_offer 87 = .ok (.goto 4, 3) := by decide +kernel
theorem dX5_offer_90 : decode cX5_offer 90 = .ok (.iconst (-1), 1) := by decide +kernel
theorem dX5_offer_91 : decode cX5_offer 91 = .ok (.ireturn, 1) := by decide +kernel
theorem dX5_offers_0 : decode cX5_offers 0 = .ok (.aload_n 0, 1) := by decide +kernel
theorem dX5_offers_1 : decode cX5_offers 1 = .ok (.iload_n 1, 1) := by decide +kernel
theorem dX5_offers_2 : decode cX5_offers 2 = .ok (.invokestatic 99, 3) := by decide +kernel
theorem dX5_offers_5 : decode cX5_offers 5 = .ok (.ifCond .eq 7, 3) := by decide +kernel
theorem dX5_offers_8 : decode cX5_offers 8 = .ok (.iconst 0, 1) := by decide +kernel
theorem dX5_offers_9 : decode cX5_offers 9 = .ok (.goto 4, 3) := by decide +kernel
theorem dX5_offers_12 : decode cX5_offers 12 = .ok (.iconst 1, 1) := by decide +kernel
theorem dX5_offers_13 : decode cX5_offers 13 = .ok (.putfield 52, 3) := by decide +kernel
theorem dX5_offers_16 : decode cX5_offers 16 = .ok (.iconst 0, 1) := by decide +kernel
theorem dX5_offers_17 : decode cX5_offers 17 = .ok (.istore_n 2, 1) := by decide +kernel
theorem dX5_offers_18 : decode cX5_offers 18 = .ok (.iconst 0, 1) := by decide +kernel
theorem dX5_offers_19 : decode cX5_offers 19 = .ok (.istore_n 3, 1) := by decide +kernel
theorem dX5_offers_20 : decode cX5_offers 20 = .ok (.iload_n 3, 1) := by decide +kernel
theorem dX5_offers_21 : decode cX5_offers 21 = .ok (.aload_n 0, 1) := by decide +kernel
theorem dX5_offers_22 : decode cX5_offers 22 = .ok (.getfield 56, 3) := by decide +kernel
theorem dX5_offers_25 : decode cX5_offers 25 = .ok (.if_icmp .ge 36, 3) := by decide +kernel
theorem dX5_offers_28 : decode cX5_offers 28 = .ok (.aload_n 0, 1) := by decide +kernel
theorem dX5_offers_29 : decode cX5_offers 29 = .ok (.getfield 52, 3) := by decide +kernel
theorem dX5_offers_32 : decode cX5_offers 32 = .ok (.ifCond .ne 29, 3) := by decide +kernel
theorem dX5_offers_35 : decode cX5_offers 35 = .ok (.iload_n 2, 1) := by decide +kernel
theorem dX5_offers_36 : decode cX5_offers 36 = .ok (.aload_n 0, 1) := by decide +kernel
theorem dX5_offers_37 : decode cX5_offers 37 = .ok (.iload_n 1, 1) := by decide +kernel
theorem dX5_offers_38 : decode cX5_offers 38 = .ok (.iload_n 3, 1) := by decide +kernel
theorem dX5_offers_39 : decode cX5_offers 39 = .ok (.invokevirtual 109, 3) := by decide +kernel
theorem dX5_offers_42 : decode cX5_offers 42 = .ok (.iconst (-1), 1) := by decide +kernel
theorem dX5_offers_43 : decode cX5_offers 43 = .ok (.if_icmp .ne 7, 3) := by decide +kernel
theorem dX5_offers_46 : decode cX5_offers 46 = .ok (.iconst 0, 1) := by decide +kernel
theorem dX5_offers_47 : decode cX5_offers 47 = .ok (.goto 6, 3) := by decide +kernel
theorem dX5_offers_50 : decode cX5_offers 50 = .ok (.iconst 1, 1) := by decide +kernel
theorem dX5_offers_51 : decode cX5_offers 51 = .ok (.iload_n 3, 1) := by decide +kernel
theorem dX5_offers_52 : decode cX5_offers 52 = .ok (.ishl, 1) := by decide +kernel
theorem dX5_offers_53 : decode cX5_offers 53 = .ok (.ior, 1) := by decide +kernel
theorem dX5_offers_54 : decode cX5_offers 54 = .ok (.istore_n 2, 1) := by decide +kernel
theorem dX5_offers_55 : decode cX5_offers 55 = .ok (.iinc 3 1, 3) := by decide +kernel
theorem dX5_offers_58 : decode cX5_offers 58 = .ok (.goto (-38), 3) := by decide +kernel
theorem dX5_offers_61 : decode cX5_offers 61 = .ok (.iload_n 2, 1) := by decide +kernel
theorem dX5_offers_62 : decode cX5_offers 62 = .ok (.ireturn, 1) := by decide +kernel
theorem dX5_worth_0 : decode cX5_worth 0 = .ok (.aload_n 0, 1) := by decide +kernel
theorem dX5_worth_1 : decode cX5_worth 1 = .ok (.iload_n 1, 1) := by decide +kernel
theorem dX5_worth_2 : decode cX5_worth 2 = .ok (.invokestatic 99, 3) := by decide +kernel
theorem dX5_worth_5 : decode cX5_worth 5 = .ok (.ifCond .eq 7, 3) := by decide +kernel
theorem dX5_worth_8 : decode cX5_worth 8 = .ok (.iconst 0, 1) := by decide +kernel
theorem dX5_worth_9 : decode cX5_worth 9 = .ok (.goto 4, 3) := by decide +kernel
theorem dX5_worth_12 : decode cX5_worth 12 = .ok (.iconst 1, 1) := by decide +kernel
theorem dX5_worth_13 : decode cX5_worth 13 = .ok (.putfield 52, 3) := by decide +kernel
theorem dX5_worth_16 : decode cX5_worth 16 = .ok (.iconst 0, 1) := by decide +kernel
theorem dX5_worth_17 : decode cX5_worth 17 = .ok (.istore_n 2, 1) := by decide +kernel
theorem dX5_worth_18 : decode cX5_worth 18 = .ok (.iconst 0, 1) := by decide +kernel
theorem dX5_worth_19 : decode cX5_worth 19 = .ok (.istore_n 3, 1) := by decide +kernel
theorem dX5_worth_20 : decode cX5_worth 20 = .ok (.iload_n 3, 1) := by decide +kernel
theorem dX5_worth_21 : decode cX5_worth 21 = .ok (.aload_n 0, 1) := by decide +kernel
theorem dX5_worth_22 : decode cX5_worth 22 = .ok (.getfield 63, 3) := by decide +kernel
theorem dX5_worth_25 : decode cX5_worth 25 = .ok (.if_icmp .ge 40, 3) := by decide +kernel
theorem dX5_worth_28 : decode cX5_worth 28 = .ok (.aload_n 0, 1) := by decide +kernel
theorem dX5_worth_29 : decode cX5_worth 29 = .ok (.getfield 52, 3) := by decide +kernel
theorem dX5_worth_32 : decode cX5_worth 32 = .ok (.ifCond .ne 33, 3) := by decide +kernel
theorem dX5_worth_35 : decode cX5_worth 35 = .ok (.iload_n 2, 1) := by decide +kernel
theorem dX5_worth_36 : decode cX5_worth 36 = .ok (.aload_n 0, 1) := by decide +kernel
theorem dX5_worth_37 : decode cX5_worth 37 = .ok (.getfield 31, 3) := by decide +kernel
theorem dX5_worth_40 : decode cX5_worth 40 = .ok (.iload_n 3, 1) := by decide +kernel
theorem dX5_worth_41 : decode cX5_worth 41 = .ok (.iaload, 1) := by decide +kernel
theorem dX5_worth_42 : decode cX5_worth 42 = .ok (.iload_n 1, 1) := by decide +kernel
theorem dX5_worth_43 : decode cX5_worth 43 = .ok (.iconst 1, 1) := by decide +kernel
theorem dX5_worth_44 : decode cX5_worth 44 = .ok (.iadd, 1) := by decide +kernel
theorem dX5_worth_45 : decode cX5_worth 45 = .ok (.if_icmp .ne 11, 3) := by decide +kernel
theorem dX5_worth_48 : decode cX5_worth 48 = .ok (.aload_n 0, 1) := by decide +kernel
theorem dX5_worth_49 : decode cX5_worth 49 = .ok (.iload_n 3, 1) := by decide +kernel
theorem dX5_worth_50 : decode cX5_worth 50 = .ok (.invokevirtual 96, 3) := by decide +kernel
theorem dX5_worth_53 : decode cX5_worth 53 = .ok (.goto 4, 3) := by decide +kernel
theorem dX5_worth_56 : decode cX5_worth 56 = .ok (.iconst 0, 1) := by decide +kernel
theorem dX5_worth_57 : decode cX5_worth 57 = .ok (.iadd, 1) := by decide +kernel
theorem dX5_worth_58 : decode cX5_worth 58 = .ok (.istore_n 2, 1) := by decide +kernel
theorem dX5_worth_59 : decode cX5_worth 59 = .ok (.iinc 3 1, 3) := by decide +kernel
theorem dX5_worth_62 : decode cX5_worth 62 = .ok (.goto (-42), 3) := by decide +kernel
theorem dX5_worth_65 : decode cX5_worth 65 = .ok (.iload_n 2, 1) := by decide +kernel
theorem dX5_worth_66 : decode cX5_worth 66 = .ok (.ireturn, 1) := by decide +kernel
theorem dX5_coinAt_0 : decode cX5_coinAt 0 = .ok (.aload_n 0, 1) := by decide +kernel
theorem dX5_coinAt_1 : decode cX5_coinAt 1 = .ok (.iload_n 1, 1) := by decide +kernel
theorem dX5_coinAt_2 : decode cX5_coinAt 2 = .ok (.invokestatic 99, 3) := by decide +kernel
theorem dX5_coinAt_5 : decode cX5_coinAt 5 = .ok (.ifCond .eq 7, 3) := by decide +kernel
theorem dX5_coinAt_8 : decode cX5_coinAt 8 = .ok (.iconst 0, 1) := by decide +kernel
theorem dX5_coinAt_9 : decode cX5_coinAt 9 = .ok (.goto 4, 3) := by decide +kernel
theorem dX5_coinAt_12 : decode cX5_coinAt 12 = .ok (.iconst 1, 1) := by decide +kernel
theorem dX5_coinAt_13 : decode cX5_coinAt 13 = .ok (.putfield 52, 3) := by decide +kernel
theorem dX5_coinAt_16 : decode cX5_coinAt 16 = .ok (.iconst 0, 1) := by decide +kernel
theorem dX5_coinAt_17 : decode cX5_coinAt 17 = .ok (.istore_n 3, 1) := by decide +kernel
theorem dX5_coinAt_18 : decode cX5_coinAt 18 = .ok (.iload_n 3, 1) := by decide +kernel
theorem dX5_coinAt_19 : decode cX5_coinAt 19 = .ok (.aload_n 0, 1) := by decide +kernel
theorem dX5_coinAt_20 : decode cX5_coinAt 20 = .ok (.getfield 63, 3) := by decide +kernel
theorem dX5_coinAt_23 : decode cX5_coinAt 23 = .ok (.if_icmp .ge 126, 3) := by decide +kernel
theorem dX5_coinAt_26 : decode cX5_coinAt 26 = .ok (.aload_n 0, 1) := by decide +kernel
theorem dX5_coinAt_27 : decode cX5_coinAt 27 = .ok (.getfield 52, 3) := by decide +kernel
theorem dX5_coinAt_30 : decode cX5_coinAt 30 = .ok (.ifCond .ne 119, 3) := by decide +kernel
theorem dX5_coinAt_33 : decode cX5_coinAt 33 = .ok (.iconst 0, 1) := by decide +kernel
theorem dX5_coinAt_34 : decode cX5_coinAt 34 = .ok (.istore 4, 2) := by decide +kernel
theorem dX5_coinAt_36 : decode cX5_coinAt 36 = .ok (.iconst 0, 1) := by decide +kernel
theorem dX5_coinAt_37 : decode cX5_coinAt 37 = .ok (.istore 5, 2) := by decide +kernel
theorem dX5_coinAt_39 : decode cX5_coinAt 39 = .ok (.iload 5, 2) := by decide +kernel
theorem dX5_coinAt_41 : decode cX5_coinAt 41 = .ok (.aload_n 0, 1) := by decide +kernel
theorem dX5_coinAt_42 : decode cX5_coinAt 42 = .ok (.getfield 63, 3) := by decide +kernel
theorem dX5_coinAt_45 : decode cX5_coinAt 45 = .ok (.if_icmp .ge 78, 3) := by decide +kernel
theorem dX5_coinAt_48 : decode cX5_coinAt 48 = .ok (.aload_n 0, 1) := by decide +kernel
theorem dX5_coinAt_49 : decode cX5_coinAt 49 = .ok (.getfield 31, 3) := by decide +kernel
theorem dX5_coinAt_52 : decode cX5_coinAt 52 = .ok (.iload_n 3, 1) := by decide +kernel
theorem dX5_coinAt_53 : decode cX5_coinAt 53 = .ok (.iaload, 1) := by decide +kernel
theorem dX5_coinAt_54 : decode cX5_coinAt 54 = .ok (.iload_n 1, 1) := by decide +kernel
theorem dX5_coinAt_55 : decode cX5_coinAt 55 = .ok (.iconst 1, 1) := by decide +kernel
theorem dX5_coinAt_56 : decode cX5_coinAt 56 = .ok (.iadd, 1) := by decide +kernel
theorem dX5_coinAt_57 : decode cX5_coinAt 57 = .ok (.if_icmp .ne 66, 3) := by decide +kernel
theorem dX5_coinAt_60 : decode cX5_coinAt 60 = .ok (.aload_n 0, 1) := by decide +kernel
theorem dX5_coinAt_61 : decode cX5_coinAt 61 = .ok (.getfield 31, 3) := by decide +kernel
theorem dX5_coinAt_64 : decode cX5_coinAt 64 = .ok (.iload 5, 2) := by decide +kernel
theorem dX5_coinAt_66 : decode cX5_coinAt 66 = .ok (.iaload, 1) := by decide +kernel
theorem dX5_coinAt_67 : decode cX5_coinAt 67 = .ok (.iload_n 1, 1) := by decide +kernel
theorem dX5_coinAt_68 : decode cX5_coinAt 68 = .ok (.iconst 1, 1) := by decide +kernel
theorem dX5_coinAt_69 : decode cX5_coinAt 69 = .ok (.iadd, 1) := by decide +kernel
theorem dX5_coinAt_70 : decode cX5_coinAt 70 = .ok (.if_icmp .ne 18, 3) := by decide +kernel
theorem dX5_coinAt_73 : decode cX5_coinAt 73 = .ok (.aload_n 0, 1) := by decide +kernel
theorem dX5_coinAt_74 : decode cX5_coinAt 74 = .ok (.iload 5, 2) := by decide +kernel
theorem dX5_coinAt_76 : decode cX5_coinAt 76 = .ok (.invokevirtual 96, 3) := by decide +kernel
theorem dX5_coinAt_79 : decode cX5_coinAt 79 = .ok (.aload_n 0, 1) := by decide +kernel
theorem dX5_coinAt_80 : decode cX5_coinAt 80 = .ok (.iload_n 3, 1) := by decide +kernel
theorem dX5_coinAt_81 : decode cX5_coinAt 81 = .ok (.invokevirtual 96, 3) := by decide +kernel
theorem dX5_coinAt_84 : decode cX5_coinAt 84 = .ok (.isub, 1) := by decide +kernel
theorem dX5_coinAt_85 : decode cX5_coinAt 85 = .ok (.goto 4, 3) := by decide +kernel
theorem dX5_coinAt_88 : decode cX5_coinAt 88 = .ok (.iconst (-1), 1) := by decide +kernel
theorem dX5_coinAt_89 : decode cX5_coinAt 89 = .ok (.istore 6, 2) := by decide +kernel
theorem dX5_coinAt_91 : decode cX5_coinAt 91 = .ok (.iload 4, 2) := by decide +kernel
theorem dX5_coinAt_93 : decode cX5_coinAt 93 = .ok (.iload 6, 2) := by decide +kernel
theorem dX5_coinAt_95 : decode cX5_coinAt 95 = .ok (.ifCond .gt 14, 3) := by decide +kernel
theorem dX5_coinAt_98 : decode cX5_coinAt 98 = .ok (.iload 6, 2) := by decide +kernel
theorem dX5_coinAt_100 : decode cX5_coinAt 100 = .ok (.ifCond .ne 13, 3) := by decide +kernel
theorem dX5_coinAt_103 : decode cX5_coinAt 103 = .ok (.iload 5, 2) := by decide +kernel
theorem dX5_coinAt_105 : decode cX5_coinAt 105 = .ok (.iload_n 3, 1) := by decide +kernel
theorem dX5_coinAt_106 : decode cX5_coinAt 106 = .ok (.if_icmp .ge 7, 3) := by decide +kernel
theorem dX5_coinAt_109 : decode cX5_coinAt 109 = .ok (.iconst 1, 1) := by decide +kernel
theorem dX5_coinAt_110 : decode cX5_coinAt 110 = .ok (.goto 4, 3) := by decide +kernel
theorem dX5_coinAt_113 : decode cX5_coinAt 113 = .ok (.iconst 0, 1) := by decide +kernel
theorem dX5_coinAt_114 : decode cX5_coinAt 114 = .ok (.iadd, 1) := by decide +kernel
theorem dX5_coinAt_115 : decode cX5_coinAt 115 = .ok (.istore 4, 2) := by decide +kernel
theorem dX5_coinAt_117 : decode cX5_coinAt 117 = .ok (.iinc 5 1, 3) := by decide +kernel
theorem dX5_coinAt_120 : decode cX5_coinAt 120 = .ok (.goto (-81), 3) := by decide +kernel
theorem dX5_coinAt_123 : decode cX5_coinAt 123 = .ok (.aload_n 0, 1) := by decide +kernel
theorem dX5_coinAt_124 : decode cX5_coinAt 124 = .ok (.getfield 31, 3) := by decide +kernel
theorem dX5_coinAt_127 : decode cX5_coinAt 127 = .ok (.iload_n 3, 1) := by decide +kernel
theorem dX5_coinAt_128 : decode cX5_coinAt 128 = .ok (.iaload, 1) := by decide +kernel
theorem dX5_coinAt_129 : decode cX5_coinAt 129 = .ok (.iload_n 1, 1) := by decide +kernel
theorem dX5_coinAt_130 : decode cX5_coinAt 130 = .ok (.iconst 1, 1) := by decide +kernel
theorem dX5_coinAt_131 : decode cX5_coinAt 131 = .ok (.iadd, 1) := by decide +kernel
theorem dX5_coinAt_132 : decode cX5_coinAt 132 = .ok (.if_icmp .ne 11, 3) := by decide +kernel
theorem dX5_coinAt_135 : decode cX5_coinAt 135 = .ok (.iload 4, 2) := by decide +kernel
theorem dX5_coinAt_137 : decode cX5_coinAt 137 = .ok (.iload_n 2, 1) := by decide +kernel
theorem dX5_coinAt_138 : decode cX5_coinAt 138 = .ok (.if_icmp .ne 5, 3) := by decide +kernel
theorem dX5_coinAt_141 : decode cX5_coinAt 141 = .ok (.iload_n 3, 1) := by decide +kernel
theorem dX5_coinAt_142 : decode cX5_coinAt 142 = .ok (.ireturn, 1) := by decide +kernel
theorem dX5_coinAt_143 : decode cX5_coinAt 143 = .ok (.iinc 3 1, 3) := by decide +kernel
theorem dX5_coinAt_146 : decode cX5_coinAt 146 = .ok (.goto (-128), 3) := by decide +kernel
theorem dX5_coinAt_149 : decode cX5_coinAt 149 = .ok (.aload_n 0, 1) := by decide +kernel
theorem dX5_coinAt_150 : decode cX5_coinAt 150 = .ok (.iconst 1, 1) := by decide +kernel
theorem dX5_coinAt_151 : decode cX5_coinAt 151 = .ok (.putfield 52, 3) := by decide +kernel
theorem dX5_coinAt_154 : decode cX5_coinAt 154 = .ok (.iconst 0, 1) := by decide +kernel
theorem dX5_coinAt_155 : decode cX5_coinAt 155 = .ok (.ireturn, 1) := by decide +kernel
theorem dX5_takes_0 : decode cX5_takes 0 = .ok (.iload_n 2, 1) := by decide +kernel
theorem dX5_takes_1 : decode cX5_takes 1 = .ok (.bipush 16, 2) := by decide +kernel
theorem dX5_takes_3 : decode cX5_takes 3 = .ok (.idiv, 1) := by decide +kernel
theorem dX5_takes_4 : decode cX5_takes 4 = .ok (.istore_n 3, 1) := by decide +kernel
theorem dX5_takes_5 : decode cX5_takes 5 = .ok (.aload_n 0, 1) := by decide +kernel
theorem dX5_takes_6 : decode cX5_takes 6 = .ok (.getfield 37, 3) := by decide +kernel
theorem dX5_takes_9 : decode cX5_takes 9 = .ok (.iload_n 3, 1) := by decide +kernel
theorem dX5_takes_10 : decode cX5_takes 10 = .ok (.iaload, 1) := by decide +kernel
theorem dX5_takes_11 : decode cX5_takes 11 = .ok (.iload_n 1, 1) := by decide +kernel
theorem dX5_takes_12 : decode cX5_takes 12 = .ok (.bipush 16, 2) := by decide +kernel
theorem dX5_takes_14 : decode cX5_takes 14 = .ok (.irem, 1) := by decide +kernel
theorem dX5_takes_15 : decode cX5_takes 15 = .ok (.ishr, 1) := by decide +kernel
theorem dX5_takes_16 : decode cX5_takes 16 = .ok (.iconst 1, 1) := by decide +kernel
theorem dX5_takes_17 : decode cX5_takes 17 = .ok (.iand, 1) := by decide +kernel
theorem dX5_takes_18 : decode cX5_takes 18 = .ok (.iconst 1, 1) := by decide +kernel
theorem dX5_takes_19 : decode cX5_takes 19 = .ok (.if_icmp .ne 36, 3) := by decide +kernel
theorem dX5_takes_22 : decode cX5_takes 22 = .ok (.bipush 100, 2) := by decide +kernel
theorem dX5_takes_24 : decode cX5_takes 24 = .ok (.aload_n 0, 1) := by decide +kernel
theorem dX5_takes_25 : decode cX5_takes 25 = .ok (.iload_n 1, 1) := by decide +kernel
theorem dX5_takes_26 : decode cX5_takes 26 = .ok (.bipush 16, 2) := by decide +kernel
theorem dX5_takes_28 : decode cX5_takes 28 = .ok (.irem, 1) := by decide +kernel
theorem dX5_takes_29 : decode cX5_takes 29 = .ok (.invokevirtual 93, 3) := by decide +kernel
theorem dX5_takes_32 : decode cX5_takes 32 = .ok (.imul, 1) := by decide +kernel
theorem dX5_takes_33 : decode cX5_takes 33 = .ok (.aload_n 0, 1) := by decide +kernel
theorem dX5_takes_34 : decode cX5_takes 34 = .ok (.getfield 40, 3) := by decide +kernel
theorem dX5_takes_37 : decode cX5_takes 37 = .ok (.iload_n 3, 1) := by decide +kernel
theorem dX5_takes_38 : decode cX5_takes 38 = .ok (.iaload, 1) := by decide +kernel
theorem dX5_takes_39 : decode cX5_takes 39 = .ok (.aload_n 0, 1) := by decide +kernel
theorem dX5_takes_40 : decode cX5_takes 40 = .ok (.iload_n 2, 1) := by decide +kernel
theorem dX5_takes_41 : decode cX5_takes 41 = .ok (.bipush 16, 2) := by decide +kernel
theorem dX5_takes_43 : decode cX5_takes 43 = .ok (.irem, 1) := by decide +kernel
theorem dX5_takes_44 : decode cX5_takes 44 = .ok (.invokevirtual 93, 3) := by decide +kernel
theorem dX5_takes_47 : decode cX5_takes 47 = .ok (.imul, 1) := by decide +kernel
theorem dX5_takes_48 : decode cX5_takes 48 = .ok (.if_icmp .lt 7, 3) := by decide +kernel
theorem dX5_takes_51 : decode cX5_takes 51 = .ok (.iconst 1, 1) := by decide +kernel
theorem dX5_takes_52 : decode cX5_takes 52 = .ok (.goto 4, 3) := by decide +kernel
theorem dX5_takes_55 : decode cX5_takes 55 = .ok (.iconst 0, 1) := by decide +kernel
theorem dX5_takes_56 : decode cX5_takes 56 = .ok (.ireturn, 1) := by decide +kernel
theorem dX5_canFollow_0 : decode cX5_canFollow 0 = .ok (.aload_n 0, 1) := by decide +kernel
theorem dX5_canFollow_1 : decode cX5_canFollow 1 = .ok (.getfield 49, 3) := by decide +kernel
theorem dX5_canFollow_4 : decode cX5_canFollow 4 = .ok (.iload_n 1, 1) := by decide +kernel
theorem dX5_canFollow_5 : decode cX5_canFollow 5 = .ok (.iaload, 1) := by decide +kernel
theorem dX5_canFollow_6 : decode cX5_canFollow 6 = .ok (.istore_n 2, 1) := by decide +kernel
theorem dX5_canFollow_7 : decode cX5_canFollow 7 = .ok (.iload_n 2, 1) := by decide +kernel
theorem dX5_canFollow_8 : decode cX5_canFollow 8 = .ok (.bipush 16, 2) := by decide +kernel
theorem dX5_canFollow_10 : decode cX5_canFollow 10 = .ok (.irem, 1) := by decide +kernel
theorem dX5_canFollow_11 : decode cX5_canFollow 11 = .ok (.aload_n 0, 1) := by decide +kernel
theorem dX5_canFollow_12 : decode cX5_canFollow 12 = .ok (.getfield 56, 3) := by decide +kernel
theorem dX5_canFollow_15 : decode cX5_canFollow 15 = .ok (.if_icmp .ge 39, 3) := by decide +kernel
theorem dX5_canFollow_18 : decode cX5_canFollow 18 = .ok (.aload_n 0, 1) := by decide +kernel
theorem dX5_canFollow_19 : decode cX5_canFollow 19 = .ok (.iload_n 2, 1) := by decide +kernel
theorem dX5_canFollow_20 : decode cX5_canFollow 20 = .ok (.bipush 16, 2) := by decide +kernel
theorem dX5_canFollow_22 : decode cX5_canFollow 22 = .ok (.idiv, 1) := by decide +kernel
theorem dX5_canFollow_23 : decode cX5_canFollow 23 = .ok (.iload_n 2, 1) := by decide +kernel
theorem dX5_canFollow_24 : decode cX5_canFollow 24 = .ok (.bipush 16, 2) := by decide +kernel
theorem dX5_canFollow_26 : decode cX5_canFollow 26 = .ok (.irem, 1) := by decide +kernel
theorem dX5_canFollow_27 : decode cX5_canFollow 27 = .ok (.invokevirtual 109, 3) := by decide +kernel
theorem dX5_canFollow_30 : decode cX5_canFollow 30 = .ok (.iconst (-1), 1) := by decide +kernel
theorem dX5_canFollow_31 : decode cX5_canFollow 31 = .ok (.if_icmp .eq 23, 3) := by decide +kernel
theorem dX5_canFollow_34 : decode cX5_canFollow 34 = .ok (.aload_n 0, 1) := by decide +kernel
theorem dX5_canFollow_35 : decode cX5_canFollow 35 = .ok (.aload_n 0, 1) := by decide +kernel
theorem dX5_canFollow_36 : decode cX5_canFollow 36 = .ok (.getfield 49, 3) := by decide +kernel
theorem dX5_canFollow_39 : decode cX5_canFollow 39 = .ok (.iload_n 1, 1) := by decide +kernel
theorem dX5_canFollow_40 : decode cX5_canFollow 40 = .ok (.iconst 1, 1) := by decide +kernel
theorem dX5_canFollow_41 : decode cX5_canFollow 41 = .ok (.isub, 1) := by decide +kernel
theorem dX5_canFollow_42 : decode cX5_canFollow 42 = .ok (.iaload, 1) := by decide +kernel
theorem dX5_canFollow_43 : decode cX5_canFollow 43 = .ok (.iload_n 2, 1) := by decide +kernel
theorem dX5_canFollow_44 : decode cX5_canFollow 44 = .ok (.invokevirtual 112, 3) := by decide +kernel
theorem dX5_canFollow_47 : decode cX5_canFollow 47 = .ok (.ifCond .eq 7, 3) := by decide +kernel
theorem dX5_canFollow_50 : decode cX5_canFollow 50 = .ok (.iconst 1, 1) := by decide +kernel
theorem dX5_canFollow_51 : decode cX5_canFollow 51 = .ok (.goto 4, 3) := by decide +kernel
theorem dX5_canFollow_54 : decode cX5_canFollow 54 = .ok (.iconst 0, 1) := by decide +kernel
theorem dX5_canFollow_55 : decode cX5_canFollow 55 = .ok (.istore_n 3, 1) := by decide +kernel
theorem dX5_canFollow_56 : decode cX5_canFollow 56 = .ok (.iconst 1, 1) := by decide +kernel
theorem dX5_canFollow_57 : decode cX5_canFollow 57 = .ok (.istore 4, 2) := by decide +kernel
theorem dX5_canFollow_59 : decode cX5_canFollow 59 = .ok (.iload 4, 2) := by decide +kernel
theorem dX5_canFollow_61 : decode cX5_canFollow 61 = .ok (.iload_n 1, 1) := by decide +kernel
theorem dX5_canFollow_62 : decode cX5_canFollow 62 = .ok (.if_icmp .ge 36, 3) := by decide +kernel
theorem dX5_canFollow_65 : decode cX5_canFollow 65 = .ok (.iload_n 3, 1) := by decide +kernel
theorem dX5_canFollow_66 : decode cX5_canFollow 66 = .ok (.ifCond .eq 24, 3) := by decide +kernel
theorem dX5_canFollow_69 : decode cX5_canFollow 69 = .ok (.aload_n 0, 1) := by decide +kernel
theorem dX5_canFollow_70 : decode cX5_canFollow 70 = .ok (.getfield 49, 3) := by decide +kernel
theorem dX5_canFollow_73 : decode cX5_canFollow 73 = .ok (.iload 4, 2) := by decide +kernel
theorem dX5_canFollow_75 : decode cX5_canFollow 75 = .ok (.iaload, 1) := by decide +kernel
theorem dX5_canFollow_76 : decode cX5_canFollow 76 = .ok (.bipush 16, 2) := by decide +kernel
theorem dX5_canFollow_78 : decode cX5_canFollow 78 = .ok (.idiv, 1) := by decide +kernel
theorem dX5_canFollow_79 : decode cX5_canFollow 79 = .ok (.iload_n 2, 1) := by decide +kernel
theorem dX5_canFollow_80 : decode cX5_canFollow 80 = .ok (.bipush 16, 2) := by decide +kernel
theorem dX5_canFollow_82 : decode cX5_canFollow 82 = .ok (.idiv, 1) := by decide +kernel
theorem dX5_canFollow_83 : decode cX5_canFollow 83 = .ok (.if_icmp .eq 7, 3) := by decide +kernel
theorem dX5_canFollow_86 : decode cX5_canFollow 86 = .ok (.iconst 1, 1) := by decide +kernel
theorem dX5_canFollow_87 : decode cX5_canFollow 87 = .ok (.goto 4, 3) := by decide +kernel
theorem dX5_canFollow_90 : decode cX5_canFollow 90 = .ok (.iconst 0, 1) := by decide +kernel
theorem dX5_canFollow_91 : decode cX5_canFollow 91 = .ok (.istore_n 3, 1) := by decide +kernel
theorem dX5_canFollow_92 : decode cX5_canFollow 92 = .ok (.iinc 4 1, 3) := by decide +kernel
theorem dX5_canFollow_95 : decode cX5_canFollow 95 = .ok (.goto (-36), 3) := by decide +kernel
theorem dX5_canFollow_98 : decode cX5_canFollow 98 = .ok (.iload_n 3, 1) := by decide +kernel
theorem dX5_canFollow_99 : decode cX5_canFollow 99 = .ok (.ireturn, 1) := by decide +kernel
theorem dX5_findsFrom_0 : decode cX5_findsFrom 0 = .ok (.aload_n 0, 1) := by decide +kernel
theorem dX5_findsFrom_1 : decode cX5_findsFrom 1 = .ok (.getfield 49, 3) := by decide +kernel
theorem dX5_findsFrom_4 : decode cX5_findsFrom 4 = .ok (.iconst 0, 1) := by decide +kernel
theorem dX5_findsFrom_5 : decode cX5_findsFrom 5 = .ok (.iload_n 1, 1) := by decide +kernel
theorem dX5_findsFrom_6 : decode cX5_findsFrom 6 = .ok (.iastore, 1) := by decide +kernel
theorem dX5_findsFrom_7 : decode cX5_findsFrom 7 = .ok (.iconst 1, 1) := by decide +kernel
theorem dX5_findsFrom_8 : decode cX5_findsFrom 8 = .ok (.istore_n 3, 1) := by decide +kernel
theorem dX5_findsFrom_9 : decode cX5_findsFrom 9 = .ok (.bipush 16, 2) := by decide +kernel
theorem dX5_findsFrom_11 : decode cX5_findsFrom 11 = .ok (.iload_n 1, 1) := by decide +kernel
theorem dX5_findsFrom_12 : decode cX5_findsFrom 12 = .ok (.bipush 16, 2) := by decide +kernel
theorem dX5_findsFrom_14 : decode cX5_findsFrom 14 = .ok (.idiv, 1) := by decide +kernel
theorem dX5_findsFrom_15 : decode cX5_findsFrom 15 = .ok (.iconst 1, 1) := by decide +kernel
theorem dX5_findsFrom_16 : decode cX5_findsFrom 16 = .ok (.iadd, 1) := by decide +kernel
theorem dX5_findsFrom_17 : decode cX5_findsFrom 17 = .ok (.imul, 1) := by decide +kernel
theorem dX5_findsFrom_18 : decode cX5_findsFrom 18 = .ok (.istore 4, 2) := by decide +kernel
theorem dX5_findsFrom_20 : decode cX5_findsFrom 20 = .ok (.aload_n 0, 1) := by decide +kernel
theorem dX5_findsFrom_21 : decode cX5_findsFrom 21 = .ok (.getfield 49, 3) := by decide +kernel
theorem dX5_findsFrom_24 : decode cX5_findsFrom 24 = .ok (.iconst 1, 1) := by decide +kernel
theorem dX5_findsFrom_25 : decode cX5_findsFrom 25 = .ok (.iload 4, 2) := by decide +kernel
theorem dX5_findsFrom_27 : decode cX5_findsFrom 27 = .ok (.iconst 1, 1) := by decide +kernel
theorem dX5_findsFrom_28 : decode cX5_findsFrom 28 = .ok (.isub, 1) := by decide +kernel
theorem dX5_findsFrom_29 : decode cX5_findsFrom 29 = .ok (.iastore, 1) := by decide +kernel
theorem dX5_findsFrom_30 : decode cX5_findsFrom 30 = .ok (.iload_n 3, 1) := by decide +kernel
theorem dX5_findsFrom_31 : decode cX5_findsFrom 31 = .ok (.ifCond .le 78, 3) := by decide +kernel
theorem dX5_findsFrom_34 : decode cX5_findsFrom 34 = .ok (.aload_n 0, 1) := by decide +kernel
theorem dX5_findsFrom_35 : decode cX5_findsFrom 35 = .ok (.getfield 49, 3) := by decide +kernel
theorem dX5_findsFrom_38 : decode cX5_findsFrom 38 = .ok (.iload_n 3, 1) := by decide +kernel
theorem dX5_findsFrom_39 : decode cX5_findsFrom 39 = .ok (.dup2, 1) := by decide +kernel
theorem dX5_findsFrom_40 : decode cX5_findsFrom 40 = .ok (.iaload, 1) := by decide +kernel
theorem dX5_findsFrom_41 : decode cX5_findsFrom 41 = .ok (.iconst 1, 1) := by decide +kernel
theorem dX5_findsFrom_42 : decode cX5_findsFrom 42 = .ok (.iadd, 1) := by decide +kernel
theorem dX5_findsFrom_43 : decode cX5_findsFrom 43 = .ok (.iastore, 1) := by decide +kernel
theorem dX5_findsFrom_44 : decode cX5_findsFrom 44 = .ok (.aload_n 0, 1) := by decide +kernel
theorem dX5_findsFrom_45 : decode cX5_findsFrom 45 = .ok (.getfield 49, 3) := by decide +kernel
theorem dX5_findsFrom_48 : decode cX5_findsFrom 48 = .ok (.iload_n 3, 1) := by decide +kernel
theorem dX5_findsFrom_49 : decode cX5_findsFrom 49 = .ok (.iaload, 1) := by decide +kernel
theorem dX5_findsFrom_50 : decode cX5_findsFrom 50 = .ok (.sipush 128, 3) := by decide +kernel
theorem dX5_findsFrom_53 : decode cX5_findsFrom 53 = .ok (.if_icmp .ne 9, 3) := by decide +kernel
theorem dX5_findsFrom_56 : decode cX5_findsFrom 56 = .ok (.iinc 3 (-1), 3) := by decide +kernel
theorem dX5_findsFrom_59 : decode cX5_findsFrom 59 = .ok (.goto (-29), 3) := by decide +kernel
theorem dX5_findsFrom_62 : decode cX5_findsFrom 62 = .ok (.aload_n 0, 1) := by decide +kernel
theorem dX5_findsFrom_63 : decode cX5_findsFrom 63 = .ok (.iload_n 3, 1) := by decide +kernel
theorem dX5_findsFrom_64 : decode cX5_findsFrom 64 = .ok (.invokevirtual 116, 3) := by decide +kernel
theorem dX5_findsFrom_67 : decode cX5_findsFrom 67 = .ok (.ifCond .eq (-37), 3) := by decide +kernel
theorem dX5_findsFrom_70 : decode cX5_findsFrom 70 = .ok (.iload_n 3, 1) := by decide +kernel
theorem dX5_findsFrom_71 : decode cX5_findsFrom 71 = .ok (.iload_n 2, 1) := by decide +kernel
theorem dX5_findsFrom_72 : decode cX5_findsFrom 72 = .ok (.iconst 1, 1) := by decide +kernel
theorem dX5_findsFrom_73 : decode cX5_findsFrom 73 = .ok (.isub, 1) := by decide +kernel
theorem dX5_findsFrom_74 : decode cX5_findsFrom 74 = .ok (.if_icmp .ge 19, 3) := by decide +kernel
theorem dX5_findsFrom_77 : decode cX5_findsFrom 77 = .ok (.iinc 3 1, 3) := by decide +kernel
theorem dX5_findsFrom_80 : decode cX5_findsFrom 80 = .ok (.aload_n 0, 1) := by decide +kernel
theorem dX5_findsFrom_81 : decode cX5_findsFrom 81 = .ok (.getfield 49, 3) := by decide +kernel
theorem dX5_findsFrom_84 : decode cX5_findsFrom 84 = .ok (.iload_n 3, 1) := by decide +kernel
theorem dX5_findsFrom_85 : decode cX5_findsFrom 85 = .ok (.iload 4, 2) := by decide +kernel
theorem dX5_findsFrom_87 : decode cX5_findsFrom 87 = .ok (.iconst 1, 1) := by decide +kernel
theorem dX5_findsFrom_88 : decode cX5_findsFrom 88 = .ok (.isub, 1) := by decide +kernel
theorem dX5_findsFrom_89 : decode cX5_findsFrom 89 = .ok (.iastore, 1) := by decide +kernel
theorem dX5_findsFrom_90 : decode cX5_findsFrom 90 = .ok (.goto (-60), 3) := by decide +kernel
theorem dX5_findsFrom_93 : decode cX5_findsFrom 93 = .ok (.aload_n 0, 1) := by decide +kernel
theorem dX5_findsFrom_94 : decode cX5_findsFrom 94 = .ok (.aload_n 0, 1) := by decide +kernel
theorem dX5_findsFrom_95 : decode cX5_findsFrom 95 = .ok (.getfield 49, 3) := by decide +kernel
theorem dX5_findsFrom_98 : decode cX5_findsFrom 98 = .ok (.iload_n 3, 1) := by decide +kernel
theorem dX5_findsFrom_99 : decode cX5_findsFrom 99 = .ok (.iaload, 1) := by decide +kernel
theorem dX5_findsFrom_100 : decode cX5_findsFrom 100 = .ok (.iload_n 1, 1) := by decide +kernel
theorem dX5_findsFrom_101 : decode cX5_findsFrom 101 = .ok (.invokevirtual 112, 3) := by decide +kernel
theorem dX5_findsFrom_104 : decode cX5_findsFrom 104 = .ok (.ifCond .eq (-74), 3) := by decide +kernel
theorem dX5_findsFrom_107 : decode cX5_findsFrom 107 = .ok (.iconst 1, 1) := by decide +kernel
theorem dX5_findsFrom_108 : decode cX5_findsFrom 108 = .ok (.ireturn, 1) := by decide +kernel
theorem dX5_findsFrom_109 : decode cX5_findsFrom 109 = .ok (.iconst 0, 1) := by decide +kernel
theorem dX5_findsFrom_110 : decode cX5_findsFrom 110 = .ok (.ireturn, 1) := by decide +kernel
theorem dX5_finds_0 : decode cX5_finds 0 = .ok (.iconst 2, 1) := by decide +kernel
theorem dX5_finds_1 : decode cX5_finds 1 = .ok (.istore_n 1, 1) := by decide +kernel
theorem dX5_finds_2 : decode cX5_finds 2 = .ok (.iload_n 1, 1) := by decide +kernel
theorem dX5_finds_3 : decode cX5_finds 3 = .ok (.iconst 5, 1) := by decide +kernel
theorem dX5_finds_4 : decode cX5_finds 4 = .ok (.if_icmp .ge 61, 3) := by decide +kernel
theorem dX5_finds_7 : decode cX5_finds 7 = .ok (.iconst 0, 1) := by decide +kernel
theorem dX5_finds_8 : decode cX5_finds 8 = .ok (.istore_n 2, 1) := by decide +kernel
theorem dX5_finds_9 : decode cX5_finds 9 = .ok (.iload_n 2, 1) := by decide +kernel
theorem dX5_finds_10 : decode cX5_finds 10 = .ok (.bipush 112, 2) := by decide +kernel
theorem dX5_finds_12 : decode cX5_finds 12 = .ok (.if_icmp .ge 47, 3) := by decide +kernel
theorem dX5_finds_15 : decode cX5_finds 15 = .ok (.iload_n 2, 1) := by decide +kernel
theorem dX5_finds_16 : decode cX5_finds 16 = .ok (.bipush 16, 2) := by decide +kernel
theorem dX5_finds_18 : decode cX5_finds 18 = .ok (.irem, 1) := by decide +kernel
theorem dX5_finds_19 : decode cX5_finds 19 = .ok (.aload_n 0, 1) := by decide +kernel
theorem dX5_finds_20 : decode cX5_finds 20 = .ok (.getfield 56, 3) := by decide +kernel
theorem dX5_finds_23 : decode cX5_finds 23 = .ok (.if_icmp .ge 30, 3) := by decide +kernel
theorem dX5_finds_26 : decode cX5_finds 26 = .ok (.aload_n 0, 1) := by decide +kernel
theorem dX5_finds_27 : decode cX5_finds 27 = .ok (.iload_n 2, 1) := by decide +kernel
theorem dX5_finds_28 : decode cX5_finds 28 = .ok (.bipush 16, 2) := by decide +kernel
theorem dX5_finds_30 : decode cX5_finds 30 = .ok (.idiv, 1) := by decide +kernel
theorem dX5_finds_31 : decode cX5_finds 31 = .ok (.iload_n 2, 1) := by decide +kernel
theorem dX5_finds_32 : decode cX5_finds 32 = .ok (.bipush 16, 2) := by decide +kernel
theorem dX5_finds_34 : decode cX5_finds 34 = .ok (.irem, 1) := by decide +kernel
theorem dX5_finds_35 : decode cX5_finds 35 = .ok (.invokevirtual 109, 3) := by decide +kernel
theorem dX5_finds_38 : decode cX5_finds 38 = .ok (.iconst (-1), 1) := by decide +kernel
theorem dX5_finds_39 : decode cX5_finds 39 = .ok (.if_icmp .eq 14, 3) := by decide +kernel
theorem dX5_finds_42 : decode cX5_finds 42 = .ok (.aload_n 0, 1) := by decide +kernel
theorem dX5_finds_43 : decode cX5_finds 43 = .ok (.iload_n 2, 1) := by decide +kernel
theorem dX5_finds_44 : decode cX5_finds 44 = .ok (.iload_n 1, 1) := by decide +kernel
theorem dX5_finds_45 : decode cX5_finds 45 = .ok (.invokevirtual 119, 3) := by decide +kernel
theorem dX5_finds_48 : decode cX5_finds 48 = .ok (.ifCond .eq 5, 3) := by decide +kernel
theorem dX5_finds_51 : decode cX5_finds 51 = .ok (.iload_n 1, 1) := by decide +kernel
theorem dX5_finds_52 : decode cX5_finds 52 = .ok (.ireturn, 1) := by decide +kernel
theorem dX5_finds_53 : decode cX5_finds 53 = .ok (.iinc 2 1, 3) := by decide +kernel
theorem dX5_finds_56 : decode cX5_finds 56 = .ok (.goto (-47), 3) := by decide +kernel
theorem dX5_finds_59 : decode cX5_finds 59 = .ok (.iinc 1 1, 3) := by decide +kernel
theorem dX5_finds_62 : decode cX5_finds 62 = .ok (.goto (-60), 3) := by decide +kernel
theorem dX5_finds_65 : decode cX5_finds 65 = .ok (.iconst 0, 1) := by decide +kernel
theorem dX5_finds_66 : decode cX5_finds 66 = .ok (.ireturn, 1) := by decide +kernel
theorem dX5_ring_0 : decode cX5_ring 0 = .ok (.aload_n 0, 1) := by decide +kernel
theorem dX5_ring_1 : decode cX5_ring 1 = .ok (.iconst 0, 1) := by decide +kernel
theorem dX5_ring_2 : decode cX5_ring 2 = .ok (.putfield 52, 3) := by decide +kernel
theorem dX5_ring_5 : decode cX5_ring 5 = .ok (.aload_n 0, 1) := by decide +kernel
theorem dX5_ring_6 : decode cX5_ring 6 = .ok (.invokevirtual 122, 3) := by decide +kernel
theorem dX5_ring_9 : decode cX5_ring 9 = .ok (.ireturn, 1) := by decide +kernel
theorem dX5_told_0 : decode cX5_told 0 = .ok (.aload_n 0, 1) := by decide +kernel
theorem dX5_told_1 : decode cX5_told 1 = .ok (.getfield 49, 3) := by decide +kernel
theorem dX5_told_4 : decode cX5_told 4 = .ok (.iload_n 1, 1) := by decide +kernel
theorem dX5_told_5 : decode cX5_told 5 = .ok (.iaload, 1) := by decide +kernel
theorem dX5_told_6 : decode cX5_told 6 = .ok (.istore_n 2, 1) := by decide +kernel
theorem dX5_told_7 : decode cX5_told 7 = .ok (.sipush 1000, 3) := by decide +kernel
theorem dX5_told_10 : decode cX5_told 10 = .ok (.iload_n 2, 1) := by decide +kernel
theorem dX5_told_11 : decode cX5_told 11 = .ok (.bipush 16, 2) := by decide +kernel
theorem dX5_told_13 : decode cX5_told 13 = .ok (.idiv, 1) := by decide +kernel
theorem dX5_told_14 : decode cX5_told 14 = .ok (.imul, 1) := by decide +kernel
theorem dX5_told_15 : decode cX5_told 15 = .ok (.aload_n 0, 1) := by decide +kernel
theorem dX5_told_16 : decode cX5_told 16 = .ok (.iload_n 2, 1) := by decide +kernel
theorem dX5_told_17 : decode cX5_told 17 = .ok (.bipush 16, 2) := by decide +kernel
theorem dX5_told_19 : decode cX5_told 19 = .ok (.idiv, 1) := by decide +kernel
theorem dX5_told_20 : decode cX5_told 20 = .ok (.iload_n 2, 1) := by decide +kernel
theorem dX5_told_21 : decode cX5_told 21 = .ok (.bipush 16, 2) := by decide +kernel
theorem dX5_told_23 : decode cX5_told 23 = .ok (.irem, 1) := by decide +kernel
theorem dX5_told_24 : decode cX5_told 24 = .ok (.invokevirtual 109, 3) := by decide +kernel
theorem dX5_told_27 : decode cX5_told 27 = .ok (.iadd, 1) := by decide +kernel
theorem dX5_told_28 : decode cX5_told 28 = .ok (.ireturn, 1) := by decide +kernel
theorem dX5_ringAt_0 : decode cX5_ringAt 0 = .ok (.aload_n 0, 1) := by decide +kernel
theorem dX5_ringAt_1 : decode cX5_ringAt 1 = .ok (.invokevirtual 122, 3) := by decide +kernel
theorem dX5_ringAt_4 : decode cX5_ringAt 4 = .ok (.istore_n 2, 1) := by decide +kernel
theorem dX5_ringAt_5 : decode cX5_ringAt 5 = .ok (.aload_n 0, 1) := by decide +kernel
theorem dX5_ringAt_6 : decode cX5_ringAt 6 = .ok (.iload_n 1, 1) := by decide +kernel
theorem dX5_ringAt_7 : decode cX5_ringAt 7 = .ok (.iconst 0, 1) := by decide +kernel
theorem dX5_ringAt_8 : decode cX5_ringAt 8 = .ok (.iload_n 2, 1) := by decide +kernel
theorem dX5_ringAt_9 : decode cX5_ringAt 9 = .ok (.iconst 1, 1) := by decide +kernel
theorem dX5_ringAt_10 : decode cX5_ringAt 10 = .ok (.isub, 1) := by decide +kernel
theorem dX5_ringAt_11 : decode cX5_ringAt 11 = .ok (.invokestatic 59, 3) := by decide +kernel
theorem dX5_ringAt_14 : decode cX5_ringAt 14 = .ok (.ifCond .eq 7, 3) := by decide +kernel
theorem dX5_ringAt_17 : decode cX5_ringAt 17 = .ok (.iconst 0, 1) := by decide +kernel
theorem dX5_ringAt_18 : decode cX5_ringAt 18 = .ok (.goto 4, 3) := by decide +kernel
theorem dX5_ringAt_21 : decode cX5_ringAt 21 = .ok (.iconst 1, 1) := by decide +kernel
theorem dX5_ringAt_22 : decode cX5_ringAt 22 = .ok (.putfield 52, 3) := by decide +kernel
theorem dX5_ringAt_25 : decode cX5_ringAt 25 = .ok (.aload_n 0, 1) := by decide +kernel
theorem dX5_ringAt_26 : decode cX5_ringAt 26 = .ok (.getfield 52, 3) := by decide +kernel
theorem dX5_ringAt_29 : decode cX5_ringAt 29 = .ok (.ifCond .ne 11, 3) := by decide +kernel
theorem dX5_ringAt_32 : decode cX5_ringAt 32 = .ok (.aload_n 0, 1) := by decide +kernel
theorem dX5_ringAt_33 : decode cX5_ringAt 33 = .ok (.iload_n 1, 1) := by decide +kernel
theorem dX5_ringAt_34 : decode cX5_ringAt 34 = .ok (.invokevirtual 126, 3) := by decide +kernel
theorem dX5_ringAt_37 : decode cX5_ringAt 37 = .ok (.goto 4, 3) := by decide +kernel
theorem dX5_ringAt_40 : decode cX5_ringAt 40 = .ok (.iconst 0, 1) := by decide +kernel
theorem dX5_ringAt_41 : decode cX5_ringAt 41 = .ok (.ireturn, 1) := by decide +kernel
theorem dX5_swap_0 : decode cX5_swap 0 = .ok (.aload_n 0, 1) := by decide +kernel
theorem dX5_swap_1 : decode cX5_swap 1 = .ok (.getfield 129, 3) := by decide +kernel
theorem dX5_swap_4 : decode cX5_swap 4 = .ok (.bipush 60, 2) := by decide +kernel
theorem dX5_swap_6 : decode cX5_swap 6 = .ok (.if_icmp .ne 7, 3) := by decide +kernel
theorem dX5_swap_9 : decode cX5_swap 9 = .ok (.iconst 0, 1) := by decide +kernel
theorem dX5_swap_10 : decode cX5_swap 10 = .ok (.goto 7, 3) := by decide +kernel
theorem dX5_swap_13 : decode cX5_swap 13 = .ok (.aload_n 0, 1) := by decide +kernel
theorem dX5_swap_14 : decode cX5_swap 14 = .ok (.invokevirtual 122, 3) := by decide +kernel
theorem dX5_swap_17 : decode cX5_swap 17 = .ok (.istore_n 1, 1) := by decide +kernel
theorem dX5_swap_18 : decode cX5_swap 18 = .ok (.aload_n 0, 1) := by decide +kernel
theorem dX5_swap_19 : decode cX5_swap 19 = .ok (.iload_n 1, 1) := by decide +kernel
theorem dX5_swap_20 : decode cX5_swap 20 = .ok (.ifCond .ne 7, 3) := by decide +kernel
theorem dX5_swap_23 : decode cX5_swap 23 = .ok (.iconst 1, 1) := by decide +kernel
theorem dX5_swap_24 : decode cX5_swap 24 = .ok (.goto 4, 3) := by decide +kernel
theorem dX5_swap_27 : decode cX5_swap 27 = .ok (.iconst 0, 1) := by decide +kernel
theorem dX5_swap_28 : decode cX5_swap 28 = .ok (.putfield 52, 3) := by decide +kernel
theorem dX5_swap_31 : decode cX5_swap 31 = .ok (.aload_n 0, 1) := by decide +kernel
theorem dX5_swap_32 : decode cX5_swap 32 = .ok (.getfield 52, 3) := by decide +kernel
theorem dX5_swap_35 : decode cX5_swap 35 = .ok (.ifCond .le 5, 3) := by decide +kernel
theorem dX5_swap_38 : decode cX5_swap 38 = .ok (.iconst 0, 1) := by decide +kernel
theorem dX5_swap_39 : decode cX5_swap 39 = .ok (.ireturn, 1) := by decide +kernel
theorem dX5_swap_40 : decode cX5_swap 40 = .ok (.iconst 0, 1) := by decide +kernel
theorem dX5_swap_41 : decode cX5_swap 41 = .ok (.istore_n 2, 1) := by decide +kernel
theorem dX5_swap_42 : decode cX5_swap 42 = .ok (.iload_n 2, 1) := by decide +kernel
theorem dX5_swap_43 : decode cX5_swap 43 = .ok (.iload_n 1, 1) := by decide +kernel
theorem dX5_swap_44 : decode cX5_swap 44 = .ok (.if_icmp .ge 27, 3) := by decide +kernel
theorem dX5_swap_47 : decode cX5_swap 47 = .ok (.aload_n 0, 1) := by decide +kernel
theorem dX5_swap_48 : decode cX5_swap 48 = .ok (.getfield 46, 3) := by decide +kernel
theorem dX5_swap_51 : decode cX5_swap 51 = .ok (.iconst 4, 1) := by decide +kernel
theorem dX5_swap_52 : decode cX5_swap 52 = .ok (.aload_n 0, 1) := by decide +kernel
theorem dX5_swap_53 : decode cX5_swap 53 = .ok (.getfield 129, 3) := by decide +kernel
theorem dX5_swap_56 : decode cX5_swap 56 = .ok (.imul, 1) := by decide +kernel
theorem dX5_swap_57 : decode cX5_swap 57 = .ok (.iload_n 2, 1) := by decide +kernel
theorem dX5_swap_58 : decode cX5_swap 58 = .ok (.iadd, 1) := by decide +kernel
theorem dX5_swap_59 : decode cX5_swap 59 = .ok (.aload_n 0, 1) := by decide +kernel
theorem dX5_swap_60 : decode cX5_swap 60 = .ok (.iload_n 2, 1) := by decide +kernel
theorem dX5_swap_61 : decode cX5_swap 61 = .ok (.invokevirtual 126, 3) := by decide +kernel
theorem dX5_swap_64 : decode cX5_swap 64 = .ok (.iastore, 1) := by decide +kernel
theorem dX5_swap_65 : decode cX5_swap 65 = .ok (.iinc 2 1, 3) := by decide +kernel
theorem dX5_swap_68 : decode cX5_swap 68 = .ok (.goto (-26), 3) := by decide +kernel
theorem dX5_swap_71 : decode cX5_swap 71 = .ok (.aload_n 0, 1) := by decide +kernel
theorem dX5_swap_72 : decode cX5_swap 72 = .ok (.getfield 43, 3) := by decide +kernel
theorem dX5_swap_75 : decode cX5_swap 75 = .ok (.aload_n 0, 1) := by decide +kernel
theorem dX5_swap_76 : decode cX5_swap 76 = .ok (.getfield 129, 3) := by decide +kernel
theorem dX5_swap_79 : decode cX5_swap 79 = .ok (.iload_n 1, 1) := by decide +kernel
theorem dX5_swap_80 : decode cX5_swap 80 = .ok (.iastore, 1) := by decide +kernel
theorem dX5_swap_81 : decode cX5_swap 81 = .ok (.iconst 0, 1) := by decide +kernel
theorem dX5_swap_82 : decode cX5_swap 82 = .ok (.istore_n 2, 1) := by decide +kernel
theorem dX5_swap_83 : decode cX5_swap 83 = .ok (.iload_n 2, 1) := by decide +kernel
theorem dX5_swap_84 : decode cX5_swap 84 = .ok (.iload_n 1, 1) := by decide +kernel
theorem dX5_swap_85 : decode cX5_swap 85 = .ok (.if_icmp .ge 51, 3) := by decide +kernel
theorem dX5_swap_88 : decode cX5_swap 88 = .ok (.aload_n 0, 1) := by decide +kernel
theorem dX5_swap_89 : decode cX5_swap 89 = .ok (.aload_n 0, 1) := by decide +kernel
theorem dX5_swap_90 : decode cX5_swap 90 = .ok (.getfield 46, 3) := by decide +kernel
theorem dX5_swap_93 : decode cX5_swap 93 = .ok (.iconst 4, 1) := by decide +kernel
theorem dX5_swap_94 : decode cX5_swap 94 = .ok (.aload_n 0, 1) := by decide +kernel
theorem dX5_swap_95 : decode cX5_swap 95 = .ok (.getfield 129, 3) := by decide +kernel
theorem dX5_swap_98 : decode cX5_swap 98 = .ok (.imul, 1) := by decide +kernel
theorem dX5_swap_99 : decode cX5_swap 99 = .ok (.iload_n 2, 1) := by decide +kernel
theorem dX5_swap_100 : decode cX5_swap 100 = .ok (.iconst 1, 1) := by decide +kernel
theorem dX5_swap_101 : decode cX5_swap 101 = .ok (.iadd, 1) := by decide +kernel
theorem dX5_swap_102 : decode cX5_swap 102 = .ok (.iload_n 1, 1) := by decide +kernel
theorem dX5_swap_103 : decode cX5_swap 103 = .ok (.irem, 1) := by decide +kernel
theorem dX5_swap_104 : decode cX5_swap 104 = .ok (.iadd, 1) := by decide +kernel
theorem dX5_swap_105 : decode cX5_swap 105 = .ok (.iaload, 1) := by decide +kernel
theorem dX5_swap_106 : decode cX5_swap 106 = .ok (.sipush 1000, 3) := by decide +kernel
theorem dX5_swap_109 : decode cX5_swap 109 = .ok (.idiv, 1) := by decide +kernel
theorem dX5_swap_110 : decode cX5_swap 110 = .ok (.aload_n 0, 1) := by decide +kernel
theorem dX5_swap_111 : decode cX5_swap 111 = .ok (.getfield 46, 3) := by decide +kernel
theorem dX5_swap_114 : decode cX5_swap 114 = .ok (.iconst 4, 1) := by decide +kernel
theorem dX5_swap_115 : decode cX5_swap 115 = .ok (.aload_n 0, 1) := by decide +kernel
theorem dX5_swap_116 : decode cX5_swap 116 = .ok (.getfield 129, 3) := by decide +kernel
theorem dX5_swap_119 : decode cX5_swap 119 = .ok (.imul, 1) := by decide +kernel
theorem dX5_swap_120 : decode cX5_swap 120 = .ok (.iload_n 2, 1) := by decide +kernel
theorem dX5_swap_121 : decode cX5_swap 121 = .ok (.iadd, 1) := by decide +kernel
theorem dX5_swap_122 : decode cX5_swap 122 = .ok (.iaload, 1) := by decide +kernel
theorem dX5_swap_123 : decode cX5_swap 123 = .ok (.sipush 1000, 3) := by decide +kernel
theorem dX5_swap_126 : decode cX5_swap 126 = .ok (.irem, 1) := by decide +kernel
theorem dX5_swap_127 : decode cX5_swap 127 = .ok (.invokevirtual 105, 3) := by decide +kernel
theorem dX5_swap_130 : decode cX5_swap 130 = .ok (.iinc 2 1, 3) := by decide +kernel
theorem dX5_swap_133 : decode cX5_swap 133 = .ok (.goto (-50), 3) := by decide +kernel
theorem dX5_swap_136 : decode cX5_swap 136 = .ok (.aload_n 0, 1) := by decide +kernel
theorem dX5_swap_137 : decode cX5_swap 137 = .ok (.dup, 1) := by decide +kernel
theorem dX5_swap_138 : decode cX5_swap 138 = .ok (.getfield 129, 3) := by decide +kernel
theorem dX5_swap_141 : decode cX5_swap 141 = .ok (.iconst 1, 1) := by decide +kernel
theorem dX5_swap_142 : decode cX5_swap 142 = .ok (.iadd, 1) := by decide +kernel
theorem dX5_swap_143 : decode cX5_swap 143 = .ok (.putfield 129, 3) := by decide +kernel
theorem dX5_swap_146 : decode cX5_swap 146 = .ok (.iload_n 1, 1) := by decide +kernel
theorem dX5_swap_147 : decode cX5_swap 147 = .ok (.ireturn, 1) := by decide +kernel
theorem dX5_swaps_0 : decode cX5_swaps 0 = .ok (.aload_n 0, 1) := by decide +kernel
theorem dX5_swaps_1 : decode cX5_swaps 1 = .ok (.iconst 0, 1) := by decide +kernel
theorem dX5_swaps_2 : decode cX5_swaps 2 = .ok (.putfield 52, 3) := by decide +kernel
theorem dX5_swaps_5 : decode cX5_swaps 5 = .ok (.aload_n 0, 1) := by decide +kernel
theorem dX5_swaps_6 : decode cX5_swaps 6 = .ok (.getfield 129, 3) := by decide +kernel
theorem dX5_swaps_9 : decode cX5_swaps 9 = .ok (.ireturn, 1) := by decide +kernel
theorem dX5_swapAt_0 : decode cX5_swapAt 0 = .ok (.aload_n 0, 1) := by decide +kernel
theorem dX5_swapAt_1 : decode cX5_swapAt 1 = .ok (.iload_n 1, 1) := by decide +kernel
theorem dX5_swapAt_2 : decode cX5_swapAt 2 = .ok (.iconst 0, 1) := by decide +kernel
theorem dX5_swapAt_3 : decode cX5_swapAt 3 = .ok (.aload_n 0, 1) := by decide +kernel
theorem dX5_swapAt_4 : decode cX5_swapAt 4 = .ok (.getfield 129, 3) := by decide +kernel
theorem dX5_swapAt_7 : decode cX5_swapAt 7 = .ok (.iconst 1, 1) := by decide +kernel
theorem dX5_swapAt_8 : decode cX5_swapAt 8 = .ok (.isub, 1) := by decide +kernel
theorem dX5_swapAt_9 : decode cX5_swapAt 9 = .ok (.invokestatic 59, 3) := by decide +kernel
theorem dX5_swapAt_12 : decode cX5_swapAt 12 = .ok (.ifCond .eq 19, 3) := by decide +kernel
theorem dX5_swapAt_15 : decode cX5_swapAt 15 = .ok (.iload_n 2, 1) := by decide +kernel
theorem dX5_swapAt_16 : decode cX5_swapAt 16 = .ok (.iconst 0, 1) := by decide +kernel
theorem dX5_swapAt_17 : decode cX5_swapAt 17 = .ok (.aload_n 0, 1) := by decide +kernel
theorem dX5_swapAt_18 : decode cX5_swapAt 18 = .ok (.getfield 43, 3) := by decide +kernel
theorem dX5_swapAt_21 : decode cX5_swapAt 21 = .ok (.iload_n 1, 1) := by decide +kernel
theorem dX5_swapAt_22 : decode cX5_swapAt 22 = .ok (.iaload, 1) := by decide +kernel
theorem dX5_swapAt_23 : decode cX5_swapAt 23 = .ok (.iconst 1, 1) := by decide +kernel
theorem dX5_swapAt_24 : decode cX5_swapAt 24 = .ok (.isub, 1) := by decide +kernel
theorem dX5_swapAt_25 : decode cX5_swapAt 25 = .ok (.invokestatic 59, 3) := by decide +kernel
theorem dX5_swapAt_28 : decode cX5_swapAt 28 = .ok (.ifCond .ne 7, 3) := by decide +kernel
theorem dX5_swapAt_31 : decode cX5_swapAt 31 = .ok (.iconst 1, 1) := by decide +kernel
theorem dX5_swapAt_32 : decode cX5_swapAt 32 = .ok (.goto 4, 3) := by decide +kernel
theorem dX5_swapAt_35 : decode cX5_swapAt 35 = .ok (.iconst 0, 1) := by decide +kernel
theorem dX5_swapAt_36 : decode cX5_swapAt 36 = .ok (.putfield 52, 3) := by decide +kernel
theorem dX5_swapAt_39 : decode cX5_swapAt 39 = .ok (.aload_n 0, 1) := by decide +kernel
theorem dX5_swapAt_40 : decode cX5_swapAt 40 = .ok (.getfield 52, 3) := by decide +kernel
theorem dX5_swapAt_43 : decode cX5_swapAt 43 = .ok (.ifCond .ne 16, 3) := by decide +kernel
theorem dX5_swapAt_46 : decode cX5_swapAt 46 = .ok (.aload_n 0, 1) := by decide +kernel
theorem dX5_swapAt_47 : decode cX5_swapAt 47 = .ok (.getfield 46, 3) := by decide +kernel
theorem dX5_swapAt_50 : decode cX5_swapAt 50 = .ok (.iconst 4, 1) := by decide +kernel
theorem dX5_swapAt_51 : decode cX5_swapAt 51 = .ok (.iload_n 1, 1) := by decide +kernel
theorem dX5_swapAt_52 : decode cX5_swapAt 52 = .ok (.imul, 1) := by decide +kernel
theorem dX5_swapAt_53 : decode cX5_swapAt 53 = .ok (.iload_n 2, 1) := by decide +kernel
theorem dX5_swapAt_54 : decode cX5_swapAt 54 = .ok (.iadd, 1) := by decide +kernel
theorem dX5_swapAt_55 : decode cX5_swapAt 55 = .ok (.iaload, 1) := by decide +kernel
theorem dX5_swapAt_56 : decode cX5_swapAt 56 = .ok (.goto 4, 3) := by decide +kernel
theorem dX5_swapAt_59 : decode cX5_swapAt 59 = .ok (.iconst 0, 1) := by decide +kernel
theorem dX5_swapAt_60 : decode cX5_swapAt 60 = .ok (.ireturn, 1) := by decide +kernel
theorem dX5_spoiled_0 : decode cX5_spoiled 0 = .ok (.aload_n 0, 1) := by decide +kernel
theorem dX5_spoiled_1 : decode cX5_spoiled 1 = .ok (.iconst 0, 1) := by decide +kernel
theorem dX5_spoiled_2 : decode cX5_spoiled 2 = .ok (.putfield 52, 3) := by decide +kernel
theorem dX5_spoiled_5 : decode cX5_spoiled 5 = .ok (.iconst 0, 1) := by decide +kernel
theorem dX5_spoiled_6 : decode cX5_spoiled 6 = .ok (.istore_n 1, 1) := by decide +kernel
theorem dX5_spoiled_7 : decode cX5_spoiled 7 = .ok (.iconst 0, 1) := by decide +kernel
theorem dX5_spoiled_8 : decode cX5_spoiled 8 = .ok (.istore_n 2, 1) := by decide +kernel
theorem dX5_spoiled_9 : decode cX5_spoiled 9 = .ok (.iload_n 2, 1) := by decide +kernel
theorem dX5_spoiled_10 : decode cX5_spoiled 10 = .ok (.aload_n 0, 1) := by decide +kernel
theorem dX5_spoiled_11 : decode cX5_spoiled 11 = .ok (.getfield 129, 3) := by decide +kernel
theorem dX5_spoiled_14 : decode cX5_spoiled 14 = .ok (.if_icmp .ge 75, 3) := by decide +kernel
theorem dX5_spoiled_17 : decode cX5_spoiled 17 = .ok (.iconst 0, 1) := by decide +kernel
theorem dX5_spoiled_18 : decode cX5_spoiled 18 = .ok (.istore_n 3, 1) := by decide +kernel
theorem dX5_spoiled_19 : decode cX5_spoiled 19 = .ok (.iconst 0, 1) := by decide +kernel
theorem dX5_spoiled_20 : decode cX5_spoiled 20 = .ok (.istore 4, 2) := by decide +kernel
theorem dX5_spoiled_22 : decode cX5_spoiled 22 = .ok (.iload 4, 2) := by decide +kernel
theorem dX5_spoiled_24 : decode cX5_spoiled 24 = .ok (.aload_n 0, 1) := by decide +kernel
theorem dX5_spoiled_25 : decode cX5_spoiled 25 = .ok (.getfield 43, 3) := by decide +kernel
theorem dX5_spoiled_28 : decode cX5_spoiled 28 = .ok (.iload_n 2, 1) := by decide +kernel
theorem dX5_spoiled_29 : decode cX5_spoiled 29 = .ok (.iaload, 1) := by decide +kernel
theorem dX5_spoiled_30 : decode cX5_spoiled 30 = .ok (.if_icmp .ge 41, 3) := by decide +kernel
theorem dX5_spoiled_33 : decode cX5_spoiled 33 = .ok (.iload_n 3, 1) := by decide +kernel
theorem dX5_spoiled_34 : decode cX5_spoiled 34 = .ok (.ifCond .ne 25, 3) := by decide +kernel
theorem dX5_spoiled_37 : decode cX5_spoiled 37 = .ok (.aload_n 0, 1) := by decide +kernel
theorem dX5_spoiled_38 : decode cX5_spoiled 38 = .ok (.aload_n 0, 1) := by decide +kernel
theorem dX5_spoiled_39 : decode cX5_spoiled 39 = .ok (.getfield 46, 3) := by decide +kernel
theorem dX5_spoiled_42 : decode cX5_spoiled 42 = .ok (.iconst 4, 1) := by decide +kernel
theorem dX5_spoiled_43 : decode cX5_spoiled 43 = .ok (.iload_n 2, 1) := by decide +kernel
theorem dX5_spoiled_44 : decode cX5_spoiled 44 = .ok (.imul, 1) := by decide +kernel
theorem dX5_spoiled_45 : decode cX5_spoiled 45 = .ok (.iload 4, 2) := by decide +kernel
theorem dX5_spoiled_47 : decode cX5_spoiled 47 = .ok (.iadd, 1) := by decide +kernel
theorem dX5_spoiled_48 : decode cX5_spoiled 48 = .ok (.iaload, 1) := by decide +kernel
theorem dX5_spoiled_49 : decode cX5_spoiled 49 = .ok (.sipush 1000, 3) := by decide +kernel
theorem dX5_spoiled_52 : decode cX5_spoiled 52 = .ok (.irem, 1) := by decide +kernel
theorem dX5_spoiled_53 : decode cX5_spoiled 53 = .ok (.invokevirtual 84, 3) := by decide +kernel
theorem dX5_spoiled_56 : decode cX5_spoiled 56 = .ok (.ifCond .ne 7, 3) := by decide +kernel
theorem dX5_spoiled_59 : decode cX5_spoiled 59 = .ok (.iconst 1, 1) := by decide +kernel
theorem dX5_spoiled_60 : decode cX5_spoiled 60 = .ok (.goto 4, 3) := by decide +kernel
theorem dX5_spoiled_63 : decode cX5_spoiled 63 = .ok (.iconst 0, 1) := by decide +kernel
theorem dX5_spoiled_64 : decode cX5_spoiled 64 = .ok (.istore_n 3, 1) := by decide +kernel
theorem dX5_spoiled_65 : decode cX5_spoiled 65 = .ok (.iinc 4 1, 3) := by decide +kernel
theorem dX5_spoiled_68 : decode cX5_spoiled 68 = .ok (.goto (-46), 3) := by decide +kernel
theorem dX5_spoiled_71 : decode cX5_spoiled 71 = .ok (.iload_n 1, 1) := by decide +kernel
theorem dX5_spoiled_72 : decode cX5_spoiled 72 = .ok (.iload_n 3, 1) := by decide +kernel
theorem dX5_spoiled_73 : decode cX5_spoiled 73 = .ok (.ifCond .eq 7, 3) := by decide +kernel
theorem dX5_spoiled_76 : decode cX5_spoiled 76 = .ok (.iconst 1, 1) := by decide +kernel
theorem dX5_spoiled_77 : decode cX5_spoiled 77 = .ok (.goto 4, 3) := by decide +kernel
theorem dX5_spoiled_80 : decode cX5_spoiled 80 = .ok (.iconst 0, 1) := by decide +kernel
theorem dX5_spoiled_81 : decode cX5_spoiled 81 = .ok (.iadd, 1) := by decide +kernel
theorem dX5_spoiled_82 : decode cX5_spoiled 82 = .ok (.istore_n 1, 1) := by decide +kernel
theorem dX5_spoiled_83 : decode cX5_spoiled 83 = .ok (.iinc 2 1, 3) := by decide +kernel
theorem dX5_spoiled_86 : decode cX5_spoiled 86 = .ok (.goto (-77), 3) := by decide +kernel
theorem dX5_spoiled_89 : decode cX5_spoiled 89 = .ok (.iload_n 1, 1) := by decide +kernel
theorem dX5_spoiled_90 : decode cX5_spoiled 90 = .ok (.ireturn, 1) := by decide +kernel
theorem dJ6_bitCount_0f7a4_0 : decode cJ6_bitCount_0f7a4 0 = .ok (.iload_n 0, 1) := by decide +kernel
theorem dJ6_bitCount_0f7a4_1 : decode cJ6_bitCount_0f7a4 1 = .ok (.iload_n 0, 1) := by decide +kernel
theorem dJ6_bitCount_0f7a4_2 : decode cJ6_bitCount_0f7a4 2 = .ok (.iconst 1, 1) := by decide +kernel
theorem dJ6_bitCount_0f7a4_3 : decode cJ6_bitCount_0f7a4 3 = .ok (.iushr, 1) := by decide +kernel
theorem dJ6_bitCount_0f7a4_4 : decode cJ6_bitCount_0f7a4 4 = .ok (.ldc_w 265, 3) := by decide +kernel
theorem dJ6_bitCount_0f7a4_7 : decode cJ6_bitCount_0f7a4 7 = .ok (.iand, 1) := by decide +kernel
theorem dJ6_bitCount_0f7a4_8 : decode cJ6_bitCount_0f7a4 8 = .ok (.isub, 1) := by decide +kernel
theorem dJ6_bitCount_0f7a4_9 : decode cJ6_bitCount_0f7a4 9 = .ok (.istore_n 0, 1) := by decide +kernel
theorem dJ6_bitCount_0f7a4_10 : decode cJ6_bitCount_0f7a4 10 = .ok (.iload_n 0, 1) := by decide +kernel
theorem dJ6_bitCount_0f7a4_11 : decode cJ6_bitCount_0f7a4 11 = .ok (.ldc_w 266, 3) := by decide +kernel
theorem dJ6_bitCount_0f7a4_14 : decode cJ6_bitCount_0f7a4 14 = .ok (.iand, 1) := by decide +kernel
theorem dJ6_bitCount_0f7a4_15 : decode cJ6_bitCount_0f7a4 15 = .ok (.iload_n 0, 1) := by decide +kernel
theorem dJ6_bitCount_0f7a4_16 : decode cJ6_bitCount_0f7a4 16 = .ok (.iconst 2, 1) := by decide +kernel
theorem dJ6_bitCount_0f7a4_17 : decode cJ6_bitCount_0f7a4 17 = .ok (.iushr, 1) := by decide +kernel
theorem dJ6_bitCount_0f7a4_18 : decode cJ6_bitCount_0f7a4 18 = .ok (.ldc_w 266, 3) := by decide +kernel
theorem dJ6_bitCount_0f7a4_21 : decode cJ6_bitCount_0f7a4 21 = .ok (.iand, 1) := by decide +kernel
theorem dJ6_bitCount_0f7a4_22 : decode cJ6_bitCount_0f7a4 22 = .ok (.iadd, 1) := by decide +kernel
theorem dJ6_bitCount_0f7a4_23 : decode cJ6_bitCount_0f7a4 23 = .ok (.istore_n 0, 1) := by decide +kernel
theorem dJ6_bitCount_0f7a4_24 : decode cJ6_bitCount_0f7a4 24 = .ok (.iload_n 0, 1) := by decide +kernel
theorem dJ6_bitCount_0f7a4_25 : decode cJ6_bitCount_0f7a4 25 = .ok (.iload_n 0, 1) := by decide +kernel
theorem dJ6_bitCount_0f7a4_26 : decode cJ6_bitCount_0f7a4 26 = .ok (.iconst 4, 1) := by decide +kernel
theorem dJ6_bitCount_0f7a4_27 : decode cJ6_bitCount_0f7a4 27 = .ok (.iushr, 1) := by decide +kernel
theorem dJ6_bitCount_0f7a4_28 : decode cJ6_bitCount_0f7a4 28 = .ok (.iadd, 1) := by decide +kernel
theorem dJ6_bitCount_0f7a4_29 : decode cJ6_bitCount_0f7a4 29 = .ok (.ldc_w 267, 3) := by decide +kernel
theorem dJ6_bitCount_0f7a4_32 : decode cJ6_bitCount_0f7a4 32 = .ok (.iand, 1) := by decide +kernel
theorem dJ6_bitCount_0f7a4_33 : decode cJ6_bitCount_0f7a4 33 = .ok (.istore_n 0, 1) := by decide +kernel
theorem dJ6_bitCount_0f7a4_34 : decode cJ6_bitCount_0f7a4 34 = .ok (.iload_n 0, 1) := by decide +kernel
theorem dJ6_bitCount_0f7a4_35 : decode cJ6_bitCount_0f7a4 35 = .ok (.iload_n 0, 1) := by decide +kernel
theorem dJ6_bitCount_0f7a4_36 : decode cJ6_bitCount_0f7a4 36 = .ok (.bipush 8, 2) := by decide +kernel
theorem dJ6_bitCount_0f7a4_38 : decode cJ6_bitCount_0f7a4 38 = .ok (.iushr, 1) := by decide +kernel
theorem dJ6_bitCount_0f7a4_39 : decode cJ6_bitCount_0f7a4 39 = .ok (.iadd, 1) := by decide +kernel
theorem dJ6_bitCount_0f7a4_40 : decode cJ6_bitCount_0f7a4 40 = .ok (.istore_n 0, 1) := by decide +kernel
theorem dJ6_bitCount_0f7a4_41 : decode cJ6_bitCount_0f7a4 41 = .ok (.iload_n 0, 1) := by decide +kernel
theorem dJ6_bitCount_0f7a4_42 : decode cJ6_bitCount_0f7a4 42 = .ok (.iload_n 0, 1) := by decide +kernel
theorem dJ6_bitCount_0f7a4_43 : decode cJ6_bitCount_0f7a4 43 = .ok (.bipush 16, 2) := by decide +kernel
theorem dJ6_bitCount_0f7a4_45 : decode cJ6_bitCount_0f7a4 45 = .ok (.iushr, 1) := by decide +kernel
theorem dJ6_bitCount_0f7a4_46 : decode cJ6_bitCount_0f7a4 46 = .ok (.iadd, 1) := by decide +kernel
theorem dJ6_bitCount_0f7a4_47 : decode cJ6_bitCount_0f7a4 47 = .ok (.istore_n 0, 1) := by decide +kernel
theorem dJ6_bitCount_0f7a4_48 : decode cJ6_bitCount_0f7a4 48 = .ok (.iload_n 0, 1) := by decide +kernel
theorem dJ6_bitCount_0f7a4_49 : decode cJ6_bitCount_0f7a4 49 = .ok (.bipush 63, 2) := by decide +kernel
theorem dJ6_bitCount_0f7a4_51 : decode cJ6_bitCount_0f7a4 51 = .ok (.iand, 1) := by decide +kernel
theorem dJ6_bitCount_0f7a4_52 : decode cJ6_bitCount_0f7a4 52 = .ok (.ireturn, 1) := by decide +kernel
theorem dJ9_max_7cf53_0 : decode cJ9_max_7cf53 0 = .ok (.iload_n 0, 1) := by decide +kernel
theorem dJ9_max_7cf53_1 : decode cJ9_max_7cf53 1 = .ok (.iload_n 1, 1) := by decide +kernel
theorem dJ9_max_7cf53_2 : decode cJ9_max_7cf53 2 = .ok (.if_icmp .lt 7, 3) := by decide +kernel
theorem dJ9_max_7cf53_5 : decode cJ9_max_7cf53 5 = .ok (.iload_n 0, 1) := by decide +kernel
theorem dJ9_max_7cf53_6 : decode cJ9_max_7cf53 6 = .ok (.goto 4, 3) := by decide +kernel
theorem dJ9_max_7cf53_9 : decode cJ9_max_7cf53 9 = .ok (.iload_n 1, 1) := by decide +kernel
theorem dJ9_max_7cf53_10 : decode cJ9_max_7cf53 10 = .ok (.ireturn, 1) := by decide +kernel
theorem dJ9_min_7cf53_0 : decode cJ9_min_7cf53 0 = .ok (.iload_n 0, 1) := by decide +kernel
theorem dJ9_min_7cf53_1 : decode cJ9_min_7cf53 1 = .ok (.iload_n 1, 1) := by decide +kernel
theorem dJ9_min_7cf53_2 : decode cJ9_min_7cf53 2 = .ok (.if_icmp .gt 7, 3) := by decide +kernel
theorem dJ9_min_7cf53_5 : decode cJ9_min_7cf53 5 = .ok (.iload_n 0, 1) := by decide +kernel
theorem dJ9_min_7cf53_6 : decode cJ9_min_7cf53 6 = .ok (.goto 4, 3) := by decide +kernel
theorem dJ9_min_7cf53_9 : decode cJ9_min_7cf53 9 = .ok (.iload_n 1, 1) := by decide +kernel
theorem dJ9_min_7cf53_10 : decode cJ9_min_7cf53 10 = .ok (.ireturn, 1) := by decide +kernel
theorem dJxa1e45_init_da8c8_0 : decode cJxa1e45_init_da8c8 0 = .ok (.aload_n 0, 1) := by decide +kernel
theorem dJxa1e45_init_da8c8_1 : decode cJxa1e45_init_da8c8 1 = .ok (.invokespecial 1, 3) := by decide +kernel
theorem dJxa1e45_init_da8c8_4 : decode cJxa1e45_init_da8c8 4 = .ok (.return_, 1) := by decide +kernel
theorem dJxc12de_init_da8c8_0 : decode cJxc12de_init_da8c8 0 = .ok (.aload_n 0, 1) := by decide +kernel
theorem dJxc12de_init_da8c8_1 : decode cJxc12de_init_da8c8 1 = .ok (.invokespecial 1, 3) := by decide +kernel
theorem dJxc12de_init_da8c8_4 : decode cJxc12de_init_da8c8 4 = .ok (.aload_n 0, 1) := by decide +kernel
theorem dJxc12de_init_da8c8_5 : decode cJxc12de_init_da8c8 5 = .ok (.iconst 0, 1) := by decide +kernel
theorem dJxc12de_init_da8c8_6 : decode cJxc12de_init_da8c8 6 = .ok (.putfield 7, 3) := by decide +kernel
theorem dJxc12de_init_da8c8_9 : decode cJxc12de_init_da8c8 9 = .ok (.return_, 1) := by decide +kernel
theorem dJx4a65c_init_da8c8_0 : decode cJx4a65c_init_da8c8 0 = .ok (.aload_n 0, 1) := by decide +kernel
theorem dJx4a65c_init_da8c8_1 : decode cJx4a65c_init_da8c8 1 = .ok (.invokespecial 1, 3) := by decide +kernel
theorem dJx4a65c_init_da8c8_4 : decode cJx4a65c_init_da8c8 4 = .ok (.aload_n 0, 1) := by decide +kernel
theorem dJx4a65c_init_da8c8_5 : decode cJx4a65c_init_da8c8 5 = .ok (.getstatic 39, 3) := by decide +kernel
theorem dJx4a65c_init_da8c8_8 : decode cJx4a65c_init_da8c8 8 = .ok (.putfield 9, 3) := by decide +kernel
theorem dJx4a65c_init_da8c8_11 : decode cJx4a65c_init_da8c8 11 = .ok (.return_, 1) := by decide +kernel
theorem dJx4a65c_grow_92f84_0 : decode cJx4a65c_grow_92f84 0 = .ok (.aload_n 0, 1) := by decide +kernel
theorem dJx4a65c_grow_92f84_1 : decode cJx4a65c_grow_92f84 1 = .ok (.getfield 9, 3) := by decide +kernel
theorem dJx4a65c_grow_92f84_4 : decode cJx4a65c_grow_92f84 4 = .ok (.arraylength, 1) := by decide +kernel
theorem dJx4a65c_grow_92f84_5 : decode cJx4a65c_grow_92f84 5 = .ok (.istore_n 2, 1) := by decide +kernel
theorem dJx4a65c_grow_92f84_6 : decode cJx4a65c_grow_92f84 6 = .ok (.iload_n 2, 1) := by decide +kernel
theorem dJx4a65c_grow_92f84_7 : decode cJx4a65c_grow_92f84 7 = .ok (.ifCond .gt 13, 3) := by decide +kernel
theorem dJx4a65c_grow_92f84_10 : decode cJx4a65c_grow_92f84 10 = .ok (.aload_n 0, 1) := by decide +kernel
theorem dJx4a65c_grow_92f84_11 : decode cJx4a65c_grow_92f84 11 = .ok (.getfield 9, 3) := by decide +kernel
theorem dJx4a65c_grow_92f84_14 : decode cJx4a65c_grow_92f84 14 = .ok (.getstatic 39, 3) := by decide +kernel
theorem dJx4a65c_grow_92f84_17 : decode cJx4a65c_grow_92f84 17 = .ok (.if_acmp .eq 28, 3) := by decide +kernel
theorem dJx4a65c_grow_92f84_20 : decode cJx4a65c_grow_92f84 20 = .ok (.iload_n 2, 1) := by decide +kernel
theorem dJx4a65c_grow_92f84_21 : decode cJx4a65c_grow_92f84 21 = .ok (.iload_n 1, 1) := by decide +kernel
theorem dJx4a65c_grow_92f84_22 : decode cJx4a65c_grow_92f84 22 = .ok (.iload_n 2, 1) := by decide +kernel
theorem dJx4a65c_grow_92f84_23 : decode cJx4a65c_grow_92f84 23 = .ok (.isub, 1) := by decide +kernel
theorem dJx4a65c_grow_92f84_24 : decode cJx4a65c_grow_92f84 24 = .ok (.iload_n 2, 1) := by decide +kernel
theorem dJx4a65c_grow_92f84_25 : decode cJx4a65c_grow_92f84 25 = .ok (.iconst 1, 1) := by decide +kernel
theorem dJx4a65c_grow_92f84_26 : decode cJx4a65c_grow_92f84 26 = .ok (.ishr, 1) := by decide +kernel
theorem dJx4a65c_grow_92f84_27 : decode cJx4a65c_grow_92f84 27 = .ok (.invokestatic 73, 3) := by decide +kernel
theorem dJx4a65c_grow_92f84_30 : decode cJx4a65c_grow_92f84 30 = .ok (.istore_n 3, 1) := by decide +kernel
theorem dJx4a65c_grow_92f84_31 : decode cJx4a65c_grow_92f84 31 = .ok (.aload_n 0, 1) := by decide +kernel
theorem dJx4a65c_grow_92f84_32 : decode cJx4a65c_grow_92f84 32 = .ok (.aload_n 0, 1) := by decide +kernel
theorem dJx4a65c_grow_92f84_33 : decode cJx4a65c_grow_92f84 33 = .ok (.getfield 9, 3) := by decide +kernel
theorem dJx4a65c_grow_92f84_36 : decode cJx4a65c_grow_92f84 36 = .ok (.iload_n 3, 1) := by decide +kernel
theorem dJx4a65c_grow_92f84_37 : decode cJx4a65c_grow_92f84 37 = .ok (.invokestatic 66, 3) := by decide +kernel
theorem dJx4a65c_grow_92f84_40 : decode cJx4a65c_grow_92f84 40 = .ok (.dup_x1, 1) := by decide +kernel
theorem dJx4a65c_grow_92f84_41 : decode cJx4a65c_grow_92f84 41 = .ok (.putfield 9, 3) := by decide +kernel
theorem dJx4a65c_grow_92f84_44 : decode cJx4a65c_grow_92f84 44 = .ok (.areturn, 1) := by decide +kernel
theorem dJx4a65c_grow_92f84_45 : decode cJx4a65c_grow_92f84 45 = .ok (.aload_n 0, 1) := by decide +kernel
theorem dJx4a65c_grow_92f84_46 : decode cJx4a65c_grow_92f84 46 = .ok (.bipush 10, 2) := by decide +kernel
theorem dJx4a65c_grow_92f84_48 : decode cJx4a65c_grow_92f84 48 = .ok (.iload_n 1, 1) := by decide +kernel
theorem dJx4a65c_grow_92f84_49 : decode cJx4a65c_grow_92f84 49 = .ok (.invokestatic 79, 3) := by decide +kernel
theorem dJx4a65c_grow_92f84_52 : decode cJx4a65c_grow_92f84 52 = .ok (.anewarray 7, 3) := by decide +kernel
theorem dJx4a65c_grow_92f84_55 : decode cJx4a65c_grow_92f84 55 = .ok (.dup_x1, 1) := by decide +kernel
theorem dJx4a65c_grow_92f84_56 : decode cJx4a65c_grow_92f84 56 = .ok (.putfield 9, 3) := by decide +kernel
theorem dJx4a65c_grow_92f84_59 : decode cJx4a65c_grow_92f84 59 = .ok (.areturn, 1) := by decide +kernel
theorem dJx4a65c_grow_d5877_0 : decode cJx4a65c_grow_d5877 0 = .ok (.aload_n 0, 1) := by decide +kernel
theorem dJx4a65c_grow_d5877_1 : decode cJx4a65c_grow_d5877 1 = .ok (.aload_n 0, 1) := by decide +kernel
theorem dJx4a65c_grow_d5877_2 : decode cJx4a65c_grow_d5877 2 = .ok (.getfield 48, 3) := by decide +kernel
theorem dJx4a65c_grow_d5877_5 : decode cJx4a65c_grow_d5877 5 = .ok (.iconst 1, 1) := by decide +kernel
theorem dJx4a65c_grow_d5877_6 : decode cJx4a65c_grow_d5877 6 = .ok (.iadd, 1) := by decide +kernel
theorem dJx4a65c_grow_d5877_7 : decode cJx4a65c_grow_d5877 7 = .ok (.invokevirtual 69, 3) := by decide +kernel
theorem dJx4a65c_grow_d5877_10 : decode cJx4a65c_grow_d5877 10 = .ok (.areturn, 1) := by decide +kernel
theorem dJx4a65c_size_8abf5_0 : decode cJx4a65c_size_8abf5 0 = .ok (.aload_n 0, 1) := by decide +kernel
theorem dJx4a65c_size_8abf5_1 : decode cJx4a65c_size_8abf5 1 = .ok (.getfield 48, 3) := by decide +kernel
theorem dJx4a65c_size_8abf5_4 : decode cJx4a65c_size_8abf5 4 = .ok (.ireturn, 1) := by decide +kernel
theorem dJx4a65c_isEmpty_aae02_0 : decode cJx4a65c_isEmpty_aae02 0 = .ok (.aload_n 0, 1) := by decide +kernel
theorem dJx4a65c_isEmpty_aae02_1 : decode cJx4a65c_isEmpty_aae02 1 = .ok (.getfield 48, 3) := by decide +kernel
theorem dJx4a65c_isEmpty_aae02_4 : decode cJx4a65c_isEmpty_aae02 4 = .ok (.ifCond .ne 7, 3) := by decide +kernel
theorem dJx4a65c_isEmpty_aae02_7 : decode cJx4a65c_isEmpty_aae02 7 = .ok (.iconst 1, 1) := by decide +kernel
theorem dJx4a65c_isEmpty_aae02_8 : decode cJx4a65c_isEmpty_aae02 8 = .ok (.goto 4, 3) := by decide +kernel
theorem dJx4a65c_isEmpty_aae02_11 : decode cJx4a65c_isEmpty_aae02 11 = .ok (.iconst 0, 1) := by decide +kernel
theorem dJx4a65c_isEmpty_aae02_12 : decode cJx4a65c_isEmpty_aae02 12 = .ok (.ireturn, 1) := by decide +kernel
theorem dJx4a65c_elementData_915e3_0 : decode cJx4a65c_elementData_915e3 0 = .ok (.aload_n 0, 1) := by decide +kernel
theorem dJx4a65c_elementData_915e3_1 : decode cJx4a65c_elementData_915e3 1 = .ok (.getfield 9, 3) := by decide +kernel
theorem dJx4a65c_elementData_915e3_4 : decode cJx4a65c_elementData_915e3 4 = .ok (.iload_n 1, 1) := by decide +kernel
theorem dJx4a65c_elementData_915e3_5 : decode cJx4a65c_elementData_915e3 5 = .ok (.aaload, 1) := by decide +kernel
theorem dJx4a65c_elementData_915e3_6 : decode cJx4a65c_elementData_915e3 6 = .ok (.areturn, 1) := by decide +kernel
theorem dJx4a65c_get_915e3_0 : decode cJx4a65c_get_915e3 0 = .ok (.iload_n 1, 1) := by decide +kernel
theorem dJx4a65c_get_915e3_1 : decode cJx4a65c_get_915e3 1 = .ok (.aload_n 0, 1) := by decide +kernel
theorem dJx4a65c_get_915e3_2 : decode cJx4a65c_get_915e3 2 = .ok (.getfield 48, 3) := by decide +kernel
theorem dJx4a65c_get_915e3_5 : decode cJx4a65c_get_915e3 5 = .ok (.invokestatic 118, 3) := by decide +kernel
theorem dJx4a65c_get_915e3_8 : decode cJx4a65c_get_915e3 8 = .ok (.pop, 1) := by decide +kernel
theorem dJx4a65c_get_915e3_9 : decode cJx4a65c_get_915e3 9 = .ok (.aload_n 0, 1) := by decide +kernel
theorem dJx4a65c_get_915e3_10 : decode cJx4a65c_get_915e3 10 = .ok (.iload_n 1, 1) := by decide +kernel
theorem dJx4a65c_get_915e3_11 : decode cJx4a65c_get_915e3 11 = .ok (.invokevirtual 123, 3) := by decide +kernel
theorem dJx4a65c_get_915e3_14 : decode cJx4a65c_get_915e3 14 = .ok (.areturn, 1) := by decide +kernel
theorem dJx4a65c_add_72be8_0 : decode cJx4a65c_add_72be8 0 = .ok (.iload_n 3, 1) := by decide +kernel
theorem dJx4a65c_add_72be8_1 : decode cJx4a65c_add_72be8 1 = .ok (.aload_n 2, 1) := by decide +kernel
theorem dJx4a65c_add_72be8_2 : decode cJx4a65c_add_72be8 2 = .ok (.arraylength, 1) := by decide +kernel
theorem dJx4a65c_add_72be8_3 : decode cJx4a65c_add_72be8 3 = .ok (.if_icmp .ne 8, 3) := by decide +kernel
theorem dJx4a65c_add_72be8_6 : decode cJx4a65c_add_72be8 6 = .ok (.aload_n 0, 1) := by decide +kernel
theorem dJx4a65c_add_72be8_7 : decode cJx4a65c_add_72be8 7 = .ok (.invokevirtual 129, 3) := by decide +kernel
theorem dJx4a65c_add_72be8_10 : decode cJx4a65c_add_72be8 10 = .ok (.astore_n 2, 1) := by decide +kernel
theorem dJx4a65c_add_72be8_11 : decode cJx4a65c_add_72be8 11 = .ok (.aload_n 2, 1) := by decide +kernel
theorem dJx4a65c_add_72be8_12 : decode cJx4a65c_add_72be8 12 = .ok (.iload_n 3, 1) := by decide +kernel
theorem dJx4a65c_add_72be8_13 : decode cJx4a65c_add_72be8 13 = .ok (.aload_n 1, 1) := by decide +kernel
theorem dJx4a65c_add_72be8_14 : decode cJx4a65c_add_72be8 14 = .ok (.aastore, 1) := by decide +kernel
theorem dJx4a65c_add_72be8_15 : decode cJx4a65c_add_72be8 15 = .ok (.aload_n 0, 1) := by decide +kernel
theorem dJx4a65c_add_72be8_16 : decode cJx4a65c_add_72be8 16 = .ok (.iload_n 3, 1) := by decide +kernel
theorem dJx4a65c_add_72be8_17 : decode cJx4a65c_add_72be8 17 = .ok (.iconst 1, 1) := by decide +kernel
theorem dJx4a65c_add_72be8_18 : decode cJx4a65c_add_72be8 18 = .ok (.iadd, 1) := by decide +kernel
theorem dJx4a65c_add_72be8_19 : decode cJx4a65c_add_72be8 19 = .ok (.putfield 48, 3) := by decide +kernel
theorem dJx4a65c_add_72be8_22 : decode cJx4a65c_add_72be8 22 = .ok (.return_, 1) := by decide +kernel
theorem dJx4a65c_add_9ea2d_0 : decode cJx4a65c_add_9ea2d 0 = .ok (.aload_n 0, 1) := by decide +kernel
theorem dJx4a65c_add_9ea2d_1 : decode cJx4a65c_add_9ea2d 1 = .ok (.dup, 1) := by decide +kernel
theorem dJx4a65c_add_9ea2d_2 : decode cJx4a65c_add_9ea2d 2 = .ok (.getfield 63, 3) := by decide +kernel
theorem dJx4a65c_add_9ea2d_5 : decode cJx4a65c_add_9ea2d 5 = .ok (.iconst 1, 1) := by decide +kernel
theorem dJx4a65c_add_9ea2d_6 : decode cJx4a65c_add_9ea2d 6 = .ok (.iadd, 1) := by decide +kernel
theorem dJx4a65c_add_9ea2d_7 : decode cJx4a65c_add_9ea2d 7 = .ok (.putfield 63, 3) := by decide +kernel
theorem dJx4a65c_add_9ea2d_10 : decode cJx4a65c_add_9ea2d 10 = .ok (.aload_n 0, 1) := by decide +kernel
theorem dJx4a65c_add_9ea2d_11 : decode cJx4a65c_add_9ea2d 11 = .ok (.aload_n 1, 1) := by decide +kernel
theorem dJx4a65c_add_9ea2d_12 : decode cJx4a65c_add_9ea2d 12 = .ok (.aload_n 0, 1) := by decide +kernel
theorem dJx4a65c_add_9ea2d_13 : decode cJx4a65c_add_9ea2d 13 = .ok (.getfield 9, 3) := by decide +kernel
theorem dJx4a65c_add_9ea2d_16 : decode cJx4a65c_add_9ea2d 16 = .ok (.aload_n 0, 1) := by decide +kernel
theorem dJx4a65c_add_9ea2d_17 : decode cJx4a65c_add_9ea2d 17 = .ok (.getfield 48, 3) := by decide +kernel
theorem dJx4a65c_add_9ea2d_20 : decode cJx4a65c_add_9ea2d 20 = .ok (.invokevirtual 131, 3) := by decide +kernel
theorem dJx4a65c_add_9ea2d_23 : decode cJx4a65c_add_9ea2d 23 = .ok (.iconst 1, 1) := by decide +kernel
theorem dJx4a65c_add_9ea2d_24 : decode cJx4a65c_add_9ea2d 24 = .ok (.ireturn, 1) := by decide +kernel
theorem dJx4a65c_remove_915e3_0 : decode cJx4a65c_remove_915e3 0 = .ok (.iload_n 1, 1) := by decide +kernel
theorem dJx4a65c_remove_915e3_1 : decode cJx4a65c_remove_915e3 1 = .ok (.aload_n 0, 1) := by decide +kernel
theorem dJx4a65c_remove_915e3_2 : decode cJx4a65c_remove_915e3 2 = .ok (.getfield 48, 3) := by decide +kernel
theorem dJx4a65c_remove_915e3_5 : decode cJx4a65c_remove_915e3 5 = .ok (.invokestatic 118, 3) := by decide +kernel
theorem dJx4a65c_remove_915e3_8 : decode cJx4a65c_remove_915e3 8 = .ok (.pop, 1) := by decide +kernel
theorem dJx4a65c_remove_915e3_9 : decode cJx4a65c_remove_915e3 9 = .ok (.aload_n 0, 1) := by decide +kernel
theorem dJx4a65c_remove_915e3_10 : decode cJx4a65c_remove_915e3 10 = .ok (.getfield 9, 3) := by decide +kernel
theorem dJx4a65c_remove_915e3_13 : decode cJx4a65c_remove_915e3 13 = .ok (.astore_n 2, 1) := by decide +kernel
theorem dJx4a65c_remove_915e3_14 : decode cJx4a65c_remove_915e3 14 = .ok (.aload_n 2, 1) := by decide +kernel
theorem dJx4a65c_remove_915e3_15 : decode cJx4a65c_remove_915e3 15 = .ok (.iload_n 1, 1) := by decide +kernel
theorem dJx4a65c_remove_915e3_16 : decode cJx4a65c_remove_915e3 16 = .ok (.aaload, 1) := by decide +kernel
theorem dJx4a65c_remove_915e3_17 : decode cJx4a65c_remove_915e3 17 = .ok (.astore_n 3, 1) := by decide +kernel
theorem dJx4a65c_remove_915e3_18 : decode cJx4a65c_remove_915e3 18 = .ok (.aload_n 0, 1) := by decide +kernel
theorem dJx4a65c_remove_915e3_19 : decode cJx4a65c_remove_915e3 19 = .ok (.aload_n 2, 1) := by decide +kernel
theorem dJx4a65c_remove_915e3_20 : decode cJx4a65c_remove_915e3 20 = .ok (.iload_n 1, 1) := by decide +kernel
theorem dJx4a65c_remove_915e3_21 : decode cJx4a65c_remove_915e3 21 = .ok (.invokevirtual 144, 3) := by decide +kernel
theorem dJx4a65c_remove_915e3_24 : decode cJx4a65c_remove_915e3 24 = .ok (.aload_n 3, 1) := by decide +kernel
theorem dJx4a65c_remove_915e3_25 : decode cJx4a65c_remove_915e3 25 = .ok (.areturn, 1) := by decide +kernel
theorem dJx4a65c_fastRemove_b59b0_0 : decode cJx4a65c_fastRemove_b59b0 0 = .ok (.aload_n 0, 1) := by decide +kernel
theorem dJx4a65c_fastRemove_b59b0_1 : decode cJx4a65c_fastRemove_b59b0 1 = .ok (.dup, 1) := by decide +kernel
theorem dJx4a65c_fastRemove_b59b0_2 : decode cJx4a65c_fastRemove_b59b0 2 = .ok (.getfield 63, 3) := by decide +kernel
theorem dJx4a65c_fastRemove_b59b0_5 : decode cJx4a65c_fastRemove_b59b0 5 = .ok (.iconst 1, 1) := by decide +kernel
theorem dJx4a65c_fastRemove_b59b0_6 : decode cJx4a65c_fastRemove_b59b0 6 = .ok (.iadd, 1) := by decide +kernel
theorem dJx4a65c_fastRemove_b59b0_7 : decode cJx4a65c_fastRemove_b59b0 7 = .ok (.putfield 63, 3) := by decide +kernel
theorem dJx4a65c_fastRemove_b59b0_10 : decode cJx4a65c_fastRemove_b59b0 10 = .ok (.aload_n 0, 1) := by decide +kernel
theorem dJx4a65c_fastRemove_b59b0_11 : decode cJx4a65c_fastRemove_b59b0 11 = .ok (.getfield 48, 3) := by decide +kernel
theorem dJx4a65c_fastRemove_b59b0_14 : decode cJx4a65c_fastRemove_b59b0 14 = .ok (.iconst 1, 1) := by decide +kernel
theorem dJx4a65c_fastRemove_b59b0_15 : decode cJx4a65c_fastRemove_b59b0 15 = .ok (.isub, 1) := by decide +kernel
theorem dJx4a65c_fastRemove_b59b0_16 : decode cJx4a65c_fastRemove_b59b0 16 = .ok (.dup, 1) := by decide +kernel
theorem dJx4a65c_fastRemove_b59b0_17 : decode cJx4a65c_fastRemove_b59b0 17 = .ok (.istore_n 3, 1) := by decide +kernel
theorem dJx4a65c_fastRemove_b59b0_18 : decode cJx4a65c_fastRemove_b59b0 18 = .ok (.iload_n 2, 1) := by decide +kernel
theorem dJx4a65c_fastRemove_b59b0_19 : decode cJx4a65c_fastRemove_b59b0 19 = .ok (.if_icmp .le 15, 3) := by decide +kernel
theorem dJx4a65c_fastRemove_b59b0_22 : decode cJx4a65c_fastRemove_b59b0 22 = .ok (.aload_n 1, 1) := by decide +kernel
theorem dJx4a65c_fastRemove_b59b0_23 : decode cJx4a65c_fastRemove_b59b0 23 = .ok (.iload_n 2, 1) := by decide +kernel
theorem dJx4a65c_fastRemove_b59b0_24 : decode cJx4a65c_fastRemove_b59b0 24 = .ok (.iconst 1, 1) := by decide +kernel
theorem dJx4a65c_fastRemove_b59b0_25 : decode cJx4a65c_fastRemove_b59b0 25 = .ok (.iadd, 1) := by decide +kernel
theorem dJx4a65c_fastRemove_b59b0_26 : decode cJx4a65c_fastRemove_b59b0 26 = .ok (.aload_n 1, 1) := by decide +kernel
theorem dJx4a65c_fastRemove_b59b0_27 : decode cJx4a65c_fastRemove_b59b0 27 = .ok (.iload_n 2, 1) := by decide +kernel
theorem dJx4a65c_fastRemove_b59b0_28 : decode cJx4a65c_fastRemove_b59b0 28 = .ok (.iload_n 3, 1) := by decide +kernel
theorem dJx4a65c_fastRemove_b59b0_29 : decode cJx4a65c_fastRemove_b59b0 29 = .ok (.iload_n 2, 1) := by decide +kernel
theorem dJx4a65c_fastRemove_b59b0_30 : decode cJx4a65c_fastRemove_b59b0 30 = .ok (.isub, 1) := by decide +kernel
theorem dJx4a65c_fastRemove_b59b0_31 : decode cJx4a65c_fastRemove_b59b0 31 = .ok (.invokestatic 112, 3) := by decide +kernel
theorem dJx4a65c_fastRemove_b59b0_34 : decode cJx4a65c_fastRemove_b59b0 34 = .ok (.aload_n 1, 1) := by decide +kernel
theorem dJx4a65c_fastRemove_b59b0_35 : decode cJx4a65c_fastRemove_b59b0 35 = .ok (.aload_n 0, 1) := by decide +kernel
theorem dJx4a65c_fastRemove_b59b0_36 : decode cJx4a65c_fastRemove_b59b0 36 = .ok (.iload_n 3, 1) := by decide +kernel
theorem dJx4a65c_fastRemove_b59b0_37 : decode cJx4a65c_fastRemove_b59b0 37 = .ok (.dup_x1, 1) := by decide +kernel
theorem dJx4a65c_fastRemove_b59b0_38 : decode cJx4a65c_fastRemove_b59b0 38 = .ok (.putfield 48, 3) := by decide +kernel
theorem dJx4a65c_fastRemove_b59b0_41 : decode cJx4a65c_fastRemove_b59b0 41 = .ok (.aconst_null, 1) := by decide +kernel
theorem dJx4a65c_fastRemove_b59b0_42 : decode cJx4a65c_fastRemove_b59b0 42 = .ok (.aastore, 1) := by decide +kernel
theorem dJx4a65c_fastRemove_b59b0_43 : decode cJx4a65c_fastRemove_b59b0 43 = .ok (.return_, 1) := by decide +kernel
theorem dJx4a65c_clear_da8c8_0 : decode cJx4a65c_clear_da8c8 0 = .ok (.aload_n 0, 1) := by decide +kernel
theorem dJx4a65c_clear_da8c8_1 : decode cJx4a65c_clear_da8c8 1 = .ok (.dup, 1) := by decide +kernel
theorem dJx4a65c_clear_da8c8_2 : decode cJx4a65c_clear_da8c8 2 = .ok (.getfield 63, 3) := by decide +kernel
theorem dJx4a65c_clear_da8c8_5 : decode cJx4a65c_clear_da8c8 5 = .ok (.iconst 1, 1) := by decide +kernel
theorem dJx4a65c_clear_da8c8_6 : decode cJx4a65c_clear_da8c8 6 = .ok (.iadd, 1) := by decide +kernel
theorem dJx4a65c_clear_da8c8_7 : decode cJx4a65c_clear_da8c8 7 = .ok (.putfield 63, 3) := by decide +kernel
theorem dJx4a65c_clear_da8c8_10 : decode cJx4a65c_clear_da8c8 10 = .ok (.aload_n 0, 1) := by decide +kernel
theorem dJx4a65c_clear_da8c8_11 : decode cJx4a65c_clear_da8c8 11 = .ok (.getfield 9, 3) := by decide +kernel
theorem dJx4a65c_clear_da8c8_14 : decode cJx4a65c_clear_da8c8 14 = .ok (.astore_n 1, 1) := by decide +kernel
theorem dJx4a65c_clear_da8c8_15 : decode cJx4a65c_clear_da8c8 15 = .ok (.aload_n 0, 1) := by decide +kernel
theorem dJx4a65c_clear_da8c8_16 : decode cJx4a65c_clear_da8c8 16 = .ok (.getfield 48, 3) := by decide +kernel
theorem dJx4a65c_clear_da8c8_19 : decode cJx4a65c_clear_da8c8 19 = .ok (.istore_n 2, 1) := by decide +kernel
theorem dJx4a65c_clear_da8c8_20 : decode cJx4a65c_clear_da8c8 20 = .ok (.aload_n 0, 1) := by decide +kernel
theorem dJx4a65c_clear_da8c8_21 : decode cJx4a65c_clear_da8c8 21 = .ok (.iconst 0, 1) := by decide +kernel
theorem dJx4a65c_clear_da8c8_22 : decode cJx4a65c_clear_da8c8 22 = .ok (.dup_x1, 1) := by decide +kernel
theorem dJx4a65c_clear_da8c8_23 : decode cJx4a65c_clear_da8c8 23 = .ok (.putfield 48, 3) := by decide +kernel
theorem dJx4a65c_clear_da8c8_26 : decode cJx4a65c_clear_da8c8 26 = .ok (.istore_n 3, 1) := by decide +kernel
theorem dJx4a65c_clear_da8c8_27 : decode cJx4a65c_clear_da8c8 27 = .ok (.iload_n 3, 1) := by decide +kernel
theorem dJx4a65c_clear_da8c8_28 : decode cJx4a65c_clear_da8c8 28 = .ok (.iload_n 2, 1) := by decide +kernel
theorem dJx4a65c_clear_da8c8_29 : decode cJx4a65c_clear_da8c8 29 = .ok (.if_icmp .ge 13, 3) := by decide +kernel
theorem dJx4a65c_clear_da8c8_32 : decode cJx4a65c_clear_da8c8 32 = .ok (.aload_n 1, 1) := by decide +kernel
theorem dJx4a65c_clear_da8c8_33 : decode cJx4a65c_clear_da8c8 33 = .ok (.iload_n 3, 1) := by decide +kernel
theorem dJx4a65c_clear_da8c8_34 : decode cJx4a65c_clear_da8c8 34 = .ok (.aconst_null, 1) := by decide +kernel
theorem dJx4a65c_clear_da8c8_35 : decode cJx4a65c_clear_da8c8 35 = .ok (.aastore, 1) := by decide +kernel
theorem dJx4a65c_clear_da8c8_36 : decode cJx4a65c_clear_da8c8 36 = .ok (.iinc 3 1, 3) := by decide +kernel
theorem dJx4a65c_clear_da8c8_39 : decode cJx4a65c_clear_da8c8 39 = .ok (.goto (-12), 3) := by decide +kernel
theorem dJx4a65c_clear_da8c8_42 : decode cJx4a65c_clear_da8c8 42 = .ok (.return_, 1) := by decide +kernel
theorem dJ7_copyOf_1904c_0 : decode cJ7_copyOf_1904c 0 = .ok (.aload_n 0, 1) := by decide +kernel
theorem dJ7_copyOf_1904c_1 : decode cJ7_copyOf_1904c 1 = .ok (.iload_n 1, 1) := by decide +kernel
theorem dJ7_copyOf_1904c_2 : decode cJ7_copyOf_1904c 2 = .ok (.aload_n 0, 1) := by decide +kernel
theorem dJ7_copyOf_1904c_3 : decode cJ7_copyOf_1904c 3 = .ok (.invokevirtual 86, 3) := by decide +kernel
theorem dJ7_copyOf_1904c_6 : decode cJ7_copyOf_1904c 6 = .ok (.invokestatic 300, 3) := by decide +kernel
theorem dJ7_copyOf_1904c_9 : decode cJ7_copyOf_1904c 9 = .ok (.areturn, 1) := by decide +kernel
theorem dJ7_copyOf_6403c_0 : decode cJ7_copyOf_6403c 0 = .ok (.aload_n 2, 1) := by decide +kernel
theorem dJ7_copyOf_6403c_1 : decode cJ7_copyOf_6403c 1 = .ok (.ldc 110, 2) := by decide +kernel
theorem dJ7_copyOf_6403c_3 : decode cJ7_copyOf_6403c 3 = .ok (.if_acmp .ne 10, 3) := by decide +kernel
theorem dJ7_copyOf_6403c_6 : decode cJ7_copyOf_6403c 6 = .ok (.iload_n 1, 1) := by decide +kernel
theorem dJ7_copyOf_6403c_7 : decode cJ7_copyOf_6403c 7 = .ok (.anewarray 2, 3) := by decide +kernel
theorem dJ7_copyOf_6403c_10 : decode cJ7_copyOf_6403c 10 = .ok (.goto 14, 3) := by decide +kernel
theorem dJ7_copyOf_6403c_13 : decode cJ7_copyOf_6403c 13 = .ok (.aload_n 2, 1) := by decide +kernel
theorem dJ7_copyOf_6403c_14 : decode cJ7_copyOf_6403c 14 = .ok (.invokevirtual 90, 3) := by decide +kernel
theorem dJ7_copyOf_6403c_17 : decode cJ7_copyOf_6403c 17 = .ok (.iload_n 1, 1) := by decide +kernel
theorem dJ7_copyOf_6403c_18 : decode cJ7_copyOf_6403c 18 = .ok (.invokestatic 95, 3) := by decide +kernel
theorem dJ7_copyOf_6403c_21 : decode cJ7_copyOf_6403c 21 = .ok (.checkcast 110, 3) := by decide +kernel
theorem dJ7_copyOf_6403c_24 : decode cJ7_copyOf_6403c 24 = .ok (.astore_n 3, 1) := by decide +kernel
theorem dJ7_copyOf_6403c_25 : decode cJ7_copyOf_6403c 25 = .ok (.aload_n 0, 1) := by decide +kernel
theorem dJ7_copyOf_6403c_26 : decode cJ7_copyOf_6403c 26 = .ok (.iconst 0, 1) := by decide +kernel
theorem dJ7_copyOf_6403c_27 : decode cJ7_copyOf_6403c 27 = .ok (.aload_n 3, 1) := by decide +kernel
theorem dJ7_copyOf_6403c_28 : decode cJ7_copyOf_6403c 28 = .ok (.iconst 0, 1) := by decide +kernel
theorem dJ7_copyOf_6403c_29 : decode cJ7_copyOf_6403c 29 = .ok (.aload_n 0, 1) := by decide +kernel
theorem dJ7_copyOf_6403c_30 : decode cJ7_copyOf_6403c 30 = .ok (.arraylength, 1) := by decide +kernel
theorem dJ7_copyOf_6403c_31 : decode cJ7_copyOf_6403c 31 = .ok (.iload_n 1, 1) := by decide +kernel
theorem dJ7_copyOf_6403c_32 : decode cJ7_copyOf_6403c 32 = .ok (.invokestatic 304, 3) := by decide +kernel
theorem dJ7_copyOf_6403c_35 : decode cJ7_copyOf_6403c 35 = .ok (.invokestatic 150, 3) := by decide +kernel
theorem dJ7_copyOf_6403c_38 : decode cJ7_copyOf_6403c 38 = .ok (.aload_n 3, 1) := by decide +kernel
theorem dJ7_copyOf_6403c_39 : decode cJ7_copyOf_6403c 39 = .ok (.areturn, 1) := by decide +kernel
theorem dJ15_checkIndex_7cf53_0 : decode cJ15_checkIndex_7cf53 0 = .ok (.iload_n 0, 1) := by decide +kernel
theorem dJ15_checkIndex_7cf53_1 : decode cJ15_checkIndex_7cf53 1 = .ok (.iload_n 1, 1) := by decide +kernel
theorem dJ15_checkIndex_7cf53_2 : decode cJ15_checkIndex_7cf53 2 = .ok (.aconst_null, 1) := by decide +kernel
theorem dJ15_checkIndex_7cf53_3 : decode cJ15_checkIndex_7cf53 3 = .ok (.invokestatic 105, 3) := by decide +kernel
theorem dJ15_checkIndex_7cf53_6 : decode cJ15_checkIndex_7cf53 6 = .ok (.ireturn, 1) := by decide +kernel
theorem dJ8_newLength_cabcc_0 : decode cJ8_newLength_cabcc 0 = .ok (.iload_n 0, 1) := by decide +kernel
theorem dJ8_newLength_cabcc_1 : decode cJ8_newLength_cabcc 1 = .ok (.iload_n 1, 1) := by decide +kernel
theorem dJ8_newLength_cabcc_2 : decode cJ8_newLength_cabcc 2 = .ok (.iload_n 2, 1) := by decide +kernel
theorem dJ8_newLength_cabcc_3 : decode cJ8_newLength_cabcc 3 = .ok (.invokestatic 194, 3) := by decide +kernel
theorem dJ8_newLength_cabcc_6 : decode cJ8_newLength_cabcc 6 = .ok (.iadd, 1) := by decide +kernel
theorem dJ8_newLength_cabcc_7 : decode cJ8_newLength_cabcc 7 = .ok (.istore_n 3, 1) := by decide +kernel
theorem dJ8_newLength_cabcc_8 : decode cJ8_newLength_cabcc 8 = .ok (.iconst 0, 1) := by decide +kernel
theorem dJ8_newLength_cabcc_9 : decode cJ8_newLength_cabcc 9 = .ok (.iload_n 3, 1) := by decide +kernel
theorem dJ8_newLength_cabcc_10 : decode cJ8_newLength_cabcc 10 = .ok (.if_icmp .ge 11, 3) := by decide +kernel
theorem dJ8_newLength_cabcc_13 : decode cJ8_newLength_cabcc 13 = .ok (.iload_n 3, 1) := by decide +kernel
theorem dJ8_newLength_cabcc_14 : decode cJ8_newLength_cabcc 14 = .ok (.ldc 200, 2) := by decide +kernel
theorem dJ8_newLength_cabcc_16 : decode cJ8_newLength_cabcc 16 = .ok (.if_icmp .gt 5, 3) := by decide +kernel
theorem dJ8_newLength_cabcc_19 : decode cJ8_newLength_cabcc 19 = .ok (.iload_n 3, 1) := by decide +kernel
theorem dJ8_newLength_cabcc_20 : decode cJ8_newLength_cabcc 20 = .ok (.ireturn, 1) := by decide +kernel
theorem dJ8_newLength_cabcc_21 : decode cJ8_newLength_cabcc 21 = .ok (.iload_n 0, 1) := by decide +kernel
theorem dJ8_newLength_cabcc_22 : decode cJ8_newLength_cabcc 22 = .ok (.iload_n 1, 1) := by decide +kernel
theorem dJ8_newLength_cabcc_23 : decode cJ8_newLength_cabcc 23 = .ok (.invokestatic 201, 3) := by decide +kernel
theorem dJ8_newLength_cabcc_26 : decode cJ8_newLength_cabcc 26 = .ok (.ireturn, 1) := by decide +kernel
theorem dJ8_hugeLength_7cf53_0 : decode cJ8_hugeLength_7cf53 0 = .ok (.iload_n 0, 1) := by decide +kernel
theorem dJ8_hugeLength_7cf53_1 : decode cJ8_hugeLength_7cf53 1 = .ok (.iload_n 1, 1) := by decide +kernel
theorem dJ8_hugeLength_7cf53_2 : decode cJ8_hugeLength_7cf53 2 = .ok (.iadd, 1) := by decide +kernel
theorem dJ8_hugeLength_7cf53_3 : decode cJ8_hugeLength_7cf53 3 = .ok (.istore_n 2, 1) := by decide +kernel
theorem dJ8_hugeLength_7cf53_4 : decode cJ8_hugeLength_7cf53 4 = .ok (.iload_n 2, 1) := by decide +kernel
theorem dJ8_hugeLength_7cf53_5 : decode cJ8_hugeLength_7cf53 5 = .ok (.ifCond .ge 44, 3) := by decide +kernel
theorem dJ8_hugeLength_7cf53_8 : decode cJ8_hugeLength_7cf53 8 = .ok (.new 204, 3) := by decide +kernel
theorem dJ8_hugeLength_7cf53_11 : decode cJ8_hugeLength_7cf53 11 = .ok (.dup, 1) := by decide +kernel
theorem dJ8_hugeLength_7cf53_12 : decode cJ8_hugeLength_7cf53 12 = .ok (.new 89, 3) := by decide +kernel
theorem dJ8_hugeLength_7cf53_15 : decode cJ8_hugeLength_7cf53 15 = .ok (.dup, 1) := by decide +kernel
theorem dJ8_hugeLength_7cf53_16 : decode cJ8_hugeLength_7cf53 16 = .ok (.invokespecial 91, 3) := by decide +kernel
theorem dJ8_hugeLength_7cf53_19 : decode cJ8_hugeLength_7cf53 19 = .ok (.ldc 206, 2) := by decide +kernel
theorem dJ8_hugeLength_7cf53_21 : decode cJ8_hugeLength_7cf53 21 = .ok (.invokevirtual 94, 3) := by decide +kernel
theorem dJ8_hugeLength_7cf53_24 : decode cJ8_hugeLength_7cf53 24 = .ok (.iload_n 0, 1) := by decide +kernel
theorem dJ8_hugeLength_7cf53_25 : decode cJ8_hugeLength_7cf53 25 = .ok (.invokevirtual 98, 3) := by decide +kernel
theorem dJ8_hugeLength_7cf53_28 : decode cJ8_hugeLength_7cf53 28 = .ok (.ldc 208, 2) := by decide +kernel
theorem dJ8_hugeLength_7cf53_30 : decode cJ8_hugeLength_7cf53 30 = .ok (.invokevirtual 94, 3) := by decide +kernel
theorem dJ8_hugeLength_7cf53_33 : decode cJ8_hugeLength_7cf53 33 = .ok (.iload_n 1, 1) := by decide +kernel
theorem dJ8_hugeLength_7cf53_34 : decode cJ8_hugeLength_7cf53 34 = .ok (.invokevirtual 98, 3) := by decide +kernel
theorem dJ8_hugeLength_7cf53_37 : decode cJ8_hugeLength_7cf53 37 = .ok (.ldc 210, 2) := by decide +kernel
theorem dJ8_hugeLength_7cf53_39 : decode cJ8_hugeLength_7cf53 39 = .ok (.invokevirtual 94, 3) := by decide +kernel
theorem dJ8_hugeLength_7cf53_42 : decode cJ8_hugeLength_7cf53 42 = .ok (.invokevirtual 101, 3) := by decide +kernel
theorem dJ8_hugeLength_7cf53_45 : decode cJ8_hugeLength_7cf53 45 = .ok (.invokespecial 212, 3) := by decide +kernel
theorem dJ8_hugeLength_7cf53_48 : decode cJ8_hugeLength_7cf53 48 = .ok (.athrow, 1) := by decide +kernel
theorem dJ8_hugeLength_7cf53_49 : decode cJ8_hugeLength_7cf53 49 = .ok (.iload_n 2, 1) := by decide +kernel
theorem dJ8_hugeLength_7cf53_50 : decode cJ8_hugeLength_7cf53 50 = .ok (.ldc 200, 2) := by decide +kernel
theorem dJ8_hugeLength_7cf53_52 : decode cJ8_hugeLength_7cf53 52 = .ok (.if_icmp .gt 6, 3) := by decide +kernel
theorem dJ8_hugeLength_7cf53_55 : decode cJ8_hugeLength_7cf53 55 = .ok (.ldc 200, 2) := by decide +kernel
theorem dJ8_hugeLength_7cf53_57 : decode cJ8_hugeLength_7cf53 57 = .ok (.ireturn, 1) := by decide +kernel
theorem dJ8_hugeLength_7cf53_58 : decode cJ8_hugeLength_7cf53 58 = .ok (.iload_n 2, 1) := by decide +kernel
theorem dJ8_hugeLength_7cf53_59 : decode cJ8_hugeLength_7cf53 59 = .ok (.ireturn, 1) := by decide +kernel
theorem dJ3_checkIndex_8e157_0 : decode cJ3_checkIndex_8e157 0 = .ok (.iload_n 0, 1) := by decide +kernel
theorem dJ3_checkIndex_8e157_1 : decode cJ3_checkIndex_8e157 1 = .ok (.ifCond .lt 8, 3) := by decide +kernel
theorem dJ3_checkIndex_8e157_4 : decode cJ3_checkIndex_8e157 4 = .ok (.iload_n 0, 1) := by decide +kernel
theorem dJ3_checkIndex_8e157_5 : decode cJ3_checkIndex_8e157 5 = .ok (.iload_n 1, 1) := by decide +kernel
theorem dJ3_checkIndex_8e157_6 : decode cJ3_checkIndex_8e157 6 = .ok (.if_icmp .lt 10, 3) := by decide +kernel
theorem dJ3_checkIndex_8e157_9 : decode cJ3_checkIndex_8e157 9 = .ok (.aload_n 2, 1) := by decide +kernel
theorem dJ3_checkIndex_8e157_10 : decode cJ3_checkIndex_8e157 10 = .ok (.iload_n 0, 1) := by decide +kernel
theorem dJ3_checkIndex_8e157_11 : decode cJ3_checkIndex_8e157 11 = .ok (.iload_n 1, 1) := by decide +kernel
theorem dJ3_checkIndex_8e157_12 : decode cJ3_checkIndex_8e157 12 = .ok (.invokestatic 95, 3) := by decide +kernel
theorem dJ3_checkIndex_8e157_15 : decode cJ3_checkIndex_8e157 15 = .ok (.athrow, 1) := by decide +kernel
theorem dJ3_checkIndex_8e157_16 : decode cJ3_checkIndex_8e157 16 = .ok (.iload_n 0, 1) := by decide +kernel
theorem dJ3_checkIndex_8e157_17 : decode cJ3_checkIndex_8e157 17 = .ok (.ireturn, 1) := by decide +kernel
theorem dL_addDie_0 : decode cL_addDie 0 = .ok (.aload_n 2, 1) := by decide +kernel
theorem dL_addDie_1 : decode cL_addDie 1 = .ok (.iconst 0, 1) := by decide +kernel
theorem dL_addDie_2 : decode cL_addDie 2 = .ok (.aload_n 0, 1) := by decide +kernel
theorem dL_addDie_3 : decode cL_addDie 3 = .ok (.iload_n 1, 1) := by decide +kernel
theorem dL_addDie_4 : decode cL_addDie 4 = .ok (.invokevirtual 7, 3) := by decide +kernel
theorem dL_addDie_7 : decode cL_addDie 7 = .ok (.i2l, 1) := by decide +kernel
theorem dL_addDie_8 : decode cL_addDie 8 = .ok (.lastore, 1) := by decide +kernel
theorem dL_addDie_9 : decode cL_addDie 9 = .ok (.goto 9, 3) := by decide +kernel
theorem dL_addDie_12 : decode cL_addDie 12 = .ok (.astore_n 3, 1) := by decide +kernel
theorem dL_addDie_13 : decode cL_addDie 13 = .ok (.iconst 1, 1) := by decide +kernel
theorem dL_addDie_14 : decode cL_addDie 14 = .ok (.ireturn, 1) := by decide +kernel
theorem dL_addDie_15 : decode cL_addDie 15 = .ok (.astore_n 3, 1) := by decide +kernel
theorem dL_addDie_16 : decode cL_addDie 16 = .ok (.iconst 2, 1) := by decide +kernel
theorem dL_addDie_17 : decode cL_addDie 17 = .ok (.ireturn, 1) := by decide +kernel
theorem dL_addDie_18 : decode cL_addDie 18 = .ok (.iconst 0, 1) := by decide +kernel
theorem dL_addDie_19 : decode cL_addDie 19 = .ok (.ireturn, 1) := by decide +kernel
theorem dL_crack_0 : decode cL_crack 0 = .ok (.aload_n 3, 1) := by decide +kernel
theorem dL_crack_1 : decode cL_crack 1 = .ok (.iconst 0, 1) := by decide +kernel
theorem dL_crack_2 : decode cL_crack 2 = .ok (.aload_n 0, 1) := by decide +kernel
theorem dL_crack_3 : decode cL_crack 3 = .ok (.iload_n 1, 1) := by decide +kernel
theorem dL_crack_4 : decode cL_crack 4 = .ok (.iload_n 2, 1) := by decide +kernel
theorem dL_crack_5 : decode cL_crack 5 = .ok (.invokevirtual 17, 3) := by decide +kernel
theorem dL_crack_8 : decode cL_crack 8 = .ok (.i2l, 1) := by decide +kernel
theorem dL_crack_9 : decode cL_crack 9 = .ok (.lastore, 1) := by decide +kernel
theorem dL_crack_10 : decode cL_crack 10 = .ok (.goto 15, 3) := by decide +kernel
theorem dL_crack_13 : decode cL_crack 13 = .ok (.astore 4, 2) := by decide +kernel
theorem dL_crack_15 : decode cL_crack 15 = .ok (.iconst 1, 1) := by decide +kernel
theorem dL_crack_16 : decode cL_crack 16 = .ok (.ireturn, 1) := by decide +kernel
theorem dL_crack_17 : decode cL_crack 17 = .ok (.astore 4, 2) := by decide +kernel
theorem dL_crack_19 : decode cL_crack 19 = .ok (.iconst 2, 1) := by decide +kernel
theorem dL_crack_20 : decode cL_crack 20 = .ok (.ireturn, 1) := by decide +kernel
theorem dL_crack_21 : decode cL_crack 21 = .ok (.astore 4, 2) := by decide +kernel
theorem dL_crack_23 : decode cL_crack 23 = .ok (.iconst 3, 1) := by decide +kernel
theorem dL_crack_24 : decode cL_crack 24 = .ok (.ireturn, 1) := by decide +kernel
theorem dL_crack_25 : decode cL_crack 25 = .ok (.iconst 0, 1) := by decide +kernel
theorem dL_crack_26 : decode cL_crack 26 = .ok (.ireturn, 1) := by decide +kernel
theorem dL_strike_0 : decode cL_strike 0 = .ok (.aload_n 3, 1) := by decide +kernel
theorem dL_strike_1 : decode cL_strike 1 = .ok (.iconst 0, 1) := by decide +kernel
theorem dL_strike_2 : decode cL_strike 2 = .ok (.aload_n 0, 1) := by decide +kernel
theorem dL_strike_3 : decode cL_strike 3 = .ok (.iload_n 1, 1) := by decide +kernel
theorem dL_strike_4 : decode cL_strike 4 = .ok (.iload_n 2, 1) := by decide +kernel
theorem dL_strike_5 : decode cL_strike 5 = .ok (.invokevirtual 23, 3) := by decide +kernel
theorem dL_strike_8 : decode cL_strike 8 = .ok (.i2l, 1) := by decide +kernel
theorem dL_strike_9 : decode cL_strike 9 = .ok (.lastore, 1) := by decide +kernel
theorem dL_strike_10 : decode cL_strike 10 = .ok (.goto 15, 3) := by decide +kernel
theorem dL_strike_13 : decode cL_strike 13 = .ok (.astore 4, 2) := by decide +kernel
theorem dL_strike_15 : decode cL_strike 15 = .ok (.iconst 1, 1) := by decide +kernel
theorem dL_strike_16 : decode cL_strike 16 = .ok (.ireturn, 1) := by decide +kernel
theorem dL_strike_17 : decode cL_strike 17 = .ok (.astore 4, 2) := by decide +kernel
theorem dL_strike_19 : decode cL_strike 19 = .ok (.iconst 2, 1) := by decide +kernel
theorem dL_strike_20 : decode cL_strike 20 = .ok (.ireturn, 1) := by decide +kernel
theorem dL_strike_21 : decode cL_strike 21 = .ok (.astore 4, 2) := by decide +kernel
theorem dL_strike_23 : decode cL_strike 23 = .ok (.iconst 3, 1) := by decide +kernel
theorem dL_strike_24 : decode cL_strike 24 = .ok (.ireturn, 1) := by decide +kernel
theorem dL_strike_25 : decode cL_strike 25 = .ok (.iconst 0, 1) := by decide +kernel
theorem dL_strike_26 : decode cL_strike 26 = .ok (.ireturn, 1) := by decide +kernel
theorem dL_cast_0 : decode cL_cast 0 = .ok (.aload_n 2, 1) := by decide +kernel
theorem dL_cast_1 : decode cL_cast 1 = .ok (.iconst 0, 1) := by decide +kernel
theorem dL_cast_2 : decode cL_cast 2 = .ok (.aload_n 0, 1) := by decide +kernel
theorem dL_cast_3 : decode cL_cast 3 = .ok (.iload_n 1, 1) := by decide +kernel
theorem dL_cast_4 : decode cL_cast 4 = .ok (.invokevirtual 26, 3) := by decide +kernel
theorem dL_cast_7 : decode cL_cast 7 = .ok (.i2l, 1) := by decide +kernel
theorem dL_cast_8 : decode cL_cast 8 = .ok (.lastore, 1) := by decide +kernel
theorem dL_cast_9 : decode cL_cast 9 = .ok (.goto 9, 3) := by decide +kernel
theorem dL_cast_12 : decode cL_cast 12 = .ok (.astore_n 3, 1) := by decide +kernel
theorem dL_cast_13 : decode cL_cast 13 = .ok (.iconst 1, 1) := by decide +kernel
theorem dL_cast_14 : decode cL_cast 14 = .ok (.ireturn, 1) := by decide +kernel
theorem dL_cast_15 : decode cL_cast 15 = .ok (.astore_n 3, 1) := by decide +kernel
theorem dL_cast_16 : decode cL_cast 16 = .ok (.iconst 2, 1) := by decide +kernel
theorem dL_cast_17 : decode cL_cast 17 = .ok (.ireturn, 1) := by decide +kernel
theorem dL_cast_18 : decode cL_cast 18 = .ok (.iconst 0, 1) := by decide +kernel
theorem dL_cast_19 : decode cL_cast 19 = .ok (.ireturn, 1) := by decide +kernel
theorem dL_melt_0 : decode cL_melt 0 = .ok (.aload_n 2, 1) := by decide +kernel
theorem dL_melt_1 : decode cL_melt 1 = .ok (.iconst 0, 1) := by decide +kernel
theorem dL_melt_2 : decode cL_melt 2 = .ok (.aload_n 0, 1) := by decide +kernel
theorem dL_melt_3 : decode cL_melt 3 = .ok (.iload_n 1, 1) := by decide +kernel
theorem dL_melt_4 : decode cL_melt 4 = .ok (.invokevirtual 29, 3) := by decide +kernel
theorem dL_melt_7 : decode cL_melt 7 = .ok (.i2l, 1) := by decide +kernel
theorem dL_melt_8 : decode cL_melt 8 = .ok (.lastore, 1) := by decide +kernel
theorem dL_melt_9 : decode cL_melt 9 = .ok (.goto 9, 3) := by decide +kernel
theorem dL_melt_12 : decode cL_melt 12 = .ok (.astore_n 3, 1) := by decide +kernel
theorem dL_melt_13 : decode cL_melt 13 = .ok (.iconst 1, 1) := by decide +kernel
theorem dL_melt_14 : decode cL_melt 14 = .ok (.ireturn, 1) := by decide +kernel
theorem dL_melt_15 : decode cL_melt 15 = .ok (.astore_n 3, 1) := by decide +kernel
theorem dL_melt_16 : decode cL_melt 16 = .ok (.iconst 2, 1) := by decide +kernel
theorem dL_melt_17 : decode cL_melt 17 = .ok (.ireturn, 1) := by decide +kernel
theorem dL_melt_18 : decode cL_melt 18 = .ok (.iconst 0, 1) := by decide +kernel
theorem dL_melt_19 : decode cL_melt 19 = .ok (.ireturn, 1) := by decide +kernel
theorem dL_defects_0 : decode cL_defects 0 = .ok (.aload_n 2, 1) := by decide +kernel
theorem dL_defects_1 : decode cL_defects 1 = .ok (.iconst 0, 1) := by decide +kernel
theorem dL_defects_2 : decode cL_defects 2 = .ok (.aload_n 0, 1) := by decide +kernel
theorem dL_defects_3 : decode cL_defects 3 = .ok (.iload_n 1, 1) := by decide +kernel
theorem dL_defects_4 : decode cL_defects 4 = .ok (.invokevirtual 32, 3) := by decide +kernel
theorem dL_defects_7 : decode cL_defects 7 = .ok (.i2l, 1) := by decide +kernel
theorem dL_defects_8 : decode cL_defects 8 = .ok (.lastore, 1) := by decide +kernel
theorem dL_defects_9 : decode cL_defects 9 = .ok (.goto 6, 3) := by decide +kernel
theorem dL_defects_12 : decode cL_defects 12 = .ok (.astore_n 3, 1) := by decide +kernel
theorem dL_defects_13 : decode cL_defects 13 = .ok (.iconst 1, 1) := by decide +kernel
theorem dL_defects_14 : decode cL_defects 14 = .ok (.ireturn, 1) := by decide +kernel
theorem dL_defects_15 : decode cL_defects 15 = .ok (.iconst 0, 1) := by decide +kernel
theorem dL_defects_16 : decode cL_defects 16 = .ok (.ireturn, 1) := by decide +kernel
theorem dL_couldBeOf_0 : decode cL_couldBeOf 0 = .ok (.aload_n 2, 1) := by decide +kernel
theorem dL_couldBeOf_1 : decode cL_couldBeOf 1 = .ok (.iconst 0, 1) := by decide +kernel
theorem dL_couldBeOf_2 : decode cL_couldBeOf 2 = .ok (.aload_n 0, 1) := by decide +kernel
theorem dL_couldBeOf_3 : decode cL_couldBeOf 3 = .ok (.iload_n 1, 1) := by decide +kernel
theorem dL_couldBeOf_4 : decode cL_couldBeOf 4 = .ok (.invokevirtual 35, 3) := by decide +kernel
theorem dL_couldBeOf_7 : decode cL_couldBeOf 7 = .ok (.i2l, 1) := by decide +kernel
theorem dL_couldBeOf_8 : decode cL_couldBeOf 8 = .ok (.lastore, 1) := by decide +kernel
theorem dL_couldBeOf_9 : decode cL_couldBeOf 9 = .ok (.goto 6, 3) := by decide +kernel
theorem dL_couldBeOf_12 : decode cL_couldBeOf 12 = .ok (.astore_n 3, 1) := by decide +kernel
theorem dL_couldBeOf_13 : decode cL_couldBeOf 13 = .ok (.iconst 1, 1) := by decide +kernel
theorem dL_couldBeOf_14 : decode cL_couldBeOf 14 = .ok (.ireturn, 1) := by decide +kernel
theorem dL_couldBeOf_15 : decode cL_couldBeOf 15 = .ok (.iconst 0, 1) := by decide +kernel
theorem dL_couldBeOf_16 : decode cL_couldBeOf 16 = .ok (.ireturn, 1) := by decide +kernel
theorem dL_stages_0 : decode cL_stages 0 = .ok (.aload_n 2, 1) := by decide +kernel
theorem dL_stages_1 : decode cL_stages 1 = .ok (.iconst 0, 1) := by decide +kernel
theorem dL_stages_2 : decode cL_stages 2 = .ok (.aload_n 0, 1) := by decide +kernel
theorem dL_stages_3 : decode cL_stages 3 = .ok (.iload_n 1, 1) := by decide +kernel
theorem dL_stages_4 : decode cL_stages 4 = .ok (.invokevirtual 38, 3) := by decide +kernel
theorem dL_stages_7 : decode cL_stages 7 = .ok (.i2l, 1) := by decide +kernel
theorem dL_stages_8 : decode cL_stages 8 = .ok (.lastore, 1) := by decide +kernel
theorem dL_stages_9 : decode cL_stages 9 = .ok (.goto 6, 3) := by decide +kernel
theorem dL_stages_12 : decode cL_stages 12 = .ok (.astore_n 3, 1) := by decide +kernel
theorem dL_stages_13 : decode cL_stages 13 = .ok (.iconst 1, 1) := by decide +kernel
theorem dL_stages_14 : decode cL_stages 14 = .ok (.ireturn, 1) := by decide +kernel
theorem dL_stages_15 : decode cL_stages 15 = .ok (.iconst 0, 1) := by decide +kernel
theorem dL_stages_16 : decode cL_stages 16 = .ok (.ireturn, 1) := by decide +kernel
theorem dL_proof_0 : decode cL_proof 0 = .ok (.aload_n 2, 1) := by decide +kernel
theorem dL_proof_1 : decode cL_proof 1 = .ok (.iconst 0, 1) := by decide +kernel
theorem dL_proof_2 : decode cL_proof 2 = .ok (.aload_n 0, 1) := by decide +kernel
theorem dL_proof_3 : decode cL_proof 3 = .ok (.iload_n 1, 1) := by decide +kernel
theorem dL_proof_4 : decode cL_proof 4 = .ok (.invokevirtual 41, 3) := by decide +kernel
theorem dL_proof_7 : decode cL_proof 7 = .ok (.i2l, 1) := by decide +kernel
theorem dL_proof_8 : decode cL_proof 8 = .ok (.lastore, 1) := by decide +kernel
theorem dL_proof_9 : decode cL_proof 9 = .ok (.goto 6, 3) := by decide +kernel
theorem dL_proof_12 : decode cL_proof 12 = .ok (.astore_n 3, 1) := by decide +kernel
theorem dL_proof_13 : decode cL_proof 13 = .ok (.iconst 1, 1) := by decide +kernel
theorem dL_proof_14 : decode cL_proof 14 = .ok (.ireturn, 1) := by decide +kernel
theorem dL_proof_15 : decode cL_proof 15 = .ok (.iconst 0, 1) := by decide +kernel
theorem dL_proof_16 : decode cL_proof 16 = .ok (.ireturn, 1) := by decide +kernel
theorem dL_condemn_0 : decode cL_condemn 0 = .ok (.aload_n 2, 1) := by decide +kernel
theorem dL_condemn_1 : decode cL_condemn 1 = .ok (.iconst 0, 1) := by decide +kernel
theorem dL_condemn_2 : decode cL_condemn 2 = .ok (.aload_n 0, 1) := by decide +kernel
theorem dL_condemn_3 : decode cL_condemn 3 = .ok (.iload_n 1, 1) := by decide +kernel
theorem dL_condemn_4 : decode cL_condemn 4 = .ok (.invokevirtual 44, 3) := by decide +kernel
theorem dL_condemn_7 : decode cL_condemn 7 = .ok (.i2l, 1) := by decide +kernel
theorem dL_condemn_8 : decode cL_condemn 8 = .ok (.lastore, 1) := by decide +kernel
theorem dL_condemn_9 : decode cL_condemn 9 = .ok (.goto 9, 3) := by decide +kernel
theorem dL_condemn_12 : decode cL_condemn 12 = .ok (.astore_n 3, 1) := by decide +kernel
theorem dL_condemn_13 : decode cL_condemn 13 = .ok (.iconst 1, 1) := by decide +kernel
theorem dL_condemn_14 : decode cL_condemn 14 = .ok (.ireturn, 1) := by decide +kernel
theorem dL_condemn_15 : decode cL_condemn 15 = .ok (.astore_n 3, 1) := by decide +kernel
theorem dL_condemn_16 : decode cL_condemn 16 = .ok (.iconst 2, 1) := by decide +kernel
theorem dL_condemn_17 : decode cL_condemn 17 = .ok (.ireturn, 1) := by decide +kernel
theorem dL_condemn_18 : decode cL_condemn 18 = .ok (.iconst 0, 1) := by decide +kernel
theorem dL_condemn_19 : decode cL_condemn 19 = .ok (.ireturn, 1) := by decide +kernel
theorem dL_isCondemned_0 : decode cL_isCondemned 0 = .ok (.aload_n 2, 1) := by decide +kernel
theorem dL_isCondemned_1 : decode cL_isCondemned 1 = .ok (.iconst 0, 1) := by decide +kernel
theorem dL_isCondemned_2 : decode cL_isCondemned 2 = .ok (.aload_n 0, 1) := by decide +kernel
theorem dL_isCondemned_3 : decode cL_isCondemned 3 = .ok (.iload_n 1, 1) := by decide +kernel
theorem dL_isCondemned_4 : decode cL_isCondemned 4 = .ok (.invokevirtual 47, 3) := by decide +kernel
theorem dL_isCondemned_7 : decode cL_isCondemned 7 = .ok (.ifCond .eq 7, 3) := by decide +kernel
theorem dL_isCondemned_10 : decode cL_isCondemned 10 = .ok (.lconst 1, 1) := by decide +kernel
theorem dL_isCondemned_11 : decode cL_isCondemned 11 = .ok (.goto 4, 3) := by decide +kernel
theorem dL_isCondemned_14 : decode cL_isCondemned 14 = .ok (.lconst 0, 1) := by decide +kernel
theorem dL_isCondemned_15 : decode cL_isCondemned 15 = .ok (.lastore, 1) := by decide +kernel
theorem dL_isCondemned_16 : decode cL_isCondemned 16 = .ok (.goto 6, 3) := by decide +kernel
theorem dL_isCondemned_19 : decode cL_isCondemned 19 = .ok (.astore_n 3, 1) := by decide +kernel
theorem dL_isCondemned_20 : decode cL_isCondemned 20 = .ok (.iconst 1, 1) := by decide +kernel
theorem dL_isCondemned_21 : decode cL_isCondemned 21 = .ok (.ireturn, 1) := by decide +kernel
theorem dL_isCondemned_22 : decode cL_isCondemned 22 = .ok (.iconst 0, 1) := by decide +kernel
theorem dL_isCondemned_23 : decode cL_isCondemned 23 = .ok (.ireturn, 1) := by decide +kernel
theorem dL_isTrue_0 : decode cL_isTrue 0 = .ok (.aload_n 2, 1) := by decide +kernel
theorem dL_isTrue_1 : decode cL_isTrue 1 = .ok (.iconst 0, 1) := by decide +kernel
theorem dL_isTrue_2 : decode cL_isTrue 2 = .ok (.aload_n 0, 1) := by decide +kernel
theorem dL_isTrue_3 : decode cL_isTrue 3 = .ok (.iload_n 1, 1) := by decide +kernel
theorem dL_isTrue_4 : decode cL_isTrue 4 = .ok (.invokevirtual 51, 3) := by decide +kernel
theorem dL_isTrue_7 : decode cL_isTrue 7 = .ok (.ifCond .eq 7, 3) := by decide +kernel
theorem dL_isTrue_10 : decode cL_isTrue 10 = .ok (.lconst 1, 1) := by decide +kernel
theorem dL_isTrue_11 : decode cL_isTrue 11 = .ok (.goto 4, 3) := by decide +kernel
theorem dL_isTrue_14 : decode cL_isTrue 14 = .ok (.lconst 0, 1) := by decide +kernel
theorem dL_isTrue_15 : decode cL_isTrue 15 = .ok (.lastore, 1) := by decide +kernel
theorem dL_isTrue_16 : decode cL_isTrue 16 = .ok (.goto 6, 3) := by decide +kernel
theorem dL_isTrue_19 : decode cL_isTrue 19 = .ok (.astore_n 3, 1) := by decide +kernel
theorem dL_isTrue_20 : decode cL_isTrue 20 = .ok (.iconst 1, 1) := by decide +kernel
theorem dL_isTrue_21 : decode cL_isTrue 21 = .ok (.ireturn, 1) := by decide +kernel
theorem dL_isTrue_22 : decode cL_isTrue 22 = .ok (.iconst 0, 1) := by decide +kernel
theorem dL_isTrue_23 : decode cL_isTrue 23 = .ok (.ireturn, 1) := by decide +kernel
theorem dL_rarity_0 : decode cL_rarity 0 = .ok (.aload_n 2, 1) := by decide +kernel
theorem dL_rarity_1 : decode cL_rarity 1 = .ok (.iconst 0, 1) := by decide +kernel
theorem dL_rarity_2 : decode cL_rarity 2 = .ok (.aload_n 0, 1) := by decide +kernel
theorem dL_rarity_3 : decode cL_rarity 3 = .ok (.iload_n 1, 1) := by decide +kernel
theorem dL_rarity_4 : decode cL_rarity 4 = .ok (.invokevirtual 54, 3) := by decide +kernel
theorem dL_rarity_7 : decode cL_rarity 7 = .ok (.i2l, 1) := by decide +kernel
theorem dL_rarity_8 : decode cL_rarity 8 = .ok (.lastore, 1) := by decide +kernel
theorem dL_rarity_9 : decode cL_rarity 9 = .ok (.goto 6, 3) := by decide +kernel
theorem dL_rarity_12 : decode cL_rarity 12 = .ok (.astore_n 3, 1) := by decide +kernel
theorem dL_rarity_13 : decode cL_rarity 13 = .ok (.iconst 1, 1) := by decide +kernel
theorem dL_rarity_14 : decode cL_rarity 14 = .ok (.ireturn, 1) := by decide +kernel
theorem dL_rarity_15 : decode cL_rarity 15 = .ok (.iconst 0, 1) := by decide +kernel
theorem dL_rarity_16 : decode cL_rarity 16 = .ok (.ireturn, 1) := by decide +kernel
theorem dL_rarityByCoins_0 : decode cL_rarityByCoins 0 = .ok (.aload_n 2, 1) := by decide +kernel
theorem dL_rarityByCoins_1 : decode cL_rarityByCoins 1 = .ok (.iconst 0, 1) := by decide +kernel
theorem dL_rarityByCoins_2 : decode cL_rarityByCoins 2 = .ok (.aload_n 0, 1) := by decide +kernel
theorem dL_rarityByCoins_3 : decode cL_rarityByCoins 3 = .ok (.iload_n 1, 1) := by decide +kernel
theorem dL_rarityByCoins_4 : decode cL_rarityByCoins 4 = .ok (.invokevirtual 57, 3) := by decide +kernel
theorem dL_rarityByCoins_7 : decode cL_rarityByCoins 7 = .ok (.i2l, 1) := by decide +kernel
theorem dL_rarityByCoins_8 : decode cL_rarityByCoins 8 = .ok (.lastore, 1) := by decide +kernel
theorem dL_rarityByCoins_9 : decode cL_rarityByCoins 9 = .ok (.goto 6, 3) := by decide +kernel
theorem dL_rarityByCoins_12 : decode cL_rarityByCoins 12 = .ok (.astore_n 3, 1) := by decide +kernel
theorem dL_rarityByCoins_13 : decode cL_rarityByCoins 13 = .ok (.iconst 1, 1) := by decide +kernel
theorem dL_rarityByCoins_14 : decode cL_rarityByCoins 14 = .ok (.ireturn, 1) := by decide +kernel
theorem dL_rarityByCoins_15 : decode cL_rarityByCoins 15 = .ok (.iconst 0, 1) := by decide +kernel
theorem dL_rarityByCoins_16 : decode cL_rarityByCoins 16 = .ok (.ireturn, 1) := by decide +kernel
theorem dL_price_0 : decode cL_price 0 = .ok (.aload_n 2, 1) := by decide +kernel
theorem dL_price_1 : decode cL_price 1 = .ok (.iconst 0, 1) := by decide +kernel
theorem dL_price_2 : decode cL_price 2 = .ok (.aload_n 0, 1) := by decide +kernel
theorem dL_price_3 : decode cL_price 3 = .ok (.iload_n 1, 1) := by decide +kernel
theorem dL_price_4 : decode cL_price 4 = .ok (.invokevirtual 60, 3) := by decide +kernel
theorem dL_price_7 : decode cL_price 7 = .ok (.i2l, 1) := by decide +kernel
theorem dL_price_8 : decode cL_price 8 = .ok (.lastore, 1) := by decide +kernel
theorem dL_price_9 : decode cL_price 9 = .ok (.goto 6, 3) := by decide +kernel
theorem dL_price_12 : decode cL_price 12 = .ok (.astore_n 3, 1) := by decide +kernel
theorem dL_price_13 : decode cL_price 13 = .ok (.iconst 1, 1) := by decide +kernel
theorem dL_price_14 : decode cL_price 14 = .ok (.ireturn, 1) := by decide +kernel
theorem dL_price_15 : decode cL_price 15 = .ok (.iconst 0, 1) := by decide +kernel
theorem dL_price_16 : decode cL_price 16 = .ok (.ireturn, 1) := by decide +kernel
theorem dL_give_0 : decode cL_give 0 = .ok (.aload_n 3, 1) := by decide +kernel
theorem dL_give_1 : decode cL_give 1 = .ok (.iconst 0, 1) := by decide +kernel
theorem dL_give_2 : decode cL_give 2 = .ok (.aload_n 0, 1) := by decide +kernel
theorem dL_give_3 : decode cL_give 3 = .ok (.iload_n 1, 1) := by decide +kernel
theorem dL_give_4 : decode cL_give 4 = .ok (.iload_n 2, 1) := by decide +kernel
theorem dL_give_5 : decode cL_give 5 = .ok (.invokevirtual 63, 3) := by decide +kernel
theorem dL_give_8 : decode cL_give 8 = .ok (.i2l, 1) := by decide +kernel
theorem dL_give_9 : decode cL_give 9 = .ok (.lastore, 1) := by decide +kernel
theorem dL_give_10 : decode cL_give 10 = .ok (.goto 11, 3) := by decide +kernel
theorem dL_give_13 : decode cL_give 13 = .ok (.astore 4, 2) := by decide +kernel
theorem dL_give_15 : decode cL_give 15 = .ok (.iconst 1, 1) := by decide +kernel
theorem dL_give_16 : decode cL_give 16 = .ok (.ireturn, 1) := by decide +kernel
theorem dL_give_17 : decode cL_give 17 = .ok (.astore 4, 2) := by decide +kernel
theorem dL_give_19 : decode cL_give 19 = .ok (.iconst 2, 1) := by decide +kernel
theorem dL_give_20 : decode cL_give 20 = .ok (.ireturn, 1) := by decide +kernel
theorem dL_give_21 : decode cL_give 21 = .ok (.iconst 0, 1) := by decide +kernel
theorem dL_give_22 : decode cL_give 22 = .ok (.ireturn, 1) := by decide +kernel
theorem dL_want_0 : decode cL_want 0 = .ok (.aload 4, 2) := by decide +kernel
theorem dL_want_2 : decode cL_want 2 = .ok (.iconst 0, 1) := by decide +kernel
theorem dL_want_3 : decode cL_want 3 = .ok (.aload_n 0, 1) := by decide +kernel
theorem dL_want_4 : decode cL_want 4 = .ok (.iload_n 1, 1) := by decide +kernel
theorem dL_want_5 : decode cL_want 5 = .ok (.iload_n 2, 1) := by decide +kernel
theorem dL_want_6 : decode cL_want 6 = .ok (.iload_n 3, 1) := by decide +kernel
theorem dL_want_7 : decode cL_want 7 = .ok (.invokevirtual 66, 3) := by decide +kernel
theorem dL_want_10 : decode cL_want 10 = .ok (.i2l, 1) := by decide +kernel
theorem dL_want_11 : decode cL_want 11 = .ok (.lastore, 1) := by decide +kernel
theorem dL_want_12 : decode cL_want 12 = .ok (.goto 11, 3) := by decide +kernel
theorem dL_want_15 : decode cL_want 15 = .ok (.astore 5, 2) := by decide +kernel
theorem dL_want_17 : decode cL_want 17 = .ok (.iconst 1, 1) := by decide +kernel
theorem dL_want_18 : decode cL_want 18 = .ok (.ireturn, 1) := by decide +kernel
theorem dL_want_19 : decode cL_want 19 = .ok (.astore 5, 2) := by decide +kernel
theorem dL_want_21 : decode cL_want 21 = .ok (.iconst 2, 1) := by decide +kernel
theorem dL_want_22 : decode cL_want 22 = .ok (.ireturn, 1) := by decide +kernel
theorem dL_want_23 : decode cL_want 23 = .ok (.iconst 0, 1) := by decide +kernel
theorem dL_want_24 : decode cL_want 24 = .ok (.ireturn, 1) := by decide +kernel
theorem dL_setFairness_0 : decode cL_setFairness 0 = .ok (.aload_n 3, 1) := by decide +kernel
theorem dL_setFairness_1 : decode cL_setFairness 1 = .ok (.iconst 0, 1) := by decide +kernel
theorem dL_setFairness_2 : decode cL_setFairness 2 = .ok (.aload_n 0, 1) := by decide +kernel
theorem dL_setFairness_3 : decode cL_setFairness 3 = .ok (.iload_n 1, 1) := by decide +kernel
theorem dL_setFairness_4 : decode cL_setFairness 4 = .ok (.iload_n 2, 1) := by decide +kernel
theorem dL_setFairness_5 : decode cL_setFairness 5 = .ok (.invokevirtual 70, 3) := by decide +kernel
theorem dL_setFairness_8 : decode cL_setFairness 8 = .ok (.i2l, 1) := by decide +kernel
theorem dL_setFairness_9 : decode cL_setFairness 9 = .ok (.lastore, 1) := by decide +kernel
theorem dL_setFairness_10 : decode cL_setFairness 10 = .ok (.goto 11, 3) := by decide +kernel
theorem dL_setFairness_13 : decode cL_setFairness 13 = .ok (.astore 4, 2) := by decide +kernel
theorem dL_setFairness_15 : decode cL_setFairness 15 = .ok (.iconst 1, 1) := by decide +kernel
theorem dL_setFairness_16 : decode cL_setFairness 16 = .ok (.ireturn, 1) := by decide +kernel
theorem dL_setFairness_17 : decode cL_setFairness 17 = .ok (.astore 4, 2) := by decide +kernel
theorem dL_setFairness_19 : decode cL_setFairness 19 = .ok (.iconst 2, 1) := by decide +kernel
theorem dL_setFairness_20 : decode cL_setFairness 20 = .ok (.ireturn, 1) := by decide +kernel
theorem dL_setFairness_21 : decode cL_setFairness 21 = .ok (.iconst 0, 1) := by decide +kernel
theorem dL_setFairness_22 : decode cL_setFairness 22 = .ok (.ireturn, 1) := by decide +kernel
theorem dL_mark_0 : decode cL_mark 0 = .ok (.aload_n 3, 1) := by decide +kernel
theorem dL_mark_1 : decode cL_mark 1 = .ok (.iconst 0, 1) := by decide +kernel
theorem dL_mark_2 : decode cL_mark 2 = .ok (.aload_n 0, 1) := by decide +kernel
theorem dL_mark_3 : decode cL_mark 3 = .ok (.iload_n 1, 1) := by decide +kernel
theorem dL_mark_4 : decode cL_mark 4 = .ok (.iload_n 2, 1) := by decide +kernel
theorem dL_mark_5 : decode cL_mark 5 = .ok (.invokevirtual 73, 3) := by decide +kernel
theorem dL_mark_8 : decode cL_mark 8 = .ok (.ifCond .eq 7, 3) := by decide +kernel
theorem dL_mark_11 : decode cL_mark 11 = .ok (.lconst 1, 1) := by decide +kernel
theorem dL_mark_12 : decode cL_mark 12 = .ok (.goto 4, 3) := by decide +kernel
theorem dL_mark_15 : decode cL_mark 15 = .ok (.lconst 0, 1) := by decide +kernel
theorem dL_mark_16 : decode cL_mark 16 = .ok (.lastore, 1) := by decide +kernel
theorem dL_mark_17 : decode cL_mark 17 = .ok (.goto 11, 3) := by decide +kernel
theorem dL_mark_20 : decode cL_mark 20 = .ok (.astore 4, 2) := by decide +kernel
theorem dL_mark_22 : decode cL_mark 22 = .ok (.iconst 1, 1) := by decide +kernel
theorem dL_mark_23 : decode cL_mark 23 = .ok (.ireturn, 1) := by decide +kernel
theorem dL_mark_24 : decode cL_mark 24 = .ok (.astore 4, 2) := by decide +kernel
theorem dL_mark_26 : decode cL_mark 26 = .ok (.iconst 2, 1) := by decide +kernel
theorem dL_mark_27 : decode cL_mark 27 = .ok (.ireturn, 1) := by decide +kernel
theorem dL_mark_28 : decode cL_mark 28 = .ok (.iconst 0, 1) := by decide +kernel
theorem dL_mark_29 : decode cL_mark 29 = .ok (.ireturn, 1) := by decide +kernel
theorem dL_owner_0 : decode cL_owner 0 = .ok (.aload_n 2, 1) := by decide +kernel
theorem dL_owner_1 : decode cL_owner 1 = .ok (.iconst 0, 1) := by decide +kernel
theorem dL_owner_2 : decode cL_owner 2 = .ok (.aload_n 0, 1) := by decide +kernel
theorem dL_owner_3 : decode cL_owner 3 = .ok (.iload_n 1, 1) := by decide +kernel
theorem dL_owner_4 : decode cL_owner 4 = .ok (.invokevirtual 77, 3) := by decide +kernel
theorem dL_owner_7 : decode cL_owner 7 = .ok (.i2l, 1) := by decide +kernel
theorem dL_owner_8 : decode cL_owner 8 = .ok (.lastore, 1) := by decide +kernel
theorem dL_owner_9 : decode cL_owner 9 = .ok (.goto 6, 3) := by decide +kernel
theorem dL_owner_12 : decode cL_owner 12 = .ok (.astore_n 3, 1) := by decide +kernel
theorem dL_owner_13 : decode cL_owner 13 = .ok (.iconst 1, 1) := by decide +kernel
theorem dL_owner_14 : decode cL_owner 14 = .ok (.ireturn, 1) := by decide +kernel
theorem dL_owner_15 : decode cL_owner 15 = .ok (.iconst 0, 1) := by decide +kernel
theorem dL_owner_16 : decode cL_owner 16 = .ok (.ireturn, 1) := by decide +kernel
theorem dL_wants_0 : decode cL_wants 0 = .ok (.aload_n 2, 1) := by decide +kernel
theorem dL_wants_1 : decode cL_wants 1 = .ok (.iconst 0, 1) := by decide +kernel
theorem dL_wants_2 : decode cL_wants 2 = .ok (.aload_n 0, 1) := by decide +kernel
theorem dL_wants_3 : decode cL_wants 3 = .ok (.iload_n 1, 1) := by decide +kernel
theorem dL_wants_4 : decode cL_wants 4 = .ok (.invokevirtual 80, 3) := by decide +kernel
theorem dL_wants_7 : decode cL_wants 7 = .ok (.i2l, 1) := by decide +kernel
theorem dL_wants_8 : decode cL_wants 8 = .ok (.lastore, 1) := by decide +kernel
theorem dL_wants_9 : decode cL_wants 9 = .ok (.goto 6, 3) := by decide +kernel
theorem dL_wants_12 : decode cL_wants 12 = .ok (.astore_n 3, 1) := by decide +kernel
theorem dL_wants_13 : decode cL_wants 13 = .ok (.iconst 1, 1) := by decide +kernel
theorem dL_wants_14 : decode cL_wants 14 = .ok (.ireturn, 1) := by decide +kernel
theorem dL_wants_15 : decode cL_wants 15 = .ok (.iconst 0, 1) := by decide +kernel
theorem dL_wants_16 : decode cL_wants 16 = .ok (.ireturn, 1) := by decide +kernel
theorem dL_offers_0 : decode cL_offers 0 = .ok (.aload_n 2, 1) := by decide +kernel
theorem dL_offers_1 : decode cL_offers 1 = .ok (.iconst 0, 1) := by decide +kernel
theorem dL_offers_2 : decode cL_offers 2 = .ok (.aload_n 0, 1) := by decide +kernel
theorem dL_offers_3 : decode cL_offers 3 = .ok (.iload_n 1, 1) := by decide +kernel
theorem dL_offers_4 : decode cL_offers 4 = .ok (.invokevirtual 83, 3) := by decide +kernel
theorem dL_offers_7 : decode cL_offers 7 = .ok (.i2l, 1) := by decide +kernel
theorem dL_offers_8 : decode cL_offers 8 = .ok (.lastore, 1) := by decide +kernel
theorem dL_offers_9 : decode cL_offers 9 = .ok (.goto 6, 3) := by decide +kernel
theorem dL_offers_12 : decode cL_offers 12 = .ok (.astore_n 3, 1) := by decide +kernel
theorem dL_offers_13 : decode cL_offers 13 = .ok (.iconst 1, 1) := by decide +kernel
theorem dL_offers_14 : decode cL_offers 14 = .ok (.ireturn, 1) := by decide +kernel
theorem dL_offers_15 : decode cL_offers 15 = .ok (.iconst 0, 1) := by decide +kernel
theorem dL_offers_16 : decode cL_offers 16 = .ok (.ireturn, 1) := by decide +kernel
theorem dL_worth_0 : decode cL_worth 0 = .ok (.aload_n 2, 1) := by decide +kernel
theorem dL_worth_1 : decode cL_worth 1 = .ok (.iconst 0, 1) := by decide +kernel
theorem dL_worth_2 : decode cL_worth 2 = .ok (.aload_n 0, 1) := by decide +kernel
theorem dL_worth_3 : decode cL_worth 3 = .ok (.iload_n 1, 1) := by decide +kernel
theorem dL_worth_4 : decode cL_worth 4 = .ok (.invokevirtual 86, 3) := by decide +kernel
theorem dL_worth_7 : decode cL_worth 7 = .ok (.i2l, 1) := by decide +kernel
theorem dL_worth_8 : decode cL_worth 8 = .ok (.lastore, 1) := by decide +kernel
theorem dL_worth_9 : decode cL_worth 9 = .ok (.goto 6, 3) := by decide +kernel
theorem dL_worth_12 : decode cL_worth 12 = .ok (.astore_n 3, 1) := by decide +kernel
theorem dL_worth_13 : decode cL_worth 13 = .ok (.iconst 1, 1) := by decide +kernel
theorem dL_worth_14 : decode cL_worth 14 = .ok (.ireturn, 1) := by decide +kernel
theorem dL_worth_15 : decode cL_worth 15 = .ok (.iconst 0, 1) := by decide +kernel
theorem dL_worth_16 : decode cL_worth 16 = .ok (.ireturn, 1) := by decide +kernel
theorem dL_coinAt_0 : decode cL_coinAt 0 = .ok (.aload_n 3, 1) := by decide +kernel
theorem dL_coinAt_1 : decode cL_coinAt 1 = .ok (.iconst 0, 1) := by decide +kernel
theorem dL_coinAt_2 : decode cL_coinAt 2 = .ok (.aload_n 0, 1) := by decide +kernel
theorem dL_coinAt_3 : decode cL_coinAt 3 = .ok (.iload_n 1, 1) := by decide +kernel
theorem dL_coinAt_4 : decode cL_coinAt 4 = .ok (.iload_n 2, 1) := by decide +kernel
theorem dL_coinAt_5 : decode cL_coinAt 5 = .ok (.invokevirtual 89, 3) := by decide +kernel
theorem dL_coinAt_8 : decode cL_coinAt 8 = .ok (.i2l, 1) := by decide +kernel
theorem dL_coinAt_9 : decode cL_coinAt 9 = .ok (.lastore, 1) := by decide +kernel
theorem dL_coinAt_10 : decode cL_coinAt 10 = .ok (.goto 7, 3) := by decide +kernel
theorem dL_coinAt_13 : decode cL_coinAt 13 = .ok (.astore 4, 2) := by decide +kernel
theorem dL_coinAt_15 : decode cL_coinAt 15 = .ok (.iconst 1, 1) := by decide +kernel
theorem dL_coinAt_16 : decode cL_coinAt 16 = .ok (.ireturn, 1) := by decide +kernel
theorem dL_coinAt_17 : decode cL_coinAt 17 = .ok (.iconst 0, 1) := by decide +kernel
theorem dL_coinAt_18 : decode cL_coinAt 18 = .ok (.ireturn, 1) := by decide +kernel
theorem dL_ringAt_0 : decode cL_ringAt 0 = .ok (.aload_n 2, 1) := by decide +kernel
theorem dL_ringAt_1 : decode cL_ringAt 1 = .ok (.iconst 0, 1) := by decide +kernel
theorem dL_ringAt_2 : decode cL_ringAt 2 = .ok (.aload_n 0, 1) := by decide +kernel
theorem dL_ringAt_3 : decode cL_ringAt 3 = .ok (.iload_n 1, 1) := by decide +kernel
theorem dL_ringAt_4 : decode cL_ringAt 4 = .ok (.invokevirtual 92, 3) := by decide +kernel
theorem dL_ringAt_7 : decode cL_ringAt 7 = .ok (.i2l, 1) := by decide +kernel
theorem dL_ringAt_8 : decode cL_ringAt 8 = .ok (.lastore, 1) := by decide +kernel
theorem dL_ringAt_9 : decode cL_ringAt 9 = .ok (.goto 6, 3) := by decide +kernel
theorem dL_ringAt_12 : decode cL_ringAt 12 = .ok (.astore_n 3, 1) := by decide +kernel
theorem dL_ringAt_13 : decode cL_ringAt 13 = .ok (.iconst 1, 1) := by decide +kernel
theorem dL_ringAt_14 : decode cL_ringAt 14 = .ok (.ireturn, 1) := by decide +kernel
theorem dL_ringAt_15 : decode cL_ringAt 15 = .ok (.iconst 0, 1) := by decide +kernel
theorem dL_ringAt_16 : decode cL_ringAt 16 = .ok (.ireturn, 1) := by decide +kernel
theorem dL_swap_0 : decode cL_swap 0 = .ok (.aload_n 1, 1) := by decide +kernel
theorem dL_swap_1 : decode cL_swap 1 = .ok (.iconst 0, 1) := by decide +kernel
theorem dL_swap_2 : decode cL_swap 2 = .ok (.aload_n 0, 1) := by decide +kernel
theorem dL_swap_3 : decode cL_swap 3 = .ok (.invokevirtual 95, 3) := by decide +kernel
theorem dL_swap_6 : decode cL_swap 6 = .ok (.i2l, 1) := by decide +kernel
theorem dL_swap_7 : decode cL_swap 7 = .ok (.lastore, 1) := by decide +kernel
theorem dL_swap_8 : decode cL_swap 8 = .ok (.goto 6, 3) := by decide +kernel
theorem dL_swap_11 : decode cL_swap 11 = .ok (.astore_n 2, 1) := by decide +kernel
theorem dL_swap_12 : decode cL_swap 12 = .ok (.iconst 1, 1) := by decide +kernel
theorem dL_swap_13 : decode cL_swap 13 = .ok (.ireturn, 1) := by decide +kernel
theorem dL_swap_14 : decode cL_swap 14 = .ok (.iconst 0, 1) := by decide +kernel
theorem dL_swap_15 : decode cL_swap 15 = .ok (.ireturn, 1) := by decide +kernel
theorem dL_swapAt_0 : decode cL_swapAt 0 = .ok (.aload_n 3, 1) := by decide +kernel
theorem dL_swapAt_1 : decode cL_swapAt 1 = .ok (.iconst 0, 1) := by decide +kernel
theorem dL_swapAt_2 : decode cL_swapAt 2 = .ok (.aload_n 0, 1) := by decide +kernel
theorem dL_swapAt_3 : decode cL_swapAt 3 = .ok (.iload_n 1, 1) := by decide +kernel
theorem dL_swapAt_4 : decode cL_swapAt 4 = .ok (.iload_n 2, 1) := by decide +kernel
theorem dL_swapAt_5 : decode cL_swapAt 5 = .ok (.invokevirtual 99, 3) := by decide +kernel
theorem dL_swapAt_8 : decode cL_swapAt 8 = .ok (.i2l, 1) := by decide +kernel
theorem dL_swapAt_9 : decode cL_swapAt 9 = .ok (.lastore, 1) := by decide +kernel
theorem dL_swapAt_10 : decode cL_swapAt 10 = .ok (.goto 7, 3) := by decide +kernel
theorem dL_swapAt_13 : decode cL_swapAt 13 = .ok (.astore 4, 2) := by decide +kernel
theorem dL_swapAt_15 : decode cL_swapAt 15 = .ok (.iconst 1, 1) := by decide +kernel
theorem dL_swapAt_16 : decode cL_swapAt 16 = .ok (.ireturn, 1) := by decide +kernel
theorem dL_swapAt_17 : decode cL_swapAt 17 = .ok (.iconst 0, 1) := by decide +kernel
theorem dL_swapAt_18 : decode cL_swapAt 18 = .ok (.ireturn, 1) := by decide +kernel
theorem dL_law_0 : decode cL_law 0 = .ok (.new 8, 3) := by decide +kernel
theorem dL_law_3 : decode cL_law 3 = .ok (.dup, 1) := by decide +kernel
theorem dL_law_4 : decode cL_law 4 = .ok (.invokespecial 102, 3) := by decide +kernel
theorem dL_law_7 : decode cL_law 7 = .ok (.astore_n 1, 1) := by decide +kernel
theorem dL_law_8 : decode cL_law 8 = .ok (.new 103, 3) := by decide +kernel
theorem dL_law_11 : decode cL_law 11 = .ok (.dup, 1) := by decide +kernel
theorem dL_law_12 : decode cL_law 12 = .ok (.invokespecial 105, 3) := by decide +kernel
theorem dL_law_15 : decode cL_law 15 = .ok (.astore_n 2, 1) := by decide +kernel
theorem dL_law_16 : decode cL_law 16 = .ok (.iconst 1, 1) := by decide +kernel
theorem dL_law_17 : decode cL_law 17 = .ok (.newarray .long, 2) := by decide +kernel
theorem dL_law_19 : decode cL_law 19 = .ok (.astore_n 3, 1) := by decide +kernel
theorem dL_law_20 : decode cL_law 20 = .ok (.iconst 0, 1) := by decide +kernel
theorem dL_law_21 : decode cL_law 21 = .ok (.istore 4, 2) := by decide +kernel
theorem dL_law_23 : decode cL_law 23 = .ok (.iload 4, 2) := by decide +kernel
theorem dL_law_25 : decode cL_law 25 = .ok (.aload_n 0, 1) := by decide +kernel
theorem dL_law_26 : decode cL_law 26 = .ok (.arraylength, 1) := by decide +kernel
theorem dL_law_27 : decode cL_law 27 = .ok (.iconst 4, 1) := by decide +kernel
theorem dL_law_28 : decode cL_law 28 = .ok (.isub, 1) := by decide +kernel
theorem dL_law_29 : decode cL_law 29 = .ok (.if_icmp .gt 1866, 3) := by decide +kernel
theorem dL_law_32 : decode cL_law 32 = .ok (.aload_n 0, 1) := by decide +kernel
theorem dL_law_33 : decode cL_law 33 = .ok (.iload 4, 2) := by decide +kernel
theorem dL_law_35 : decode cL_law 35 = .ok (.iaload, 1) := by decide +kernel
theorem dL_law_36 : decode cL_law 36 = .ok (.bipush 31, 2) := by decide +kernel
theorem dL_law_38 : decode cL_law 38 = .ok (.iand, 1) := by decide +kernel
theorem dL_law_39 : decode cL_law 39 = .ok (.tableswitch 1850 0 30 #[137, 193, 261, 329, 385, 441, 454, 510, 566, 622, 678, 734, 797, 860, 916, 972, 1028, 1096, 1192, 1260, 1351, 1407, 1463, 1519, 1575, 1643, 1656, 1712, 1756, 1769, 1837], 137) := by decide +kernel
theorem dL_law_176 : decode cL_law 176 = .ok (.aload_n 1, 1) := by decide +kernel
theorem dL_law_177 : decode cL_law 177 = .ok (.aload_n 0, 1) := by decide +kernel
theorem dL_law_178 : decode cL_law 178 = .ok (.iload 4, 2) := by decide +kernel
theorem dL_law_180 : decode cL_law 180 = .ok (.iconst 1, 1) := by decide +kernel
theorem dL_law_181 : decode cL_law 181 = .ok (.iadd, 1) := by decide +kernel
theorem dL_law_182 : decode cL_law 182 = .ok (.iaload, 1) := by decide +kernel
theorem dL_law_183 : decode cL_law 183 = .ok (.aload_n 3, 1) := by decide +kernel
theorem dL_law_184 : decode cL_law 184 = .ok (.invokestatic 106, 3) := by decide +kernel
theorem dL_law_187 : decode cL_law 187 = .ok (.istore 5, 2) := by decide +kernel
theorem dL_law_189 : decode cL_law 189 = .ok (.aload_n 2, 1) := by decide +kernel
theorem dL_law_190 : decode cL_law 190 = .ok (.aload_n 0, 1) := by decide +kernel
theorem dL_law_191 : decode cL_law 191 = .ok (.iload 4, 2) := by decide +kernel
theorem dL_law_193 : decode cL_law 193 = .ok (.iconst 1, 1) := by decide +kernel
theorem dL_law_194 : decode cL_law 194 = .ok (.iadd, 1) := by decide +kernel
theorem dL_law_195 : decode cL_law 195 = .ok (.iaload, 1) := by decide +kernel
theorem dL_law_196 : decode cL_law 196 = .ok (.invokevirtual 111, 3) := by decide +kernel
theorem dL_law_199 : decode cL_law 199 = .ok (.istore 6, 2) := by decide +kernel
theorem dL_law_201 : decode cL_law 201 = .ok (.aload_n 2, 1) := by decide +kernel
theorem dL_law_202 : decode cL_law 202 = .ok (.invokevirtual 112, 3) := by decide +kernel
theorem dL_law_205 : decode cL_law 205 = .ok (.iload 5, 2) := by decide +kernel
theorem dL_law_207 : decode cL_law 207 = .ok (.if_icmp .eq 5, 3) := by decide +kernel
theorem dL_law_210 : decode cL_law 210 = .ok (.iconst 0, 1) := by decide +kernel
theorem dL_law_211 : decode cL_law 211 = .ok (.ireturn, 1) := by decide +kernel
theorem dL_law_212 : decode cL_law 212 = .ok (.iload 5, 2) := by decide +kernel
theorem dL_law_214 : decode cL_law 214 = .ok (.ifCond .ne 15, 3) := by decide +kernel
theorem dL_law_217 : decode cL_law 217 = .ok (.aload_n 3, 1) := by decide +kernel
theorem dL_law_218 : decode cL_law 218 = .ok (.iconst 0, 1) := by decide +kernel
theorem dL_law_219 : decode cL_law 219 = .ok (.laload, 1) := by decide +kernel
theorem dL_law_220 : decode cL_law 220 = .ok (.iload 6, 2) := by decide +kernel
theorem dL_law_222 : decode cL_law 222 = .ok (.i2l, 1) := by decide +kernel
theorem dL_law_223 : decode cL_law 223 = .ok (.lcmp, 1) := by decide +kernel
theorem dL_law_224 : decode cL_law 224 = .ok (.ifCond .eq 5, 3) := by decide +kernel
theorem dL_law_227 : decode cL_law 227 = .ok (.iconst 0, 1) := by decide +kernel
theorem dL_law_228 : decode cL_law 228 = .ok (.ireturn, 1) := by decide +kernel
theorem dL_law_229 : decode cL_law 229 = .ok (.goto 1660, 3) := by decide +kernel
theorem dL_law_232 : decode cL_law 232 = .ok (.aload_n 1, 1) := by decide +kernel
theorem dL_law_233 : decode cL_law 233 = .ok (.aload_n 0, 1) := by decide +kernel
theorem dL_law_234 : decode cL_law 234 = .ok (.iload 4, 2) := by decide +kernel
theorem dL_law_236 : decode cL_law 236 = .ok (.iconst 1, 1) := by decide +kernel
theorem dL_law_237 : decode cL_law 237 = .ok (.iadd, 1) := by decide +kernel
theorem dL_law_238 : decode cL_law 238 = .ok (.iaload, 1) := by decide +kernel
theorem dL_law_239 : decode cL_law 239 = .ok (.aload_n 0, 1) := by decide +kernel
theorem dL_law_240 : decode cL_law 240 = .ok (.iload 4, 2) := by decide +kernel
theorem dL_law_242 : decode cL_law 242 = .ok (.iconst 2, 1) := by decide +kernel
theorem dL_law_243 : decode cL_law 243 = .ok (.iadd, 1) := by decide +kernel
theorem dL_law_244 : decode cL_law 244 = .ok (.iaload, 1) := by decide +kernel
theorem dL_law_245 : decode cL_law 245 = .ok (.aload_n 3, 1) := by decide +kernel
theorem dL_law_246 : decode cL_law 246 = .ok (.invokestatic 115, 3) := by decide +kernel
theorem dL_law_249 : decode cL_law 249 = .ok (.istore 5, 2) := by decide +kernel
theorem dL_law_251 : decode cL_law 251 = .ok (.aload_n 2, 1) := by decide +kernel
theorem dL_law_252 : decode cL_law 252 = .ok (.aload_n 0, 1) := by decide +kernel
theorem dL_law_253 : decode cL_law 253 = .ok (.iload 4, 2) := by decide +kernel
theorem dL_law_255 : decode cL_law 255 = .ok (.iconst 1, 1) := by decide +kernel
theorem dL_law_256 : decode cL_law 256 = .ok (.iadd, 1) := by decide +kernel
theorem dL_law_257 : decode cL_law 257 = .ok (.iaload, 1) := by decide +kernel
theorem dL_law_258 : decode cL_law 258 = .ok (.aload_n 0, 1) := by decide +kernel
theorem dL_law_259 : decode cL_law 259 = .ok (.iload 4, 2) := by decide +kernel
theorem dL_law_261 : decode cL_law 261 = .ok (.iconst 2, 1) := by decide +kernel
theorem dL_law_262 : decode cL_law 262 = .ok (.iadd, 1) := by decide +kernel
theorem dL_law_263 : decode cL_law 263 = .ok (.iaload, 1) := by decide +kernel
theorem dL_law_264 : decode cL_law 264 = .ok (.invokevirtual 118, 3) := by decide +kernel
theorem dL_law_267 : decode cL_law 267 = .ok (.istore 6, 2) := by decide +kernel
theorem dL_law_269 : decode cL_law 269 = .ok (.aload_n 2, 1) := by decide +kernel
theorem dL_law_270 : decode cL_law 270 = .ok (.invokevirtual 112, 3) := by decide +kernel
theorem dL_law_273 : decode cL_law 273 = .ok (.iload 5, 2) := by decide +kernel
theorem dL_law_275 : decode cL_law 275 = .ok (.if_icmp .eq 5, 3) := by decide +kernel
theorem dL_law_278 : decode cL_law 278 = .ok (.iconst 0, 1) := by decide +kernel
theorem dL_law_279 : decode cL_law 279 = .ok (.ireturn, 1) := by decide +kernel
theorem dL_law_280 : decode cL_law 280 = .ok (.iload 5, 2) := by decide +kernel
theorem dL_law_282 : decode cL_law 282 = .ok (.ifCond .ne 15, 3) := by decide +kernel
theorem dL_law_285 : decode cL_law 285 = .ok (.aload_n 3, 1) := by decide +kernel
theorem dL_law_286 : decode cL_law 286 = .ok (.iconst 0, 1) := by decide +kernel
theorem dL_law_287 : decode cL_law 287 = .ok (.laload, 1) := by decide +kernel
theorem dL_law_288 : decode cL_law 288 = .ok (.iload 6, 2) := by decide +kernel
theorem dL_law_290 : decode cL_law 290 = .ok (.i2l, 1) := by decide +kernel
theorem dL_law_291 : decode cL_law 291 = .ok (.lcmp, 1) := by decide +kernel
theorem dL_law_292 : decode cL_law 292 = .ok (.ifCond .eq 5, 3) := by decide +kernel
theorem dL_law_295 : decode cL_law 295 = .ok (.iconst 0, 1) := by decide +kernel
theorem dL_law_296 : decode cL_law 296 = .ok (.ireturn, 1) := by decide +kernel
theorem dL_law_297 : decode cL_law 297 = .ok (.goto 1592, 3) := by decide +kernel
theorem dL_law_300 : decode cL_law 300 = .ok (.aload_n 1, 1) := by decide +kernel
theorem dL_law_301 : decode cL_law 301 = .ok (.aload_n 0, 1) := by decide +kernel
theorem dL_law_302 : decode cL_law 302 = .ok (.iload 4, 2) := by decide +kernel
theorem dL_law_304 : decode cL_law 304 = .ok (.iconst 1, 1) := by decide +kernel
theorem dL_law_305 : decode cL_law 305 = .ok (.iadd, 1) := by decide +kernel
theorem dL_law_306 : decode cL_law 306 = .ok (.iaload, 1) := by decide +kernel
theorem dL_law_307 : decode cL_law 307 = .ok (.aload_n 0, 1) := by decide +kernel
theorem dL_law_308 : decode cL_law 308 = .ok (.iload 4, 2) := by decide +kernel
theorem dL_law_310 : decode cL_law 310 = .ok (.iconst 2, 1) := by decide +kernel
theorem dL_law_311 : decode cL_law 311 = .ok (.iadd, 1) := by decide +kernel
theorem dL_law_312 : decode cL_law 312 = .ok (.iaload, 1) := by decide +kernel
theorem dL_law_313 : decode cL_law 313 = .ok (.aload_n 3, 1) := by decide +kernel
theorem dL_law_314 : decode cL_law 314 = .ok (.invokestatic 119, 3) := by decide +kernel
theorem dL_law_317 : decode cL_law 317 = .ok (.istore 5, 2) := by decide +kernel
theorem dL_law_319 : decode cL_law 319 = .ok (.aload_n 2, 1) := by decide +kernel
theorem dL_law_320 : decode cL_law 320 = .ok (.aload_n 0, 1) := by decide +kernel
theorem dL_law_321 : decode cL_law 321 = .ok (.iload 4, 2) := by decide +kernel
theorem dL_law_323 : decode cL_law 323 = .ok (.iconst 1, 1) := by decide +kernel
theorem dL_law_324 : decode cL_law 324 = .ok (.iadd, 1) := by decide +kernel
theorem dL_law_325 : decode cL_law 325 = .ok (.iaload, 1) := by decide +kernel
theorem dL_law_326 : decode cL_law 326 = .ok (.aload_n 0, 1) := by decide +kernel
theorem dL_law_327 : decode cL_law 327 = .ok (.iload 4, 2) := by decide +kernel
theorem dL_law_329 : decode cL_law 329 = .ok (.iconst 2, 1) := by decide +kernel
theorem dL_law_330 : decode cL_law 330 = .ok (.iadd, 1) := by decide +kernel
theorem dL_law_331 : decode cL_law 331 = .ok (.iaload, 1) := by decide +kernel
theorem dL_law_332 : decode cL_law 332 = .ok (.invokevirtual 121, 3) := by decide +kernel
theorem dL_law_335 : decode cL_law 335 = .ok (.istore 6, 2) := by decide +kernel
theorem dL_law_337 : decode cL_law 337 = .ok (.aload_n 2, 1) := by decide +kernel
theorem dL_law_338 : decode cL_law 338 = .ok (.invokevirtual 112, 3) := by decide +kernel
theorem dL_law_341 : decode cL_law 341 = .ok (.iload 5, 2) := by decide +kernel
theorem dL_law_343 : decode cL_law 343 = .ok (.if_icmp .eq 5, 3) := by decide +kernel
theorem dL_law_346 : decode cL_law 346 = .ok (.iconst 0, 1) := by decide +kernel
theorem dL_law_347 : decode cL_law 347 = .ok (.ireturn, 1) := by decide +kernel
theorem dL_law_348 : decode cL_law 348 = .ok (.iload 5, 2) := by decide +kernel
theorem dL_law_350 : decode cL_law 350 = .ok (.ifCond .ne 15, 3) := by decide +kernel
theorem dL_law_353 : decode cL_law 353 = .ok (.aload_n 3, 1) := by decide +kernel
theorem dL_law_354 : decode cL_law 354 = .ok (.iconst 0, 1) := by decide +kernel
theorem dL_law_355 : decode cL_law 355 = .ok (.laload, 1) := by decide +kernel
theorem dL_law_356 : decode cL_law 356 = .ok (.iload 6, 2) := by decide +kernel
theorem dL_law_358 : decode cL_law 358 = .ok (.i2l, 1) := by decide +kernel
theorem dL_law_359 : decode cL_law 359 = .ok (.lcmp, 1) := by decide +kernel
theorem dL_law_360 : decode cL_law 360 = .ok (.ifCond .eq 5, 3) := by decide +kernel
theorem dL_law_363 : decode cL_law 363 = .ok (.iconst 0, 1) := by decide +kernel
theorem dL_law_364 : decode cL_law 364 = .ok (.ireturn, 1) := by decide +kernel
theorem dL_law_365 : decode cL_law 365 = .ok (.goto 1524, 3) := by decide +kernel
theorem dL_law_368 : decode cL_law 368 = .ok (.aload_n 1, 1) := by decide +kernel
theorem dL_law_369 : decode cL_law 369 = .ok (.aload_n 0, 1) := by decide +kernel
theorem dL_law_370 : decode cL_law 370 = .ok (.iload 4, 2) := by decide +kernel
theorem dL_law_372 : decode cL_law 372 = .ok (.iconst 1, 1) := by decide +kernel
theorem dL_law_373 : decode cL_law 373 = .ok (.iadd, 1) := by decide +kernel
theorem dL_law_374 : decode cL_law 374 = .ok (.iaload, 1) := by decide +kernel
theorem dL_law_375 : decode cL_law 375 = .ok (.aload_n 3, 1) := by decide +kernel
theorem dL_law_376 : decode cL_law 376 = .ok (.invokestatic 122, 3) := by decide +kernel
theorem dL_law_379 : decode cL_law 379 = .ok (.istore 5, 2) := by decide +kernel
theorem dL_law_381 : decode cL_law 381 = .ok (.aload_n 2, 1) := by decide +kernel
theorem dL_law_382 : decode cL_law 382 = .ok (.aload_n 0, 1) := by decide +kernel
theorem dL_law_383 : decode cL_law 383 = .ok (.iload 4, 2) := by decide +kernel
theorem dL_law_385 : decode cL_law 385 = .ok (.iconst 1, 1) := by decide +kernel
theorem dL_law_386 : decode cL_law 386 = .ok (.iadd, 1) := by decide +kernel
theorem dL_law_387 : decode cL_law 387 = .ok (.iaload, 1) := by decide +kernel
theorem dL_law_388 : decode cL_law 388 = .ok (.invokevirtual 124, 3) := by decide +kernel
theorem dL_law_391 : decode cL_law 391 = .ok (.istore 6, 2) := by decide +kernel
theorem dL_law_393 : decode cL_law 393 = .ok (.aload_n 2, 1) := by decide +kernel
theorem dL_law_394 : decode cL_law 394 = .ok (.invokevirtual 112, 3) := by decide +kernel
theorem dL_law_397 : decode cL_law 397 = .ok (.iload 5, 2) := by decide +kernel
theorem dL_law_399 : decode cL_law 399 = .ok (.if_icmp .eq 5, 3) := by decide +kernel
theorem dL_law_402 : decode cL_law 402 = .ok (.iconst 0, 1) := by decide +kernel
theorem dL_law_403 : decode cL_law 403 = .ok (.ireturn, 1) := by decide +kernel
theorem dL_law_404 : decode cL_law 404 = .ok (.iload 5, 2) := by decide +kernel
theorem dL_law_406 : decode cL_law 406 = .ok (.ifCond .ne 15, 3) := by decide +kernel
theorem dL_law_409 : decode cL_law 409 = .ok (.aload_n 3, 1) := by decide +kernel
theorem dL_law_410 : decode cL_law 410 = .ok (.iconst 0, 1) := by decide +kernel
theorem dL_law_411 : decode cL_law 411 = .ok (.laload, 1) := by decide +kernel
theorem dL_law_412 : decode cL_law 412 = .ok (.iload 6, 2) := by decide +kernel
theorem dL_law_414 : decode cL_law 414 = .ok (.i2l, 1) := by decide +kernel
theorem dL_law_415 : decode cL_law 415 = .ok (.lcmp, 1) := by decide +kernel
theorem dL_law_416 : decode cL_law 416 = .ok (.ifCond .eq 5, 3) := by decide +kernel
theorem dL_law_419 : decode cL_law 419 = .ok (.iconst 0, 1) := by decide +kernel
theorem dL_law_420 : decode cL_law 420 = .ok (.ireturn, 1) := by decide +kernel
theorem dL_law_421 : decode cL_law 421 = .ok (.goto 1468, 3) := by decide +kernel
theorem dL_law_424 : decode cL_law 424 = .ok (.aload_n 1, 1) := by decide +kernel
theorem dL_law_425 : decode cL_law 425 = .ok (.aload_n 0, 1) := by decide +kernel
theorem dL_law_426 : decode cL_law 426 = .ok (.iload 4, 2) := by decide +kernel
theorem dL_law_428 : decode cL_law 428 = .ok (.iconst 1, 1) := by decide +kernel
theorem dL_law_429 : decode cL_law 429 = .ok (.iadd, 1) := by decide +kernel
theorem dL_law_430 : decode cL_law 430 = .ok (.iaload, 1) := by decide +kernel
theorem dL_law_431 : decode cL_law 431 = .ok (.aload_n 3, 1) := by decide +kernel
theorem dL_law_432 : decode cL_law 432 = .ok (.invokestatic 125, 3) := by decide +kernel
theorem dL_law_435 : decode cL_law 435 = .ok (.istore 5, 2) := by decide +kernel
theorem dL_law_437 : decode cL_law 437 = .ok (.aload_n 2, 1) := by decide +kernel
theorem dL_law_438 : decode cL_law 438 = .ok (.aload_n 0, 1) := by decide +kernel
theorem dL_law_439 : decode cL_law 439 = .ok (.iload 4, 2) := by decide +kernel
theorem dL_law_441 : decode cL_law 441 = .ok (.iconst 1, 1) := by decide +kernel
theorem dL_law_442 : decode cL_law 442 = .ok (.iadd, 1) := by decide +kernel
theorem dL_law_443 : decode cL_law 443 = .ok (.iaload, 1) := by decide +kernel
theorem dL_law_444 : decode cL_law 444 = .ok (.invokevirtual 127, 3) := by decide +kernel
theorem dL_law_447 : decode cL_law 447 = .ok (.istore 6, 2) := by decide +kernel
theorem dL_law_449 : decode cL_law 449 = .ok (.aload_n 2, 1) := by decide +kernel
theorem dL_law_450 : decode cL_law 450 = .ok (.invokevirtual 112, 3) := by decide +kernel
theorem dL_law_453 : decode cL_law 453 = .ok (.iload 5, 2) := by decide +kernel
theorem dL_law_455 : decode cL_law 455 = .ok (.if_icmp .eq 5, 3) := by decide +kernel
theorem dL_law_458 : decode cL_law 458 = .ok (.iconst 0, 1) := by decide +kernel
theorem dL_law_459 : decode cL_law 459 = .ok (.ireturn, 1) := by decide +kernel
theorem dL_law_460 : decode cL_law 460 = .ok (.iload 5, 2) := by decide +kernel
theorem dL_law_462 : decode cL_law 462 = .ok (.ifCond .ne 15, 3) := by decide +kernel
theorem dL_law_465 : decode cL_law 465 = .ok (.aload_n 3, 1) := by decide +kernel
theorem dL_law_466 : decode cL_law 466 = .ok (.iconst 0, 1) := by decide +kernel
theorem dL_law_467 : decode cL_law 467 = .ok (.laload, 1) := by decide +kernel
theorem dL_law_468 : decode cL_law 468 = .ok (.iload 6, 2) := by decide +kernel
theorem dL_law_470 : decode cL_law 470 = .ok (.i2l, 1) := by decide +kernel
theorem dL_law_471 : decode cL_law 471 = .ok (.lcmp, 1) := by decide +kernel
theorem dL_law_472 : decode cL_law 472 = .ok (.ifCond .eq 5, 3) := by decide +kernel
theorem dL_law_475 : decode cL_law 475 = .ok (.iconst 0, 1) := by decide +kernel
theorem dL_law_476 : decode cL_law 476 = .ok (.ireturn, 1) := by decide +kernel
theorem dL_law_477 : decode cL_law 477 = .ok (.goto 1412, 3) := by decide +kernel
theorem dL_law_480 : decode cL_law 480 = .ok (.aload_n 1, 1) := by decide +kernel
theorem dL_law_481 : decode cL_law 481 = .ok (.invokevirtual 128, 3) := by decide +kernel
theorem dL_law_484 : decode cL_law 484 = .ok (.aload_n 2, 1) := by decide +kernel
theorem dL_law_485 : decode cL_law 485 = .ok (.invokevirtual 131, 3) := by decide +kernel
theorem dL_law_488 : decode cL_law 488 = .ok (.if_icmp .eq 1401, 3) := by decide +kernel
theorem dL_law_491 : decode cL_law 491 = .ok (.iconst 0, 1) := by decide +kernel
theorem dL_law_492 : decode cL_law 492 = .ok (.ireturn, 1) := by decide +kernel
theorem dL_law_493 : decode cL_law 493 = .ok (.aload_n 1, 1) := by decide +kernel
theorem dL_law_494 : decode cL_law 494 = .ok (.aload_n 0, 1) := by decide +kernel
theorem dL_law_495 : decode cL_law 495 = .ok (.iload 4, 2) := by decide +kernel
theorem dL_law_497 : decode cL_law 497 = .ok (.iconst 1, 1) := by decide +kernel
theorem dL_law_498 : decode cL_law 498 = .ok (.iadd, 1) := by decide +kernel
theorem dL_law_499 : decode cL_law 499 = .ok (.iaload, 1) := by decide +kernel
theorem dL_law_500 : decode cL_law 500 = .ok (.aload_n 3, 1) := by decide +kernel
theorem dL_law_501 : decode cL_law 501 = .ok (.invokestatic 132, 3) := by decide +kernel
theorem dL_law_504 : decode cL_law 504 = .ok (.istore 5, 2) := by decide +kernel
theorem dL_law_506 : decode cL_law 506 = .ok (.aload_n 2, 1) := by decide +kernel
theorem dL_law_507 : decode cL_law 507 = .ok (.aload_n 0, 1) := by decide +kernel
theorem dL_law_508 : decode cL_law 508 = .ok (.iload 4, 2) := by decide +kernel
theorem dL_law_510 : decode cL_law 510 = .ok (.iconst 1, 1) := by decide +kernel
theorem dL_law_511 : decode cL_law 511 = .ok (.iadd, 1) := by decide +kernel
theorem dL_law_512 : decode cL_law 512 = .ok (.iaload, 1) := by decide +kernel
theorem dL_law_513 : decode cL_law 513 = .ok (.invokevirtual 134, 3) := by decide +kernel
theorem dL_law_516 : decode cL_law 516 = .ok (.istore 6, 2) := by decide +kernel
theorem dL_law_518 : decode cL_law 518 = .ok (.aload_n 2, 1) := by decide +kernel
theorem dL_law_519 : decode cL_law 519 = .ok (.invokevirtual 112, 3) := by decide +kernel
theorem dL_law_522 : decode cL_law 522 = .ok (.iload 5, 2) := by decide +kernel
theorem dL_law_524 : decode cL_law 524 = .ok (.if_icmp .eq 5, 3) := by decide +kernel
theorem dL_law_527 : decode cL_law 527 = .ok (.iconst 0, 1) := by decide +kernel
theorem dL_law_528 : decode cL_law 528 = .ok (.ireturn, 1) := by decide +kernel
theorem dL_law_529 : decode cL_law 529 = .ok (.iload 5, 2) := by decide +kernel
theorem dL_law_531 : decode cL_law 531 = .ok (.ifCond .ne 15, 3) := by decide +kernel
theorem dL_law_534 : decode cL_law 534 = .ok (.aload_n 3, 1) := by decide +kernel
theorem dL_law_535 : decode cL_law 535 = .ok (.iconst 0, 1) := by decide +kernel
theorem dL_law_536 : decode cL_law 536 = .ok (.laload, 1) := by decide +kernel
theorem dL_law_537 : decode cL_law 537 = .ok (.iload 6, 2) := by decide +kernel
theorem dL_law_539 : decode cL_law 539 = .ok (.i2l, 1) := by decide +kernel
theorem dL_law_540 : decode cL_law 540 = .ok (.lcmp, 1) := by decide +kernel
theorem dL_law_541 : decode cL_law 541 = .ok (.ifCond .eq 5, 3) := by decide +kernel
theorem dL_law_544 : decode cL_law 544 = .ok (.iconst 0, 1) := by decide +kernel
theorem dL_law_545 : decode cL_law 545 = .ok (.ireturn, 1) := by decide +kernel
theorem dL_law_546 : decode cL_law 546 = .ok (.goto 1343, 3) := by decide +kernel
theorem dL_law_549 : decode cL_law 549 = .ok (.aload_n 1, 1) := by decide +kernel
theorem dL_law_550 : decode cL_law 550 = .ok (.aload_n 0, 1) := by decide +kernel
theorem dL_law_551 : decode cL_law 551 = .ok (.iload 4, 2) := by decide +kernel
theorem dL_law_553 : decode cL_law 553 = .ok (.iconst 1, 1) := by decide +kernel
theorem dL_law_554 : decode cL_law 554 = .ok (.iadd, 1) := by decide +kernel
theorem dL_law_555 : decode cL_law 555 = .ok (.iaload, 1) := by decide +kernel
theorem dL_law_556 : decode cL_law 556 = .ok (.aload_n 3, 1) := by decide +kernel
theorem dL_law_557 : decode cL_law 557 = .ok (.invokestatic 135, 3) := by decide +kernel
theorem dL_law_560 : decode cL_law 560 = .ok (.istore 5, 2) := by decide +kernel
theorem dL_law_562 : decode cL_law 562 = .ok (.aload_n 2, 1) := by decide +kernel
theorem dL_law_563 : decode cL_law 563 = .ok (.aload_n 0, 1) := by decide +kernel
theorem dL_law_564 : decode cL_law 564 = .ok (.iload 4, 2) := by decide +kernel
theorem dL_law_566 : decode cL_law 566 = .ok (.iconst 1, 1) := by decide +kernel
theorem dL_law_567 : decode cL_law 567 = .ok (.iadd, 1) := by decide +kernel
theorem dL_law_568 : decode cL_law 568 = .ok (.iaload, 1) := by decide +kernel
theorem dL_law_569 : decode cL_law 569 = .ok (.invokevirtual 137, 3) := by decide +kernel
theorem dL_law_572 : decode cL_law 572 = .ok (.istore 6, 2) := by decide +kernel
theorem dL_law_574 : decode cL_law 574 = .ok (.aload_n 2, 1) := by decide +kernel
theorem dL_law_575 : decode cL_law 575 = .ok (.invokevirtual 112, 3) := by decide +kernel
theorem dL_law_578 : decode cL_law 578 = .ok (.iload 5, 2) := by decide +kernel
theorem dL_law_580 : decode cL_law 580 = .ok (.if_icmp .eq 5, 3) := by decide +kernel
theorem dL_law_583 : decode cL_law 583 = .ok (.iconst 0, 1) := by decide +kernel
theorem dL_law_584 : decode cL_law 584 = .ok (.ireturn, 1) := by decide +kernel
theorem dL_law_585 : decode cL_law 585 = .ok (.iload 5, 2) := by decide +kernel
theorem dL_law_587 : decode cL_law 587 = .ok (.ifCond .ne 15, 3) := by decide +kernel
theorem dL_law_590 : decode cL_law 590 = .ok (.aload_n 3, 1) := by decide +kernel
theorem dL_law_591 : decode cL_law 591 = .ok (.iconst 0, 1) := by decide +kernel
theorem dL_law_592 : decode cL_law 592 = .ok (.laload, 1) := by decide +kernel
theorem dL_law_593 : decode cL_law 593 = .ok (.iload 6, 2) := by decide +kernel
theorem dL_law_595 : decode cL_law 595 = .ok (.i2l, 1) := by decide +kernel
theorem dL_law_596 : decode cL_law 596 = .ok (.lcmp, 1) := by decide +kernel
theorem dL_law_597 : decode cL_law 597 = .ok (.ifCond .eq 5, 3) := by decide +kernel
theorem dL_law_600 : decode cL_law 600 = .ok (.iconst 0, 1) := by decide +kernel
theorem dL_law_601 : decode cL_law 601 = .ok (.ireturn, 1) := by decide +kernel
theorem dL_law_602 : decode cL_law 602 = .ok (.goto 1287, 3) := by decide +kernel
theorem dL_law_605 : decode cL_law 605 = .ok (.aload_n 1, 1) := by decide +kernel
theorem dL_law_606 : decode cL_law 606 = .ok (.aload_n 0, 1) := by decide +kernel
theorem dL_law_607 : decode cL_law 607 = .ok (.iload 4, 2) := by decide +kernel
theorem dL_law_609 : decode cL_law 609 = .ok (.iconst 1, 1) := by decide +kernel
theorem dL_law_610 : decode cL_law 610 = .ok (.iadd, 1) := by decide +kernel
theorem dL_law_611 : decode cL_law 611 = .ok (.iaload, 1) := by decide +kernel
theorem dL_law_612 : decode cL_law 612 = .ok (.aload_n 3, 1) := by decide +kernel
theorem dL_law_613 : decode cL_law 613 = .ok (.invokestatic 138, 3) := by decide +kernel
theorem dL_law_616 : decode cL_law 616 = .ok (.istore 5, 2) := by decide +kernel
theorem dL_law_618 : decode cL_law 618 = .ok (.aload_n 2, 1) := by decide +kernel
theorem dL_law_619 : decode cL_law 619 = .ok (.aload_n 0, 1) := by decide +kernel
theorem dL_law_620 : decode cL_law 620 = .ok (.iload 4, 2) := by decide +kernel
theorem dL_law_622 : decode cL_law 622 = .ok (.iconst 1, 1) := by decide +kernel
theorem dL_law_623 : decode cL_law 623 = .ok (.iadd, 1) := by decide +kernel
theorem dL_law_624 : decode cL_law 624 = .ok (.iaload, 1) := by decide +kernel
theorem dL_law_625 : decode cL_law 625 = .ok (.invokevirtual 140, 3) := by decide +kernel
theorem dL_law_628 : decode cL_law 628 = .ok (.istore 6, 2) := by decide +kernel
theorem dL_law_630 : decode cL_law 630 = .ok (.aload_n 2, 1) := by decide +kernel
theorem dL_law_631 : decode cL_law 631 = .ok (.invokevirtual 112, 3) := by decide +kernel
theorem dL_law_634 : decode cL_law 634 = .ok (.iload 5, 2) := by decide +kernel
theorem dL_law_636 : decode cL_law 636 = .ok (.if_icmp .eq 5, 3) := by decide +kernel
theorem dL_law_639 : decode cL_law 639 = .ok (.iconst 0, 1) := by decide +kernel
theorem dL_law_640 : decode cL_law 640 = .ok (.ireturn, 1) := by decide +kernel
theorem dL_law_641 : decode cL_law 641 = .ok (.iload 5, 2) := by decide +kernel
theorem dL_law_643 : decode cL_law 643 = .ok (.ifCond .ne 15, 3) := by decide +kernel
theorem dL_law_646 : decode cL_law 646 = .ok (.aload_n 3, 1) := by decide +kernel
theorem dL_law_647 : decode cL_law 647 = .ok (.iconst 0, 1) := by decide +kernel
theorem dL_law_648 : decode cL_law 648 = .ok (.laload, 1) := by decide +kernel
theorem dL_law_649 : decode cL_law 649 = .ok (.iload 6, 2) := by decide +kernel
theorem dL_law_651 : decode cL_law 651 = .ok (.i2l, 1) := by decide +kernel
theorem dL_law_652 : decode cL_law 652 = .ok (.lcmp, 1) := by decide +kernel
theorem dL_law_653 : decode cL_law 653 = .ok (.ifCond .eq 5, 3) := by decide +kernel
theorem dL_law_656 : decode cL_law 656 = .ok (.iconst 0, 1) := by decide +kernel
theorem dL_law_657 : decode cL_law 657 = .ok (.ireturn, 1) := by decide +kernel
theorem dL_law_658 : decode cL_law 658 = .ok (.goto 1231, 3) := by decide +kernel
theorem dL_law_661 : decode cL_law 661 = .ok (.aload_n 1, 1) := by decide +kernel
theorem dL_law_662 : decode cL_law 662 = .ok (.aload_n 0, 1) := by decide +kernel
theorem dL_law_663 : decode cL_law 663 = .ok (.iload 4, 2) := by decide +kernel
theorem dL_law_665 : decode cL_law 665 = .ok (.iconst 1, 1) := by decide +kernel
theorem dL_law_666 : decode cL_law 666 = .ok (.iadd, 1) := by decide +kernel
theorem dL_law_667 : decode cL_law 667 = .ok (.iaload, 1) := by decide +kernel
theorem dL_law_668 : decode cL_law 668 = .ok (.aload_n 3, 1) := by decide +kernel
theorem dL_law_669 : decode cL_law 669 = .ok (.invokestatic 141, 3) := by decide +kernel
theorem dL_law_672 : decode cL_law 672 = .ok (.istore 5, 2) := by decide +kernel
theorem dL_law_674 : decode cL_law 674 = .ok (.aload_n 2, 1) := by decide +kernel
theorem dL_law_675 : decode cL_law 675 = .ok (.aload_n 0, 1) := by decide +kernel
theorem dL_law_676 : decode cL_law 676 = .ok (.iload 4, 2) := by decide +kernel
theorem dL_law_678 : decode cL_law 678 = .ok (.iconst 1, 1) := by decide +kernel
theorem dL_law_679 : decode cL_law 679 = .ok (.iadd, 1) := by decide +kernel
theorem dL_law_680 : decode cL_law 680 = .ok (.iaload, 1) := by decide +kernel
theorem dL_law_681 : decode cL_law 681 = .ok (.invokevirtual 143, 3) := by decide +kernel
theorem dL_law_684 : decode cL_law 684 = .ok (.istore 6, 2) := by decide +kernel
theorem dL_law_686 : decode cL_law 686 = .ok (.aload_n 2, 1) := by decide +kernel
theorem dL_law_687 : decode cL_law 687 = .ok (.invokevirtual 112, 3) := by decide +kernel
theorem dL_law_690 : decode cL_law 690 = .ok (.iload 5, 2) := by decide +kernel
theorem dL_law_692 : decode cL_law 692 = .ok (.if_icmp .eq 5, 3) := by decide +kernel
theorem dL_law_695 : decode cL_law 695 = .ok (.iconst 0, 1) := by decide +kernel
theorem dL_law_696 : decode cL_law 696 = .ok (.ireturn, 1) := by decide +kernel
theorem dL_law_697 : decode cL_law 697 = .ok (.iload 5, 2) := by decide +kernel
theorem dL_law_699 : decode cL_law 699 = .ok (.ifCond .ne 15, 3) := by decide +kernel
theorem dL_law_702 : decode cL_law 702 = .ok (.aload_n 3, 1) := by decide +kernel
theorem dL_law_703 : decode cL_law 703 = .ok (.iconst 0, 1) := by decide +kernel
theorem dL_law_704 : decode cL_law 704 = .ok (.laload, 1) := by decide +kernel
theorem dL_law_705 : decode cL_law 705 = .ok (.iload 6, 2) := by decide +kernel
theorem dL_law_707 : decode cL_law 707 = .ok (.i2l, 1) := by decide +kernel
theorem dL_law_708 : decode cL_law 708 = .ok (.lcmp, 1) := by decide +kernel
theorem dL_law_709 : decode cL_law 709 = .ok (.ifCond .eq 5, 3) := by decide +kernel
theorem dL_law_712 : decode cL_law 712 = .ok (.iconst 0, 1) := by decide +kernel
theorem dL_law_713 : decode cL_law 713 = .ok (.ireturn, 1) := by decide +kernel
theorem dL_law_714 : decode cL_law 714 = .ok (.goto 1175, 3) := by decide +kernel
theorem dL_law_717 : decode cL_law 717 = .ok (.aload_n 1, 1) := by decide +kernel
theorem dL_law_718 : decode cL_law 718 = .ok (.aload_n 0, 1) := by decide +kernel
theorem dL_law_719 : decode cL_law 719 = .ok (.iload 4, 2) := by decide +kernel
theorem dL_law_721 : decode cL_law 721 = .ok (.iconst 1, 1) := by decide +kernel
theorem dL_law_722 : decode cL_law 722 = .ok (.iadd, 1) := by decide +kernel
theorem dL_law_723 : decode cL_law 723 = .ok (.iaload, 1) := by decide +kernel
theorem dL_law_724 : decode cL_law 724 = .ok (.aload_n 3, 1) := by decide +kernel
theorem dL_law_725 : decode cL_law 725 = .ok (.invokestatic 144, 3) := by decide +kernel
theorem dL_law_728 : decode cL_law 728 = .ok (.istore 5, 2) := by decide +kernel
theorem dL_law_730 : decode cL_law 730 = .ok (.aload_n 2, 1) := by decide +kernel
theorem dL_law_731 : decode cL_law 731 = .ok (.aload_n 0, 1) := by decide +kernel
theorem dL_law_732 : decode cL_law 732 = .ok (.iload 4, 2) := by decide +kernel
theorem dL_law_734 : decode cL_law 734 = .ok (.iconst 1, 1) := by decide +kernel
theorem dL_law_735 : decode cL_law 735 = .ok (.iadd, 1) := by decide +kernel
theorem dL_law_736 : decode cL_law 736 = .ok (.iaload, 1) := by decide +kernel
theorem dL_law_737 : decode cL_law 737 = .ok (.invokevirtual 146, 3) := by decide +kernel
theorem dL_law_740 : decode cL_law 740 = .ok (.istore 6, 2) := by decide +kernel
theorem dL_law_742 : decode cL_law 742 = .ok (.aload_n 2, 1) := by decide +kernel
theorem dL_law_743 : decode cL_law 743 = .ok (.invokevirtual 112, 3) := by decide +kernel
theorem dL_law_746 : decode cL_law 746 = .ok (.iload 5, 2) := by decide +kernel
theorem dL_law_748 : decode cL_law 748 = .ok (.if_icmp .eq 5, 3) := by decide +kernel
theorem dL_law_751 : decode cL_law 751 = .ok (.iconst 0, 1) := by decide +kernel
theorem dL_law_752 : decode cL_law 752 = .ok (.ireturn, 1) := by decide +kernel
theorem dL_law_753 : decode cL_law 753 = .ok (.iload 5, 2) := by decide +kernel
theorem dL_law_755 : decode cL_law 755 = .ok (.ifCond .ne 15, 3) := by decide +kernel
theorem dL_law_758 : decode cL_law 758 = .ok (.aload_n 3, 1) := by decide +kernel
theorem dL_law_759 : decode cL_law 759 = .ok (.iconst 0, 1) := by decide +kernel
theorem dL_law_760 : decode cL_law 760 = .ok (.laload, 1) := by decide +kernel
theorem dL_law_761 : decode cL_law 761 = .ok (.iload 6, 2) := by decide +kernel
theorem dL_law_763 : decode cL_law 763 = .ok (.i2l, 1) := by decide +kernel
theorem dL_law_764 : decode cL_law 764 = .ok (.lcmp, 1) := by decide +kernel
theorem dL_law_765 : decode cL_law 765 = .ok (.ifCond .eq 5, 3) := by decide +kernel
theorem dL_law_768 : decode cL_law 768 = .ok (.iconst 0, 1) := by decide +kernel
theorem dL_law_769 : decode cL_law 769 = .ok (.ireturn, 1) := by decide +kernel
theorem dL_law_770 : decode cL_law 770 = .ok (.goto 1119, 3) := by decide +kernel
theorem dL_law_773 : decode cL_law 773 = .ok (.aload_n 1, 1) := by decide +kernel
theorem dL_law_774 : decode cL_law 774 = .ok (.aload_n 0, 1) := by decide +kernel
theorem dL_law_775 : decode cL_law 775 = .ok (.iload 4, 2) := by decide +kernel
theorem dL_law_777 : decode cL_law 777 = .ok (.iconst 1, 1) := by decide +kernel
theorem dL_law_778 : decode cL_law 778 = .ok (.iadd, 1) := by decide +kernel
theorem dL_law_779 : decode cL_law 779 = .ok (.iaload, 1) := by decide +kernel
theorem dL_law_780 : decode cL_law 780 = .ok (.aload_n 3, 1) := by decide +kernel
theorem dL_law_781 : decode cL_law 781 = .ok (.invokestatic 147, 3) := by decide +kernel
theorem dL_law_784 : decode cL_law 784 = .ok (.istore 5, 2) := by decide +kernel
theorem dL_law_786 : decode cL_law 786 = .ok (.aload_n 2, 1) := by decide +kernel
theorem dL_law_787 : decode cL_law 787 = .ok (.aload_n 0, 1) := by decide +kernel
theorem dL_law_788 : decode cL_law 788 = .ok (.iload 4, 2) := by decide +kernel
theorem dL_law_790 : decode cL_law 790 = .ok (.iconst 1, 1) := by decide +kernel
theorem dL_law_791 : decode cL_law 791 = .ok (.iadd, 1) := by decide +kernel
theorem dL_law_792 : decode cL_law 792 = .ok (.iaload, 1) := by decide +kernel
theorem dL_law_793 : decode cL_law 793 = .ok (.invokevirtual 149, 3) := by decide +kernel
theorem dL_law_796 : decode cL_law 796 = .ok (.istore 6, 2) := by decide +kernel
theorem dL_law_798 : decode cL_law 798 = .ok (.aload_n 2, 1) := by decide +kernel
theorem dL_law_799 : decode cL_law 799 = .ok (.invokevirtual 112, 3) := by decide +kernel
theorem dL_law_802 : decode cL_law 802 = .ok (.iload 5, 2) := by decide +kernel
theorem dL_law_804 : decode cL_law 804 = .ok (.if_icmp .eq 5, 3) := by decide +kernel
theorem dL_law_807 : decode cL_law 807 = .ok (.iconst 0, 1) := by decide +kernel
theorem dL_law_808 : decode cL_law 808 = .ok (.ireturn, 1) := by decide +kernel
theorem dL_law_809 : decode cL_law 809 = .ok (.iload 5, 2) := by decide +kernel
theorem dL_law_811 : decode cL_law 811 = .ok (.ifCond .ne 22, 3) := by decide +kernel
theorem dL_law_814 : decode cL_law 814 = .ok (.aload_n 3, 1) := by decide +kernel
theorem dL_law_815 : decode cL_law 815 = .ok (.iconst 0, 1) := by decide +kernel
theorem dL_law_816 : decode cL_law 816 = .ok (.laload, 1) := by decide +kernel
theorem dL_law_817 : decode cL_law 817 = .ok (.iload 6, 2) := by decide +kernel
theorem dL_law_819 : decode cL_law 819 = .ok (.ifCond .eq 7, 3) := by decide +kernel
theorem dL_law_822 : decode cL_law 822 = .ok (.lconst 1, 1) := by decide +kernel
theorem dL_law_823 : decode cL_law 823 = .ok (.goto 4, 3) := by decide +kernel
theorem dL_law_826 : decode cL_law 826 = .ok (.lconst 0, 1) := by decide +kernel
theorem dL_law_827 : decode cL_law 827 = .ok (.lcmp, 1) := by decide +kernel
theorem dL_law_828 : decode cL_law 828 = .ok (.ifCond .eq 5, 3) := by decide +kernel
theorem dL_law_831 : decode cL_law 831 = .ok (.iconst 0, 1) := by decide +kernel
theorem dL_law_832 : decode cL_law 832 = .ok (.ireturn, 1) := by decide +kernel
theorem dL_law_833 : decode cL_law 833 = .ok (.goto 1056, 3) := by decide +kernel
theorem dL_law_836 : decode cL_law 836 = .ok (.aload_n 1, 1) := by decide +kernel
theorem dL_law_837 : decode cL_law 837 = .ok (.aload_n 0, 1) := by decide +kernel
theorem dL_law_838 : decode cL_law 838 = .ok (.iload 4, 2) := by decide +kernel
theorem dL_law_840 : decode cL_law 840 = .ok (.iconst 1, 1) := by decide +kernel
theorem dL_law_841 : decode cL_law 841 = .ok (.iadd, 1) := by decide +kernel
theorem dL_law_842 : decode cL_law 842 = .ok (.iaload, 1) := by decide +kernel
theorem dL_law_843 : decode cL_law 843 = .ok (.aload_n 3, 1) := by decide +kernel
theorem dL_law_844 : decode cL_law 844 = .ok (.invokestatic 150, 3) := by decide +kernel
theorem dL_law_847 : decode cL_law 847 = .ok (.istore 5, 2) := by decide +kernel
theorem dL_law_849 : decode cL_law 849 = .ok (.aload_n 2, 1) := by decide +kernel
theorem dL_law_850 : decode cL_law 850 = .ok (.aload_n 0, 1) := by decide +kernel
theorem dL_law_851 : decode cL_law 851 = .ok (.iload 4, 2) := by decide +kernel
theorem dL_law_853 : decode cL_law 853 = .ok (.iconst 1, 1) := by decide +kernel
theorem dL_law_854 : decode cL_law 854 = .ok (.iadd, 1) := by decide +kernel
theorem dL_law_855 : decode cL_law 855 = .ok (.iaload, 1) := by decide +kernel
theorem dL_law_856 : decode cL_law 856 = .ok (.invokevirtual 152, 3) := by decide +kernel
theorem dL_law_859 : decode cL_law 859 = .ok (.istore 6, 2) := by decide +kernel
theorem dL_law_861 : decode cL_law 861 = .ok (.aload_n 2, 1) := by decide +kernel
theorem dL_law_862 : decode cL_law 862 = .ok (.invokevirtual 112, 3) := by decide +kernel
theorem dL_law_865 : decode cL_law 865 = .ok (.iload 5, 2) := by decide +kernel
theorem dL_law_867 : decode cL_law 867 = .ok (.if_icmp .eq 5, 3) := by decide +kernel
theorem dL_law_870 : decode cL_law 870 = .ok (.iconst 0, 1) := by decide +kernel
theorem dL_law_871 : decode cL_law 871 = .ok (.ireturn, 1) := by decide +kernel
theorem dL_law_872 : decode cL_law 872 = .ok (.iload 5, 2) := by decide +kernel
theorem dL_law_874 : decode cL_law 874 = .ok (.ifCond .ne 22, 3) := by decide +kernel
theorem dL_law_877 : decode cL_law 877 = .ok (.aload_n 3, 1) := by decide +kernel
theorem dL_law_878 : decode cL_law 878 = .ok (.iconst 0, 1) := by decide +kernel
theorem dL_law_879 : decode cL_law 879 = .ok (.laload, 1) := by decide +kernel
theorem dL_law_880 : decode cL_law 880 = .ok (.iload 6, 2) := by decide +kernel
theorem dL_law_882 : decode cL_law 882 = .ok (.ifCond .eq 7, 3) := by decide +kernel
theorem dL_law_885 : decode cL_law 885 = .ok (.lconst 1, 1) := by decide +kernel
theorem dL_law_886 : decode cL_law 886 = .ok (.goto 4, 3) := by decide +kernel
theorem dL_law_889 : decode cL_law 889 = .ok (.lconst 0, 1) := by decide +kernel
theorem dL_law_890 : decode cL_law 890 = .ok (.lcmp, 1) := by decide +kernel
theorem dL_law_891 : decode cL_law 891 = .ok (.ifCond .eq 5, 3) := by decide +kernel
theorem dL_law_894 : decode cL_law 894 = .ok (.iconst 0, 1) := by decide +kernel
theorem dL_law_895 : decode cL_law 895 = .ok (.ireturn, 1) := by decide +kernel
theorem dL_law_896 : decode cL_law 896 = .ok (.goto 993, 3) := by decide +kernel
theorem dL_law_899 : decode cL_law 899 = .ok (.aload_n 1, 1) := by decide +kernel
theorem dL_law_900 : decode cL_law 900 = .ok (.aload_n 0, 1) := by decide +kernel
theorem dL_law_901 : decode cL_law 901 = .ok (.iload 4, 2) := by decide +kernel
theorem dL_law_903 : decode cL_law 903 = .ok (.iconst 1, 1) := by decide +kernel
theorem dL_law_904 : decode cL_law 904 = .ok (.iadd, 1) := by decide +kernel
theorem dL_law_905 : decode cL_law 905 = .ok (.iaload, 1) := by decide +kernel
theorem dL_law_906 : decode cL_law 906 = .ok (.aload_n 3, 1) := by decide +kernel
theorem dL_law_907 : decode cL_law 907 = .ok (.invokestatic 153, 3) := by decide +kernel
theorem dL_law_910 : decode cL_law 910 = .ok (.istore 5, 2) := by decide +kernel
theorem dL_law_912 : decode cL_law 912 = .ok (.aload_n 2, 1) := by decide +kernel
theorem dL_law_913 : decode cL_law 913 = .ok (.aload_n 0, 1) := by decide +kernel
theorem dL_law_914 : decode cL_law 914 = .ok (.iload 4, 2) := by decide +kernel
theorem dL_law_916 : decode cL_law 916 = .ok (.iconst 1, 1) := by decide +kernel
theorem dL_law_917 : decode cL_law 917 = .ok (.iadd, 1) := by decide +kernel
theorem dL_law_918 : decode cL_law 918 = .ok (.iaload, 1) := by decide +kernel
theorem dL_law_919 : decode cL_law 919 = .ok (.invokevirtual 155, 3) := by decide +kernel
theorem dL_law_922 : decode cL_law 922 = .ok (.istore 6, 2) := by decide +kernel
theorem dL_law_924 : decode cL_law 924 = .ok (.aload_n 2, 1) := by decide +kernel
theorem dL_law_925 : decode cL_law 925 = .ok (.invokevirtual 112, 3) := by decide +kernel
theorem dL_law_928 : decode cL_law 928 = .ok (.iload 5, 2) := by decide +kernel
theorem dL_law_930 : decode cL_law 930 = .ok (.if_icmp .eq 5, 3) := by decide +kernel
theorem dL_law_933 : decode cL_law 933 = .ok (.iconst 0, 1) := by decide +kernel
theorem dL_law_934 : decode cL_law 934 = .ok (.ireturn, 1) := by decide +kernel
theorem dL_law_935 : decode cL_law 935 = .ok (.iload 5, 2) := by decide +kernel
theorem dL_law_937 : decode cL_law 937 = .ok (.ifCond .ne 15, 3) := by decide +kernel
theorem dL_law_940 : decode cL_law 940 = .ok (.aload_n 3, 1) := by decide +kernel
theorem dL_law_941 : decode cL_law 941 = .ok (.iconst 0, 1) := by decide +kernel
theorem dL_law_942 : decode cL_law 942 = .ok (.laload, 1) := by decide +kernel
theorem dL_law_943 : decode cL_law 943 = .ok (.iload 6, 2) := by decide +kernel
theorem dL_law_945 : decode cL_law 945 = .ok (.i2l, 1) := by decide +kernel
theorem dL_law_946 : decode cL_law 946 = .ok (.lcmp, 1) := by decide +kernel
theorem dL_law_947 : decode cL_law 947 = .ok (.ifCond .eq 5, 3) := by decide +kernel
theorem dL_law_950 : decode cL_law 950 = .ok (.iconst 0, 1) := by decide +kernel
theorem dL_law_951 : decode cL_law 951 = .ok (.ireturn, 1) := by decide +kernel
theorem dL_law_952 : decode cL_law 952 = .ok (.goto 937, 3) := by decide +kernel
theorem dL_law_955 : decode cL_law 955 = .ok (.aload_n 1, 1) := by decide +kernel
theorem dL_law_956 : decode cL_law 956 = .ok (.aload_n 0, 1) := by decide +kernel
theorem dL_law_957 : decode cL_law 957 = .ok (.iload 4, 2) := by decide +kernel
theorem dL_law_959 : decode cL_law 959 = .ok (.iconst 1, 1) := by decide +kernel
theorem dL_law_960 : decode cL_law 960 = .ok (.iadd, 1) := by decide +kernel
theorem dL_law_961 : decode cL_law 961 = .ok (.iaload, 1) := by decide +kernel
theorem dL_law_962 : decode cL_law 962 = .ok (.aload_n 3, 1) := by decide +kernel
theorem dL_law_963 : decode cL_law 963 = .ok (.invokestatic 156, 3) := by decide +kernel
theorem dL_law_966 : decode cL_law 966 = .ok (.istore 5, 2) := by decide +kernel
theorem dL_law_968 : decode cL_law 968 = .ok (.aload_n 2, 1) := by decide +kernel
theorem dL_law_969 : decode cL_law 969 = .ok (.aload_n 0, 1) := by decide +kernel
theorem dL_law_970 : decode cL_law 970 = .ok (.iload 4, 2) := by decide +kernel
theorem dL_law_972 : decode cL_law 972 = .ok (.iconst 1, 1) := by decide +kernel
theorem dL_law_973 : decode cL_law 973 = .ok (.iadd, 1) := by decide +kernel
theorem dL_law_974 : decode cL_law 974 = .ok (.iaload, 1) := by decide +kernel
theorem dL_law_975 : decode cL_law 975 = .ok (.invokevirtual 158, 3) := by decide +kernel
theorem dL_law_978 : decode cL_law 978 = .ok (.istore 6, 2) := by decide +kernel
theorem dL_law_980 : decode cL_law 980 = .ok (.aload_n 2, 1) := by decide +kernel
theorem dL_law_981 : decode cL_law 981 = .ok (.invokevirtual 112, 3) := by decide +kernel
theorem dL_law_984 : decode cL_law 984 = .ok (.iload 5, 2) := by decide +kernel
theorem dL_law_986 : decode cL_law 986 = .ok (.if_icmp .eq 5, 3) := by decide +kernel
theorem dL_law_989 : decode cL_law 989 = .ok (.iconst 0, 1) := by decide +kernel
theorem dL_law_990 : decode cL_law 990 = .ok (.ireturn, 1) := by decide +kernel
theorem dL_law_991 : decode cL_law 991 = .ok (.iload 5, 2) := by decide +kernel
theorem dL_law_993 : decode cL_law 993 = .ok (.ifCond .ne 15, 3) := by decide +kernel
theorem dL_law_996 : decode cL_law 996 = .ok (.aload_n 3, 1) := by decide +kernel
theorem dL_law_997 : decode cL_law 997 = .ok (.iconst 0, 1) := by decide +kernel
theorem dL_law_998 : decode cL_law 998 = .ok (.laload, 1) := by decide +kernel
theorem dL_law_999 : decode cL_law 999 = .ok (.iload 6, 2) := by decide +kernel
theorem dL_law_1001 : decode cL_law 1001 = .ok (.i2l, 1) := by decide +kernel
theorem dL_law_1002 : decode cL_law 1002 = .ok (.lcmp, 1) := by decide +kernel
theorem dL_law_1003 : decode cL_law 1003 = .ok (.ifCond .eq 5, 3) := by decide +kernel
theorem dL_law_1006 : decode cL_law 1006 = .ok (.iconst 0, 1) := by decide +kernel
theorem dL_law_1007 : decode cL_law 1007 = .ok (.ireturn, 1) := by decide +kernel
theorem dL_law_1008 : decode cL_law 1008 = .ok (.goto 881, 3) := by decide +kernel
theorem dL_law_1011 : decode cL_law 1011 = .ok (.aload_n 1, 1) := by decide +kernel
theorem dL_law_1012 : decode cL_law 1012 = .ok (.aload_n 0, 1) := by decide +kernel
theorem dL_law_1013 : decode cL_law 1013 = .ok (.iload 4, 2) := by decide +kernel
theorem dL_law_1015 : decode cL_law 1015 = .ok (.iconst 1, 1) := by decide +kernel
theorem dL_law_1016 : decode cL_law 1016 = .ok (.iadd, 1) := by decide +kernel
theorem dL_law_1017 : decode cL_law 1017 = .ok (.iaload, 1) := by decide +kernel
theorem dL_law_1018 : decode cL_law 1018 = .ok (.aload_n 3, 1) := by decide +kernel
theorem dL_law_1019 : decode cL_law 1019 = .ok (.invokestatic 159, 3) := by decide +kernel
theorem dL_law_1022 : decode cL_law 1022 = .ok (.istore 5, 2) := by decide +kernel
theorem dL_law_1024 : decode cL_law 1024 = .ok (.aload_n 2, 1) := by decide +kernel
theorem dL_law_1025 : decode cL_law 1025 = .ok (.aload_n 0, 1) := by decide +kernel
theorem dL_law_1026 : decode cL_law 1026 = .ok (.iload 4, 2) := by decide +kernel
theorem dL_law_1028 : decode cL_law 1028 = .ok (.iconst 1, 1) := by decide +kernel
theorem dL_law_1029 : decode cL_law 1029 = .ok (.iadd, 1) := by decide +kernel
theorem dL_law_1030 : decode cL_law 1030 = .ok (.iaload, 1) := by decide +kernel
theorem dL_law_1031 : decode cL_law 1031 = .ok (.invokevirtual 161, 3) := by decide +kernel
theorem dL_law_1034 : decode cL_law 1034 = .ok (.istore 6, 2) := by decide +kernel
theorem dL_law_1036 : decode cL_law 1036 = .ok (.aload_n 2, 1) := by decide +kernel
theorem dL_law_1037 : decode cL_law 1037 = .ok (.invokevirtual 112, 3) := by decide +kernel
theorem dL_law_1040 : decode cL_law 1040 = .ok (.iload 5, 2) := by decide +kernel
theorem dL_law_1042 : decode cL_law 1042 = .ok (.if_icmp .eq 5, 3) := by decide +kernel
theorem dL_law_1045 : decode cL_law 1045 = .ok (.iconst 0, 1) := by decide +kernel
theorem dL_law_1046 : decode cL_law 1046 = .ok (.ireturn, 1) := by decide +kernel
theorem dL_law_1047 : decode cL_law 1047 = .ok (.iload 5, 2) := by decide +kernel
theorem dL_law_1049 : decode cL_law 1049 = .ok (.ifCond .ne 15, 3) := by decide +kernel
theorem dL_law_1052 : decode cL_law 1052 = .ok (.aload_n 3, 1) := by decide +kernel
theorem dL_law_1053 : decode cL_law 1053 = .ok (.iconst 0, 1) := by decide +kernel
theorem dL_law_1054 : decode cL_law 1054 = .ok (.laload, 1) := by decide +kernel
theorem dL_law_1055 : decode cL_law 1055 = .ok (.iload 6, 2) := by decide +kernel
theorem dL_law_1057 : decode cL_law 1057 = .ok (.i2l, 1) := by decide +kernel
theorem dL_law_1058 : decode cL_law 1058 = .ok (.lcmp, 1) := by decide +kernel
theorem dL_law_1059 : decode cL_law 1059 = .ok (.ifCond .eq 5, 3) := by decide +kernel
theorem dL_law_1062 : decode cL_law 1062 = .ok (.iconst 0, 1) := by decide +kernel
theorem dL_law_1063 : decode cL_law 1063 = .ok (.ireturn, 1) := by decide +kernel
theorem dL_law_1064 : decode cL_law 1064 = .ok (.goto 825, 3) := by decide +kernel
theorem dL_law_1067 : decode cL_law 1067 = .ok (.aload_n 1, 1) := by decide +kernel
theorem dL_law_1068 : decode cL_law 1068 = .ok (.aload_n 0, 1) := by decide +kernel
theorem dL_law_1069 : decode cL_law 1069 = .ok (.iload 4, 2) := by decide +kernel
theorem dL_law_1071 : decode cL_law 1071 = .ok (.iconst 1, 1) := by decide +kernel
theorem dL_law_1072 : decode cL_law 1072 = .ok (.iadd, 1) := by decide +kernel
theorem dL_law_1073 : decode cL_law 1073 = .ok (.iaload, 1) := by decide +kernel
theorem dL_law_1074 : decode cL_law 1074 = .ok (.aload_n 0, 1) := by decide +kernel
theorem dL_law_1075 : decode cL_law 1075 = .ok (.iload 4, 2) := by decide +kernel
theorem dL_law_1077 : decode cL_law 1077 = .ok (.iconst 2, 1) := by decide +kernel
theorem dL_law_1078 : decode cL_law 1078 = .ok (.iadd, 1) := by decide +kernel
theorem dL_law_1079 : decode cL_law 1079 = .ok (.iaload, 1) := by decide +kernel
theorem dL_law_1080 : decode cL_law 1080 = .ok (.aload_n 3, 1) := by decide +kernel
theorem dL_law_1081 : decode cL_law 1081 = .ok (.invokestatic 162, 3) := by decide +kernel
theorem dL_law_1084 : decode cL_law 1084 = .ok (.istore 5, 2) := by decide +kernel
theorem dL_law_1086 : decode cL_law 1086 = .ok (.aload_n 2, 1) := by decide +kernel
theorem dL_law_1087 : decode cL_law 1087 = .ok (.aload_n 0, 1) := by decide +kernel
theorem dL_law_1088 : decode cL_law 1088 = .ok (.iload 4, 2) := by decide +kernel
theorem dL_law_1090 : decode cL_law 1090 = .ok (.iconst 1, 1) := by decide +kernel
theorem dL_law_1091 : decode cL_law 1091 = .ok (.iadd, 1) := by decide +kernel
theorem dL_law_1092 : decode cL_law 1092 = .ok (.iaload, 1) := by decide +kernel
theorem dL_law_1093 : decode cL_law 1093 = .ok (.aload_n 0, 1) := by decide +kernel
theorem dL_law_1094 : decode cL_law 1094 = .ok (.iload 4, 2) := by decide +kernel
theorem dL_law_1096 : decode cL_law 1096 = .ok (.iconst 2, 1) := by decide +kernel
theorem dL_law_1097 : decode cL_law 1097 = .ok (.iadd, 1) := by decide +kernel
theorem dL_law_1098 : decode cL_law 1098 = .ok (.iaload, 1) := by decide +kernel
theorem dL_law_1099 : decode cL_law 1099 = .ok (.invokevirtual 164, 3) := by decide +kernel
theorem dL_law_1102 : decode cL_law 1102 = .ok (.istore 6, 2) := by decide +kernel
theorem dL_law_1104 : decode cL_law 1104 = .ok (.aload_n 2, 1) := by decide +kernel
theorem dL_law_1105 : decode cL_law 1105 = .ok (.invokevirtual 112, 3) := by decide +kernel
theorem dL_law_1108 : decode cL_law 1108 = .ok (.iload 5, 2) := by decide +kernel
theorem dL_law_1110 : decode cL_law 1110 = .ok (.if_icmp .eq 5, 3) := by decide +kernel
theorem dL_law_1113 : decode cL_law 1113 = .ok (.iconst 0, 1) := by decide +kernel
theorem dL_law_1114 : decode cL_law 1114 = .ok (.ireturn, 1) := by decide +kernel
theorem dL_law_1115 : decode cL_law 1115 = .ok (.iload 5, 2) := by decide +kernel
theorem dL_law_1117 : decode cL_law 1117 = .ok (.ifCond .ne 15, 3) := by decide +kernel
theorem dL_law_1120 : decode cL_law 1120 = .ok (.aload_n 3, 1) := by decide +kernel
theorem dL_law_1121 : decode cL_law 1121 = .ok (.iconst 0, 1) := by decide +kernel
theorem dL_law_1122 : decode cL_law 1122 = .ok (.laload, 1) := by decide +kernel
theorem dL_law_1123 : decode cL_law 1123 = .ok (.iload 6, 2) := by decide +kernel
theorem dL_law_1125 : decode cL_law 1125 = .ok (.i2l, 1) := by decide +kernel
theorem dL_law_1126 : decode cL_law 1126 = .ok (.lcmp, 1) := by decide +kernel
theorem dL_law_1127 : decode cL_law 1127 = .ok (.ifCond .eq 5, 3) := by decide +kernel
theorem dL_law_1130 : decode cL_law 1130 = .ok (.iconst 0, 1) := by decide +kernel
theorem dL_law_1131 : decode cL_law 1131 = .ok (.ireturn, 1) := by decide +kernel
theorem dL_law_1132 : decode cL_law 1132 = .ok (.goto 757, 3) := by decide +kernel
theorem dL_law_1135 : decode cL_law 1135 = .ok (.aload_n 1, 1) := by decide +kernel
theorem dL_law_1136 : decode cL_law 1136 = .ok (.aload_n 0, 1) := by decide +kernel
theorem dL_law_1137 : decode cL_law 1137 = .ok (.iload 4, 2) := by decide +kernel
theorem dL_law_1139 : decode cL_law 1139 = .ok (.iconst 1, 1) := by decide +kernel
theorem dL_law_1140 : decode cL_law 1140 = .ok (.iadd, 1) := by decide +kernel
theorem dL_law_1141 : decode cL_law 1141 = .ok (.iaload, 1) := by decide +kernel
theorem dL_law_1142 : decode cL_law 1142 = .ok (.aload_n 0, 1) := by decide +kernel
theorem dL_law_1143 : decode cL_law 1143 = .ok (.iload 4, 2) := by decide +kernel
theorem dL_law_1145 : decode cL_law 1145 = .ok (.iconst 2, 1) := by decide +kernel
theorem dL_law_1146 : decode cL_law 1146 = .ok (.iadd, 1) := by decide +kernel
theorem dL_law_1147 : decode cL_law 1147 = .ok (.iaload, 1) := by decide +kernel
theorem dL_law_1148 : decode cL_law 1148 = .ok (.aload_n 0, 1) := by decide +kernel
theorem dL_law_1149 : decode cL_law 1149 = .ok (.iload 4, 2) := by decide +kernel
theorem dL_law_1151 : decode cL_law 1151 = .ok (.iconst 3, 1) := by decide +kernel
theorem dL_law_1152 : decode cL_law 1152 = .ok (.iadd, 1) := by decide +kernel
theorem dL_law_1153 : decode cL_law 1153 = .ok (.iaload, 1) := by decide +kernel
theorem dL_law_1154 : decode cL_law 1154 = .ok (.ifCond .eq 7, 3) := by decide +kernel
theorem dL_law_1157 : decode cL_law 1157 = .ok (.iconst 1, 1) := by decide +kernel
theorem dL_law_1158 : decode cL_law 1158 = .ok (.goto 4, 3) := by decide +kernel
theorem dL_law_1161 : decode cL_law 1161 = .ok (.iconst 0, 1) := by decide +kernel
theorem dL_law_1162 : decode cL_law 1162 = .ok (.aload_n 3, 1) := by decide +kernel
theorem dL_law_1163 : decode cL_law 1163 = .ok (.invokestatic 165, 3) := by decide +kernel
theorem dL_law_1166 : decode cL_law 1166 = .ok (.istore 5, 2) := by decide +kernel
theorem dL_law_1168 : decode cL_law 1168 = .ok (.aload_n 2, 1) := by decide +kernel
theorem dL_law_1169 : decode cL_law 1169 = .ok (.aload_n 0, 1) := by decide +kernel
theorem dL_law_1170 : decode cL_law 1170 = .ok (.iload 4, 2) := by decide +kernel
theorem dL_law_1172 : decode cL_law 1172 = .ok (.iconst 1, 1) := by decide +kernel
theorem dL_law_1173 : decode cL_law 1173 = .ok (.iadd, 1) := by decide +kernel
theorem dL_law_1174 : decode cL_law 1174 = .ok (.iaload, 1) := by decide +kernel
theorem dL_law_1175 : decode cL_law 1175 = .ok (.aload_n 0, 1) := by decide +kernel
theorem dL_law_1176 : decode cL_law 1176 = .ok (.iload 4, 2) := by decide +kernel
theorem dL_law_1178 : decode cL_law 1178 = .ok (.iconst 2, 1) := by decide +kernel
theorem dL_law_1179 : decode cL_law 1179 = .ok (.iadd, 1) := by decide +kernel
theorem dL_law_1180 : decode cL_law 1180 = .ok (.iaload, 1) := by decide +kernel
theorem dL_law_1181 : decode cL_law 1181 = .ok (.aload_n 0, 1) := by decide +kernel
theorem dL_law_1182 : decode cL_law 1182 = .ok (.iload 4, 2) := by decide +kernel
theorem dL_law_1184 : decode cL_law 1184 = .ok (.iconst 3, 1) := by decide +kernel
theorem dL_law_1185 : decode cL_law 1185 = .ok (.iadd, 1) := by decide +kernel
theorem dL_law_1186 : decode cL_law 1186 = .ok (.iaload, 1) := by decide +kernel
theorem dL_law_1187 : decode cL_law 1187 = .ok (.ifCond .eq 7, 3) := by decide +kernel
theorem dL_law_1190 : decode cL_law 1190 = .ok (.iconst 1, 1) := by decide +kernel
theorem dL_law_1191 : decode cL_law 1191 = .ok (.goto 4, 3) := by decide +kernel
theorem dL_law_1194 : decode cL_law 1194 = .ok (.iconst 0, 1) := by decide +kernel
theorem dL_law_1195 : decode cL_law 1195 = .ok (.invokevirtual 168, 3) := by decide +kernel
theorem dL_law_1198 : decode cL_law 1198 = .ok (.istore 6, 2) := by decide +kernel
theorem dL_law_1200 : decode cL_law 1200 = .ok (.aload_n 2, 1) := by decide +kernel
theorem dL_law_1201 : decode cL_law 1201 = .ok (.invokevirtual 112, 3) := by decide +kernel
theorem dL_law_1204 : decode cL_law 1204 = .ok (.iload 5, 2) := by decide +kernel
theorem dL_law_1206 : decode cL_law 1206 = .ok (.if_icmp .eq 5, 3) := by decide +kernel
theorem dL_law_1209 : decode cL_law 1209 = .ok (.iconst 0, 1) := by decide +kernel
theorem dL_law_1210 : decode cL_law 1210 = .ok (.ireturn, 1) := by decide +kernel
theorem dL_law_1211 : decode cL_law 1211 = .ok (.iload 5, 2) := by decide +kernel
theorem dL_law_1213 : decode cL_law 1213 = .ok (.ifCond .ne 15, 3) := by decide +kernel
theorem dL_law_1216 : decode cL_law 1216 = .ok (.aload_n 3, 1) := by decide +kernel
theorem dL_law_1217 : decode cL_law 1217 = .ok (.iconst 0, 1) := by decide +kernel
theorem dL_law_1218 : decode cL_law 1218 = .ok (.laload, 1) := by decide +kernel
theorem dL_law_1219 : decode cL_law 1219 = .ok (.iload 6, 2) := by decide +kernel
theorem dL_law_1221 : decode cL_law 1221 = .ok (.i2l, 1) := by decide +kernel
theorem dL_law_1222 : decode cL_law 1222 = .ok (.lcmp, 1) := by decide +kernel
theorem dL_law_1223 : decode cL_law 1223 = .ok (.ifCond .eq 5, 3) := by decide +kernel
theorem dL_law_1226 : decode cL_law 1226 = .ok (.iconst 0, 1) := by decide +kernel
theorem dL_law_1227 : decode cL_law 1227 = .ok (.ireturn, 1) := by decide +kernel
theorem dL_law_1228 : decode cL_law 1228 = .ok (.goto 661, 3) := by decide +kernel
theorem dL_law_1231 : decode cL_law 1231 = .ok (.aload_n 1, 1) := by decide +kernel
theorem dL_law_1232 : decode cL_law 1232 = .ok (.aload_n 0, 1) := by decide +kernel
theorem dL_law_1233 : decode cL_law 1233 = .ok (.iload 4, 2) := by decide +kernel
theorem dL_law_1235 : decode cL_law 1235 = .ok (.iconst 1, 1) := by decide +kernel
theorem dL_law_1236 : decode cL_law 1236 = .ok (.iadd, 1) := by decide +kernel
theorem dL_law_1237 : decode cL_law 1237 = .ok (.iaload, 1) := by decide +kernel
theorem dL_law_1238 : decode cL_law 1238 = .ok (.aload_n 0, 1) := by decide +kernel
theorem dL_law_1239 : decode cL_law 1239 = .ok (.iload 4, 2) := by decide +kernel
theorem dL_law_1241 : decode cL_law 1241 = .ok (.iconst 2, 1) := by decide +kernel
theorem dL_law_1242 : decode cL_law 1242 = .ok (.iadd, 1) := by decide +kernel
theorem dL_law_1243 : decode cL_law 1243 = .ok (.iaload, 1) := by decide +kernel
theorem dL_law_1244 : decode cL_law 1244 = .ok (.aload_n 3, 1) := by decide +kernel
theorem dL_law_1245 : decode cL_law 1245 = .ok (.invokestatic 169, 3) := by decide +kernel
theorem dL_law_1248 : decode cL_law 1248 = .ok (.istore 5, 2) := by decide +kernel
theorem dL_law_1250 : decode cL_law 1250 = .ok (.aload_n 2, 1) := by decide +kernel
theorem dL_law_1251 : decode cL_law 1251 = .ok (.aload_n 0, 1) := by decide +kernel
theorem dL_law_1252 : decode cL_law 1252 = .ok (.iload 4, 2) := by decide +kernel
theorem dL_law_1254 : decode cL_law 1254 = .ok (.iconst 1, 1) := by decide +kernel
theorem dL_law_1255 : decode cL_law 1255 = .ok (.iadd, 1) := by decide +kernel
theorem dL_law_1256 : decode cL_law 1256 = .ok (.iaload, 1) := by decide +kernel
theorem dL_law_1257 : decode cL_law 1257 = .ok (.aload_n 0, 1) := by decide +kernel
theorem dL_law_1258 : decode cL_law 1258 = .ok (.iload 4, 2) := by decide +kernel
theorem dL_law_1260 : decode cL_law 1260 = .ok (.iconst 2, 1) := by decide +kernel
theorem dL_law_1261 : decode cL_law 1261 = .ok (.iadd, 1) := by decide +kernel
theorem dL_law_1262 : decode cL_law 1262 = .ok (.iaload, 1) := by decide +kernel
theorem dL_law_1263 : decode cL_law 1263 = .ok (.invokevirtual 171, 3) := by decide +kernel
theorem dL_law_1266 : decode cL_law 1266 = .ok (.istore 6, 2) := by decide +kernel
theorem dL_law_1268 : decode cL_law 1268 = .ok (.aload_n 2, 1) := by decide +kernel
theorem dL_law_1269 : decode cL_law 1269 = .ok (.invokevirtual 112, 3) := by decide +kernel
theorem dL_law_1272 : decode cL_law 1272 = .ok (.iload 5, 2) := by decide +kernel
theorem dL_law_1274 : decode cL_law 1274 = .ok (.if_icmp .eq 5, 3) := by decide +kernel
theorem dL_law_1277 : decode cL_law 1277 = .ok (.iconst 0, 1) := by decide +kernel
theorem dL_law_1278 : decode cL_law 1278 = .ok (.ireturn, 1) := by decide +kernel
theorem dL_law_1279 : decode cL_law 1279 = .ok (.iload 5, 2) := by decide +kernel
theorem dL_law_1281 : decode cL_law 1281 = .ok (.ifCond .ne 15, 3) := by decide +kernel
theorem dL_law_1284 : decode cL_law 1284 = .ok (.aload_n 3, 1) := by decide +kernel
theorem dL_law_1285 : decode cL_law 1285 = .ok (.iconst 0, 1) := by decide +kernel
theorem dL_law_1286 : decode cL_law 1286 = .ok (.laload, 1) := by decide +kernel
theorem dL_law_1287 : decode cL_law 1287 = .ok (.iload 6, 2) := by decide +kernel
theorem dL_law_1289 : decode cL_law 1289 = .ok (.i2l, 1) := by decide +kernel
theorem dL_law_1290 : decode cL_law 1290 = .ok (.lcmp, 1) := by decide +kernel
theorem dL_law_1291 : decode cL_law 1291 = .ok (.ifCond .eq 5, 3) := by decide +kernel
theorem dL_law_1294 : decode cL_law 1294 = .ok (.iconst 0, 1) := by decide +kernel
theorem dL_law_1295 : decode cL_law 1295 = .ok (.ireturn, 1) := by decide +kernel
theorem dL_law_1296 : decode cL_law 1296 = .ok (.goto 593, 3) := by decide +kernel
theorem dL_law_1299 : decode cL_law 1299 = .ok (.aload_n 1, 1) := by decide +kernel
theorem dL_law_1300 : decode cL_law 1300 = .ok (.aload_n 0, 1) := by decide +kernel
theorem dL_law_1301 : decode cL_law 1301 = .ok (.iload 4, 2) := by decide +kernel
theorem dL_law_1303 : decode cL_law 1303 = .ok (.iconst 1, 1) := by decide +kernel
theorem dL_law_1304 : decode cL_law 1304 = .ok (.iadd, 1) := by decide +kernel
theorem dL_law_1305 : decode cL_law 1305 = .ok (.iaload, 1) := by decide +kernel
theorem dL_law_1306 : decode cL_law 1306 = .ok (.aload_n 0, 1) := by decide +kernel
theorem dL_law_1307 : decode cL_law 1307 = .ok (.iload 4, 2) := by decide +kernel
theorem dL_law_1309 : decode cL_law 1309 = .ok (.iconst 2, 1) := by decide +kernel
theorem dL_law_1310 : decode cL_law 1310 = .ok (.iadd, 1) := by decide +kernel
theorem dL_law_1311 : decode cL_law 1311 = .ok (.iaload, 1) := by decide +kernel
theorem dL_law_1312 : decode cL_law 1312 = .ok (.ifCond .eq 7, 3) := by decide +kernel
theorem dL_law_1315 : decode cL_law 1315 = .ok (.iconst 1, 1) := by decide +kernel
theorem dL_law_1316 : decode cL_law 1316 = .ok (.goto 4, 3) := by decide +kernel
theorem dL_law_1319 : decode cL_law 1319 = .ok (.iconst 0, 1) := by decide +kernel
theorem dL_law_1320 : decode cL_law 1320 = .ok (.aload_n 3, 1) := by decide +kernel
theorem dL_law_1321 : decode cL_law 1321 = .ok (.invokestatic 172, 3) := by decide +kernel
theorem dL_law_1324 : decode cL_law 1324 = .ok (.istore 5, 2) := by decide +kernel
theorem dL_law_1326 : decode cL_law 1326 = .ok (.aload_n 2, 1) := by decide +kernel
theorem dL_law_1327 : decode cL_law 1327 = .ok (.aload_n 0, 1) := by decide +kernel
theorem dL_law_1328 : decode cL_law 1328 = .ok (.iload 4, 2) := by decide +kernel
theorem dL_law_1330 : decode cL_law 1330 = .ok (.iconst 1, 1) := by decide +kernel
theorem dL_law_1331 : decode cL_law 1331 = .ok (.iadd, 1) := by decide +kernel
theorem dL_law_1332 : decode cL_law 1332 = .ok (.iaload, 1) := by decide +kernel
theorem dL_law_1333 : decode cL_law 1333 = .ok (.aload_n 0, 1) := by decide +kernel
theorem dL_law_1334 : decode cL_law 1334 = .ok (.iload 4, 2) := by decide +kernel
theorem dL_law_1336 : decode cL_law 1336 = .ok (.iconst 2, 1) := by decide +kernel
theorem dL_law_1337 : decode cL_law 1337 = .ok (.iadd, 1) := by decide +kernel
theorem dL_law_1338 : decode cL_law 1338 = .ok (.iaload, 1) := by decide +kernel
theorem dL_law_1339 : decode cL_law 1339 = .ok (.ifCond .eq 7, 3) := by decide +kernel
theorem dL_law_1342 : decode cL_law 1342 = .ok (.iconst 1, 1) := by decide +kernel
theorem dL_law_1343 : decode cL_law 1343 = .ok (.goto 4, 3) := by decide +kernel
theorem dL_law_1346 : decode cL_law 1346 = .ok (.iconst 0, 1) := by decide +kernel
theorem dL_law_1347 : decode cL_law 1347 = .ok (.invokevirtual 175, 3) := by decide +kernel
theorem dL_law_1350 : decode cL_law 1350 = .ok (.istore 6, 2) := by decide +kernel
theorem dL_law_1352 : decode cL_law 1352 = .ok (.aload_n 2, 1) := by decide +kernel
theorem dL_law_1353 : decode cL_law 1353 = .ok (.invokevirtual 112, 3) := by decide +kernel
theorem dL_law_1356 : decode cL_law 1356 = .ok (.iload 5, 2) := by decide +kernel
theorem dL_law_1358 : decode cL_law 1358 = .ok (.if_icmp .eq 5, 3) := by decide +kernel
theorem dL_law_1361 : decode cL_law 1361 = .ok (.iconst 0, 1) := by decide +kernel
theorem dL_law_1362 : decode cL_law 1362 = .ok (.ireturn, 1) := by decide +kernel
theorem dL_law_1363 : decode cL_law 1363 = .ok (.iload 5, 2) := by decide +kernel
theorem dL_law_1365 : decode cL_law 1365 = .ok (.ifCond .ne 22, 3) := by decide +kernel
theorem dL_law_1368 : decode cL_law 1368 = .ok (.aload_n 3, 1) := by decide +kernel
theorem dL_law_1369 : decode cL_law 1369 = .ok (.iconst 0, 1) := by decide +kernel
theorem dL_law_1370 : decode cL_law 1370 = .ok (.laload, 1) := by decide +kernel
theorem dL_law_1371 : decode cL_law 1371 = .ok (.iload 6, 2) := by decide +kernel
theorem dL_law_1373 : decode cL_law 1373 = .ok (.ifCond .eq 7, 3) := by decide +kernel
theorem dL_law_1376 : decode cL_law 1376 = .ok (.lconst 1, 1) := by decide +kernel
theorem dL_law_1377 : decode cL_law 1377 = .ok (.goto 4, 3) := by decide +kernel
theorem dL_law_1380 : decode cL_law 1380 = .ok (.lconst 0, 1) := by decide +kernel
theorem dL_law_1381 : decode cL_law 1381 = .ok (.lcmp, 1) := by decide +kernel
theorem dL_law_1382 : decode cL_law 1382 = .ok (.ifCond .eq 5, 3) := by decide +kernel
theorem dL_law_1385 : decode cL_law 1385 = .ok (.iconst 0, 1) := by decide +kernel
theorem dL_law_1386 : decode cL_law 1386 = .ok (.ireturn, 1) := by decide +kernel
theorem dL_law_1387 : decode cL_law 1387 = .ok (.goto 502, 3) := by decide +kernel
theorem dL_law_1390 : decode cL_law 1390 = .ok (.aload_n 1, 1) := by decide +kernel
theorem dL_law_1391 : decode cL_law 1391 = .ok (.aload_n 0, 1) := by decide +kernel
theorem dL_law_1392 : decode cL_law 1392 = .ok (.iload 4, 2) := by decide +kernel
theorem dL_law_1394 : decode cL_law 1394 = .ok (.iconst 1, 1) := by decide +kernel
theorem dL_law_1395 : decode cL_law 1395 = .ok (.iadd, 1) := by decide +kernel
theorem dL_law_1396 : decode cL_law 1396 = .ok (.iaload, 1) := by decide +kernel
theorem dL_law_1397 : decode cL_law 1397 = .ok (.aload_n 3, 1) := by decide +kernel
theorem dL_law_1398 : decode cL_law 1398 = .ok (.invokestatic 176, 3) := by decide +kernel
theorem dL_law_1401 : decode cL_law 1401 = .ok (.istore 5, 2) := by decide +kernel
theorem dL_law_1403 : decode cL_law 1403 = .ok (.aload_n 2, 1) := by decide +kernel
theorem dL_law_1404 : decode cL_law 1404 = .ok (.aload_n 0, 1) := by decide +kernel
theorem dL_law_1405 : decode cL_law 1405 = .ok (.iload 4, 2) := by decide +kernel
theorem dL_law_1407 : decode cL_law 1407 = .ok (.iconst 1, 1) := by decide +kernel
theorem dL_law_1408 : decode cL_law 1408 = .ok (.iadd, 1) := by decide +kernel
theorem dL_law_1409 : decode cL_law 1409 = .ok (.iaload, 1) := by decide +kernel
theorem dL_law_1410 : decode cL_law 1410 = .ok (.invokevirtual 178, 3) := by decide +kernel
theorem dL_law_1413 : decode cL_law 1413 = .ok (.istore 6, 2) := by decide +kernel
theorem dL_law_1415 : decode cL_law 1415 = .ok (.aload_n 2, 1) := by decide +kernel
theorem dL_law_1416 : decode cL_law 1416 = .ok (.invokevirtual 112, 3) := by decide +kernel
theorem dL_law_1419 : decode cL_law 1419 = .ok (.iload 5, 2) := by decide +kernel
theorem dL_law_1421 : decode cL_law 1421 = .ok (.if_icmp .eq 5, 3) := by decide +kernel
theorem dL_law_1424 : decode cL_law 1424 = .ok (.iconst 0, 1) := by decide +kernel
theorem dL_law_1425 : decode cL_law 1425 = .ok (.ireturn, 1) := by decide +kernel
theorem dL_law_1426 : decode cL_law 1426 = .ok (.iload 5, 2) := by decide +kernel
theorem dL_law_1428 : decode cL_law 1428 = .ok (.ifCond .ne 15, 3) := by decide +kernel
theorem dL_law_1431 : decode cL_law 1431 = .ok (.aload_n 3, 1) := by decide +kernel
theorem dL_law_1432 : decode cL_law 1432 = .ok (.iconst 0, 1) := by decide +kernel
theorem dL_law_1433 : decode cL_law 1433 = .ok (.laload, 1) := by decide +kernel
theorem dL_law_1434 : decode cL_law 1434 = .ok (.iload 6, 2) := by decide +kernel
theorem dL_law_1436 : decode cL_law 1436 = .ok (.i2l, 1) := by decide +kernel
theorem dL_law_1437 : decode cL_law 1437 = .ok (.lcmp, 1) := by decide +kernel
theorem dL_law_1438 : decode cL_law 1438 = .ok (.ifCond .eq 5, 3) := by decide +kernel
theorem dL_law_1441 : decode cL_law 1441 = .ok (.iconst 0, 1) := by decide +kernel
theorem dL_law_1442 : decode cL_law 1442 = .ok (.ireturn, 1) := by decide +kernel
theorem dL_law_1443 : decode cL_law 1443 = .ok (.goto 446, 3) := by decide +kernel
theorem dL_law_1446 : decode cL_law 1446 = .ok (.aload_n 1, 1) := by decide +kernel
theorem dL_law_1447 : decode cL_law 1447 = .ok (.aload_n 0, 1) := by decide +kernel
theorem dL_law_1448 : decode cL_law 1448 = .ok (.iload 4, 2) := by decide +kernel
theorem dL_law_1450 : decode cL_law 1450 = .ok (.iconst 1, 1) := by decide +kernel
theorem dL_law_1451 : decode cL_law 1451 = .ok (.iadd, 1) := by decide +kernel
theorem dL_law_1452 : decode cL_law 1452 = .ok (.iaload, 1) := by decide +kernel
theorem dL_law_1453 : decode cL_law 1453 = .ok (.aload_n 3, 1) := by decide +kernel
theorem dL_law_1454 : decode cL_law 1454 = .ok (.invokestatic 179, 3) := by decide +kernel
theorem dL_law_1457 : decode cL_law 1457 = .ok (.istore 5, 2) := by decide +kernel
theorem dL_law_1459 : decode cL_law 1459 = .ok (.aload_n 2, 1) := by decide +kernel
theorem dL_law_1460 : decode cL_law 1460 = .ok (.aload_n 0, 1) := by decide +kernel
theorem dL_law_1461 : decode cL_law 1461 = .ok (.iload 4, 2) := by decide +kernel
theorem dL_law_1463 : decode cL_law 1463 = .ok (.iconst 1, 1) := by decide +kernel
theorem dL_law_1464 : decode cL_law 1464 = .ok (.iadd, 1) := by decide +kernel
theorem dL_law_1465 : decode cL_law 1465 = .ok (.iaload, 1) := by decide +kernel
theorem dL_law_1466 : decode cL_law 1466 = .ok (.invokevirtual 181, 3) := by decide +kernel
theorem dL_law_1469 : decode cL_law 1469 = .ok (.istore 6, 2) := by decide +kernel
theorem dL_law_1471 : decode cL_law 1471 = .ok (.aload_n 2, 1) := by decide +kernel
theorem dL_law_1472 : decode cL_law 1472 = .ok (.invokevirtual 112, 3) := by decide +kernel
theorem dL_law_1475 : decode cL_law 1475 = .ok (.iload 5, 2) := by decide +kernel
theorem dL_law_1477 : decode cL_law 1477 = .ok (.if_icmp .eq 5, 3) := by decide +kernel
theorem dL_law_1480 : decode cL_law 1480 = .ok (.iconst 0, 1) := by decide +kernel
theorem dL_law_1481 : decode cL_law 1481 = .ok (.ireturn, 1) := by decide +kernel
theorem dL_law_1482 : decode cL_law 1482 = .ok (.iload 5, 2) := by decide +kernel
theorem dL_law_1484 : decode cL_law 1484 = .ok (.ifCond .ne 15, 3) := by decide +kernel
theorem dL_law_1487 : decode cL_law 1487 = .ok (.aload_n 3, 1) := by decide +kernel
theorem dL_law_1488 : decode cL_law 1488 = .ok (.iconst 0, 1) := by decide +kernel
theorem dL_law_1489 : decode cL_law 1489 = .ok (.laload, 1) := by decide +kernel
theorem dL_law_1490 : decode cL_law 1490 = .ok (.iload 6, 2) := by decide +kernel
theorem dL_law_1492 : decode cL_law 1492 = .ok (.i2l, 1) := by decide +kernel
theorem dL_law_1493 : decode cL_law 1493 = .ok (.lcmp, 1) := by decide +kernel
theorem dL_law_1494 : decode cL_law 1494 = .ok (.ifCond .eq 5, 3) := by decide +kernel
theorem dL_law_1497 : decode cL_law 1497 = .ok (.iconst 0, 1) := by decide +kernel
theorem dL_law_1498 : decode cL_law 1498 = .ok (.ireturn, 1) := by decide +kernel
theorem dL_law_1499 : decode cL_law 1499 = .ok (.goto 390, 3) := by decide +kernel
theorem dL_law_1502 : decode cL_law 1502 = .ok (.aload_n 1, 1) := by decide +kernel
theorem dL_law_1503 : decode cL_law 1503 = .ok (.aload_n 0, 1) := by decide +kernel
theorem dL_law_1504 : decode cL_law 1504 = .ok (.iload 4, 2) := by decide +kernel
theorem dL_law_1506 : decode cL_law 1506 = .ok (.iconst 1, 1) := by decide +kernel
theorem dL_law_1507 : decode cL_law 1507 = .ok (.iadd, 1) := by decide +kernel
theorem dL_law_1508 : decode cL_law 1508 = .ok (.iaload, 1) := by decide +kernel
theorem dL_law_1509 : decode cL_law 1509 = .ok (.aload_n 3, 1) := by decide +kernel
theorem dL_law_1510 : decode cL_law 1510 = .ok (.invokestatic 182, 3) := by decide +kernel
theorem dL_law_1513 : decode cL_law 1513 = .ok (.istore 5, 2) := by decide +kernel
theorem dL_law_1515 : decode cL_law 1515 = .ok (.aload_n 2, 1) := by decide +kernel
theorem dL_law_1516 : decode cL_law 1516 = .ok (.aload_n 0, 1) := by decide +kernel
theorem dL_law_1517 : decode cL_law 1517 = .ok (.iload 4, 2) := by decide +kernel
theorem dL_law_1519 : decode cL_law 1519 = .ok (.iconst 1, 1) := by decide +kernel
theorem dL_law_1520 : decode cL_law 1520 = .ok (.iadd, 1) := by decide +kernel
theorem dL_law_1521 : decode cL_law 1521 = .ok (.iaload, 1) := by decide +kernel
theorem dL_law_1522 : decode cL_law 1522 = .ok (.invokevirtual 184, 3) := by decide +kernel
theorem dL_law_1525 : decode cL_law 1525 = .ok (.istore 6, 2) := by decide +kernel
theorem dL_law_1527 : decode cL_law 1527 = .ok (.aload_n 2, 1) := by decide +kernel
theorem dL_law_1528 : decode cL_law 1528 = .ok (.invokevirtual 112, 3) := by decide +kernel
theorem dL_law_1531 : decode cL_law 1531 = .ok (.iload 5, 2) := by decide +kernel
theorem dL_law_1533 : decode cL_law 1533 = .ok (.if_icmp .eq 5, 3) := by decide +kernel
theorem dL_law_1536 : decode cL_law 1536 = .ok (.iconst 0, 1) := by decide +kernel
theorem dL_law_1537 : decode cL_law 1537 = .ok (.ireturn, 1) := by decide +kernel
theorem dL_law_1538 : decode cL_law 1538 = .ok (.iload 5, 2) := by decide +kernel
theorem dL_law_1540 : decode cL_law 1540 = .ok (.ifCond .ne 15, 3) := by decide +kernel
theorem dL_law_1543 : decode cL_law 1543 = .ok (.aload_n 3, 1) := by decide +kernel
theorem dL_law_1544 : decode cL_law 1544 = .ok (.iconst 0, 1) := by decide +kernel
theorem dL_law_1545 : decode cL_law 1545 = .ok (.laload, 1) := by decide +kernel
theorem dL_law_1546 : decode cL_law 1546 = .ok (.iload 6, 2) := by decide +kernel
theorem dL_law_1548 : decode cL_law 1548 = .ok (.i2l, 1) := by decide +kernel
theorem dL_law_1549 : decode cL_law 1549 = .ok (.lcmp, 1) := by decide +kernel
theorem dL_law_1550 : decode cL_law 1550 = .ok (.ifCond .eq 5, 3) := by decide +kernel
theorem dL_law_1553 : decode cL_law 1553 = .ok (.iconst 0, 1) := by decide +kernel
theorem dL_law_1554 : decode cL_law 1554 = .ok (.ireturn, 1) := by decide +kernel
theorem dL_law_1555 : decode cL_law 1555 = .ok (.goto 334, 3) := by decide +kernel
theorem dL_law_1558 : decode cL_law 1558 = .ok (.aload_n 1, 1) := by decide +kernel
theorem dL_law_1559 : decode cL_law 1559 = .ok (.aload_n 0, 1) := by decide +kernel
theorem dL_law_1560 : decode cL_law 1560 = .ok (.iload 4, 2) := by decide +kernel
theorem dL_law_1562 : decode cL_law 1562 = .ok (.iconst 1, 1) := by decide +kernel
theorem dL_law_1563 : decode cL_law 1563 = .ok (.iadd, 1) := by decide +kernel
theorem dL_law_1564 : decode cL_law 1564 = .ok (.iaload, 1) := by decide +kernel
theorem dL_law_1565 : decode cL_law 1565 = .ok (.aload_n 3, 1) := by decide +kernel
theorem dL_law_1566 : decode cL_law 1566 = .ok (.invokestatic 185, 3) := by decide +kernel
theorem dL_law_1569 : decode cL_law 1569 = .ok (.istore 5, 2) := by decide +kernel
theorem dL_law_1571 : decode cL_law 1571 = .ok (.aload_n 2, 1) := by decide +kernel
theorem dL_law_1572 : decode cL_law 1572 = .ok (.aload_n 0, 1) := by decide +kernel
theorem dL_law_1573 : decode cL_law 1573 = .ok (.iload 4, 2) := by decide +kernel
theorem dL_law_1575 : decode cL_law 1575 = .ok (.iconst 1, 1) := by decide +kernel
theorem dL_law_1576 : decode cL_law 1576 = .ok (.iadd, 1) := by decide +kernel
theorem dL_law_1577 : decode cL_law 1577 = .ok (.iaload, 1) := by decide +kernel
theorem dL_law_1578 : decode cL_law 1578 = .ok (.invokevirtual 187, 3) := by decide +kernel
theorem dL_law_1581 : decode cL_law 1581 = .ok (.istore 6, 2) := by decide +kernel
theorem dL_law_1583 : decode cL_law 1583 = .ok (.aload_n 2, 1) := by decide +kernel
theorem dL_law_1584 : decode cL_law 1584 = .ok (.invokevirtual 112, 3) := by decide +kernel
theorem dL_law_1587 : decode cL_law 1587 = .ok (.iload 5, 2) := by decide +kernel
theorem dL_law_1589 : decode cL_law 1589 = .ok (.if_icmp .eq 5, 3) := by decide +kernel
theorem dL_law_1592 : decode cL_law 1592 = .ok (.iconst 0, 1) := by decide +kernel
theorem dL_law_1593 : decode cL_law 1593 = .ok (.ireturn, 1) := by decide +kernel
theorem dL_law_1594 : decode cL_law 1594 = .ok (.iload 5, 2) := by decide +kernel
theorem dL_law_1596 : decode cL_law 1596 = .ok (.ifCond .ne 15, 3) := by decide +kernel
theorem dL_law_1599 : decode cL_law 1599 = .ok (.aload_n 3, 1) := by decide +kernel
theorem dL_law_1600 : decode cL_law 1600 = .ok (.iconst 0, 1) := by decide +kernel
theorem dL_law_1601 : decode cL_law 1601 = .ok (.laload, 1) := by decide +kernel
theorem dL_law_1602 : decode cL_law 1602 = .ok (.iload 6, 2) := by decide +kernel
theorem dL_law_1604 : decode cL_law 1604 = .ok (.i2l, 1) := by decide +kernel
theorem dL_law_1605 : decode cL_law 1605 = .ok (.lcmp, 1) := by decide +kernel
theorem dL_law_1606 : decode cL_law 1606 = .ok (.ifCond .eq 5, 3) := by decide +kernel
theorem dL_law_1609 : decode cL_law 1609 = .ok (.iconst 0, 1) := by decide +kernel
theorem dL_law_1610 : decode cL_law 1610 = .ok (.ireturn, 1) := by decide +kernel
theorem dL_law_1611 : decode cL_law 1611 = .ok (.goto 278, 3) := by decide +kernel
theorem dL_law_1614 : decode cL_law 1614 = .ok (.aload_n 1, 1) := by decide +kernel
theorem dL_law_1615 : decode cL_law 1615 = .ok (.aload_n 0, 1) := by decide +kernel
theorem dL_law_1616 : decode cL_law 1616 = .ok (.iload 4, 2) := by decide +kernel
theorem dL_law_1618 : decode cL_law 1618 = .ok (.iconst 1, 1) := by decide +kernel
theorem dL_law_1619 : decode cL_law 1619 = .ok (.iadd, 1) := by decide +kernel
theorem dL_law_1620 : decode cL_law 1620 = .ok (.iaload, 1) := by decide +kernel
theorem dL_law_1621 : decode cL_law 1621 = .ok (.aload_n 0, 1) := by decide +kernel
theorem dL_law_1622 : decode cL_law 1622 = .ok (.iload 4, 2) := by decide +kernel
theorem dL_law_1624 : decode cL_law 1624 = .ok (.iconst 2, 1) := by decide +kernel
theorem dL_law_1625 : decode cL_law 1625 = .ok (.iadd, 1) := by decide +kernel
theorem dL_law_1626 : decode cL_law 1626 = .ok (.iaload, 1) := by decide +kernel
theorem dL_law_1627 : decode cL_law 1627 = .ok (.aload_n 3, 1) := by decide +kernel
theorem dL_law_1628 : decode cL_law 1628 = .ok (.invokestatic 188, 3) := by decide +kernel
theorem dL_law_1631 : decode cL_law 1631 = .ok (.istore 5, 2) := by decide +kernel
theorem dL_law_1633 : decode cL_law 1633 = .ok (.aload_n 2, 1) := by decide +kernel
theorem dL_law_1634 : decode cL_law 1634 = .ok (.aload_n 0, 1) := by decide +kernel
theorem dL_law_1635 : decode cL_law 1635 = .ok (.iload 4, 2) := by decide +kernel
theorem dL_law_1637 : decode cL_law 1637 = .ok (.iconst 1, 1) := by decide +kernel
theorem dL_law_1638 : decode cL_law 1638 = .ok (.iadd, 1) := by decide +kernel
theorem dL_law_1639 : decode cL_law 1639 = .ok (.iaload, 1) := by decide +kernel
theorem dL_law_1640 : decode cL_law 1640 = .ok (.aload_n 0, 1) := by decide +kernel
theorem dL_law_1641 : decode cL_law 1641 = .ok (.iload 4, 2) := by decide +kernel
theorem dL_law_1643 : decode cL_law 1643 = .ok (.iconst 2, 1) := by decide +kernel
theorem dL_law_1644 : decode cL_law 1644 = .ok (.iadd, 1) := by decide +kernel
theorem dL_law_1645 : decode cL_law 1645 = .ok (.iaload, 1) := by decide +kernel
theorem dL_law_1646 : decode cL_law 1646 = .ok (.invokevirtual 190, 3) := by decide +kernel
theorem dL_law_1649 : decode cL_law 1649 = .ok (.istore 6, 2) := by decide +kernel
theorem dL_law_1651 : decode cL_law 1651 = .ok (.aload_n 2, 1) := by decide +kernel
theorem dL_law_1652 : decode cL_law 1652 = .ok (.invokevirtual 112, 3) := by decide +kernel
theorem dL_law_1655 : decode cL_law 1655 = .ok (.iload 5, 2) := by decide +kernel
theorem dL_law_1657 : decode cL_law 1657 = .ok (.if_icmp .eq 5, 3) := by decide +kernel
theorem dL_law_1660 : decode cL_law 1660 = .ok (.iconst 0, 1) := by decide +kernel
theorem dL_law_1661 : decode cL_law 1661 = .ok (.ireturn, 1) := by decide +kernel
theorem dL_law_1662 : decode cL_law 1662 = .ok (.iload 5, 2) := by decide +kernel
theorem dL_law_1664 : decode cL_law 1664 = .ok (.ifCond .ne 15, 3) := by decide +kernel
theorem dL_law_1667 : decode cL_law 1667 = .ok (.aload_n 3, 1) := by decide +kernel
theorem dL_law_1668 : decode cL_law 1668 = .ok (.iconst 0, 1) := by decide +kernel
theorem dL_law_1669 : decode cL_law 1669 = .ok (.laload, 1) := by decide +kernel
theorem dL_law_1670 : decode cL_law 1670 = .ok (.iload 6, 2) := by decide +kernel
theorem dL_law_1672 : decode cL_law 1672 = .ok (.i2l, 1) := by decide +kernel
theorem dL_law_1673 : decode cL_law 1673 = .ok (.lcmp, 1) := by decide +kernel
theorem dL_law_1674 : decode cL_law 1674 = .ok (.ifCond .eq 5, 3) := by decide +kernel
theorem dL_law_1677 : decode cL_law 1677 = .ok (.iconst 0, 1) := by decide +kernel
theorem dL_law_1678 : decode cL_law 1678 = .ok (.ireturn, 1) := by decide +kernel
theorem dL_law_1679 : decode cL_law 1679 = .ok (.goto 210, 3) := by decide +kernel
theorem dL_law_1682 : decode cL_law 1682 = .ok (.aload_n 1, 1) := by decide +kernel
theorem dL_law_1683 : decode cL_law 1683 = .ok (.invokevirtual 191, 3) := by decide +kernel
theorem dL_law_1686 : decode cL_law 1686 = .ok (.aload_n 2, 1) := by decide +kernel
theorem dL_law_1687 : decode cL_law 1687 = .ok (.invokevirtual 194, 3) := by decide +kernel
theorem dL_law_1690 : decode cL_law 1690 = .ok (.if_icmp .eq 199, 3) := by decide +kernel
theorem dL_law_1693 : decode cL_law 1693 = .ok (.iconst 0, 1) := by decide +kernel
theorem dL_law_1694 : decode cL_law 1694 = .ok (.ireturn, 1) := by decide +kernel
theorem dL_law_1695 : decode cL_law 1695 = .ok (.aload_n 1, 1) := by decide +kernel
theorem dL_law_1696 : decode cL_law 1696 = .ok (.aload_n 0, 1) := by decide +kernel
theorem dL_law_1697 : decode cL_law 1697 = .ok (.iload 4, 2) := by decide +kernel
theorem dL_law_1699 : decode cL_law 1699 = .ok (.iconst 1, 1) := by decide +kernel
theorem dL_law_1700 : decode cL_law 1700 = .ok (.iadd, 1) := by decide +kernel
theorem dL_law_1701 : decode cL_law 1701 = .ok (.iaload, 1) := by decide +kernel
theorem dL_law_1702 : decode cL_law 1702 = .ok (.aload_n 3, 1) := by decide +kernel
theorem dL_law_1703 : decode cL_law 1703 = .ok (.invokestatic 195, 3) := by decide +kernel
theorem dL_law_1706 : decode cL_law 1706 = .ok (.istore 5, 2) := by decide +kernel
theorem dL_law_1708 : decode cL_law 1708 = .ok (.aload_n 2, 1) := by decide +kernel
theorem dL_law_1709 : decode cL_law 1709 = .ok (.aload_n 0, 1) := by decide +kernel
theorem dL_law_1710 : decode cL_law 1710 = .ok (.iload 4, 2) := by decide +kernel
theorem dL_law_1712 : decode cL_law 1712 = .ok (.iconst 1, 1) := by decide +kernel
theorem dL_law_1713 : decode cL_law 1713 = .ok (.iadd, 1) := by decide +kernel
theorem dL_law_1714 : decode cL_law 1714 = .ok (.iaload, 1) := by decide +kernel
theorem dL_law_1715 : decode cL_law 1715 = .ok (.invokevirtual 197, 3) := by decide +kernel
theorem dL_law_1718 : decode cL_law 1718 = .ok (.istore 6, 2) := by decide +kernel
theorem dL_law_1720 : decode cL_law 1720 = .ok (.aload_n 2, 1) := by decide +kernel
theorem dL_law_1721 : decode cL_law 1721 = .ok (.invokevirtual 112, 3) := by decide +kernel
theorem dL_law_1724 : decode cL_law 1724 = .ok (.iload 5, 2) := by decide +kernel
theorem dL_law_1726 : decode cL_law 1726 = .ok (.if_icmp .eq 5, 3) := by decide +kernel
theorem dL_law_1729 : decode cL_law 1729 = .ok (.iconst 0, 1) := by decide +kernel
theorem dL_law_1730 : decode cL_law 1730 = .ok (.ireturn, 1) := by decide +kernel
theorem dL_law_1731 : decode cL_law 1731 = .ok (.iload 5, 2) := by decide +kernel
theorem dL_law_1733 : decode cL_law 1733 = .ok (.ifCond .ne 15, 3) := by decide +kernel
theorem dL_law_1736 : decode cL_law 1736 = .ok (.aload_n 3, 1) := by decide +kernel
theorem dL_law_1737 : decode cL_law 1737 = .ok (.iconst 0, 1) := by decide +kernel
theorem dL_law_1738 : decode cL_law 1738 = .ok (.laload, 1) := by decide +kernel
theorem dL_law_1739 : decode cL_law 1739 = .ok (.iload 6, 2) := by decide +kernel
theorem dL_law_1741 : decode cL_law 1741 = .ok (.i2l, 1) := by decide +kernel
theorem dL_law_1742 : decode cL_law 1742 = .ok (.lcmp, 1) := by decide +kernel
theorem dL_law_1743 : decode cL_law 1743 = .ok (.ifCond .eq 5, 3) := by decide +kernel
theorem dL_law_1746 : decode cL_law 1746 = .ok (.iconst 0, 1) := by decide +kernel
theorem dL_law_1747 : decode cL_law 1747 = .ok (.ireturn, 1) := by decide +kernel
theorem dL_law_1748 : decode cL_law 1748 = .ok (.goto 141, 3) := by decide +kernel
theorem dL_law_1751 : decode cL_law 1751 = .ok (.aload_n 1, 1) := by decide +kernel
theorem dL_law_1752 : decode cL_law 1752 = .ok (.aload_n 3, 1) := by decide +kernel
theorem dL_law_1753 : decode cL_law 1753 = .ok (.invokestatic 198, 3) := by decide +kernel
theorem dL_law_1756 : decode cL_law 1756 = .ok (.istore 5, 2) := by decide +kernel
theorem dL_law_1758 : decode cL_law 1758 = .ok (.aload_n 2, 1) := by decide +kernel
theorem dL_law_1759 : decode cL_law 1759 = .ok (.invokevirtual 201, 3) := by decide +kernel
theorem dL_law_1762 : decode cL_law 1762 = .ok (.istore 6, 2) := by decide +kernel
theorem dL_law_1764 : decode cL_law 1764 = .ok (.aload_n 2, 1) := by decide +kernel
theorem dL_law_1765 : decode cL_law 1765 = .ok (.invokevirtual 112, 3) := by decide +kernel
theorem dL_law_1768 : decode cL_law 1768 = .ok (.iload 5, 2) := by decide +kernel
theorem dL_law_1770 : decode cL_law 1770 = .ok (.if_icmp .eq 5, 3) := by decide +kernel
theorem dL_law_1773 : decode cL_law 1773 = .ok (.iconst 0, 1) := by decide +kernel
theorem dL_law_1774 : decode cL_law 1774 = .ok (.ireturn, 1) := by decide +kernel
theorem dL_law_1775 : decode cL_law 1775 = .ok (.iload 5, 2) := by decide +kernel
theorem dL_law_1777 : decode cL_law 1777 = .ok (.ifCond .ne 15, 3) := by decide +kernel
theorem dL_law_1780 : decode cL_law 1780 = .ok (.aload_n 3, 1) := by decide +kernel
theorem dL_law_1781 : decode cL_law 1781 = .ok (.iconst 0, 1) := by decide +kernel
theorem dL_law_1782 : decode cL_law 1782 = .ok (.laload, 1) := by decide +kernel
theorem dL_law_1783 : decode cL_law 1783 = .ok (.iload 6, 2) := by decide +kernel
theorem dL_law_1785 : decode cL_law 1785 = .ok (.i2l, 1) := by decide +kernel
theorem dL_law_1786 : decode cL_law 1786 = .ok (.lcmp, 1) := by decide +kernel
theorem dL_law_1787 : decode cL_law 1787 = .ok (.ifCond .eq 5, 3) := by decide +kernel
theorem dL_law_1790 : decode cL_law 1790 = .ok (.iconst 0, 1) := by decide +kernel
theorem dL_law_1791 : decode cL_law 1791 = .ok (.ireturn, 1) := by decide +kernel
theorem dL_law_1792 : decode cL_law 1792 = .ok (.goto 97, 3) := by decide +kernel
theorem dL_law_1795 : decode cL_law 1795 = .ok (.aload_n 1, 1) := by decide +kernel
theorem dL_law_1796 : decode cL_law 1796 = .ok (.invokevirtual 202, 3) := by decide +kernel
theorem dL_law_1799 : decode cL_law 1799 = .ok (.aload_n 2, 1) := by decide +kernel
theorem dL_law_1800 : decode cL_law 1800 = .ok (.invokevirtual 205, 3) := by decide +kernel
theorem dL_law_1803 : decode cL_law 1803 = .ok (.if_icmp .eq 86, 3) := by decide +kernel
theorem dL_law_1806 : decode cL_law 1806 = .ok (.iconst 0, 1) := by decide +kernel
theorem dL_law_1807 : decode cL_law 1807 = .ok (.ireturn, 1) := by decide +kernel
theorem dL_law_1808 : decode cL_law 1808 = .ok (.aload_n 1, 1) := by decide +kernel
theorem dL_law_1809 : decode cL_law 1809 = .ok (.aload_n 0, 1) := by decide +kernel
theorem dL_law_1810 : decode cL_law 1810 = .ok (.iload 4, 2) := by decide +kernel
theorem dL_law_1812 : decode cL_law 1812 = .ok (.iconst 1, 1) := by decide +kernel
theorem dL_law_1813 : decode cL_law 1813 = .ok (.iadd, 1) := by decide +kernel
theorem dL_law_1814 : decode cL_law 1814 = .ok (.iaload, 1) := by decide +kernel
theorem dL_law_1815 : decode cL_law 1815 = .ok (.aload_n 0, 1) := by decide +kernel
theorem dL_law_1816 : decode cL_law 1816 = .ok (.iload 4, 2) := by decide +kernel
theorem dL_law_1818 : decode cL_law 1818 = .ok (.iconst 2, 1) := by decide +kernel
theorem dL_law_1819 : decode cL_law 1819 = .ok (.iadd, 1) := by decide +kernel
theorem dL_law_1820 : decode cL_law 1820 = .ok (.iaload, 1) := by decide +kernel
theorem dL_law_1821 : decode cL_law 1821 = .ok (.aload_n 3, 1) := by decide +kernel
theorem dL_law_1822 : decode cL_law 1822 = .ok (.invokestatic 206, 3) := by decide +kernel
theorem dL_law_1825 : decode cL_law 1825 = .ok (.istore 5, 2) := by decide +kernel
theorem dL_law_1827 : decode cL_law 1827 = .ok (.aload_n 2, 1) := by decide +kernel
theorem dL_law_1828 : decode cL_law 1828 = .ok (.aload_n 0, 1) := by decide +kernel
theorem dL_law_1829 : decode cL_law 1829 = .ok (.iload 4, 2) := by decide +kernel
theorem dL_law_1831 : decode cL_law 1831 = .ok (.iconst 1, 1) := by decide +kernel
theorem dL_law_1832 : decode cL_law 1832 = .ok (.iadd, 1) := by decide +kernel
theorem dL_law_1833 : decode cL_law 1833 = .ok (.iaload, 1) := by decide +kernel
theorem dL_law_1834 : decode cL_law 1834 = .ok (.aload_n 0, 1) := by decide +kernel
theorem dL_law_1835 : decode cL_law 1835 = .ok (.iload 4, 2) := by decide +kernel
theorem dL_law_1837 : decode cL_law 1837 = .ok (.iconst 2, 1) := by decide +kernel
theorem dL_law_1838 : decode cL_law 1838 = .ok (.iadd, 1) := by decide +kernel
theorem dL_law_1839 : decode cL_law 1839 = .ok (.iaload, 1) := by decide +kernel
theorem dL_law_1840 : decode cL_law 1840 = .ok (.invokevirtual 208, 3) := by decide +kernel
theorem dL_law_1843 : decode cL_law 1843 = .ok (.istore 6, 2) := by decide +kernel
theorem dL_law_1845 : decode cL_law 1845 = .ok (.aload_n 2, 1) := by decide +kernel
theorem dL_law_1846 : decode cL_law 1846 = .ok (.invokevirtual 112, 3) := by decide +kernel
theorem dL_law_1849 : decode cL_law 1849 = .ok (.iload 5, 2) := by decide +kernel
theorem dL_law_1851 : decode cL_law 1851 = .ok (.if_icmp .eq 5, 3) := by decide +kernel
theorem dL_law_1854 : decode cL_law 1854 = .ok (.iconst 0, 1) := by decide +kernel
theorem dL_law_1855 : decode cL_law 1855 = .ok (.ireturn, 1) := by decide +kernel
theorem dL_law_1856 : decode cL_law 1856 = .ok (.iload 5, 2) := by decide +kernel
theorem dL_law_1858 : decode cL_law 1858 = .ok (.ifCond .ne 15, 3) := by decide +kernel
theorem dL_law_1861 : decode cL_law 1861 = .ok (.aload_n 3, 1) := by decide +kernel
theorem dL_law_1862 : decode cL_law 1862 = .ok (.iconst 0, 1) := by decide +kernel
theorem dL_law_1863 : decode cL_law 1863 = .ok (.laload, 1) := by decide +kernel
theorem dL_law_1864 : decode cL_law 1864 = .ok (.iload 6, 2) := by decide +kernel
theorem dL_law_1866 : decode cL_law 1866 = .ok (.i2l, 1) := by decide +kernel
theorem dL_law_1867 : decode cL_law 1867 = .ok (.lcmp, 1) := by decide +kernel
theorem dL_law_1868 : decode cL_law 1868 = .ok (.ifCond .eq 5, 3) := by decide +kernel
theorem dL_law_1871 : decode cL_law 1871 = .ok (.iconst 0, 1) := by decide +kernel
theorem dL_law_1872 : decode cL_law 1872 = .ok (.ireturn, 1) := by decide +kernel
theorem dL_law_1873 : decode cL_law 1873 = .ok (.goto 16, 3) := by decide +kernel
theorem dL_law_1876 : decode cL_law 1876 = .ok (.aload_n 1, 1) := by decide +kernel
theorem dL_law_1877 : decode cL_law 1877 = .ok (.invokevirtual 209, 3) := by decide +kernel
theorem dL_law_1880 : decode cL_law 1880 = .ok (.aload_n 2, 1) := by decide +kernel
theorem dL_law_1881 : decode cL_law 1881 = .ok (.invokevirtual 212, 3) := by decide +kernel
theorem dL_law_1884 : decode cL_law 1884 = .ok (.if_icmp .eq 5, 3) := by decide +kernel
theorem dL_law_1887 : decode cL_law 1887 = .ok (.iconst 0, 1) := by decide +kernel
theorem dL_law_1888 : decode cL_law 1888 = .ok (.ireturn, 1) := by decide +kernel
theorem dL_law_1889 : decode cL_law 1889 = .ok (.iinc 4 4, 3) := by decide +kernel
theorem dL_law_1892 : decode cL_law 1892 = .ok (.goto (-1869), 3) := by decide +kernel
theorem dL_law_1895 : decode cL_law 1895 = .ok (.iconst 1, 1) := by decide +kernel
theorem dL_law_1896 : decode cL_law 1896 = .ok (.ireturn, 1) := by decide +kernel
