theorem dX0_init_0 : decode cX0_init 0 = .ok (.aload_n 0, 1) := by decide +kernel
theorem dX0_init_1 : decode cX0_init 1 = .ok (.invokespecial 3, 3) := by decide +kernel
theorem dX0_init_4 : decode cX0_init 4 = .ok (.aload_n 0, 1) := by decide +kernel
theorem dX0_init_5 : decode cX0_init 5 = .ok (.iconst 0, 1) := by decide +kernel
theorem dX0_init_6 : decode cX0_init 6 = .ok (.putfield 9, 3) := by decide +kernel
theorem dX0_init_9 : decode cX0_init 9 = .ok (.aload_n 0, 1) := by decide +kernel
theorem dX0_init_10 : decode cX0_init 10 = .ok (.iconst 4, 1) := by decide +kernel
theorem dX0_init_11 : decode cX0_init 11 = .ok (.newarray .int, 2) := by decide +kernel
theorem dX0_init_13 : decode cX0_init 13 = .ok (.putfield 15, 3) := by decide +kernel
theorem dX0_init_16 : decode cX0_init 16 = .ok (.aload_n 0, 1) := by decide +kernel
theorem dX0_init_17 : decode cX0_init 17 = .ok (.iconst 4, 1) := by decide +kernel
theorem dX0_init_18 : decode cX0_init 18 = .ok (.newarray .int, 2) := by decide +kernel
theorem dX0_init_20 : decode cX0_init 20 = .ok (.putfield 19, 3) := by decide +kernel
theorem dX0_init_23 : decode cX0_init 23 = .ok (.aload_n 0, 1) := by decide +kernel
theorem dX0_init_24 : decode cX0_init 24 = .ok (.iconst 4, 1) := by decide +kernel
theorem dX0_init_25 : decode cX0_init 25 = .ok (.newarray .int, 2) := by decide +kernel
theorem dX0_init_27 : decode cX0_init 27 = .ok (.putfield 22, 3) := by decide +kernel
theorem dX0_init_30 : decode cX0_init 30 = .ok (.aload_n 0, 1) := by decide +kernel
theorem dX0_init_31 : decode cX0_init 31 = .ok (.iconst 4, 1) := by decide +kernel
theorem dX0_init_32 : decode cX0_init 32 = .ok (.newarray .int, 2) := by decide +kernel
theorem dX0_init_34 : decode cX0_init 34 = .ok (.putfield 25, 3) := by decide +kernel
theorem dX0_init_37 : decode cX0_init 37 = .ok (.aload_n 0, 1) := by decide +kernel
theorem dX0_init_38 : decode cX0_init 38 = .ok (.iconst 4, 1) := by decide +kernel
theorem dX0_init_39 : decode cX0_init 39 = .ok (.newarray .int, 2) := by decide +kernel
theorem dX0_init_41 : decode cX0_init 41 = .ok (.putfield 28, 3) := by decide +kernel
theorem dX0_init_44 : decode cX0_init 44 = .ok (.aload_n 0, 1) := by decide +kernel
theorem dX0_init_45 : decode cX0_init 45 = .ok (.iconst 4, 1) := by decide +kernel
theorem dX0_init_46 : decode cX0_init 46 = .ok (.newarray .int, 2) := by decide +kernel
theorem dX0_init_48 : decode cX0_init 48 = .ok (.putfield 31, 3) := by decide +kernel
theorem dX0_init_51 : decode cX0_init 51 = .ok (.aload_n 0, 1) := by decide +kernel
theorem dX0_init_52 : decode cX0_init 52 = .ok (.iconst 4, 1) := by decide +kernel
theorem dX0_init_53 : decode cX0_init 53 = .ok (.newarray .int, 2) := by decide +kernel
theorem dX0_init_55 : decode cX0_init 55 = .ok (.putfield 34, 3) := by decide +kernel
theorem dX0_init_58 : decode cX0_init 58 = .ok (.return_, 1) := by decide +kernel
theorem dX0_add_0 : decode cX0_add 0 = .ok (.aload_n 0, 1) := by decide +kernel
theorem dX0_add_1 : decode cX0_add 1 = .ok (.getfield 9, 3) := by decide +kernel
theorem dX0_add_4 : decode cX0_add 4 = .ok (.istore_n 3, 1) := by decide +kernel
theorem dX0_add_5 : decode cX0_add 5 = .ok (.aload_n 0, 1) := by decide +kernel
theorem dX0_add_6 : decode cX0_add 6 = .ok (.getfield 15, 3) := by decide +kernel
theorem dX0_add_9 : decode cX0_add 9 = .ok (.iload_n 3, 1) := by decide +kernel
theorem dX0_add_10 : decode cX0_add 10 = .ok (.iload_n 1, 1) := by decide +kernel
theorem dX0_add_11 : decode cX0_add 11 = .ok (.iastore, 1) := by decide +kernel
theorem dX0_add_12 : decode cX0_add 12 = .ok (.aload_n 0, 1) := by decide +kernel
theorem dX0_add_13 : decode cX0_add 13 = .ok (.getfield 19, 3) := by decide +kernel
theorem dX0_add_16 : decode cX0_add 16 = .ok (.iload_n 3, 1) := by decide +kernel
theorem dX0_add_17 : decode cX0_add 17 = .ok (.iload_n 2, 1) := by decide +kernel
theorem dX0_add_18 : decode cX0_add 18 = .ok (.iastore, 1) := by decide +kernel
theorem dX0_add_19 : decode cX0_add 19 = .ok (.aload_n 0, 1) := by decide +kernel
theorem dX0_add_20 : decode cX0_add 20 = .ok (.getfield 28, 3) := by decide +kernel
theorem dX0_add_23 : decode cX0_add 23 = .ok (.iload_n 3, 1) := by decide +kernel
theorem dX0_add_24 : decode cX0_add 24 = .ok (.iconst (-1), 1) := by decide +kernel
theorem dX0_add_25 : decode cX0_add 25 = .ok (.iastore, 1) := by decide +kernel
theorem dX0_add_26 : decode cX0_add 26 = .ok (.aload_n 0, 1) := by decide +kernel
theorem dX0_add_27 : decode cX0_add 27 = .ok (.dup, 1) := by decide +kernel
theorem dX0_add_28 : decode cX0_add 28 = .ok (.getfield 9, 3) := by decide +kernel
theorem dX0_add_31 : decode cX0_add 31 = .ok (.iconst 1, 1) := by decide +kernel
theorem dX0_add_32 : decode cX0_add 32 = .ok (.iadd, 1) := by decide +kernel
theorem dX0_add_33 : decode cX0_add 33 = .ok (.putfield 9, 3) := by decide +kernel
theorem dX0_add_36 : decode cX0_add 36 = .ok (.iload_n 3, 1) := by decide +kernel
theorem dX0_add_37 : decode cX0_add 37 = .ok (.ireturn, 1) := by decide +kernel
theorem dX0_fact_0 : decode cX0_fact 0 = .ok (.iload_n 2, 1) := by decide +kernel
theorem dX0_fact_1 : decode cX0_fact 1 = .ok (.tableswitch 81 0 5 #[39, 46, 53, 60, 67, 74], 39) := by decide +kernel
theorem dX0_fact_40 : decode cX0_fact 40 = .ok (.aload_n 0, 1) := by decide +kernel
theorem dX0_fact_41 : decode cX0_fact 41 = .ok (.getfield 15, 3) := by decide +kernel
theorem dX0_fact_44 : decode cX0_fact 44 = .ok (.iload_n 1, 1) := by decide +kernel
theorem dX0_fact_45 : decode cX0_fact 45 = .ok (.iaload, 1) := by decide +kernel
theorem dX0_fact_46 : decode cX0_fact 46 = .ok (.ireturn, 1) := by decide +kernel
theorem dX0_fact_47 : decode cX0_fact 47 = .ok (.aload_n 0, 1) := by decide +kernel
theorem dX0_fact_48 : decode cX0_fact 48 = .ok (.getfield 19, 3) := by decide +kernel
theorem dX0_fact_51 : decode cX0_fact 51 = .ok (.iload_n 1, 1) := by decide +kernel
theorem dX0_fact_52 : decode cX0_fact 52 = .ok (.iaload, 1) := by decide +kernel
theorem dX0_fact_53 : decode cX0_fact 53 = .ok (.ireturn, 1) := by decide +kernel
theorem dX0_fact_54 : decode cX0_fact 54 = .ok (.aload_n 0, 1) := by decide +kernel
theorem dX0_fact_55 : decode cX0_fact 55 = .ok (.getfield 22, 3) := by decide +kernel
theorem dX0_fact_58 : decode cX0_fact 58 = .ok (.iload_n 1, 1) := by decide +kernel
theorem dX0_fact_59 : decode cX0_fact 59 = .ok (.iaload, 1) := by decide +kernel
theorem dX0_fact_60 : decode cX0_fact 60 = .ok (.ireturn, 1) := by decide +kernel
theorem dX0_fact_61 : decode cX0_fact 61 = .ok (.aload_n 0, 1) := by decide +kernel
theorem dX0_fact_62 : decode cX0_fact 62 = .ok (.getfield 25, 3) := by decide +kernel
theorem dX0_fact_65 : decode cX0_fact 65 = .ok (.iload_n 1, 1) := by decide +kernel
theorem dX0_fact_66 : decode cX0_fact 66 = .ok (.iaload, 1) := by decide +kernel
theorem dX0_fact_67 : decode cX0_fact 67 = .ok (.ireturn, 1) := by decide +kernel
theorem dX0_fact_68 : decode cX0_fact 68 = .ok (.aload_n 0, 1) := by decide +kernel
theorem dX0_fact_69 : decode cX0_fact 69 = .ok (.getfield 28, 3) := by decide +kernel
theorem dX0_fact_72 : decode cX0_fact 72 = .ok (.iload_n 1, 1) := by decide +kernel
theorem dX0_fact_73 : decode cX0_fact 73 = .ok (.iaload, 1) := by decide +kernel
theorem dX0_fact_74 : decode cX0_fact 74 = .ok (.ireturn, 1) := by decide +kernel
theorem dX0_fact_75 : decode cX0_fact 75 = .ok (.aload_n 0, 1) := by decide +kernel
theorem dX0_fact_76 : decode cX0_fact 76 = .ok (.getfield 31, 3) := by decide +kernel
theorem dX0_fact_79 : decode cX0_fact 79 = .ok (.iload_n 1, 1) := by decide +kernel
theorem dX0_fact_80 : decode cX0_fact 80 = .ok (.iaload, 1) := by decide +kernel
theorem dX0_fact_81 : decode cX0_fact 81 = .ok (.ireturn, 1) := by decide +kernel
theorem dX0_fact_82 : decode cX0_fact 82 = .ok (.aload_n 0, 1) := by decide +kernel
theorem dX0_fact_83 : decode cX0_fact 83 = .ok (.getfield 34, 3) := by decide +kernel
theorem dX0_fact_86 : decode cX0_fact 86 = .ok (.iload_n 1, 1) := by decide +kernel
theorem dX0_fact_87 : decode cX0_fact 87 = .ok (.iaload, 1) := by decide +kernel
theorem dX0_fact_88 : decode cX0_fact 88 = .ok (.ireturn, 1) := by decide +kernel
theorem dX0_minutesNeeded_0 : decode cX0_minutesNeeded 0 = .ok (.aload_n 0, 1) := by decide +kernel
theorem dX0_minutesNeeded_1 : decode cX0_minutesNeeded 1 = .ok (.getfield 15, 3) := by decide +kernel
theorem dX0_minutesNeeded_4 : decode cX0_minutesNeeded 4 = .ok (.iload_n 1, 1) := by decide +kernel
theorem dX0_minutesNeeded_5 : decode cX0_minutesNeeded 5 = .ok (.iaload, 1) := by decide +kernel
theorem dX0_minutesNeeded_6 : decode cX0_minutesNeeded 6 = .ok (.aload_n 0, 1) := by decide +kernel
theorem dX0_minutesNeeded_7 : decode cX0_minutesNeeded 7 = .ok (.getfield 22, 3) := by decide +kernel
theorem dX0_minutesNeeded_10 : decode cX0_minutesNeeded 10 = .ok (.iload_n 1, 1) := by decide +kernel
theorem dX0_minutesNeeded_11 : decode cX0_minutesNeeded 11 = .ok (.iaload, 1) := by decide +kernel
theorem dX0_minutesNeeded_12 : decode cX0_minutesNeeded 12 = .ok (.iconst 5, 1) := by decide +kernel
theorem dX0_minutesNeeded_13 : decode cX0_minutesNeeded 13 = .ok (.idiv, 1) := by decide +kernel
theorem dX0_minutesNeeded_14 : decode cX0_minutesNeeded 14 = .ok (.iadd, 1) := by decide +kernel
theorem dX0_minutesNeeded_15 : decode cX0_minutesNeeded 15 = .ok (.iconst 2, 1) := by decide +kernel
theorem dX0_minutesNeeded_16 : decode cX0_minutesNeeded 16 = .ok (.aload_n 0, 1) := by decide +kernel
theorem dX0_minutesNeeded_17 : decode cX0_minutesNeeded 17 = .ok (.getfield 25, 3) := by decide +kernel
theorem dX0_minutesNeeded_20 : decode cX0_minutesNeeded 20 = .ok (.iload_n 1, 1) := by decide +kernel
theorem dX0_minutesNeeded_21 : decode cX0_minutesNeeded 21 = .ok (.iaload, 1) := by decide +kernel
theorem dX0_minutesNeeded_22 : decode cX0_minutesNeeded 22 = .ok (.imul, 1) := by decide +kernel
theorem dX0_minutesNeeded_23 : decode cX0_minutesNeeded 23 = .ok (.isub, 1) := by decide +kernel
theorem dX0_minutesNeeded_24 : decode cX0_minutesNeeded 24 = .ok (.istore_n 2, 1) := by decide +kernel
theorem dX0_minutesNeeded_25 : decode cX0_minutesNeeded 25 = .ok (.iload_n 2, 1) := by decide +kernel
theorem dX0_minutesNeeded_26 : decode cX0_minutesNeeded 26 = .ok (.iconst 1, 1) := by decide +kernel
theorem dX0_minutesNeeded_27 : decode cX0_minutesNeeded 27 = .ok (.if_icmp .ge 7, 3) := by decide +kernel
theorem dX0_minutesNeeded_30 : decode cX0_minutesNeeded 30 = .ok (.iconst 1, 1) := by decide +kernel
theorem dX0_minutesNeeded_31 : decode cX0_minutesNeeded 31 = .ok (.goto 4, 3) := by decide +kernel
theorem dX0_minutesNeeded_34 : decode cX0_minutesNeeded 34 = .ok (.iload_n 2, 1) := by decide +kernel
theorem dX0_minutesNeeded_35 : decode cX0_minutesNeeded 35 = .ok (.ireturn, 1) := by decide +kernel
set_option maxRecDepth 20000 in
theorem ggX0_takeUp_X0_minutesNeeded : GoodIn wsX0_takeUp wsX0_minutesNeeded := goodIn_r _ [7, 8, 9, 10, 11, 12, 13, 14, 15, 16, 17, 18] (by decide +kernel) (by decide +kernel)
set_option maxRecDepth 20000 in
theorem gX0_takeUp_X0_minutesNeeded : GoodIn wsX0_takeUp (wsV RX0 37 RX0 yX0_minutesNeeded wsX0_minutesNeeded) := goodIn_app (goodIn_of _ (by decide +kernel)) ggX0_takeUp_X0_minutesNeeded
theorem dX0_takeUp_0 : decode cX0_takeUp 0 = .ok (.aload_n 0, 1) := by decide +kernel
theorem dX0_takeUp_1 : decode cX0_takeUp 1 = .ok (.getfield 28, 3) := by decide +kernel
theorem dX0_takeUp_4 : decode cX0_takeUp 4 = .ok (.iload_n 1, 1) := by decide +kernel
theorem dX0_takeUp_5 : decode cX0_takeUp 5 = .ok (.iload_n 2, 1) := by decide +kernel
theorem dX0_takeUp_6 : decode cX0_takeUp 6 = .ok (.iastore, 1) := by decide +kernel
theorem dX0_takeUp_7 : decode cX0_takeUp 7 = .ok (.aload_n 0, 1) := by decide +kernel
theorem dX0_takeUp_8 : decode cX0_takeUp 8 = .ok (.getfield 31, 3) := by decide +kernel
theorem dX0_takeUp_11 : decode cX0_takeUp 11 = .ok (.iload_n 1, 1) := by decide +kernel
theorem dX0_takeUp_12 : decode cX0_takeUp 12 = .ok (.aload_n 0, 1) := by decide +kernel
theorem dX0_takeUp_13 : decode cX0_takeUp 13 = .ok (.iload_n 1, 1) := by decide +kernel
theorem dX0_takeUp_14 : decode cX0_takeUp 14 = .ok (.invokevirtual 37, 3) := by decide +kernel
theorem dX0_takeUp_17 : decode cX0_takeUp 17 = .ok (.iastore, 1) := by decide +kernel
theorem dX0_takeUp_18 : decode cX0_takeUp 18 = .ok (.return_, 1) := by decide +kernel
theorem dX0_freeHands_0 : decode cX0_freeHands 0 = .ok (.aload_n 0, 1) := by decide +kernel
theorem dX0_freeHands_1 : decode cX0_freeHands 1 = .ok (.getfield 28, 3) := by decide +kernel
theorem dX0_freeHands_4 : decode cX0_freeHands 4 = .ok (.iload_n 1, 1) := by decide +kernel
theorem dX0_freeHands_5 : decode cX0_freeHands 5 = .ok (.iconst (-1), 1) := by decide +kernel
theorem dX0_freeHands_6 : decode cX0_freeHands 6 = .ok (.iastore, 1) := by decide +kernel
theorem dX0_freeHands_7 : decode cX0_freeHands 7 = .ok (.aload_n 0, 1) := by decide +kernel
theorem dX0_freeHands_8 : decode cX0_freeHands 8 = .ok (.getfield 31, 3) := by decide +kernel
theorem dX0_freeHands_11 : decode cX0_freeHands 11 = .ok (.iload_n 1, 1) := by decide +kernel
theorem dX0_freeHands_12 : decode cX0_freeHands 12 = .ok (.iconst 0, 1) := by decide +kernel
theorem dX0_freeHands_13 : decode cX0_freeHands 13 = .ok (.iastore, 1) := by decide +kernel
theorem dX0_freeHands_14 : decode cX0_freeHands 14 = .ok (.return_, 1) := by decide +kernel
theorem dX0_spillTea_0 : decode cX0_spillTea 0 = .ok (.iconst 0, 1) := by decide +kernel
theorem dX0_spillTea_1 : decode cX0_spillTea 1 = .ok (.istore_n 1, 1) := by decide +kernel
theorem dX0_spillTea_2 : decode cX0_spillTea 2 = .ok (.iload_n 1, 1) := by decide +kernel
theorem dX0_spillTea_3 : decode cX0_spillTea 3 = .ok (.aload_n 0, 1) := by decide +kernel
theorem dX0_spillTea_4 : decode cX0_spillTea 4 = .ok (.getfield 9, 3) := by decide +kernel
theorem dX0_spillTea_7 : decode cX0_spillTea 7 = .ok (.if_icmp .ge 16, 3) := by decide +kernel
theorem dX0_spillTea_10 : decode cX0_spillTea 10 = .ok (.aload_n 0, 1) := by decide +kernel
theorem dX0_spillTea_11 : decode cX0_spillTea 11 = .ok (.getfield 25, 3) := by decide +kernel
theorem dX0_spillTea_14 : decode cX0_spillTea 14 = .ok (.iload_n 1, 1) := by decide +kernel
theorem dX0_spillTea_15 : decode cX0_spillTea 15 = .ok (.iconst 0, 1) := by decide +kernel
theorem dX0_spillTea_16 : decode cX0_spillTea 16 = .ok (.iastore, 1) := by decide +kernel
theorem dX0_spillTea_17 : decode cX0_spillTea 17 = .ok (.iinc 1 1, 3) := by decide +kernel
theorem dX0_spillTea_20 : decode cX0_spillTea 20 = .ok (.goto (-18), 3) := by decide +kernel
theorem dX0_spillTea_23 : decode cX0_spillTea 23 = .ok (.return_, 1) := by decide +kernel
theorem dX0_tireAll_0 : decode cX0_tireAll 0 = .ok (.iconst 0, 1) := by decide +kernel
theorem dX0_tireAll_1 : decode cX0_tireAll 1 = .ok (.istore_n 2, 1) := by decide +kernel
theorem dX0_tireAll_2 : decode cX0_tireAll 2 = .ok (.iload_n 2, 1) := by decide +kernel
theorem dX0_tireAll_3 : decode cX0_tireAll 3 = .ok (.aload_n 0, 1) := by decide +kernel
theorem dX0_tireAll_4 : decode cX0_tireAll 4 = .ok (.getfield 9, 3) := by decide +kernel
theorem dX0_tireAll_7 : decode cX0_tireAll 7 = .ok (.if_icmp .ge 19, 3) := by decide +kernel
theorem dX0_tireAll_10 : decode cX0_tireAll 10 = .ok (.aload_n 0, 1) := by decide +kernel
theorem dX0_tireAll_11 : decode cX0_tireAll 11 = .ok (.getfield 22, 3) := by decide +kernel
theorem dX0_tireAll_14 : decode cX0_tireAll 14 = .ok (.iload_n 2, 1) := by decide +kernel
theorem dX0_tireAll_15 : decode cX0_tireAll 15 = .ok (.dup2, 1) := by decide +kernel
theorem dX0_tireAll_16 : decode cX0_tireAll 16 = .ok (.iaload, 1) := by decide +kernel
theorem dX0_tireAll_17 : decode cX0_tireAll 17 = .ok (.iload_n 1, 1) := by decide +kernel
theorem dX0_tireAll_18 : decode cX0_tireAll 18 = .ok (.iadd, 1) := by decide +kernel
theorem dX0_tireAll_19 : decode cX0_tireAll 19 = .ok (.iastore, 1) := by decide +kernel
theorem dX0_tireAll_20 : decode cX0_tireAll 20 = .ok (.iinc 2 1, 3) := by decide +kernel
theorem dX0_tireAll_23 : decode cX0_tireAll 23 = .ok (.goto (-21), 3) := by decide +kernel
theorem dX0_tireAll_26 : decode cX0_tireAll 26 = .ok (.return_, 1) := by decide +kernel
theorem dX0_copyFrom_0 : decode cX0_copyFrom 0 = .ok (.aload_n 0, 1) := by decide +kernel
theorem dX0_copyFrom_1 : decode cX0_copyFrom 1 = .ok (.aload_n 1, 1) := by decide +kernel
theorem dX0_copyFrom_2 : decode cX0_copyFrom 2 = .ok (.getfield 9, 3) := by decide +kernel
theorem dX0_copyFrom_5 : decode cX0_copyFrom 5 = .ok (.putfield 9, 3) := by decide +kernel
theorem dX0_copyFrom_8 : decode cX0_copyFrom 8 = .ok (.aload_n 1, 1) := by decide +kernel
theorem dX0_copyFrom_9 : decode cX0_copyFrom 9 = .ok (.getfield 15, 3) := by decide +kernel
theorem dX0_copyFrom_12 : decode cX0_copyFrom 12 = .ok (.iconst 0, 1) := by decide +kernel
theorem dX0_copyFrom_13 : decode cX0_copyFrom 13 = .ok (.aload_n 0, 1) := by decide +kernel
theorem dX0_copyFrom_14 : decode cX0_copyFrom 14 = .ok (.getfield 15, 3) := by decide +kernel
theorem dX0_copyFrom_17 : decode cX0_copyFrom 17 = .ok (.iconst 0, 1) := by decide +kernel
theorem dX0_copyFrom_18 : decode cX0_copyFrom 18 = .ok (.iconst 4, 1) := by decide +kernel
theorem dX0_copyFrom_19 : decode cX0_copyFrom 19 = .ok (.invokestatic 41, 3) := by decide +kernel
theorem dX0_copyFrom_22 : decode cX0_copyFrom 22 = .ok (.aload_n 1, 1) := by decide +kernel
theorem dX0_copyFrom_23 : decode cX0_copyFrom 23 = .ok (.getfield 19, 3) := by decide +kernel
theorem dX0_copyFrom_26 : decode cX0_copyFrom 26 = .ok (.iconst 0, 1) := by decide +kernel
theorem dX0_copyFrom_27 : decode cX0_copyFrom 27 = .ok (.aload_n 0, 1) := by decide +kernel
theorem dX0_copyFrom_28 : decode cX0_copyFrom 28 = .ok (.getfield 19, 3) := by decide +kernel
theorem dX0_copyFrom_31 : decode cX0_copyFrom 31 = .ok (.iconst 0, 1) := by decide +kernel
theorem dX0_copyFrom_32 : decode cX0_copyFrom 32 = .ok (.iconst 4, 1) := by decide +kernel
theorem dX0_copyFrom_33 : decode cX0_copyFrom 33 = .ok (.invokestatic 41, 3) := by decide +kernel
theorem dX0_copyFrom_36 : decode cX0_copyFrom 36 = .ok (.aload_n 1, 1) := by decide +kernel
theorem dX0_copyFrom_37 : decode cX0_copyFrom 37 = .ok (.getfield 22, 3) := by decide +kernel
theorem dX0_copyFrom_40 : decode cX0_copyFrom 40 = .ok (.iconst 0, 1) := by decide +kernel
theorem dX0_copyFrom_41 : decode cX0_copyFrom 41 = .ok (.aload_n 0, 1) := by decide +kernel
theorem dX0_copyFrom_42 : decode cX0_copyFrom 42 = .ok (.getfield 22, 3) := by decide +kernel
theorem dX0_copyFrom_45 : decode cX0_copyFrom 45 = .ok (.iconst 0, 1) := by decide +kernel
theorem dX0_copyFrom_46 : decode cX0_copyFrom 46 = .ok (.iconst 4, 1) := by decide +kernel
theorem dX0_copyFrom_47 : decode cX0_copyFrom 47 = .ok (.invokestatic 41, 3) := by decide +kernel
theorem dX0_copyFrom_50 : decode cX0_copyFrom 50 = .ok (.aload_n 1, 1) := by decide +kernel
theorem dX0_copyFrom_51 : decode cX0_copyFrom 51 = .ok (.getfield 25, 3) := by decide +kernel
theorem dX0_copyFrom_54 : decode cX0_copyFrom 54 = .ok (.iconst 0, 1) := by decide +kernel
theorem dX0_copyFrom_55 : decode cX0_copyFrom 55 = .ok (.aload_n 0, 1) := by decide +kernel
theorem dX0_copyFrom_56 : decode cX0_copyFrom 56 = .ok (.getfield 25, 3) := by decide +kernel
theorem dX0_copyFrom_59 : decode cX0_copyFrom 59 = .ok (.iconst 0, 1) := by decide +kernel
theorem dX0_copyFrom_60 : decode cX0_copyFrom 60 = .ok (.iconst 4, 1) := by decide +kernel
theorem dX0_copyFrom_61 : decode cX0_copyFrom 61 = .ok (.invokestatic 41, 3) := by decide +kernel
theorem dX0_copyFrom_64 : decode cX0_copyFrom 64 = .ok (.aload_n 1, 1) := by decide +kernel
theorem dX0_copyFrom_65 : decode cX0_copyFrom 65 = .ok (.getfield 28, 3) := by decide +kernel
theorem dX0_copyFrom_68 : decode cX0_copyFrom 68 = .ok (.iconst 0, 1) := by decide +kernel
theorem dX0_copyFrom_69 : decode cX0_copyFrom 69 = .ok (.aload_n 0, 1) := by decide +kernel
theorem dX0_copyFrom_70 : decode cX0_copyFrom 70 = .ok (.getfield 28, 3) := by decide +kernel
theorem dX0_copyFrom_73 : decode cX0_copyFrom 73 = .ok (.iconst 0, 1) := by decide +kernel
theorem dX0_copyFrom_74 : decode cX0_copyFrom 74 = .ok (.iconst 4, 1) := by decide +kernel
theorem dX0_copyFrom_75 : decode cX0_copyFrom 75 = .ok (.invokestatic 41, 3) := by decide +kernel
theorem dX0_copyFrom_78 : decode cX0_copyFrom 78 = .ok (.aload_n 1, 1) := by decide +kernel
theorem dX0_copyFrom_79 : decode cX0_copyFrom 79 = .ok (.getfield 31, 3) := by decide +kernel
theorem dX0_copyFrom_82 : decode cX0_copyFrom 82 = .ok (.iconst 0, 1) := by decide +kernel
theorem dX0_copyFrom_83 : decode cX0_copyFrom 83 = .ok (.aload_n 0, 1) := by decide +kernel
theorem dX0_copyFrom_84 : decode cX0_copyFrom 84 = .ok (.getfield 31, 3) := by decide +kernel
theorem dX0_copyFrom_87 : decode cX0_copyFrom 87 = .ok (.iconst 0, 1) := by decide +kernel
theorem dX0_copyFrom_88 : decode cX0_copyFrom 88 = .ok (.iconst 4, 1) := by decide +kernel
theorem dX0_copyFrom_89 : decode cX0_copyFrom 89 = .ok (.invokestatic 41, 3) := by decide +kernel
theorem dX0_copyFrom_92 : decode cX0_copyFrom 92 = .ok (.aload_n 1, 1) := by decide +kernel
theorem dX0_copyFrom_93 : decode cX0_copyFrom 93 = .ok (.getfield 34, 3) := by decide +kernel
theorem dX0_copyFrom_96 : decode cX0_copyFrom 96 = .ok (.iconst 0, 1) := by decide +kernel
theorem dX0_copyFrom_97 : decode cX0_copyFrom 97 = .ok (.aload_n 0, 1) := by decide +kernel
theorem dX0_copyFrom_98 : decode cX0_copyFrom 98 = .ok (.getfield 34, 3) := by decide +kernel
theorem dX0_copyFrom_101 : decode cX0_copyFrom 101 = .ok (.iconst 0, 1) := by decide +kernel
theorem dX0_copyFrom_102 : decode cX0_copyFrom 102 = .ok (.iconst 4, 1) := by decide +kernel
theorem dX0_copyFrom_103 : decode cX0_copyFrom 103 = .ok (.invokestatic 41, 3) := by decide +kernel
theorem dX0_copyFrom_106 : decode cX0_copyFrom 106 = .ok (.return_, 1) := by decide +kernel
theorem dX1_init_0 : decode cX1_init 0 = .ok (.aload_n 0, 1) := by decide +kernel
theorem dX1_init_1 : decode cX1_init 1 = .ok (.invokespecial 3, 3) := by decide +kernel
theorem dX1_init_4 : decode cX1_init 4 = .ok (.aload_n 0, 1) := by decide +kernel
theorem dX1_init_5 : decode cX1_init 5 = .ok (.bipush 8, 2) := by decide +kernel
theorem dX1_init_7 : decode cX1_init 7 = .ok (.newarray .int, 2) := by decide +kernel
theorem dX1_init_9 : decode cX1_init 9 = .ok (.putfield 9, 3) := by decide +kernel
theorem dX1_init_12 : decode cX1_init 12 = .ok (.aload_n 0, 1) := by decide +kernel
theorem dX1_init_13 : decode cX1_init 13 = .ok (.bipush 8, 2) := by decide +kernel
theorem dX1_init_15 : decode cX1_init 15 = .ok (.newarray .int, 2) := by decide +kernel
theorem dX1_init_17 : decode cX1_init 17 = .ok (.putfield 15, 3) := by decide +kernel
theorem dX1_init_20 : decode cX1_init 20 = .ok (.iconst 0, 1) := by decide +kernel
theorem dX1_init_21 : decode cX1_init 21 = .ok (.istore_n 1, 1) := by decide +kernel
theorem dX1_init_22 : decode cX1_init 22 = .ok (.iload_n 1, 1) := by decide +kernel
theorem dX1_init_23 : decode cX1_init 23 = .ok (.bipush 8, 2) := by decide +kernel
theorem dX1_init_25 : decode cX1_init 25 = .ok (.if_icmp .ge 22, 3) := by decide +kernel
theorem dX1_init_28 : decode cX1_init 28 = .ok (.aload_n 0, 1) := by decide +kernel
theorem dX1_init_29 : decode cX1_init 29 = .ok (.getfield 9, 3) := by decide +kernel
theorem dX1_init_32 : decode cX1_init 32 = .ok (.iload_n 1, 1) := by decide +kernel
theorem dX1_init_33 : decode cX1_init 33 = .ok (.bipush 20, 2) := by decide +kernel
theorem dX1_init_35 : decode cX1_init 35 = .ok (.iload_n 1, 1) := by decide +kernel
theorem dX1_init_36 : decode cX1_init 36 = .ok (.imul, 1) := by decide +kernel
theorem dX1_init_37 : decode cX1_init 37 = .ok (.bipush 20, 2) := by decide +kernel
theorem dX1_init_39 : decode cX1_init 39 = .ok (.iadd, 1) := by decide +kernel
theorem dX1_init_40 : decode cX1_init 40 = .ok (.iastore, 1) := by decide +kernel
theorem dX1_init_41 : decode cX1_init 41 = .ok (.iinc 1 1, 3) := by decide +kernel
theorem dX1_init_44 : decode cX1_init 44 = .ok (.goto (-22), 3) := by decide +kernel
theorem dX1_init_47 : decode cX1_init 47 = .ok (.return_, 1) := by decide +kernel
theorem dX1_wouldRise_0 : decode cX1_wouldRise 0 = .ok (.iload_n 1, 1) := by decide +kernel
theorem dX1_wouldRise_1 : decode cX1_wouldRise 1 = .ok (.ifCond .eq 15, 3) := by decide +kernel
theorem dX1_wouldRise_4 : decode cX1_wouldRise 4 = .ok (.iload_n 2, 1) := by decide +kernel
theorem dX1_wouldRise_5 : decode cX1_wouldRise 5 = .ok (.aload_n 0, 1) := by decide +kernel
theorem dX1_wouldRise_6 : decode cX1_wouldRise 6 = .ok (.getfield 9, 3) := by decide +kernel
theorem dX1_wouldRise_9 : decode cX1_wouldRise 9 = .ok (.iload_n 1, 1) := by decide +kernel
theorem dX1_wouldRise_10 : decode cX1_wouldRise 10 = .ok (.iconst 1, 1) := by decide +kernel
theorem dX1_wouldRise_11 : decode cX1_wouldRise 11 = .ok (.isub, 1) := by decide +kernel
theorem dX1_wouldRise_12 : decode cX1_wouldRise 12 = .ok (.iaload, 1) := by decide +kernel
theorem dX1_wouldRise_13 : decode cX1_wouldRise 13 = .ok (.if_icmp .le 7, 3) := by decide +kernel
theorem dX1_wouldRise_16 : decode cX1_wouldRise 16 = .ok (.iconst 1, 1) := by decide +kernel
theorem dX1_wouldRise_17 : decode cX1_wouldRise 17 = .ok (.goto 4, 3) := by decide +kernel
theorem dX1_wouldRise_20 : decode cX1_wouldRise 20 = .ok (.iconst 0, 1) := by decide +kernel
theorem dX1_wouldRise_21 : decode cX1_wouldRise 21 = .ok (.istore_n 3, 1) := by decide +kernel
theorem dX1_wouldRise_22 : decode cX1_wouldRise 22 = .ok (.iload_n 1, 1) := by decide +kernel
theorem dX1_wouldRise_23 : decode cX1_wouldRise 23 = .ok (.bipush 7, 2) := by decide +kernel
theorem dX1_wouldRise_25 : decode cX1_wouldRise 25 = .ok (.if_icmp .eq 15, 3) := by decide +kernel
theorem dX1_wouldRise_28 : decode cX1_wouldRise 28 = .ok (.iload_n 2, 1) := by decide +kernel
theorem dX1_wouldRise_29 : decode cX1_wouldRise 29 = .ok (.aload_n 0, 1) := by decide +kernel
theorem dX1_wouldRise_30 : decode cX1_wouldRise 30 = .ok (.getfield 9, 3) := by decide +kernel
theorem dX1_wouldRise_33 : decode cX1_wouldRise 33 = .ok (.iload_n 1, 1) := by decide +kernel
theorem dX1_wouldRise_34 : decode cX1_wouldRise 34 = .ok (.iconst 1, 1) := by decide +kernel
theorem dX1_wouldRise_35 : decode cX1_wouldRise 35 = .ok (.iadd, 1) := by decide +kernel
theorem dX1_wouldRise_36 : decode cX1_wouldRise 36 = .ok (.iaload, 1) := by decide +kernel
theorem dX1_wouldRise_37 : decode cX1_wouldRise 37 = .ok (.if_icmp .ge 7, 3) := by decide +kernel
theorem dX1_wouldRise_40 : decode cX1_wouldRise 40 = .ok (.iconst 1, 1) := by decide +kernel
theorem dX1_wouldRise_41 : decode cX1_wouldRise 41 = .ok (.goto 4, 3) := by decide +kernel
theorem dX1_wouldRise_44 : decode cX1_wouldRise 44 = .ok (.iconst 0, 1) := by decide +kernel
theorem dX1_wouldRise_45 : decode cX1_wouldRise 45 = .ok (.istore 4, 2) := by decide +kernel
theorem dX1_wouldRise_47 : decode cX1_wouldRise 47 = .ok (.iload_n 3, 1) := by decide +kernel
theorem dX1_wouldRise_48 : decode cX1_wouldRise 48 = .ok (.ifCond .eq 12, 3) := by decide +kernel
theorem dX1_wouldRise_51 : decode cX1_wouldRise 51 = .ok (.iload 4, 2) := by decide +kernel
theorem dX1_wouldRise_53 : decode cX1_wouldRise 53 = .ok (.ifCond .eq 7, 3) := by decide +kernel
theorem dX1_wouldRise_56 : decode cX1_wouldRise 56 = .ok (.iconst 1, 1) := by decide +kernel
theorem dX1_wouldRise_57 : decode cX1_wouldRise 57 = .ok (.goto 4, 3) := by decide +kernel
theorem dX1_wouldRise_60 : decode cX1_wouldRise 60 = .ok (.iconst 0, 1) := by decide +kernel
theorem dX1_wouldRise_61 : decode cX1_wouldRise 61 = .ok (.ireturn, 1) := by decide +kernel
theorem dX1_passedIn_0 : decode cX1_passedIn 0 = .ok (.iconst 0, 1) := by decide +kernel
theorem dX1_passedIn_1 : decode cX1_passedIn 1 = .ok (.istore_n 2, 1) := by decide +kernel
theorem dX1_passedIn_2 : decode cX1_passedIn 2 = .ok (.iload_n 2, 1) := by decide +kernel
theorem dX1_passedIn_3 : decode cX1_passedIn 3 = .ok (.bipush 8, 2) := by decide +kernel
theorem dX1_passedIn_5 : decode cX1_passedIn 5 = .ok (.if_icmp .ge 21, 3) := by decide +kernel
theorem dX1_passedIn_8 : decode cX1_passedIn 8 = .ok (.aload_n 0, 1) := by decide +kernel
theorem dX1_passedIn_9 : decode cX1_passedIn 9 = .ok (.getfield 9, 3) := by decide +kernel
theorem dX1_passedIn_12 : decode cX1_passedIn 12 = .ok (.iload_n 2, 1) := by decide +kernel
theorem dX1_passedIn_13 : decode cX1_passedIn 13 = .ok (.iaload, 1) := by decide +kernel
theorem dX1_passedIn_14 : decode cX1_passedIn 14 = .ok (.iload_n 1, 1) := by decide +kernel
theorem dX1_passedIn_15 : decode cX1_passedIn 15 = .ok (.if_icmp .ne 5, 3) := by decide +kernel
theorem dX1_passedIn_18 : decode cX1_passedIn 18 = .ok (.iload_n 2, 1) := by decide +kernel
theorem dX1_passedIn_19 : decode cX1_passedIn 19 = .ok (.ireturn, 1) := by decide +kernel
theorem dX1_passedIn_20 : decode cX1_passedIn 20 = .ok (.iinc 2 1, 3) := by decide +kernel
theorem dX1_passedIn_23 : decode cX1_passedIn 23 = .ok (.goto (-21), 3) := by decide +kernel
theorem dX1_passedIn_26 : decode cX1_passedIn 26 = .ok (.iconst (-1), 1) := by decide +kernel
theorem dX1_passedIn_27 : decode cX1_passedIn 27 = .ok (.ireturn, 1) := by decide +kernel
theorem dX1_nextFrom_0 : decode cX1_nextFrom 0 = .ok (.iconst 0, 1) := by decide +kernel
theorem dX1_nextFrom_1 : decode cX1_nextFrom 1 = .ok (.istore_n 2, 1) := by decide +kernel
theorem dX1_nextFrom_2 : decode cX1_nextFrom 2 = .ok (.iload_n 2, 1) := by decide +kernel
theorem dX1_nextFrom_3 : decode cX1_nextFrom 3 = .ok (.bipush 8, 2) := by decide +kernel
theorem dX1_nextFrom_5 : decode cX1_nextFrom 5 = .ok (.if_icmp .ge 21, 3) := by decide +kernel
theorem dX1_nextFrom_8 : decode cX1_nextFrom 8 = .ok (.aload_n 0, 1) := by decide +kernel
theorem dX1_nextFrom_9 : decode cX1_nextFrom 9 = .ok (.getfield 9, 3) := by decide +kernel
theorem dX1_nextFrom_12 : decode cX1_nextFrom 12 = .ok (.iload_n 2, 1) := by decide +kernel
theorem dX1_nextFrom_13 : decode cX1_nextFrom 13 = .ok (.iaload, 1) := by decide +kernel
theorem dX1_nextFrom_14 : decode cX1_nextFrom 14 = .ok (.iload_n 1, 1) := by decide +kernel
theorem dX1_nextFrom_15 : decode cX1_nextFrom 15 = .ok (.if_icmp .lt 5, 3) := by decide +kernel
theorem dX1_nextFrom_18 : decode cX1_nextFrom 18 = .ok (.iload_n 2, 1) := by decide +kernel
theorem dX1_nextFrom_19 : decode cX1_nextFrom 19 = .ok (.ireturn, 1) := by decide +kernel
theorem dX1_nextFrom_20 : decode cX1_nextFrom 20 = .ok (.iinc 2 1, 3) := by decide +kernel
theorem dX1_nextFrom_23 : decode cX1_nextFrom 23 = .ok (.goto (-21), 3) := by decide +kernel
theorem dX1_nextFrom_26 : decode cX1_nextFrom 26 = .ok (.bipush 8, 2) := by decide +kernel
theorem dX1_nextFrom_28 : decode cX1_nextFrom 28 = .ok (.ireturn, 1) := by decide +kernel
theorem dX2_init_0 : decode cX2_init 0 = .ok (.aload_n 0, 1) := by decide +kernel
theorem dX2_init_1 : decode cX2_init 1 = .ok (.invokespecial 3, 3) := by decide +kernel
theorem dX2_init_4 : decode cX2_init 4 = .ok (.aload_n 0, 1) := by decide +kernel
theorem dX2_init_5 : decode cX2_init 5 = .ok (.iconst 0, 1) := by decide +kernel
theorem dX2_init_6 : decode cX2_init 6 = .ok (.putfield 9, 3) := by decide +kernel
theorem dX2_init_9 : decode cX2_init 9 = .ok (.aload_n 0, 1) := by decide +kernel
theorem dX2_init_10 : decode cX2_init 10 = .ok (.bipush 60, 2) := by decide +kernel
theorem dX2_init_12 : decode cX2_init 12 = .ok (.newarray .int, 2) := by decide +kernel
theorem dX2_init_14 : decode cX2_init 14 = .ok (.putfield 15, 3) := by decide +kernel
theorem dX2_init_17 : decode cX2_init 17 = .ok (.aload_n 0, 1) := by decide +kernel
theorem dX2_init_18 : decode cX2_init 18 = .ok (.bipush 60, 2) := by decide +kernel
theorem dX2_init_20 : decode cX2_init 20 = .ok (.newarray .int, 2) := by decide +kernel
theorem dX2_init_22 : decode cX2_init 22 = .ok (.putfield 19, 3) := by decide +kernel
theorem dX2_init_25 : decode cX2_init 25 = .ok (.aload_n 0, 1) := by decide +kernel
theorem dX2_init_26 : decode cX2_init 26 = .ok (.bipush 60, 2) := by decide +kernel
theorem dX2_init_28 : decode cX2_init 28 = .ok (.newarray .int, 2) := by decide +kernel
theorem dX2_init_30 : decode cX2_init 30 = .ok (.putfield 22, 3) := by decide +kernel
theorem dX2_init_33 : decode cX2_init 33 = .ok (.aload_n 0, 1) := by decide +kernel
theorem dX2_init_34 : decode cX2_init 34 = .ok (.bipush 60, 2) := by decide +kernel
theorem dX2_init_36 : decode cX2_init 36 = .ok (.newarray .int, 2) := by decide +kernel
theorem dX2_init_38 : decode cX2_init 38 = .ok (.putfield 25, 3) := by decide +kernel
theorem dX2_init_41 : decode cX2_init 41 = .ok (.aload_n 0, 1) := by decide +kernel
theorem dX2_init_42 : decode cX2_init 42 = .ok (.bipush 60, 2) := by decide +kernel
theorem dX2_init_44 : decode cX2_init 44 = .ok (.newarray .int, 2) := by decide +kernel
theorem dX2_init_46 : decode cX2_init 46 = .ok (.putfield 28, 3) := by decide +kernel
theorem dX2_init_49 : decode cX2_init 49 = .ok (.aload_n 0, 1) := by decide +kernel
theorem dX2_init_50 : decode cX2_init 50 = .ok (.bipush 6, 2) := by decide +kernel
theorem dX2_init_52 : decode cX2_init 52 = .ok (.newarray .int, 2) := by decide +kernel
theorem dX2_init_54 : decode cX2_init 54 = .ok (.putfield 31, 3) := by decide +kernel
theorem dX2_init_57 : decode cX2_init 57 = .ok (.aload_n 0, 1) := by decide +kernel
theorem dX2_init_58 : decode cX2_init 58 = .ok (.bipush 16, 2) := by decide +kernel
theorem dX2_init_60 : decode cX2_init 60 = .ok (.newarray .int, 2) := by decide +kernel
theorem dX2_init_62 : decode cX2_init 62 = .ok (.putfield 34, 3) := by decide +kernel
theorem dX2_init_65 : decode cX2_init 65 = .ok (.return_, 1) := by decide +kernel
theorem dX2_addToBag_0 : decode cX2_addToBag 0 = .ok (.aload_n 0, 1) := by decide +kernel
theorem dX2_addToBag_1 : decode cX2_addToBag 1 = .ok (.getfield 9, 3) := by decide +kernel
theorem dX2_addToBag_4 : decode cX2_addToBag 4 = .ok (.istore_n 3, 1) := by decide +kernel
theorem dX2_addToBag_5 : decode cX2_addToBag 5 = .ok (.aload_n 0, 1) := by decide +kernel
theorem dX2_addToBag_6 : decode cX2_addToBag 6 = .ok (.getfield 15, 3) := by decide +kernel
theorem dX2_addToBag_9 : decode cX2_addToBag 9 = .ok (.iload_n 3, 1) := by decide +kernel
theorem dX2_addToBag_10 : decode cX2_addToBag 10 = .ok (.iload_n 2, 1) := by decide +kernel
theorem dX2_addToBag_11 : decode cX2_addToBag 11 = .ok (.iastore, 1) := by decide +kernel
theorem dX2_addToBag_12 : decode cX2_addToBag 12 = .ok (.aload_n 0, 1) := by decide +kernel
theorem dX2_addToBag_13 : decode cX2_addToBag 13 = .ok (.getfield 19, 3) := by decide +kernel
theorem dX2_addToBag_16 : decode cX2_addToBag 16 = .ok (.iload_n 3, 1) := by decide +kernel
theorem dX2_addToBag_17 : decode cX2_addToBag 17 = .ok (.iload_n 1, 1) := by decide +kernel
theorem dX2_addToBag_18 : decode cX2_addToBag 18 = .ok (.iastore, 1) := by decide +kernel
theorem dX2_addToBag_19 : decode cX2_addToBag 19 = .ok (.aload_n 0, 1) := by decide +kernel
theorem dX2_addToBag_20 : decode cX2_addToBag 20 = .ok (.getfield 22, 3) := by decide +kernel
theorem dX2_addToBag_23 : decode cX2_addToBag 23 = .ok (.iload_n 3, 1) := by decide +kernel
theorem dX2_addToBag_24 : decode cX2_addToBag 24 = .ok (.iconst 0, 1) := by decide +kernel
theorem dX2_addToBag_25 : decode cX2_addToBag 25 = .ok (.iastore, 1) := by decide +kernel
theorem dX2_addToBag_26 : decode cX2_addToBag 26 = .ok (.aload_n 0, 1) := by decide +kernel
theorem dX2_addToBag_27 : decode cX2_addToBag 27 = .ok (.getfield 25, 3) := by decide +kernel
theorem dX2_addToBag_30 : decode cX2_addToBag 30 = .ok (.iload_n 3, 1) := by decide +kernel
theorem dX2_addToBag_31 : decode cX2_addToBag 31 = .ok (.iconst (-1), 1) := by decide +kernel
theorem dX2_addToBag_32 : decode cX2_addToBag 32 = .ok (.iastore, 1) := by decide +kernel
theorem dX2_addToBag_33 : decode cX2_addToBag 33 = .ok (.aload_n 0, 1) := by decide +kernel
theorem dX2_addToBag_34 : decode cX2_addToBag 34 = .ok (.getfield 28, 3) := by decide +kernel
theorem dX2_addToBag_37 : decode cX2_addToBag 37 = .ok (.iload_n 3, 1) := by decide +kernel
theorem dX2_addToBag_38 : decode cX2_addToBag 38 = .ok (.iconst (-1), 1) := by decide +kernel
theorem dX2_addToBag_39 : decode cX2_addToBag 39 = .ok (.iastore, 1) := by decide +kernel
theorem dX2_addToBag_40 : decode cX2_addToBag 40 = .ok (.aload_n 0, 1) := by decide +kernel
theorem dX2_addToBag_41 : decode cX2_addToBag 41 = .ok (.getfield 31, 3) := by decide +kernel
theorem dX2_addToBag_44 : decode cX2_addToBag 44 = .ok (.iconst 0, 1) := by decide +kernel
theorem dX2_addToBag_45 : decode cX2_addToBag 45 = .ok (.dup2, 1) := by decide +kernel
theorem dX2_addToBag_46 : decode cX2_addToBag 46 = .ok (.iaload, 1) := by decide +kernel
theorem dX2_addToBag_47 : decode cX2_addToBag 47 = .ok (.iconst 1, 1) := by decide +kernel
theorem dX2_addToBag_48 : decode cX2_addToBag 48 = .ok (.iadd, 1) := by decide +kernel
theorem dX2_addToBag_49 : decode cX2_addToBag 49 = .ok (.iastore, 1) := by decide +kernel
theorem dX2_addToBag_50 : decode cX2_addToBag 50 = .ok (.aload_n 0, 1) := by decide +kernel
theorem dX2_addToBag_51 : decode cX2_addToBag 51 = .ok (.dup, 1) := by decide +kernel
theorem dX2_addToBag_52 : decode cX2_addToBag 52 = .ok (.getfield 9, 3) := by decide +kernel
theorem dX2_addToBag_55 : decode cX2_addToBag 55 = .ok (.iconst 1, 1) := by decide +kernel
theorem dX2_addToBag_56 : decode cX2_addToBag 56 = .ok (.iadd, 1) := by decide +kernel
theorem dX2_addToBag_57 : decode cX2_addToBag 57 = .ok (.putfield 9, 3) := by decide +kernel
theorem dX2_addToBag_60 : decode cX2_addToBag 60 = .ok (.iload_n 3, 1) := by decide +kernel
theorem dX2_addToBag_61 : decode cX2_addToBag 61 = .ok (.ireturn, 1) := by decide +kernel
theorem dX2_fact_0 : decode cX2_fact 0 = .ok (.iload_n 2, 1) := by decide +kernel
theorem dX2_fact_1 : decode cX2_fact 1 = .ok (.tableswitch 59 0 3 #[31, 38, 45, 52], 31) := by decide +kernel
theorem dX2_fact_32 : decode cX2_fact 32 = .ok (.aload_n 0, 1) := by decide +kernel
theorem dX2_fact_33 : decode cX2_fact 33 = .ok (.getfield 22, 3) := by decide +kernel
theorem dX2_fact_36 : decode cX2_fact 36 = .ok (.iload_n 1, 1) := by decide +kernel
theorem dX2_fact_37 : decode cX2_fact 37 = .ok (.iaload, 1) := by decide +kernel
theorem dX2_fact_38 : decode cX2_fact 38 = .ok (.ireturn, 1) := by decide +kernel
theorem dX2_fact_39 : decode cX2_fact 39 = .ok (.aload_n 0, 1) := by decide +kernel
theorem dX2_fact_40 : decode cX2_fact 40 = .ok (.getfield 15, 3) := by decide +kernel
theorem dX2_fact_43 : decode cX2_fact 43 = .ok (.iload_n 1, 1) := by decide +kernel
theorem dX2_fact_44 : decode cX2_fact 44 = .ok (.iaload, 1) := by decide +kernel
theorem dX2_fact_45 : decode cX2_fact 45 = .ok (.ireturn, 1) := by decide +kernel
theorem dX2_fact_46 : decode cX2_fact 46 = .ok (.aload_n 0, 1) := by decide +kernel
theorem dX2_fact_47 : decode cX2_fact 47 = .ok (.getfield 19, 3) := by decide +kernel
theorem dX2_fact_50 : decode cX2_fact 50 = .ok (.iload_n 1, 1) := by decide +kernel
theorem dX2_fact_51 : decode cX2_fact 51 = .ok (.iaload, 1) := by decide +kernel
theorem dX2_fact_52 : decode cX2_fact 52 = .ok (.ireturn, 1) := by decide +kernel
theorem dX2_fact_53 : decode cX2_fact 53 = .ok (.aload_n 0, 1) := by decide +kernel
theorem dX2_fact_54 : decode cX2_fact 54 = .ok (.getfield 25, 3) := by decide +kernel
theorem dX2_fact_57 : decode cX2_fact 57 = .ok (.iload_n 1, 1) := by decide +kernel
theorem dX2_fact_58 : decode cX2_fact 58 = .ok (.iaload, 1) := by decide +kernel
theorem dX2_fact_59 : decode cX2_fact 59 = .ok (.ireturn, 1) := by decide +kernel
theorem dX2_fact_60 : decode cX2_fact 60 = .ok (.aload_n 0, 1) := by decide +kernel
theorem dX2_fact_61 : decode cX2_fact 61 = .ok (.getfield 28, 3) := by decide +kernel
theorem dX2_fact_64 : decode cX2_fact 64 = .ok (.iload_n 1, 1) := by decide +kernel
theorem dX2_fact_65 : decode cX2_fact 65 = .ok (.iaload, 1) := by decide +kernel
theorem dX2_fact_66 : decode cX2_fact 66 = .ok (.ireturn, 1) := by decide +kernel
theorem dX2_move_0 : decode cX2_move 0 = .ok (.aload_n 0, 1) := by decide +kernel
theorem dX2_move_1 : decode cX2_move 1 = .ok (.getfield 22, 3) := by decide +kernel
theorem dX2_move_4 : decode cX2_move 4 = .ok (.iload_n 1, 1) := by decide +kernel
theorem dX2_move_5 : decode cX2_move 5 = .ok (.iaload, 1) := by decide +kernel
theorem dX2_move_6 : decode cX2_move 6 = .ok (.istore_n 3, 1) := by decide +kernel
theorem dX2_move_7 : decode cX2_move 7 = .ok (.aload_n 0, 1) := by decide +kernel
theorem dX2_move_8 : decode cX2_move 8 = .ok (.getfield 31, 3) := by decide +kernel
theorem dX2_move_11 : decode cX2_move 11 = .ok (.iload_n 3, 1) := by decide +kernel
theorem dX2_move_12 : decode cX2_move 12 = .ok (.dup2, 1) := by decide +kernel
theorem dX2_move_13 : decode cX2_move 13 = .ok (.iaload, 1) := by decide +kernel
theorem dX2_move_14 : decode cX2_move 14 = .ok (.iconst 1, 1) := by decide +kernel
theorem dX2_move_15 : decode cX2_move 15 = .ok (.isub, 1) := by decide +kernel
theorem dX2_move_16 : decode cX2_move 16 = .ok (.iastore, 1) := by decide +kernel
theorem dX2_move_17 : decode cX2_move 17 = .ok (.aload_n 0, 1) := by decide +kernel
theorem dX2_move_18 : decode cX2_move 18 = .ok (.getfield 31, 3) := by decide +kernel
theorem dX2_move_21 : decode cX2_move 21 = .ok (.iload_n 2, 1) := by decide +kernel
theorem dX2_move_22 : decode cX2_move 22 = .ok (.dup2, 1) := by decide +kernel
theorem dX2_move_23 : decode cX2_move 23 = .ok (.iaload, 1) := by decide +kernel
theorem dX2_move_24 : decode cX2_move 24 = .ok (.iconst 1, 1) := by decide +kernel
theorem dX2_move_25 : decode cX2_move 25 = .ok (.iadd, 1) := by decide +kernel
theorem dX2_move_26 : decode cX2_move 26 = .ok (.iastore, 1) := by decide +kernel
theorem dX2_move_27 : decode cX2_move 27 = .ok (.iload_n 3, 1) := by decide +kernel
theorem dX2_move_28 : decode cX2_move 28 = .ok (.iconst 3, 1) := by decide +kernel
theorem dX2_move_29 : decode cX2_move 29 = .ok (.if_icmp .ne 18, 3) := by decide +kernel
theorem dX2_move_32 : decode cX2_move 32 = .ok (.aload_n 0, 1) := by decide +kernel
theorem dX2_move_33 : decode cX2_move 33 = .ok (.getfield 34, 3) := by decide +kernel
theorem dX2_move_36 : decode cX2_move 36 = .ok (.aload_n 0, 1) := by decide +kernel
theorem dX2_move_37 : decode cX2_move 37 = .ok (.getfield 15, 3) := by decide +kernel
theorem dX2_move_40 : decode cX2_move 40 = .ok (.iload_n 1, 1) := by decide +kernel
theorem dX2_move_41 : decode cX2_move 41 = .ok (.iaload, 1) := by decide +kernel
theorem dX2_move_42 : decode cX2_move 42 = .ok (.dup2, 1) := by decide +kernel
theorem dX2_move_43 : decode cX2_move 43 = .ok (.iaload, 1) := by decide +kernel
theorem dX2_move_44 : decode cX2_move 44 = .ok (.iconst 1, 1) := by decide +kernel
theorem dX2_move_45 : decode cX2_move 45 = .ok (.isub, 1) := by decide +kernel
theorem dX2_move_46 : decode cX2_move 46 = .ok (.iastore, 1) := by decide +kernel
theorem dX2_move_47 : decode cX2_move 47 = .ok (.iload_n 2, 1) := by decide +kernel
theorem dX2_move_48 : decode cX2_move 48 = .ok (.iconst 3, 1) := by decide +kernel
theorem dX2_move_49 : decode cX2_move 49 = .ok (.if_icmp .ne 18, 3) := by decide +kernel
theorem dX2_move_52 : decode cX2_move 52 = .ok (.aload_n 0, 1) := by decide +kernel
theorem dX2_move_53 : decode cX2_move 53 = .ok (.getfield 34, 3) := by decide +kernel
theorem dX2_move_56 : decode cX2_move 56 = .ok (.aload_n 0, 1) := by decide +kernel
theorem dX2_move_57 : decode cX2_move 57 = .ok (.getfield 15, 3) := by decide +kernel
theorem dX2_move_60 : decode cX2_move 60 = .ok (.iload_n 1, 1) := by decide +kernel
theorem dX2_move_61 : decode cX2_move 61 = .ok (.iaload, 1) := by decide +kernel
theorem dX2_move_62 : decode cX2_move 62 = .ok (.dup2, 1) := by decide +kernel
theorem dX2_move_63 : decode cX2_move 63 = .ok (.iaload, 1) := by decide +kernel
theorem dX2_move_64 : decode cX2_move 64 = .ok (.iconst 1, 1) := by decide +kernel
theorem dX2_move_65 : decode cX2_move 65 = .ok (.iadd, 1) := by decide +kernel
theorem dX2_move_66 : decode cX2_move 66 = .ok (.iastore, 1) := by decide +kernel
theorem dX2_move_67 : decode cX2_move 67 = .ok (.aload_n 0, 1) := by decide +kernel
theorem dX2_move_68 : decode cX2_move 68 = .ok (.getfield 25, 3) := by decide +kernel
theorem dX2_move_71 : decode cX2_move 71 = .ok (.iload_n 1, 1) := by decide +kernel
theorem dX2_move_72 : decode cX2_move 72 = .ok (.iconst (-1), 1) := by decide +kernel
theorem dX2_move_73 : decode cX2_move 73 = .ok (.iastore, 1) := by decide +kernel
theorem dX2_move_74 : decode cX2_move 74 = .ok (.aload_n 0, 1) := by decide +kernel
theorem dX2_move_75 : decode cX2_move 75 = .ok (.getfield 22, 3) := by decide +kernel
theorem dX2_move_78 : decode cX2_move 78 = .ok (.iload_n 1, 1) := by decide +kernel
theorem dX2_move_79 : decode cX2_move 79 = .ok (.iload_n 2, 1) := by decide +kernel
theorem dX2_move_80 : decode cX2_move 80 = .ok (.iastore, 1) := by decide +kernel
theorem dX2_move_81 : decode cX2_move 81 = .ok (.return_, 1) := by decide +kernel
set_option maxRecDepth 20000 in
theorem ggX2_moveToHands_X2_move : GoodIn wsX2_moveToHands wsX2_move := goodIn_r _ [6, 7, 8, 9, 10, 1, 11, 12, 13, 14, 15, 16, 17, 18] (by decide +kernel) (by decide +kernel)
set_option maxRecDepth 20000 in
theorem gX2_moveToHands_X2_move : GoodIn wsX2_moveToHands (wsV RX2 37 RX2 yX2_move wsX2_move) := goodIn_app (goodIn_of _ (by decide +kernel)) ggX2_moveToHands_X2_move
theorem dX2_moveToHands_0 : decode cX2_moveToHands 0 = .ok (.aload_n 0, 1) := by decide +kernel
theorem dX2_moveToHands_1 : decode cX2_moveToHands 1 = .ok (.iload_n 1, 1) := by decide +kernel
theorem dX2_moveToHands_2 : decode cX2_moveToHands 2 = .ok (.iconst 2, 1) := by decide +kernel
theorem dX2_moveToHands_3 : decode cX2_moveToHands 3 = .ok (.invokevirtual 37, 3) := by decide +kernel
theorem dX2_moveToHands_6 : decode cX2_moveToHands 6 = .ok (.aload_n 0, 1) := by decide +kernel
theorem dX2_moveToHands_7 : decode cX2_moveToHands 7 = .ok (.getfield 25, 3) := by decide +kernel
theorem dX2_moveToHands_10 : decode cX2_moveToHands 10 = .ok (.iload_n 1, 1) := by decide +kernel
theorem dX2_moveToHands_11 : decode cX2_moveToHands 11 = .ok (.iload_n 2, 1) := by decide +kernel
theorem dX2_moveToHands_12 : decode cX2_moveToHands 12 = .ok (.iastore, 1) := by decide +kernel
theorem dX2_moveToHands_13 : decode cX2_moveToHands 13 = .ok (.return_, 1) := by decide +kernel
set_option maxRecDepth 20000 in
theorem ggX2_end_X2_move : GoodIn wsX2_end wsX2_move := goodIn_r _ [6, 7, 8, 9, 10, 11, 12, 13, 14, 15, 16, 17, 18, 19] (by decide +kernel) (by decide +kernel)
set_option maxRecDepth 20000 in
theorem gX2_end_X2_move : GoodIn wsX2_end (wsV RX2 37 RX2 yX2_move wsX2_move) := goodIn_app (goodIn_of _ (by decide +kernel)) ggX2_end_X2_move
theorem dX2_end_0 : decode cX2_end 0 = .ok (.aload_n 0, 1) := by decide +kernel
theorem dX2_end_1 : decode cX2_end 1 = .ok (.iload_n 1, 1) := by decide +kernel
theorem dX2_end_2 : decode cX2_end 2 = .ok (.iload_n 2, 1) := by decide +kernel
theorem dX2_end_3 : decode cX2_end 3 = .ok (.invokevirtual 37, 3) := by decide +kernel
theorem dX2_end_6 : decode cX2_end 6 = .ok (.aload_n 0, 1) := by decide +kernel
theorem dX2_end_7 : decode cX2_end 7 = .ok (.getfield 28, 3) := by decide +kernel
theorem dX2_end_10 : decode cX2_end 10 = .ok (.iload_n 1, 1) := by decide +kernel
theorem dX2_end_11 : decode cX2_end 11 = .ok (.iload_n 3, 1) := by decide +kernel
theorem dX2_end_12 : decode cX2_end 12 = .ok (.iastore, 1) := by decide +kernel
theorem dX2_end_13 : decode cX2_end 13 = .ok (.return_, 1) := by decide +kernel
set_option maxRecDepth 20000 in
theorem ggX2_firstOnTable_X4_hasTown : GoodIn wsX2_firstOnTable wsX4_hasTown := goodIn_r _ [7] (by decide +kernel) (by decide +kernel)
set_option maxRecDepth 20000 in
theorem gX2_firstOnTable_X4_hasTown_n41 : GoodIn wsX2_firstOnTable (wsX4_hasTown) := ggX2_firstOnTable_X4_hasTown
theorem dX2_firstOnTable_0 : decode cX2_firstOnTable 0 = .ok (.aload_n 0, 1) := by decide +kernel
theorem dX2_firstOnTable_1 : decode cX2_firstOnTable 1 = .ok (.getfield 31, 3) := by decide +kernel
theorem dX2_firstOnTable_4 : decode cX2_firstOnTable 4 = .ok (.iconst 1, 1) := by decide +kernel
theorem dX2_firstOnTable_5 : decode cX2_firstOnTable 5 = .ok (.iaload, 1) := by decide +kernel
theorem dX2_firstOnTable_6 : decode cX2_firstOnTable 6 = .ok (.ifCond .ne 5, 3) := by decide +kernel
theorem dX2_firstOnTable_9 : decode cX2_firstOnTable 9 = .ok (.iconst (-1), 1) := by decide +kernel
theorem dX2_firstOnTable_10 : decode cX2_firstOnTable 10 = .ok (.ireturn, 1) := by decide +kernel
theorem dX2_firstOnTable_11 : decode cX2_firstOnTable 11 = .ok (.iconst 0, 1) := by decide +kernel
theorem dX2_firstOnTable_12 : decode cX2_firstOnTable 12 = .ok (.istore_n 2, 1) := by decide +kernel
theorem dX2_firstOnTable_13 : decode cX2_firstOnTable 13 = .ok (.iload_n 2, 1) := by decide +kernel
theorem dX2_firstOnTable_14 : decode cX2_firstOnTable 14 = .ok (.aload_n 0, 1) := by decide +kernel
theorem dX2_firstOnTable_15 : decode cX2_firstOnTable 15 = .ok (.getfield 9, 3) := by decide +kernel
theorem dX2_firstOnTable_18 : decode cX2_firstOnTable 18 = .ok (.if_icmp .ge 34, 3) := by decide +kernel
theorem dX2_firstOnTable_21 : decode cX2_firstOnTable 21 = .ok (.aload_n 0, 1) := by decide +kernel
theorem dX2_firstOnTable_22 : decode cX2_firstOnTable 22 = .ok (.getfield 22, 3) := by decide +kernel
theorem dX2_firstOnTable_25 : decode cX2_firstOnTable 25 = .ok (.iload_n 2, 1) := by decide +kernel
theorem dX2_firstOnTable_26 : decode cX2_firstOnTable 26 = .ok (.iaload, 1) := by decide +kernel
theorem dX2_firstOnTable_27 : decode cX2_firstOnTable 27 = .ok (.iconst 1, 1) := by decide +kernel
theorem dX2_firstOnTable_28 : decode cX2_firstOnTable 28 = .ok (.if_icmp .ne 18, 3) := by decide +kernel
theorem dX2_firstOnTable_31 : decode cX2_firstOnTable 31 = .ok (.iload_n 1, 1) := by decide +kernel
theorem dX2_firstOnTable_32 : decode cX2_firstOnTable 32 = .ok (.aload_n 0, 1) := by decide +kernel
theorem dX2_firstOnTable_33 : decode cX2_firstOnTable 33 = .ok (.getfield 15, 3) := by decide +kernel
theorem dX2_firstOnTable_36 : decode cX2_firstOnTable 36 = .ok (.iload_n 2, 1) := by decide +kernel
theorem dX2_firstOnTable_37 : decode cX2_firstOnTable 37 = .ok (.iaload, 1) := by decide +kernel
theorem dX2_firstOnTable_38 : decode cX2_firstOnTable 38 = .ok (.invokestatic 41, 3) := by decide +kernel
theorem dX2_firstOnTable_41 : decode cX2_firstOnTable 41 = .ok (.ifCond .eq 5, 3) := by decide +kernel
theorem dX2_firstOnTable_44 : decode cX2_firstOnTable 44 = .ok (.iload_n 2, 1) := by decide +kernel
theorem dX2_firstOnTable_45 : decode cX2_firstOnTable 45 = .ok (.ireturn, 1) := by decide +kernel
theorem dX2_firstOnTable_46 : decode cX2_firstOnTable 46 = .ok (.iinc 2 1, 3) := by decide +kernel
theorem dX2_firstOnTable_49 : decode cX2_firstOnTable 49 = .ok (.goto (-36), 3) := by decide +kernel
theorem dX2_firstOnTable_52 : decode cX2_firstOnTable 52 = .ok (.iconst (-1), 1) := by decide +kernel
theorem dX2_firstOnTable_53 : decode cX2_firstOnTable 53 = .ok (.ireturn, 1) := by decide +kernel
theorem dX2_isInBag_0 : decode cX2_isInBag 0 = .ok (.aload_n 0, 1) := by decide +kernel
theorem dX2_isInBag_1 : decode cX2_isInBag 1 = .ok (.getfield 22, 3) := by decide +kernel
theorem dX2_isInBag_4 : decode cX2_isInBag 4 = .ok (.iload_n 1, 1) := by decide +kernel
theorem dX2_isInBag_5 : decode cX2_isInBag 5 = .ok (.iaload, 1) := by decide +kernel
theorem dX2_isInBag_6 : decode cX2_isInBag 6 = .ok (.ifCond .ne 17, 3) := by decide +kernel
theorem dX2_isInBag_9 : decode cX2_isInBag 9 = .ok (.aload_n 0, 1) := by decide +kernel
theorem dX2_isInBag_10 : decode cX2_isInBag 10 = .ok (.getfield 19, 3) := by decide +kernel
theorem dX2_isInBag_13 : decode cX2_isInBag 13 = .ok (.iload_n 1, 1) := by decide +kernel
theorem dX2_isInBag_14 : decode cX2_isInBag 14 = .ok (.iaload, 1) := by decide +kernel
theorem dX2_isInBag_15 : decode cX2_isInBag 15 = .ok (.iload_n 2, 1) := by decide +kernel
theorem dX2_isInBag_16 : decode cX2_isInBag 16 = .ok (.if_icmp .ne 7, 3) := by decide +kernel
theorem dX2_isInBag_19 : decode cX2_isInBag 19 = .ok (.iconst 1, 1) := by decide +kernel
theorem dX2_isInBag_20 : decode cX2_isInBag 20 = .ok (.goto 4, 3) := by decide +kernel
theorem dX2_isInBag_23 : decode cX2_isInBag 23 = .ok (.iconst 0, 1) := by decide +kernel
theorem dX2_isInBag_24 : decode cX2_isInBag 24 = .ok (.ireturn, 1) := by decide +kernel
set_option maxRecDepth 20000 in
theorem ggX2_lettersInBag_X2_isInBag : GoodIn wsX2_lettersInBag wsX2_isInBag := goodIn_r _ [6, 7, 8, 9, 10, 11, 12, 13, 14, 15, 16] (by decide +kernel) (by decide +kernel)
set_option maxRecDepth 20000 in
theorem gX2_lettersInBag_X2_isInBag : GoodIn wsX2_lettersInBag (wsV RX2 45 RX2 yX2_isInBag wsX2_isInBag) := goodIn_app (goodIn_of _ (by decide +kernel)) ggX2_lettersInBag_X2_isInBag
theorem dX2_lettersInBag_0 : decode cX2_lettersInBag 0 = .ok (.iconst 0, 1) := by decide +kernel
theorem dX2_lettersInBag_1 : decode cX2_lettersInBag 1 = .ok (.istore_n 2, 1) := by decide +kernel
theorem dX2_lettersInBag_2 : decode cX2_lettersInBag 2 = .ok (.iconst 0, 1) := by decide +kernel
theorem dX2_lettersInBag_3 : decode cX2_lettersInBag 3 = .ok (.istore_n 3, 1) := by decide +kernel
theorem dX2_lettersInBag_4 : decode cX2_lettersInBag 4 = .ok (.iload_n 3, 1) := by decide +kernel
theorem dX2_lettersInBag_5 : decode cX2_lettersInBag 5 = .ok (.aload_n 0, 1) := by decide +kernel
theorem dX2_lettersInBag_6 : decode cX2_lettersInBag 6 = .ok (.getfield 9, 3) := by decide +kernel
theorem dX2_lettersInBag_9 : decode cX2_lettersInBag 9 = .ok (.if_icmp .ge 21, 3) := by decide +kernel
theorem dX2_lettersInBag_12 : decode cX2_lettersInBag 12 = .ok (.aload_n 0, 1) := by decide +kernel
theorem dX2_lettersInBag_13 : decode cX2_lettersInBag 13 = .ok (.iload_n 3, 1) := by decide +kernel
theorem dX2_lettersInBag_14 : decode cX2_lettersInBag 14 = .ok (.iload_n 1, 1) := by decide +kernel
theorem dX2_lettersInBag_15 : decode cX2_lettersInBag 15 = .ok (.invokevirtual 45, 3) := by decide +kernel
theorem dX2_lettersInBag_18 : decode cX2_lettersInBag 18 = .ok (.ifCond .eq 6, 3) := by decide +kernel
theorem dX2_lettersInBag_21 : decode cX2_lettersInBag 21 = .ok (.iinc 2 1, 3) := by decide +kernel
theorem dX2_lettersInBag_24 : decode cX2_lettersInBag 24 = .ok (.iinc 3 1, 3) := by decide +kernel
theorem dX2_lettersInBag_27 : decode cX2_lettersInBag 27 = .ok (.goto (-23), 3) := by decide +kernel
theorem dX2_lettersInBag_30 : decode cX2_lettersInBag 30 = .ok (.iload_n 2, 1) := by decide +kernel
theorem dX2_lettersInBag_31 : decode cX2_lettersInBag 31 = .ok (.ireturn, 1) := by decide +kernel
theorem dX2_fullestHole_0 : decode cX2_fullestHole 0 = .ok (.iconst 0, 1) := by decide +kernel
theorem dX2_fullestHole_1 : decode cX2_fullestHole 1 = .ok (.istore_n 1, 1) := by decide +kernel
theorem dX2_fullestHole_2 : decode cX2_fullestHole 2 = .ok (.iconst 1, 1) := by decide +kernel
theorem dX2_fullestHole_3 : decode cX2_fullestHole 3 = .ok (.istore_n 2, 1) := by decide +kernel
theorem dX2_fullestHole_4 : decode cX2_fullestHole 4 = .ok (.iload_n 2, 1) := by decide +kernel
theorem dX2_fullestHole_5 : decode cX2_fullestHole 5 = .ok (.bipush 16, 2) := by decide +kernel
theorem dX2_fullestHole_7 : decode cX2_fullestHole 7 = .ok (.if_icmp .ge 26, 3) := by decide +kernel
theorem dX2_fullestHole_10 : decode cX2_fullestHole 10 = .ok (.aload_n 0, 1) := by decide +kernel
theorem dX2_fullestHole_11 : decode cX2_fullestHole 11 = .ok (.getfield 34, 3) := by decide +kernel
theorem dX2_fullestHole_14 : decode cX2_fullestHole 14 = .ok (.iload_n 2, 1) := by decide +kernel
theorem dX2_fullestHole_15 : decode cX2_fullestHole 15 = .ok (.iaload, 1) := by decide +kernel
theorem dX2_fullestHole_16 : decode cX2_fullestHole 16 = .ok (.aload_n 0, 1) := by decide +kernel
theorem dX2_fullestHole_17 : decode cX2_fullestHole 17 = .ok (.getfield 34, 3) := by decide +kernel
theorem dX2_fullestHole_20 : decode cX2_fullestHole 20 = .ok (.iload_n 1, 1) := by decide +kernel
theorem dX2_fullestHole_21 : decode cX2_fullestHole 21 = .ok (.iaload, 1) := by decide +kernel
theorem dX2_fullestHole_22 : decode cX2_fullestHole 22 = .ok (.if_icmp .le 5, 3) := by decide +kernel
theorem dX2_fullestHole_25 : decode cX2_fullestHole 25 = .ok (.iload_n 2, 1) := by decide +kernel
theorem dX2_fullestHole_26 : decode cX2_fullestHole 26 = .ok (.istore_n 1, 1) := by decide +kernel
theorem dX2_fullestHole_27 : decode cX2_fullestHole 27 = .ok (.iinc 2 1, 3) := by decide +kernel
theorem dX2_fullestHole_30 : decode cX2_fullestHole 30 = .ok (.goto (-26), 3) := by decide +kernel
theorem dX2_fullestHole_33 : decode cX2_fullestHole 33 = .ok (.iload_n 1, 1) := by decide +kernel
theorem dX2_fullestHole_34 : decode cX2_fullestHole 34 = .ok (.ireturn, 1) := by decide +kernel
set_option maxRecDepth 20000 in
theorem ggX2_spillHole_X2_move : GoodIn wsX2_spillHole wsX2_move := goodIn_r _ [8, 2, 9, 10, 3, 11, 12, 13, 14, 15, 16, 17, 18, 19] (by decide +kernel) (by decide +kernel)
set_option maxRecDepth 20000 in
theorem gX2_spillHole_X2_move : GoodIn wsX2_spillHole (wsV RX2 37 RX2 yX2_move wsX2_move) := goodIn_app (goodIn_of _ (by decide +kernel)) ggX2_spillHole_X2_move
theorem dX2_spillHole_0 : decode cX2_spillHole 0 = .ok (.iconst 0, 1) := by decide +kernel
theorem dX2_spillHole_1 : decode cX2_spillHole 1 = .ok (.istore_n 2, 1) := by decide +kernel
theorem dX2_spillHole_2 : decode cX2_spillHole 2 = .ok (.iload_n 2, 1) := by decide +kernel
theorem dX2_spillHole_3 : decode cX2_spillHole 3 = .ok (.aload_n 0, 1) := by decide +kernel
theorem dX2_spillHole_4 : decode cX2_spillHole 4 = .ok (.getfield 9, 3) := by decide +kernel
theorem dX2_spillHole_7 : decode cX2_spillHole 7 = .ok (.if_icmp .ge 35, 3) := by decide +kernel
theorem dX2_spillHole_10 : decode cX2_spillHole 10 = .ok (.aload_n 0, 1) := by decide +kernel
theorem dX2_spillHole_11 : decode cX2_spillHole 11 = .ok (.getfield 22, 3) := by decide +kernel
theorem dX2_spillHole_14 : decode cX2_spillHole 14 = .ok (.iload_n 2, 1) := by decide +kernel
theorem dX2_spillHole_15 : decode cX2_spillHole 15 = .ok (.iaload, 1) := by decide +kernel
theorem dX2_spillHole_16 : decode cX2_spillHole 16 = .ok (.iconst 3, 1) := by decide +kernel
theorem dX2_spillHole_17 : decode cX2_spillHole 17 = .ok (.if_icmp .ne 19, 3) := by decide +kernel
theorem dX2_spillHole_20 : decode cX2_spillHole 20 = .ok (.aload_n 0, 1) := by decide +kernel
theorem dX2_spillHole_21 : decode cX2_spillHole 21 = .ok (.getfield 15, 3) := by decide +kernel
theorem dX2_spillHole_24 : decode cX2_spillHole 24 = .ok (.iload_n 2, 1) := by decide +kernel
theorem dX2_spillHole_25 : decode cX2_spillHole 25 = .ok (.iaload, 1) := by decide +kernel
theorem dX2_spillHole_26 : decode cX2_spillHole 26 = .ok (.iload_n 1, 1) := by decide +kernel
theorem dX2_spillHole_27 : decode cX2_spillHole 27 = .ok (.if_icmp .ne 9, 3) := by decide +kernel
theorem dX2_spillHole_30 : decode cX2_spillHole 30 = .ok (.aload_n 0, 1) := by decide +kernel
theorem dX2_spillHole_31 : decode cX2_spillHole 31 = .ok (.iload_n 2, 1) := by decide +kernel
theorem dX2_spillHole_32 : decode cX2_spillHole 32 = .ok (.iconst 1, 1) := by decide +kernel
theorem dX2_spillHole_33 : decode cX2_spillHole 33 = .ok (.invokevirtual 37, 3) := by decide +kernel
theorem dX2_spillHole_36 : decode cX2_spillHole 36 = .ok (.iinc 2 1, 3) := by decide +kernel
theorem dX2_spillHole_39 : decode cX2_spillHole 39 = .ok (.goto (-37), 3) := by decide +kernel
theorem dX2_spillHole_42 : decode cX2_spillHole 42 = .ok (.return_, 1) := by decide +kernel
theorem dX2_copyFrom_0 : decode cX2_copyFrom 0 = .ok (.aload_n 0, 1) := by decide +kernel
theorem dX2_copyFrom_1 : decode cX2_copyFrom 1 = .ok (.aload_n 1, 1) := by decide +kernel
theorem dX2_copyFrom_2 : decode cX2_copyFrom 2 = .ok (.getfield 9, 3) := by decide +kernel
theorem dX2_copyFrom_5 : decode cX2_copyFrom 5 = .ok (.putfield 9, 3) := by decide +kernel
theorem dX2_copyFrom_8 : decode cX2_copyFrom 8 = .ok (.aload_n 1, 1) := by decide +kernel
theorem dX2_copyFrom_9 : decode cX2_copyFrom 9 = .ok (.getfield 15, 3) := by decide +kernel
theorem dX2_copyFrom_12 : decode cX2_copyFrom 12 = .ok (.iconst 0, 1) := by decide +kernel
theorem dX2_copyFrom_13 : decode cX2_copyFrom 13 = .ok (.aload_n 0, 1) := by decide +kernel
theorem dX2_copyFrom_14 : decode cX2_copyFrom 14 = .ok (.getfield 15, 3) := by decide +kernel
theorem dX2_copyFrom_17 : decode cX2_copyFrom 17 = .ok (.iconst 0, 1) := by decide +kernel
theorem dX2_copyFrom_18 : decode cX2_copyFrom 18 = .ok (.bipush 60, 2) := by decide +kernel
theorem dX2_copyFrom_20 : decode cX2_copyFrom 20 = .ok (.invokestatic 48, 3) := by decide +kernel
theorem dX2_copyFrom_23 : decode cX2_copyFrom 23 = .ok (.aload_n 1, 1) := by decide +kernel
theorem dX2_copyFrom_24 : decode cX2_copyFrom 24 = .ok (.getfield 19, 3) := by decide +kernel
theorem dX2_copyFrom_27 : decode cX2_copyFrom 27 = .ok (.iconst 0, 1) := by decide +kernel
theorem dX2_copyFrom_28 : decode cX2_copyFrom 28 = .ok (.aload_n 0, 1) := by decide +kernel
theorem dX2_copyFrom_29 : decode cX2_copyFrom 29 = .ok (.getfield 19, 3) := by decide +kernel
theorem dX2_copyFrom_32 : decode cX2_copyFrom 32 = .ok (.iconst 0, 1) := by decide +kernel
theorem dX2_copyFrom_33 : decode cX2_copyFrom 33 = .ok (.bipush 60, 2) := by decide +kernel
theorem dX2_copyFrom_35 : decode cX2_copyFrom 35 = .ok (.invokestatic 48, 3) := by decide +kernel
theorem dX2_copyFrom_38 : decode cX2_copyFrom 38 = .ok (.aload_n 1, 1) := by decide +kernel
theorem dX2_copyFrom_39 : decode cX2_copyFrom 39 = .ok (.getfield 22, 3) := by decide +kernel
theorem dX2_copyFrom_42 : decode cX2_copyFrom 42 = .ok (.iconst 0, 1) := by decide +kernel
theorem dX2_copyFrom_43 : decode cX2_copyFrom 43 = .ok (.aload_n 0, 1) := by decide +kernel
theorem dX2_copyFrom_44 : decode cX2_copyFrom 44 = .ok (.getfield 22, 3) := by decide +kernel
theorem dX2_copyFrom_47 : decode cX2_copyFrom 47 = .ok (.iconst 0, 1) := by decide +kernel
theorem dX2_copyFrom_48 : decode cX2_copyFrom 48 = .ok (.bipush 60, 2) := by decide +kernel
theorem dX2_copyFrom_50 : decode cX2_copyFrom 50 = .ok (.invokestatic 48, 3) := by decide +kernel
theorem dX2_copyFrom_53 : decode cX2_copyFrom 53 = .ok (.aload_n 1, 1) := by decide +kernel
theorem dX2_copyFrom_54 : decode cX2_copyFrom 54 = .ok (.getfield 25, 3) := by decide +kernel
theorem dX2_copyFrom_57 : decode cX2_copyFrom 57 = .ok (.iconst 0, 1) := by decide +kernel
theorem dX2_copyFrom_58 : decode cX2_copyFrom 58 = .ok (.aload_n 0, 1) := by decide +kernel
theorem dX2_copyFrom_59 : decode cX2_copyFrom 59 = .ok (.getfield 25, 3) := by decide +kernel
theorem dX2_copyFrom_62 : decode cX2_copyFrom 62 = .ok (.iconst 0, 1) := by decide +kernel
theorem dX2_copyFrom_63 : decode cX2_copyFrom 63 = .ok (.bipush 60, 2) := by decide +kernel
theorem dX2_copyFrom_65 : decode cX2_copyFrom 65 = .ok (.invokestatic 48, 3) := by decide +kernel
theorem dX2_copyFrom_68 : decode cX2_copyFrom 68 = .ok (.aload_n 1, 1) := by decide +kernel
theorem dX2_copyFrom_69 : decode cX2_copyFrom 69 = .ok (.getfield 28, 3) := by decide +kernel
theorem dX2_copyFrom_72 : decode cX2_copyFrom 72 = .ok (.iconst 0, 1) := by decide +kernel
theorem dX2_copyFrom_73 : decode cX2_copyFrom 73 = .ok (.aload_n 0, 1) := by decide +kernel
theorem dX2_copyFrom_74 : decode cX2_copyFrom 74 = .ok (.getfield 28, 3) := by decide +kernel
theorem dX2_copyFrom_77 : decode cX2_copyFrom 77 = .ok (.iconst 0, 1) := by decide +kernel
theorem dX2_copyFrom_78 : decode cX2_copyFrom 78 = .ok (.bipush 60, 2) := by decide +kernel
theorem dX2_copyFrom_80 : decode cX2_copyFrom 80 = .ok (.invokestatic 48, 3) := by decide +kernel
theorem dX2_copyFrom_83 : decode cX2_copyFrom 83 = .ok (.aload_n 1, 1) := by decide +kernel
theorem dX2_copyFrom_84 : decode cX2_copyFrom 84 = .ok (.getfield 31, 3) := by decide +kernel
theorem dX2_copyFrom_87 : decode cX2_copyFrom 87 = .ok (.iconst 0, 1) := by decide +kernel
theorem dX2_copyFrom_88 : decode cX2_copyFrom 88 = .ok (.aload_n 0, 1) := by decide +kernel
theorem dX2_copyFrom_89 : decode cX2_copyFrom 89 = .ok (.getfield 31, 3) := by decide +kernel
theorem dX2_copyFrom_92 : decode cX2_copyFrom 92 = .ok (.iconst 0, 1) := by decide +kernel
theorem dX2_copyFrom_93 : decode cX2_copyFrom 93 = .ok (.bipush 6, 2) := by decide +kernel
theorem dX2_copyFrom_95 : decode cX2_copyFrom 95 = .ok (.invokestatic 48, 3) := by decide +kernel
theorem dX2_copyFrom_98 : decode cX2_copyFrom 98 = .ok (.aload_n 1, 1) := by decide +kernel
theorem dX2_copyFrom_99 : decode cX2_copyFrom 99 = .ok (.getfield 34, 3) := by decide +kernel
theorem dX2_copyFrom_102 : decode cX2_copyFrom 102 = .ok (.iconst 0, 1) := by decide +kernel
theorem dX2_copyFrom_103 : decode cX2_copyFrom 103 = .ok (.aload_n 0, 1) := by decide +kernel
theorem dX2_copyFrom_104 : decode cX2_copyFrom 104 = .ok (.getfield 34, 3) := by decide +kernel
theorem dX2_copyFrom_107 : decode cX2_copyFrom 107 = .ok (.iconst 0, 1) := by decide +kernel
theorem dX2_copyFrom_108 : decode cX2_copyFrom 108 = .ok (.bipush 16, 2) := by decide +kernel
theorem dX2_copyFrom_110 : decode cX2_copyFrom 110 = .ok (.invokestatic 48, 3) := by decide +kernel
theorem dX2_copyFrom_113 : decode cX2_copyFrom 113 = .ok (.return_, 1) := by decide +kernel
set_option maxRecDepth 20000 in
theorem ggX3_init_X2_init : GoodIn wsX3_init wsX2_init := goodIn_r _ [15, 16, 2, 3, 17, 18, 19, 20, 21, 22, 23, 24, 25, 37, 38, 39, 40, 41, 42, 43, 44] (by decide +kernel) (by decide +kernel)
set_option maxRecDepth 20000 in
theorem gX3_init_X2_init_n11 : GoodIn wsX3_init (wsX2_init) := ggX3_init_X2_init
set_option maxRecDepth 20000 in
theorem ggX3_init_X0_init : GoodIn wsX3_init wsX0_init := goodIn_r _ [27, 28, 2, 3, 29, 18, 30, 31, 32, 33, 34, 35, 36, 49, 50, 51, 52, 53, 54, 55, 56] (by decide +kernel) (by decide +kernel)
set_option maxRecDepth 20000 in
theorem gX3_init_X0_init_n20 : GoodIn wsX3_init (wsX0_init) := ggX3_init_X0_init
theorem dX3_init_0 : decode cX3_init 0 = .ok (.aload_n 0, 1) := by decide +kernel
theorem dX3_init_1 : decode cX3_init 1 = .ok (.invokespecial 3, 3) := by decide +kernel
theorem dX3_init_4 : decode cX3_init 4 = .ok (.aload_n 0, 1) := by decide +kernel
theorem dX3_init_5 : decode cX3_init 5 = .ok (.new 9, 3) := by decide +kernel
theorem dX3_init_8 : decode cX3_init 8 = .ok (.dup, 1) := by decide +kernel
theorem dX3_init_9 : decode cX3_init 9 = .ok (.invokespecial 11, 3) := by decide +kernel
theorem dX3_init_12 : decode cX3_init 12 = .ok (.putfield 12, 3) := by decide +kernel
theorem dX3_init_15 : decode cX3_init 15 = .ok (.aload_n 0, 1) := by decide +kernel
theorem dX3_init_16 : decode cX3_init 16 = .ok (.new 18, 3) := by decide +kernel
theorem dX3_init_19 : decode cX3_init 19 = .ok (.dup, 1) := by decide +kernel
theorem dX3_init_20 : decode cX3_init 20 = .ok (.invokespecial 20, 3) := by decide +kernel
theorem dX3_init_23 : decode cX3_init 23 = .ok (.putfield 21, 3) := by decide +kernel
theorem dX3_init_26 : decode cX3_init 26 = .ok (.aload_n 0, 1) := by decide +kernel
theorem dX3_init_27 : decode cX3_init 27 = .ok (.iconst 0, 1) := by decide +kernel
theorem dX3_init_28 : decode cX3_init 28 = .ok (.putfield 25, 3) := by decide +kernel
theorem dX3_init_31 : decode cX3_init 31 = .ok (.aload_n 0, 1) := by decide +kernel
theorem dX3_init_32 : decode cX3_init 32 = .ok (.aload_n 1, 1) := by decide +kernel
theorem dX3_init_33 : decode cX3_init 33 = .ok (.putfield 29, 3) := by decide +kernel
theorem dX3_init_36 : decode cX3_init 36 = .ok (.return_, 1) := by decide +kernel
set_option maxRecDepth 20000 in
theorem ggX3_copyFrom_X2_copyFrom : GoodIn wsX3_copyFrom wsX2_copyFrom := goodIn_r _ [8, 9, 10, 11, 12, 13, 14, 15, 16, 17, 18, 19, 20, 39, 40, 41, 42, 43, 44, 45, 46] (by decide +kernel) (by decide +kernel)
set_option maxRecDepth 20000 in
theorem gX3_copyFrom_X2_copyFrom : GoodIn wsX3_copyFrom (wsV RX3 33 RX2 yX2_copyFrom wsX2_copyFrom) := goodIn_app (goodIn_of _ (by decide +kernel)) ggX3_copyFrom_X2_copyFrom
set_option maxRecDepth 20000 in
theorem ggX3_copyFrom_X0_copyFrom : GoodIn wsX3_copyFrom wsX0_copyFrom := goodIn_r _ [25, 26, 27, 28, 12, 13, 14, 29, 30, 31, 32, 33, 34, 47, 48, 49, 50, 51, 52, 53, 54] (by decide +kernel) (by decide +kernel)
set_option maxRecDepth 20000 in
theorem gX3_copyFrom_X0_copyFrom : GoodIn wsX3_copyFrom (wsV RX3 37 RX0 yX0_copyFrom wsX0_copyFrom) := goodIn_app (goodIn_of _ (by decide +kernel)) ggX3_copyFrom_X0_copyFrom
theorem dX3_copyFrom_0 : decode cX3_copyFrom 0 = .ok (.aload_n 0, 1) := by decide +kernel
theorem dX3_copyFrom_1 : decode cX3_copyFrom 1 = .ok (.aload_n 1, 1) := by decide +kernel
theorem dX3_copyFrom_2 : decode cX3_copyFrom 2 = .ok (.getfield 25, 3) := by decide +kernel
theorem dX3_copyFrom_5 : decode cX3_copyFrom 5 = .ok (.putfield 25, 3) := by decide +kernel
theorem dX3_copyFrom_8 : decode cX3_copyFrom 8 = .ok (.aload_n 0, 1) := by decide +kernel
theorem dX3_copyFrom_9 : decode cX3_copyFrom 9 = .ok (.getfield 12, 3) := by decide +kernel
theorem dX3_copyFrom_12 : decode cX3_copyFrom 12 = .ok (.aload_n 1, 1) := by decide +kernel
theorem dX3_copyFrom_13 : decode cX3_copyFrom 13 = .ok (.getfield 12, 3) := by decide +kernel
theorem dX3_copyFrom_16 : decode cX3_copyFrom 16 = .ok (.invokevirtual 33, 3) := by decide +kernel
theorem dX3_copyFrom_19 : decode cX3_copyFrom 19 = .ok (.aload_n 0, 1) := by decide +kernel
theorem dX3_copyFrom_20 : decode cX3_copyFrom 20 = .ok (.getfield 21, 3) := by decide +kernel
theorem dX3_copyFrom_23 : decode cX3_copyFrom 23 = .ok (.aload_n 1, 1) := by decide +kernel
theorem dX3_copyFrom_24 : decode cX3_copyFrom 24 = .ok (.getfield 21, 3) := by decide +kernel
theorem dX3_copyFrom_27 : decode cX3_copyFrom 27 = .ok (.invokevirtual 37, 3) := by decide +kernel
theorem dX3_copyFrom_30 : decode cX3_copyFrom 30 = .ok (.return_, 1) := by decide +kernel
set_option maxRecDepth 20000 in
theorem ggX3_run_X3_runMinute : GoodIn wsX3_run wsX3_runMinute := goodIn_r _ [5, 6, 7, 8, 9, 10, 11, 12, 13, 14, 4, 15, 16, 17, 18, 19, 20, 21, 22, 23, 24, 25, 26, 27, 28, 29, 30, 31, 32, 33, 34, 35, 36, 37, 38, 39, 40, 41, 42, 43, 44, 45, 46, 47, 48, 49, 50, 51, 52, 53, 54, 55, 56, 57, 58, 59, 60, 61, 62, 63, 64, 65, 66, 67, 68, 69, 70, 71, 72, 73, 74, 75, 76, 77, 78, 79, 80, 81, 82, 83, 84, 85, 86, 87, 88, 89, 90, 91, 92, 93, 94, 95, 96, 97, 98, 99, 100, 101, 102, 103, 104, 105, 106, 107, 108, 109, 110, 111, 112, 113, 114, 115, 116, 117, 118, 119, 120, 121, 122, 123, 124, 125, 126, 127, 128, 129, 130, 131, 132, 133, 134, 135, 136, 137, 138, 139, 140, 141, 142, 143, 144, 145, 146, 147] (by decide +kernel) (by decide +kernel)
set_option maxRecDepth 20000 in
theorem gX3_run_X3_runMinute : GoodIn wsX3_run (wsV RX3 40 RX3 yX3_runMinute wsX3_runMinute) := goodIn_app (goodIn_of _ (by decide +kernel)) ggX3_run_X3_runMinute
theorem dX3_run_0 : decode cX3_run 0 = .ok (.iconst 0, 1) := by decide +kernel
theorem dX3_run_1 : decode cX3_run 1 = .ok (.istore_n 2, 1) := by decide +kernel
theorem dX3_run_2 : decode cX3_run 2 = .ok (.iload_n 2, 1) := by decide +kernel
theorem dX3_run_3 : decode cX3_run 3 = .ok (.iload_n 1, 1) := by decide +kernel
theorem dX3_run_4 : decode cX3_run 4 = .ok (.if_icmp .ge 13, 3) := by decide +kernel
theorem dX3_run_7 : decode cX3_run 7 = .ok (.aload_n 0, 1) := by decide +kernel
theorem dX3_run_8 : decode cX3_run 8 = .ok (.invokevirtual 40, 3) := by decide +kernel
theorem dX3_run_11 : decode cX3_run 11 = .ok (.iinc 2 1, 3) := by decide +kernel
theorem dX3_run_14 : decode cX3_run 14 = .ok (.goto (-12), 3) := by decide +kernel
theorem dX3_run_17 : decode cX3_run 17 = .ok (.return_, 1) := by decide +kernel
set_option maxRecDepth 20000 in
theorem ggX3_runMinute_X3_takeLetter : GoodIn wsX3_runMinute wsX3_takeLetter := goodIn_r _ [11, 12, 1, 13, 14, 15, 16, 17, 18, 19, 20, 21, 22, 23, 24, 25, 26, 27, 28, 29, 30, 31, 32, 33, 34, 35, 36, 37, 38, 39, 40, 41, 42, 43, 44, 45, 46, 47, 48, 49, 122, 123, 124, 125, 126, 127, 128, 129, 130, 131, 132, 133, 136, 137, 138, 139, 140, 141, 142, 143] (by decide +kernel) (by decide +kernel)
set_option maxRecDepth 20000 in
theorem gX3_runMinute_X3_takeLetter : GoodIn wsX3_runMinute (wsV RX3 50 RX3 yX3_takeLetter wsX3_takeLetter) := goodIn_app (goodIn_of _ (by decide +kernel)) ggX3_runMinute_X3_takeLetter
set_option maxRecDepth 20000 in
theorem ggX3_runMinute_X3_workOn : GoodIn wsX3_runMinute wsX3_workOn := goodIn_r _ [53, 1, 54, 55, 56, 57, 10, 58, 3, 12, 59, 60, 61, 62, 63, 32, 33, 17, 34, 21, 19, 35, 22, 30, 64, 65, 66, 39, 67, 41, 42, 122, 123, 124, 125, 126, 127, 128, 129, 130, 131, 132, 133, 136, 137, 138, 139, 140, 141, 142, 143] (by decide +kernel) (by decide +kernel)
set_option maxRecDepth 20000 in
theorem gX3_runMinute_X3_workOn : GoodIn wsX3_runMinute (wsV RX3 54 RX3 yX3_workOn wsX3_workOn) := goodIn_app (goodIn_of _ (by decide +kernel)) ggX3_runMinute_X3_workOn
set_option maxRecDepth 20000 in
theorem ggX3_runMinute_X1_passedIn : GoodIn wsX3_runMinute wsX1_passedIn := goodIn_r _ [72, 73, 134, 135] (by decide +kernel) (by decide +kernel)
set_option maxRecDepth 20000 in
theorem gX3_runMinute_X1_passedIn : GoodIn wsX3_runMinute (wsV RX3 57 RX1 yX1_passedIn wsX1_passedIn) := goodIn_app (goodIn_of _ (by decide +kernel)) ggX3_runMinute_X1_passedIn
set_option maxRecDepth 20000 in
theorem ggX3_runMinute_X3_serve : GoodIn wsX3_runMinute wsX3_serve := goodIn_r _ [77, 12, 78, 60, 79, 80, 81, 17, 82, 21, 83, 84, 85, 86, 10, 87, 5, 88, 24, 89, 90, 91, 92, 93, 94, 31, 32, 33, 34, 19, 35, 22, 30, 63, 95, 96, 97, 98, 99, 100, 1, 64, 65, 66, 39, 67, 41, 42, 122, 123, 124, 125, 136, 137, 138, 139, 140, 141, 142, 143, 126, 127, 128, 129, 130, 131, 132, 133] (by decide +kernel) (by decide +kernel)
set_option maxRecDepth 20000 in
theorem gX3_runMinute_X3_serve : GoodIn wsX3_runMinute (wsV RX3 63 RX3 yX3_serve wsX3_serve) := goodIn_app (goodIn_of _ (by decide +kernel)) ggX3_runMinute_X3_serve
set_option maxRecDepth 20000 in
theorem ggX3_runMinute_X3_shake : GoodIn wsX3_runMinute wsX3_shake := goodIn_r _ [104, 1, 12, 105, 106, 107, 39, 108, 109, 49, 110, 111, 112, 17, 113, 35, 114, 115, 116, 117, 20, 21, 22, 31, 32, 33, 34, 19, 30, 118, 119, 120, 121, 48, 122, 123, 124, 125, 126, 127, 128, 129, 130, 131, 132, 133, 136, 137, 138, 139, 140, 141, 142, 143] (by decide +kernel) (by decide +kernel)
set_option maxRecDepth 20000 in
theorem gX3_runMinute_X3_shake : GoodIn wsX3_runMinute (wsV RX3 69 RX3 yX3_shake wsX3_shake) := goodIn_app (goodIn_of _ (by decide +kernel)) ggX3_runMinute_X3_shake
theorem dX3_runMinute_0 : decode cX3_runMinute 0 = .ok (.iconst 0, 1) := by decide +kernel
theorem dX3_runMinute_1 : decode cX3_runMinute 1 = .ok (.istore_n 1, 1) := by decide +kernel
theorem dX3_runMinute_2 : decode cX3_runMinute 2 = .ok (.iload_n 1, 1) := by decide +kernel
theorem dX3_runMinute_3 : decode cX3_runMinute 3 = .ok (.aload_n 0, 1) := by decide +kernel
theorem dX3_runMinute_4 : decode cX3_runMinute 4 = .ok (.getfield 21, 3) := by decide +kernel
theorem dX3_runMinute_7 : decode cX3_runMinute 7 = .ok (.getfield 43, 3) := by decide +kernel
theorem dX3_runMinute_10 : decode cX3_runMinute 10 = .ok (.if_icmp .ge 45, 3) := by decide +kernel
theorem dX3_runMinute_13 : decode cX3_runMinute 13 = .ok (.aload_n 0, 1) := by decide +kernel
theorem dX3_runMinute_14 : decode cX3_runMinute 14 = .ok (.getfield 21, 3) := by decide +kernel
theorem dX3_runMinute_17 : decode cX3_runMinute 17 = .ok (.getfield 46, 3) := by decide +kernel
theorem dX3_runMinute_20 : decode cX3_runMinute 20 = .ok (.iload_n 1, 1) := by decide +kernel
theorem dX3_runMinute_21 : decode cX3_runMinute 21 = .ok (.iaload, 1) := by decide +kernel
theorem dX3_runMinute_22 : decode cX3_runMinute 22 = .ok (.iconst (-1), 1) := by decide +kernel
theorem dX3_runMinute_23 : decode cX3_runMinute 23 = .ok (.if_icmp .ne 8, 3) := by decide +kernel
theorem dX3_runMinute_26 : decode cX3_runMinute 26 = .ok (.aload_n 0, 1) := by decide +kernel
theorem dX3_runMinute_27 : decode cX3_runMinute 27 = .ok (.iload_n 1, 1) := by decide +kernel
theorem dX3_runMinute_28 : decode cX3_runMinute 28 = .ok (.invokevirtual 50, 3) := by decide +kernel
theorem dX3_runMinute_31 : decode cX3_runMinute 31 = .ok (.aload_n 0, 1) := by decide +kernel
theorem dX3_runMinute_32 : decode cX3_runMinute 32 = .ok (.getfield 21, 3) := by decide +kernel
theorem dX3_runMinute_35 : decode cX3_runMinute 35 = .ok (.getfield 46, 3) := by decide +kernel
theorem dX3_runMinute_38 : decode cX3_runMinute 38 = .ok (.iload_n 1, 1) := by decide +kernel
theorem dX3_runMinute_39 : decode cX3_runMinute 39 = .ok (.iaload, 1) := by decide +kernel
theorem dX3_runMinute_40 : decode cX3_runMinute 40 = .ok (.iconst (-1), 1) := by decide +kernel
theorem dX3_runMinute_41 : decode cX3_runMinute 41 = .ok (.if_icmp .eq 8, 3) := by decide +kernel
theorem dX3_runMinute_44 : decode cX3_runMinute 44 = .ok (.aload_n 0, 1) := by decide +kernel
theorem dX3_runMinute_45 : decode cX3_runMinute 45 = .ok (.iload_n 1, 1) := by decide +kernel
theorem dX3_runMinute_46 : decode cX3_runMinute 46 = .ok (.invokevirtual 54, 3) := by decide +kernel
theorem dX3_runMinute_49 : decode cX3_runMinute 49 = .ok (.iinc 1 1, 3) := by decide +kernel
theorem dX3_runMinute_52 : decode cX3_runMinute 52 = .ok (.goto (-50), 3) := by decide +kernel
theorem dX3_runMinute_55 : decode cX3_runMinute 55 = .ok (.aload_n 0, 1) := by decide +kernel
theorem dX3_runMinute_56 : decode cX3_runMinute 56 = .ok (.getfield 29, 3) := by decide +kernel
theorem dX3_runMinute_59 : decode cX3_runMinute 59 = .ok (.aload_n 0, 1) := by decide +kernel
theorem dX3_runMinute_60 : decode cX3_runMinute 60 = .ok (.getfield 25, 3) := by decide +kernel
theorem dX3_runMinute_63 : decode cX3_runMinute 63 = .ok (.invokevirtual 57, 3) := by decide +kernel
theorem dX3_runMinute_66 : decode cX3_runMinute 66 = .ok (.istore_n 1, 1) := by decide +kernel
theorem dX3_runMinute_67 : decode cX3_runMinute 67 = .ok (.iload_n 1, 1) := by decide +kernel
theorem dX3_runMinute_68 : decode cX3_runMinute 68 = .ok (.iconst (-1), 1) := by decide +kernel
theorem dX3_runMinute_69 : decode cX3_runMinute 69 = .ok (.if_icmp .eq 8, 3) := by decide +kernel
theorem dX3_runMinute_72 : decode cX3_runMinute 72 = .ok (.aload_n 0, 1) := by decide +kernel
theorem dX3_runMinute_73 : decode cX3_runMinute 73 = .ok (.iload_n 1, 1) := by decide +kernel
theorem dX3_runMinute_74 : decode cX3_runMinute 74 = .ok (.invokevirtual 63, 3) := by decide +kernel
theorem dX3_runMinute_77 : decode cX3_runMinute 77 = .ok (.aload_n 0, 1) := by decide +kernel
theorem dX3_runMinute_78 : decode cX3_runMinute 78 = .ok (.getfield 29, 3) := by decide +kernel
theorem dX3_runMinute_81 : decode cX3_runMinute 81 = .ok (.aload_n 0, 1) := by decide +kernel
theorem dX3_runMinute_82 : decode cX3_runMinute 82 = .ok (.getfield 25, 3) := by decide +kernel
theorem dX3_runMinute_85 : decode cX3_runMinute 85 = .ok (.iconst 5, 1) := by decide +kernel
theorem dX3_runMinute_86 : decode cX3_runMinute 86 = .ok (.isub, 1) := by decide +kernel
theorem dX3_runMinute_87 : decode cX3_runMinute 87 = .ok (.invokevirtual 57, 3) := by decide +kernel
theorem dX3_runMinute_90 : decode cX3_runMinute 90 = .ok (.istore_n 2, 1) := by decide +kernel
theorem dX3_runMinute_91 : decode cX3_runMinute 91 = .ok (.iload_n 2, 1) := by decide +kernel
theorem dX3_runMinute_92 : decode cX3_runMinute 92 = .ok (.iconst (-1), 1) := by decide +kernel
theorem dX3_runMinute_93 : decode cX3_runMinute 93 = .ok (.if_icmp .eq 16, 3) := by decide +kernel
theorem dX3_runMinute_96 : decode cX3_runMinute 96 = .ok (.aload_n 0, 1) := by decide +kernel
theorem dX3_runMinute_97 : decode cX3_runMinute 97 = .ok (.aload_n 0, 1) := by decide +kernel
theorem dX3_runMinute_98 : decode cX3_runMinute 98 = .ok (.getfield 29, 3) := by decide +kernel
theorem dX3_runMinute_101 : decode cX3_runMinute 101 = .ok (.getfield 66, 3) := by decide +kernel
theorem dX3_runMinute_104 : decode cX3_runMinute 104 = .ok (.iload_n 2, 1) := by decide +kernel
theorem dX3_runMinute_105 : decode cX3_runMinute 105 = .ok (.iaload, 1) := by decide +kernel
theorem dX3_runMinute_106 : decode cX3_runMinute 106 = .ok (.invokevirtual 69, 3) := by decide +kernel
theorem dX3_runMinute_109 : decode cX3_runMinute 109 = .ok (.aload_n 0, 1) := by decide +kernel
theorem dX3_runMinute_110 : decode cX3_runMinute 110 = .ok (.dup, 1) := by decide +kernel
theorem dX3_runMinute_111 : decode cX3_runMinute 111 = .ok (.getfield 25, 3) := by decide +kernel
theorem dX3_runMinute_114 : decode cX3_runMinute 114 = .ok (.iconst 1, 1) := by decide +kernel
theorem dX3_runMinute_115 : decode cX3_runMinute 115 = .ok (.iadd, 1) := by decide +kernel
theorem dX3_runMinute_116 : decode cX3_runMinute 116 = .ok (.putfield 25, 3) := by decide +kernel
theorem dX3_runMinute_119 : decode cX3_runMinute 119 = .ok (.return_, 1) := by decide +kernel
set_option maxRecDepth 20000 in
theorem ggX3_takeLetter_X2_firstOnTable : GoodIn wsX3_takeLetter wsX2_firstOnTable := goodIn_r _ [8, 9, 10, 11, 12, 13, 14, 15, 52, 53, 54, 55, 56, 57, 58, 59] (by decide +kernel) (by decide +kernel)
set_option maxRecDepth 20000 in
theorem gX3_takeLetter_X2_firstOnTable : GoodIn wsX3_takeLetter (wsV RX3 75 RX2 yX2_firstOnTable wsX2_firstOnTable) := goodIn_app (goodIn_of _ (by decide +kernel)) ggX3_takeLetter_X2_firstOnTable
set_option maxRecDepth 20000 in
theorem ggX3_takeLetter_X2_moveToHands : GoodIn wsX3_takeLetter wsX2_moveToHands := goodIn_r _ [19, 20, 21, 22, 23, 7, 24, 11, 9, 25, 12, 52, 53, 54, 55, 56, 57, 58, 59] (by decide +kernel) (by decide +kernel)
set_option maxRecDepth 20000 in
theorem gX3_takeLetter_X2_moveToHands : GoodIn wsX3_takeLetter (wsV RX3 78 RX2 yX2_moveToHands wsX2_moveToHands) := goodIn_app (goodIn_of _ (by decide +kernel)) ggX3_takeLetter_X2_moveToHands
set_option maxRecDepth 20000 in
theorem ggX3_takeLetter_X0_takeUp : GoodIn wsX3_takeLetter wsX0_takeUp := goodIn_r _ [30, 31, 32, 33, 34, 35, 29, 36, 37, 38, 39, 44, 45, 46, 47, 48, 49, 50, 51] (by decide +kernel) (by decide +kernel)
set_option maxRecDepth 20000 in
theorem gX3_takeLetter_X0_takeUp : GoodIn wsX3_takeLetter (wsV RX3 82 RX0 yX0_takeUp wsX0_takeUp) := goodIn_app (goodIn_of _ (by decide +kernel)) ggX3_takeLetter_X0_takeUp
theorem dX3_takeLetter_0 : decode cX3_takeLetter 0 = .ok (.aload_n 0, 1) := by decide +kernel
theorem dX3_takeLetter_1 : decode cX3_takeLetter 1 = .ok (.getfield 12, 3) := by decide +kernel
theorem dX3_takeLetter_4 : decode cX3_takeLetter 4 = .ok (.aload_n 0, 1) := by decide +kernel
theorem dX3_takeLetter_5 : decode cX3_takeLetter 5 = .ok (.getfield 21, 3) := by decide +kernel
theorem dX3_takeLetter_8 : decode cX3_takeLetter 8 = .ok (.getfield 72, 3) := by decide +kernel
theorem dX3_takeLetter_11 : decode cX3_takeLetter 11 = .ok (.iload_n 1, 1) := by decide +kernel
theorem dX3_takeLetter_12 : decode cX3_takeLetter 12 = .ok (.iaload, 1) := by decide +kernel
theorem dX3_takeLetter_13 : decode cX3_takeLetter 13 = .ok (.invokevirtual 75, 3) := by decide +kernel
theorem dX3_takeLetter_16 : decode cX3_takeLetter 16 = .ok (.istore_n 2, 1) := by decide +kernel
theorem dX3_takeLetter_17 : decode cX3_takeLetter 17 = .ok (.iload_n 2, 1) := by decide +kernel
theorem dX3_takeLetter_18 : decode cX3_takeLetter 18 = .ok (.iconst (-1), 1) := by decide +kernel
theorem dX3_takeLetter_19 : decode cX3_takeLetter 19 = .ok (.if_icmp .eq 21, 3) := by decide +kernel
theorem dX3_takeLetter_22 : decode cX3_takeLetter 22 = .ok (.aload_n 0, 1) := by decide +kernel
theorem dX3_takeLetter_23 : decode cX3_takeLetter 23 = .ok (.getfield 12, 3) := by decide +kernel
theorem dX3_takeLetter_26 : decode cX3_takeLetter 26 = .ok (.iload_n 2, 1) := by decide +kernel
theorem dX3_takeLetter_27 : decode cX3_takeLetter 27 = .ok (.iload_n 1, 1) := by decide +kernel
theorem dX3_takeLetter_28 : decode cX3_takeLetter 28 = .ok (.invokevirtual 78, 3) := by decide +kernel
theorem dX3_takeLetter_31 : decode cX3_takeLetter 31 = .ok (.aload_n 0, 1) := by decide +kernel
theorem dX3_takeLetter_32 : decode cX3_takeLetter 32 = .ok (.getfield 21, 3) := by decide +kernel
theorem dX3_takeLetter_35 : decode cX3_takeLetter 35 = .ok (.iload_n 1, 1) := by decide +kernel
theorem dX3_takeLetter_36 : decode cX3_takeLetter 36 = .ok (.iload_n 2, 1) := by decide +kernel
theorem dX3_takeLetter_37 : decode cX3_takeLetter 37 = .ok (.invokevirtual 82, 3) := by decide +kernel
theorem dX3_takeLetter_40 : decode cX3_takeLetter 40 = .ok (.return_, 1) := by decide +kernel
set_option maxRecDepth 20000 in
theorem ggX3_workOn_X3_putLetter : GoodIn wsX3_workOn wsX3_putLetter := goodIn_r _ [7, 1, 8, 9, 10, 11, 12, 13, 14, 15, 16, 17, 18, 19, 20, 21, 22, 23, 24, 25, 26, 27, 28, 29, 30, 31, 32, 33, 34, 35, 36, 37, 38, 39, 40, 41, 42, 43, 44, 45, 46, 47, 48, 49, 50] (by decide +kernel) (by decide +kernel)
set_option maxRecDepth 20000 in
theorem gX3_workOn_X3_putLetter : GoodIn wsX3_workOn (wsV RX3 88 RX3 yX3_putLetter wsX3_putLetter) := goodIn_app (goodIn_of _ (by decide +kernel)) ggX3_workOn_X3_putLetter
theorem dX3_workOn_0 : decode cX3_workOn 0 = .ok (.aload_n 0, 1) := by decide +kernel
theorem dX3_workOn_1 : decode cX3_workOn 1 = .ok (.getfield 21, 3) := by decide +kernel
theorem dX3_workOn_4 : decode cX3_workOn 4 = .ok (.getfield 85, 3) := by decide +kernel
theorem dX3_workOn_7 : decode cX3_workOn 7 = .ok (.iload_n 1, 1) := by decide +kernel
theorem dX3_workOn_8 : decode cX3_workOn 8 = .ok (.dup2, 1) := by decide +kernel
theorem dX3_workOn_9 : decode cX3_workOn 9 = .ok (.iaload, 1) := by decide +kernel
theorem dX3_workOn_10 : decode cX3_workOn 10 = .ok (.iconst 1, 1) := by decide +kernel
theorem dX3_workOn_11 : decode cX3_workOn 11 = .ok (.isub, 1) := by decide +kernel
theorem dX3_workOn_12 : decode cX3_workOn 12 = .ok (.iastore, 1) := by decide +kernel
theorem dX3_workOn_13 : decode cX3_workOn 13 = .ok (.aload_n 0, 1) := by decide +kernel
theorem dX3_workOn_14 : decode cX3_workOn 14 = .ok (.getfield 21, 3) := by decide +kernel
theorem dX3_workOn_17 : decode cX3_workOn 17 = .ok (.getfield 85, 3) := by decide +kernel
theorem dX3_workOn_20 : decode cX3_workOn 20 = .ok (.iload_n 1, 1) := by decide +kernel
theorem dX3_workOn_21 : decode cX3_workOn 21 = .ok (.iaload, 1) := by decide +kernel
theorem dX3_workOn_22 : decode cX3_workOn 22 = .ok (.ifCond .gt 8, 3) := by decide +kernel
theorem dX3_workOn_25 : decode cX3_workOn 25 = .ok (.aload_n 0, 1) := by decide +kernel
theorem dX3_workOn_26 : decode cX3_workOn 26 = .ok (.iload_n 1, 1) := by decide +kernel
theorem dX3_workOn_27 : decode cX3_workOn 27 = .ok (.invokevirtual 88, 3) := by decide +kernel
theorem dX3_workOn_30 : decode cX3_workOn 30 = .ok (.return_, 1) := by decide +kernel
set_option maxRecDepth 20000 in
theorem ggX3_putLetter_X2_move : GoodIn wsX3_putLetter wsX2_move := goodIn_r _ [12, 13, 14, 15, 16, 17, 37, 38, 39, 40, 41, 42, 43, 44] (by decide +kernel) (by decide +kernel)
set_option maxRecDepth 20000 in
theorem gX3_putLetter_X2_move : GoodIn wsX3_putLetter (wsV RX3 97 RX2 yX2_move wsX2_move) := goodIn_app (goodIn_of _ (by decide +kernel)) ggX3_putLetter_X2_move
set_option maxRecDepth 20000 in
theorem ggX3_putLetter_X0_freeHands : GoodIn wsX3_putLetter wsX0_freeHands := goodIn_r _ [22, 23, 24, 29, 30, 31, 32, 33, 34, 35, 36] (by decide +kernel) (by decide +kernel)
set_option maxRecDepth 20000 in
theorem gX3_putLetter_X0_freeHands : GoodIn wsX3_putLetter (wsV RX3 106 RX0 yX0_freeHands wsX0_freeHands) := goodIn_app (goodIn_of _ (by decide +kernel)) ggX3_putLetter_X0_freeHands
theorem dX3_putLetter_0 : decode cX3_putLetter 0 = .ok (.aload_n 0, 1) := by decide +kernel
theorem dX3_putLetter_1 : decode cX3_putLetter 1 = .ok (.getfield 21, 3) := by decide +kernel
theorem dX3_putLetter_4 : decode cX3_putLetter 4 = .ok (.getfield 46, 3) := by decide +kernel
theorem dX3_putLetter_7 : decode cX3_putLetter 7 = .ok (.iload_n 1, 1) := by decide +kernel
theorem dX3_putLetter_8 : decode cX3_putLetter 8 = .ok (.iaload, 1) := by decide +kernel
theorem dX3_putLetter_9 : decode cX3_putLetter 9 = .ok (.istore_n 2, 1) := by decide +kernel
theorem dX3_putLetter_10 : decode cX3_putLetter 10 = .ok (.aload_n 0, 1) := by decide +kernel
theorem dX3_putLetter_11 : decode cX3_putLetter 11 = .ok (.getfield 12, 3) := by decide +kernel
theorem dX3_putLetter_14 : decode cX3_putLetter 14 = .ok (.getfield 91, 3) := by decide +kernel
theorem dX3_putLetter_17 : decode cX3_putLetter 17 = .ok (.aload_n 0, 1) := by decide +kernel
theorem dX3_putLetter_18 : decode cX3_putLetter 18 = .ok (.getfield 12, 3) := by decide +kernel
theorem dX3_putLetter_21 : decode cX3_putLetter 21 = .ok (.getfield 94, 3) := by decide +kernel
theorem dX3_putLetter_24 : decode cX3_putLetter 24 = .ok (.iload_n 2, 1) := by decide +kernel
theorem dX3_putLetter_25 : decode cX3_putLetter 25 = .ok (.iaload, 1) := by decide +kernel
theorem dX3_putLetter_26 : decode cX3_putLetter 26 = .ok (.iaload, 1) := by decide +kernel
theorem dX3_putLetter_27 : decode cX3_putLetter 27 = .ok (.bipush 8, 2) := by decide +kernel
theorem dX3_putLetter_29 : decode cX3_putLetter 29 = .ok (.if_icmp .ge 28, 3) := by decide +kernel
theorem dX3_putLetter_32 : decode cX3_putLetter 32 = .ok (.aload_n 0, 1) := by decide +kernel
theorem dX3_putLetter_33 : decode cX3_putLetter 33 = .ok (.getfield 12, 3) := by decide +kernel
theorem dX3_putLetter_36 : decode cX3_putLetter 36 = .ok (.iload_n 2, 1) := by decide +kernel
theorem dX3_putLetter_37 : decode cX3_putLetter 37 = .ok (.iconst 3, 1) := by decide +kernel
theorem dX3_putLetter_38 : decode cX3_putLetter 38 = .ok (.invokevirtual 97, 3) := by decide +kernel
theorem dX3_putLetter_41 : decode cX3_putLetter 41 = .ok (.aload_n 0, 1) := by decide +kernel
theorem dX3_putLetter_42 : decode cX3_putLetter 42 = .ok (.getfield 21, 3) := by decide +kernel
theorem dX3_putLetter_45 : decode cX3_putLetter 45 = .ok (.getfield 100, 3) := by decide +kernel
theorem dX3_putLetter_48 : decode cX3_putLetter 48 = .ok (.iload_n 1, 1) := by decide +kernel
theorem dX3_putLetter_49 : decode cX3_putLetter 49 = .ok (.dup2, 1) := by decide +kernel
theorem dX3_putLetter_50 : decode cX3_putLetter 50 = .ok (.iaload, 1) := by decide +kernel
theorem dX3_putLetter_51 : decode cX3_putLetter 51 = .ok (.iconst 1, 1) := by decide +kernel
theorem dX3_putLetter_52 : decode cX3_putLetter 52 = .ok (.iadd, 1) := by decide +kernel
theorem dX3_putLetter_53 : decode cX3_putLetter 53 = .ok (.iastore, 1) := by decide +kernel
theorem dX3_putLetter_54 : decode cX3_putLetter 54 = .ok (.goto 12, 3) := by decide +kernel
theorem dX3_putLetter_57 : decode cX3_putLetter 57 = .ok (.aload_n 0, 1) := by decide +kernel
theorem dX3_putLetter_58 : decode cX3_putLetter 58 = .ok (.getfield 12, 3) := by decide +kernel
theorem dX3_putLetter_61 : decode cX3_putLetter 61 = .ok (.iload_n 2, 1) := by decide +kernel
theorem dX3_putLetter_62 : decode cX3_putLetter 62 = .ok (.iconst 1, 1) := by decide +kernel
theorem dX3_putLetter_63 : decode cX3_putLetter 63 = .ok (.invokevirtual 97, 3) := by decide +kernel
theorem dX3_putLetter_66 : decode cX3_putLetter 66 = .ok (.aload_n 0, 1) := by decide +kernel
theorem dX3_putLetter_67 : decode cX3_putLetter 67 = .ok (.getfield 21, 3) := by decide +kernel
theorem dX3_putLetter_70 : decode cX3_putLetter 70 = .ok (.getfield 103, 3) := by decide +kernel
theorem dX3_putLetter_73 : decode cX3_putLetter 73 = .ok (.iload_n 1, 1) := by decide +kernel
theorem dX3_putLetter_74 : decode cX3_putLetter 74 = .ok (.dup2, 1) := by decide +kernel
theorem dX3_putLetter_75 : decode cX3_putLetter 75 = .ok (.iaload, 1) := by decide +kernel
theorem dX3_putLetter_76 : decode cX3_putLetter 76 = .ok (.iconst 1, 1) := by decide +kernel
theorem dX3_putLetter_77 : decode cX3_putLetter 77 = .ok (.iadd, 1) := by decide +kernel
theorem dX3_putLetter_78 : decode cX3_putLetter 78 = .ok (.iastore, 1) := by decide +kernel
theorem dX3_putLetter_79 : decode cX3_putLetter 79 = .ok (.aload_n 0, 1) := by decide +kernel
theorem dX3_putLetter_80 : decode cX3_putLetter 80 = .ok (.getfield 21, 3) := by decide +kernel
theorem dX3_putLetter_83 : decode cX3_putLetter 83 = .ok (.iload_n 1, 1) := by decide +kernel
theorem dX3_putLetter_84 : decode cX3_putLetter 84 = .ok (.invokevirtual 106, 3) := by decide +kernel
theorem dX3_putLetter_87 : decode cX3_putLetter 87 = .ok (.return_, 1) := by decide +kernel
set_option maxRecDepth 20000 in
theorem ggX3_serve_X2_isInBag : GoodIn wsX3_serve wsX2_isInBag := goodIn_r _ [8, 9, 10, 52, 53, 54, 55, 56, 57, 58, 59] (by decide +kernel) (by decide +kernel)
set_option maxRecDepth 20000 in
theorem gX3_serve_X2_isInBag : GoodIn wsX3_serve (wsV RX3 110 RX2 yX2_isInBag wsX2_isInBag) := goodIn_app (goodIn_of _ (by decide +kernel)) ggX3_serve_X2_isInBag
set_option maxRecDepth 20000 in
theorem ggX3_serve_X3_hookIn : GoodIn wsX3_serve wsX3_hookIn := goodIn_r _ [15, 1, 3, 16, 17, 18, 19, 20, 21, 22, 7, 23, 24, 25, 26, 27, 28, 9, 29, 30, 31, 32, 33, 48, 49, 50, 51, 52, 53, 54, 55, 56, 57, 58, 59] (by decide +kernel) (by decide +kernel)
set_option maxRecDepth 20000 in
theorem gX3_serve_X3_hookIn : GoodIn wsX3_serve (wsV RX3 114 RX3 yX3_hookIn wsX3_hookIn) := goodIn_app (goodIn_of _ (by decide +kernel)) ggX3_serve_X3_hookIn
set_option maxRecDepth 20000 in
theorem ggX3_serve_X4_stationOf : GoodIn wsX3_serve wsX4_stationOf := goodIn_r _ [19] (by decide +kernel) (by decide +kernel)
set_option maxRecDepth 20000 in
theorem gX3_serve_X4_stationOf_n117 : GoodIn wsX3_serve (wsX4_stationOf) := ggX3_serve_X4_stationOf
set_option maxRecDepth 20000 in
theorem ggX3_serve_X3_hookOut : GoodIn wsX3_serve wsX3_hookOut := goodIn_r _ [37, 1, 38, 16, 39, 40, 20, 21, 22, 7, 23, 24, 25, 26, 27, 28, 9, 29, 30, 31, 32, 41, 42, 43, 44, 45, 46, 47, 48, 49, 50, 51, 52, 53, 54, 55, 56, 57, 58, 59, 60, 61, 62, 63, 64, 65, 66, 67] (by decide +kernel) (by decide +kernel)
set_option maxRecDepth 20000 in
theorem gX3_serve_X3_hookOut : GoodIn wsX3_serve (wsV RX3 120 RX3 yX3_hookOut wsX3_hookOut) := goodIn_app (goodIn_of _ (by decide +kernel)) ggX3_serve_X3_hookOut
theorem dX3_serve_0 : decode cX3_serve 0 = .ok (.iconst 0, 1) := by decide +kernel
theorem dX3_serve_1 : decode cX3_serve 1 = .ok (.istore_n 2, 1) := by decide +kernel
theorem dX3_serve_2 : decode cX3_serve 2 = .ok (.iload_n 2, 1) := by decide +kernel
theorem dX3_serve_3 : decode cX3_serve 3 = .ok (.aload_n 0, 1) := by decide +kernel
theorem dX3_serve_4 : decode cX3_serve 4 = .ok (.getfield 12, 3) := by decide +kernel
theorem dX3_serve_7 : decode cX3_serve 7 = .ok (.getfield 109, 3) := by decide +kernel
theorem dX3_serve_10 : decode cX3_serve 10 = .ok (.if_icmp .ge 51, 3) := by decide +kernel
theorem dX3_serve_13 : decode cX3_serve 13 = .ok (.aload_n 0, 1) := by decide +kernel
theorem dX3_serve_14 : decode cX3_serve 14 = .ok (.getfield 12, 3) := by decide +kernel
theorem dX3_serve_17 : decode cX3_serve 17 = .ok (.iload_n 2, 1) := by decide +kernel
theorem dX3_serve_18 : decode cX3_serve 18 = .ok (.iload_n 1, 1) := by decide +kernel
theorem dX3_serve_19 : decode cX3_serve 19 = .ok (.invokevirtual 110, 3) := by decide +kernel
theorem dX3_serve_22 : decode cX3_serve 22 = .ok (.ifCond .eq 12, 3) := by decide +kernel
theorem dX3_serve_25 : decode cX3_serve 25 = .ok (.aload_n 0, 1) := by decide +kernel
theorem dX3_serve_26 : decode cX3_serve 26 = .ok (.iload_n 2, 1) := by decide +kernel
theorem dX3_serve_27 : decode cX3_serve 27 = .ok (.iload_n 1, 1) := by decide +kernel
theorem dX3_serve_28 : decode cX3_serve 28 = .ok (.invokevirtual 114, 3) := by decide +kernel
theorem dX3_serve_31 : decode cX3_serve 31 = .ok (.goto 24, 3) := by decide +kernel
theorem dX3_serve_34 : decode cX3_serve 34 = .ok (.aload_n 0, 1) := by decide +kernel
theorem dX3_serve_35 : decode cX3_serve 35 = .ok (.getfield 12, 3) := by decide +kernel
theorem dX3_serve_38 : decode cX3_serve 38 = .ok (.getfield 94, 3) := by decide +kernel
theorem dX3_serve_41 : decode cX3_serve 41 = .ok (.iload_n 2, 1) := by decide +kernel
theorem dX3_serve_42 : decode cX3_serve 42 = .ok (.iaload, 1) := by decide +kernel
theorem dX3_serve_43 : decode cX3_serve 43 = .ok (.invokestatic 117, 3) := by decide +kernel
theorem dX3_serve_46 : decode cX3_serve 46 = .ok (.iload_n 1, 1) := by decide +kernel
theorem dX3_serve_47 : decode cX3_serve 47 = .ok (.if_icmp .ne 8, 3) := by decide +kernel
theorem dX3_serve_50 : decode cX3_serve 50 = .ok (.aload_n 0, 1) := by decide +kernel
theorem dX3_serve_51 : decode cX3_serve 51 = .ok (.iload_n 2, 1) := by decide +kernel
theorem dX3_serve_52 : decode cX3_serve 52 = .ok (.invokevirtual 120, 3) := by decide +kernel
theorem dX3_serve_55 : decode cX3_serve 55 = .ok (.iinc 2 1, 3) := by decide +kernel
theorem dX3_serve_58 : decode cX3_serve 58 = .ok (.goto (-56), 3) := by decide +kernel
theorem dX3_serve_61 : decode cX3_serve 61 = .ok (.return_, 1) := by decide +kernel
set_option maxRecDepth 20000 in
theorem ggX3_hookIn_X4_stationOf : GoodIn wsX3_hookIn wsX4_stationOf := goodIn_r _ [6] (by decide +kernel) (by decide +kernel)
set_option maxRecDepth 20000 in
theorem gX3_hookIn_X4_stationOf_n117 : GoodIn wsX3_hookIn (wsX4_stationOf) := ggX3_hookIn_X4_stationOf
set_option maxRecDepth 20000 in
theorem ggX3_hookIn_X2_end : GoodIn wsX3_hookIn wsX2_end := goodIn_r _ [11, 12, 13, 14, 15, 10, 16, 17, 18, 19, 20, 21, 27, 28, 29, 30, 31, 32, 33, 34] (by decide +kernel) (by decide +kernel)
set_option maxRecDepth 20000 in
theorem gX3_hookIn_X2_end : GoodIn wsX3_hookIn (wsV RX3 123 RX2 yX2_end wsX2_end) := goodIn_app (goodIn_of _ (by decide +kernel)) ggX3_hookIn_X2_end
set_option maxRecDepth 20000 in
theorem ggX3_hookIn_X2_move : GoodIn wsX3_hookIn wsX2_move := goodIn_r _ [16, 17, 18, 19, 20, 21, 27, 28, 29, 30, 31, 32, 33, 34] (by decide +kernel) (by decide +kernel)
set_option maxRecDepth 20000 in
theorem gX3_hookIn_X2_move : GoodIn wsX3_hookIn (wsV RX3 97 RX2 yX2_move wsX2_move) := goodIn_app (goodIn_of _ (by decide +kernel)) ggX3_hookIn_X2_move
theorem dX3_hookIn_0 : decode cX3_hookIn 0 = .ok (.aload_n 0, 1) := by decide +kernel
theorem dX3_hookIn_1 : decode cX3_hookIn 1 = .ok (.getfield 12, 3) := by decide +kernel
theorem dX3_hookIn_4 : decode cX3_hookIn 4 = .ok (.getfield 94, 3) := by decide +kernel
theorem dX3_hookIn_7 : decode cX3_hookIn 7 = .ok (.iload_n 1, 1) := by decide +kernel
theorem dX3_hookIn_8 : decode cX3_hookIn 8 = .ok (.iaload, 1) := by decide +kernel
theorem dX3_hookIn_9 : decode cX3_hookIn 9 = .ok (.invokestatic 117, 3) := by decide +kernel
theorem dX3_hookIn_12 : decode cX3_hookIn 12 = .ok (.iload_n 2, 1) := by decide +kernel
theorem dX3_hookIn_13 : decode cX3_hookIn 13 = .ok (.if_icmp .gt 19, 3) := by decide +kernel
theorem dX3_hookIn_16 : decode cX3_hookIn 16 = .ok (.aload_n 0, 1) := by decide +kernel
theorem dX3_hookIn_17 : decode cX3_hookIn 17 = .ok (.getfield 12, 3) := by decide +kernel
theorem dX3_hookIn_20 : decode cX3_hookIn 20 = .ok (.iload_n 1, 1) := by decide +kernel
theorem dX3_hookIn_21 : decode cX3_hookIn 21 = .ok (.iconst 5, 1) := by decide +kernel
theorem dX3_hookIn_22 : decode cX3_hookIn 22 = .ok (.aload_n 0, 1) := by decide +kernel
theorem dX3_hookIn_23 : decode cX3_hookIn 23 = .ok (.getfield 25, 3) := by decide +kernel
theorem dX3_hookIn_26 : decode cX3_hookIn 26 = .ok (.invokevirtual 123, 3) := by decide +kernel
theorem dX3_hookIn_29 : decode cX3_hookIn 29 = .ok (.goto 12, 3) := by decide +kernel
theorem dX3_hookIn_32 : decode cX3_hookIn 32 = .ok (.aload_n 0, 1) := by decide +kernel
theorem dX3_hookIn_33 : decode cX3_hookIn 33 = .ok (.getfield 12, 3) := by decide +kernel
theorem dX3_hookIn_36 : decode cX3_hookIn 36 = .ok (.iload_n 1, 1) := by decide +kernel
theorem dX3_hookIn_37 : decode cX3_hookIn 37 = .ok (.iconst 1, 1) := by decide +kernel
theorem dX3_hookIn_38 : decode cX3_hookIn 38 = .ok (.invokevirtual 97, 3) := by decide +kernel
theorem dX3_hookIn_41 : decode cX3_hookIn 41 = .ok (.return_, 1) := by decide +kernel
set_option maxRecDepth 20000 in
theorem ggX3_hookOut_X2_end : GoodIn wsX3_hookOut wsX2_end := goodIn_r _ [10, 11, 12, 13, 14, 9, 15, 16, 17, 18, 19, 20, 32, 33, 34, 35, 36, 37, 38, 39] (by decide +kernel) (by decide +kernel)
set_option maxRecDepth 20000 in
theorem gX3_hookOut_X2_end : GoodIn wsX3_hookOut (wsV RX3 123 RX2 yX2_end wsX2_end) := goodIn_app (goodIn_of _ (by decide +kernel)) ggX3_hookOut_X2_end
set_option maxRecDepth 20000 in
theorem ggX3_hookOut_X0_freeHands : GoodIn wsX3_hookOut wsX0_freeHands := goodIn_r _ [25, 26, 27, 40, 41, 42, 43, 44, 45, 46, 47] (by decide +kernel) (by decide +kernel)
set_option maxRecDepth 20000 in
theorem gX3_hookOut_X0_freeHands : GoodIn wsX3_hookOut (wsV RX3 106 RX0 yX0_freeHands wsX0_freeHands) := goodIn_app (goodIn_of _ (by decide +kernel)) ggX3_hookOut_X0_freeHands
theorem dX3_hookOut_0 : decode cX3_hookOut 0 = .ok (.aload_n 0, 1) := by decide +kernel
theorem dX3_hookOut_1 : decode cX3_hookOut 1 = .ok (.getfield 12, 3) := by decide +kernel
theorem dX3_hookOut_4 : decode cX3_hookOut 4 = .ok (.getfield 127, 3) := by decide +kernel
theorem dX3_hookOut_7 : decode cX3_hookOut 7 = .ok (.iload_n 1, 1) := by decide +kernel
theorem dX3_hookOut_8 : decode cX3_hookOut 8 = .ok (.iaload, 1) := by decide +kernel
theorem dX3_hookOut_9 : decode cX3_hookOut 9 = .ok (.istore_n 2, 1) := by decide +kernel
theorem dX3_hookOut_10 : decode cX3_hookOut 10 = .ok (.iload_n 2, 1) := by decide +kernel
theorem dX3_hookOut_11 : decode cX3_hookOut 11 = .ok (.iconst 3, 1) := by decide +kernel
theorem dX3_hookOut_12 : decode cX3_hookOut 12 = .ok (.if_icmp .ne 19, 3) := by decide +kernel
theorem dX3_hookOut_15 : decode cX3_hookOut 15 = .ok (.aload_n 0, 1) := by decide +kernel
theorem dX3_hookOut_16 : decode cX3_hookOut 16 = .ok (.getfield 12, 3) := by decide +kernel
theorem dX3_hookOut_19 : decode cX3_hookOut 19 = .ok (.iload_n 1, 1) := by decide +kernel
theorem dX3_hookOut_20 : decode cX3_hookOut 20 = .ok (.iconst 4, 1) := by decide +kernel
theorem dX3_hookOut_21 : decode cX3_hookOut 21 = .ok (.aload_n 0, 1) := by decide +kernel
theorem dX3_hookOut_22 : decode cX3_hookOut 22 = .ok (.getfield 25, 3) := by decide +kernel
theorem dX3_hookOut_25 : decode cX3_hookOut 25 = .ok (.invokevirtual 123, 3) := by decide +kernel
theorem dX3_hookOut_28 : decode cX3_hookOut 28 = .ok (.goto 49, 3) := by decide +kernel
theorem dX3_hookOut_31 : decode cX3_hookOut 31 = .ok (.iload_n 2, 1) := by decide +kernel
theorem dX3_hookOut_32 : decode cX3_hookOut 32 = .ok (.iconst 1, 1) := by decide +kernel
theorem dX3_hookOut_33 : decode cX3_hookOut 33 = .ok (.if_icmp .eq 8, 3) := by decide +kernel
theorem dX3_hookOut_36 : decode cX3_hookOut 36 = .ok (.iload_n 2, 1) := by decide +kernel
theorem dX3_hookOut_37 : decode cX3_hookOut 37 = .ok (.iconst 2, 1) := by decide +kernel
theorem dX3_hookOut_38 : decode cX3_hookOut 38 = .ok (.if_icmp .ne 39, 3) := by decide +kernel
theorem dX3_hookOut_41 : decode cX3_hookOut 41 = .ok (.aload_n 0, 1) := by decide +kernel
theorem dX3_hookOut_42 : decode cX3_hookOut 42 = .ok (.getfield 12, 3) := by decide +kernel
theorem dX3_hookOut_45 : decode cX3_hookOut 45 = .ok (.getfield 130, 3) := by decide +kernel
theorem dX3_hookOut_48 : decode cX3_hookOut 48 = .ok (.iload_n 1, 1) := by decide +kernel
theorem dX3_hookOut_49 : decode cX3_hookOut 49 = .ok (.iaload, 1) := by decide +kernel
theorem dX3_hookOut_50 : decode cX3_hookOut 50 = .ok (.istore_n 3, 1) := by decide +kernel
theorem dX3_hookOut_51 : decode cX3_hookOut 51 = .ok (.iload_n 3, 1) := by decide +kernel
theorem dX3_hookOut_52 : decode cX3_hookOut 52 = .ok (.iconst (-1), 1) := by decide +kernel
theorem dX3_hookOut_53 : decode cX3_hookOut 53 = .ok (.if_icmp .eq 11, 3) := by decide +kernel
theorem dX3_hookOut_56 : decode cX3_hookOut 56 = .ok (.aload_n 0, 1) := by decide +kernel
theorem dX3_hookOut_57 : decode cX3_hookOut 57 = .ok (.getfield 21, 3) := by decide +kernel
theorem dX3_hookOut_60 : decode cX3_hookOut 60 = .ok (.iload_n 3, 1) := by decide +kernel
theorem dX3_hookOut_61 : decode cX3_hookOut 61 = .ok (.invokevirtual 106, 3) := by decide +kernel
theorem dX3_hookOut_64 : decode cX3_hookOut 64 = .ok (.aload_n 0, 1) := by decide +kernel
theorem dX3_hookOut_65 : decode cX3_hookOut 65 = .ok (.getfield 12, 3) := by decide +kernel
theorem dX3_hookOut_68 : decode cX3_hookOut 68 = .ok (.iload_n 1, 1) := by decide +kernel
theorem dX3_hookOut_69 : decode cX3_hookOut 69 = .ok (.iconst 5, 1) := by decide +kernel
theorem dX3_hookOut_70 : decode cX3_hookOut 70 = .ok (.aload_n 0, 1) := by decide +kernel
theorem dX3_hookOut_71 : decode cX3_hookOut 71 = .ok (.getfield 25, 3) := by decide +kernel
theorem dX3_hookOut_74 : decode cX3_hookOut 74 = .ok (.invokevirtual 123, 3) := by decide +kernel
theorem dX3_hookOut_77 : decode cX3_hookOut 77 = .ok (.return_, 1) := by decide +kernel
set_option maxRecDepth 20000 in
theorem ggX3_shake_X0_spillTea : GoodIn wsX3_shake wsX0_spillTea := goodIn_r _ [7, 8, 9, 38, 39, 40, 41, 42, 43, 44, 45] (by decide +kernel) (by decide +kernel)
set_option maxRecDepth 20000 in
theorem gX3_shake_X0_spillTea : GoodIn wsX3_shake (wsV RX3 133 RX0 yX0_spillTea wsX0_spillTea) := goodIn_app (goodIn_of _ (by decide +kernel)) ggX3_shake_X0_spillTea
set_option maxRecDepth 20000 in
theorem ggX3_shake_X2_fullestHole : GoodIn wsX3_shake wsX2_fullestHole := goodIn_r _ [14, 15, 46, 47, 48, 49, 50, 51, 52, 53] (by decide +kernel) (by decide +kernel)
set_option maxRecDepth 20000 in
theorem gX3_shake_X2_fullestHole : GoodIn wsX3_shake (wsV RX3 136 RX2 yX2_fullestHole wsX2_fullestHole) := goodIn_app (goodIn_of _ (by decide +kernel)) ggX3_shake_X2_fullestHole
set_option maxRecDepth 20000 in
theorem ggX3_shake_X2_spillHole : GoodIn wsX3_shake wsX2_spillHole := goodIn_r _ [19, 20, 21, 22, 23, 24, 25, 13, 26, 27, 15, 28, 46, 47, 48, 49, 50, 51, 52, 53] (by decide +kernel) (by decide +kernel)
set_option maxRecDepth 20000 in
theorem gX3_shake_X2_spillHole : GoodIn wsX3_shake (wsV RX3 140 RX2 yX2_spillHole wsX2_spillHole) := goodIn_app (goodIn_of _ (by decide +kernel)) ggX3_shake_X2_spillHole
set_option maxRecDepth 20000 in
theorem ggX3_shake_X0_tireAll : GoodIn wsX3_shake wsX0_tireAll := goodIn_r _ [32, 8, 33, 38, 39, 40, 41, 42, 43, 44, 45] (by decide +kernel) (by decide +kernel)
set_option maxRecDepth 20000 in
theorem gX3_shake_X0_tireAll : GoodIn wsX3_shake (wsV RX3 143 RX0 yX0_tireAll wsX0_tireAll) := goodIn_app (goodIn_of _ (by decide +kernel)) ggX3_shake_X0_tireAll
theorem dX3_shake_0 : decode cX3_shake 0 = .ok (.iload_n 1, 1) := by decide +kernel
theorem dX3_shake_1 : decode cX3_shake 1 = .ok (.iconst 1, 1) := by decide +kernel
theorem dX3_shake_2 : decode cX3_shake 2 = .ok (.if_icmp .lt 10, 3) := by decide +kernel
theorem dX3_shake_5 : decode cX3_shake 5 = .ok (.aload_n 0, 1) := by decide +kernel
theorem dX3_shake_6 : decode cX3_shake 6 = .ok (.getfield 21, 3) := by decide +kernel
theorem dX3_shake_9 : decode cX3_shake 9 = .ok (.invokevirtual 133, 3) := by decide +kernel
theorem dX3_shake_12 : decode cX3_shake 12 = .ok (.iload_n 1, 1) := by decide +kernel
theorem dX3_shake_13 : decode cX3_shake 13 = .ok (.iconst 2, 1) := by decide +kernel
theorem dX3_shake_14 : decode cX3_shake 14 = .ok (.if_icmp .lt 17, 3) := by decide +kernel
theorem dX3_shake_17 : decode cX3_shake 17 = .ok (.aload_n 0, 1) := by decide +kernel
theorem dX3_shake_18 : decode cX3_shake 18 = .ok (.getfield 12, 3) := by decide +kernel
theorem dX3_shake_21 : decode cX3_shake 21 = .ok (.aload_n 0, 1) := by decide +kernel
theorem dX3_shake_22 : decode cX3_shake 22 = .ok (.getfield 12, 3) := by decide +kernel
theorem dX3_shake_25 : decode cX3_shake 25 = .ok (.invokevirtual 136, 3) := by decide +kernel
theorem dX3_shake_28 : decode cX3_shake 28 = .ok (.invokevirtual 140, 3) := by decide +kernel
theorem dX3_shake_31 : decode cX3_shake 31 = .ok (.iload_n 1, 1) := by decide +kernel
theorem dX3_shake_32 : decode cX3_shake 32 = .ok (.iconst 3, 1) := by decide +kernel
theorem dX3_shake_33 : decode cX3_shake 33 = .ok (.if_icmp .lt 11, 3) := by decide +kernel
theorem dX3_shake_36 : decode cX3_shake 36 = .ok (.aload_n 0, 1) := by decide +kernel
theorem dX3_shake_37 : decode cX3_shake 37 = .ok (.getfield 21, 3) := by decide +kernel
theorem dX3_shake_40 : decode cX3_shake 40 = .ok (.iconst 3, 1) := by decide +kernel
theorem dX3_shake_41 : decode cX3_shake 41 = .ok (.invokevirtual 143, 3) := by decide +kernel
theorem dX3_shake_44 : decode cX3_shake 44 = .ok (.return_, 1) := by decide +kernel
set_option maxRecDepth 20000 in
theorem ggX4_init_X1_init : GoodIn wsX4_init wsX1_init := goodIn_r _ [14, 15, 2, 3, 16, 17, 18, 55, 56] (by decide +kernel) (by decide +kernel)
set_option maxRecDepth 20000 in
theorem gX4_init_X1_init : GoodIn wsX4_init (wsX1_init) := ggX4_init_X1_init
set_option maxRecDepth 20000 in
theorem ggX4_init_X3_init : GoodIn wsX4_init wsX3_init := goodIn_r _ [21, 22, 2, 3, 23, 24, 25, 26, 27, 28, 29, 30, 31, 32, 33, 34, 35, 36, 16, 37, 38, 39, 40, 41, 42, 43, 44, 45, 46, 47, 48, 49, 50, 51, 52, 53, 54, 63, 64, 65, 66, 67, 68, 69, 70, 57, 58, 59, 60, 71, 72, 73, 74, 75, 76, 77, 78] (by decide +kernel) (by decide +kernel)
set_option maxRecDepth 20000 in
theorem gX4_init_X3_init : GoodIn wsX4_init (wsX3_init) := ggX4_init_X3_init
theorem dX4_init_0 : decode cX4_init 0 = .ok (.aload_n 0, 1) := by decide +kernel
theorem dX4_init_1 : decode cX4_init 1 = .ok (.invokespecial 3, 3) := by decide +kernel
theorem dX4_init_4 : decode cX4_init 4 = .ok (.new 9, 3) := by decide +kernel
theorem dX4_init_7 : decode cX4_init 7 = .ok (.dup, 1) := by decide +kernel
theorem dX4_init_8 : decode cX4_init 8 = .ok (.invokespecial 11, 3) := by decide +kernel
theorem dX4_init_11 : decode cX4_init 11 = .ok (.astore_n 1, 1) := by decide +kernel
theorem dX4_init_12 : decode cX4_init 12 = .ok (.aload_n 0, 1) := by decide +kernel
theorem dX4_init_13 : decode cX4_init 13 = .ok (.new 12, 3) := by decide +kernel
theorem dX4_init_16 : decode cX4_init 16 = .ok (.dup, 1) := by decide +kernel
theorem dX4_init_17 : decode cX4_init 17 = .ok (.aload_n 1, 1) := by decide +kernel
theorem dX4_init_18 : decode cX4_init 18 = .ok (.invokespecial 14, 3) := by decide +kernel
theorem dX4_init_21 : decode cX4_init 21 = .ok (.putfield 17, 3) := by decide +kernel
theorem dX4_init_24 : decode cX4_init 24 = .ok (.aload_n 0, 1) := by decide +kernel
theorem dX4_init_25 : decode cX4_init 25 = .ok (.new 12, 3) := by decide +kernel
theorem dX4_init_28 : decode cX4_init 28 = .ok (.dup, 1) := by decide +kernel
theorem dX4_init_29 : decode cX4_init 29 = .ok (.aload_n 1, 1) := by decide +kernel
theorem dX4_init_30 : decode cX4_init 30 = .ok (.invokespecial 14, 3) := by decide +kernel
theorem dX4_init_33 : decode cX4_init 33 = .ok (.putfield 21, 3) := by decide +kernel
theorem dX4_init_36 : decode cX4_init 36 = .ok (.return_, 1) := by decide +kernel
set_option maxRecDepth 20000 in
theorem ggX4_setStation_X4_checkIndex : GoodIn wsX4_setStation wsX4_checkIndex := goodIn_ca (goodIn_r _ [11, 12, 13] (by decide +kernel) (by decide +kernel)) (goodIn_sub (fun _ h => List.mem_cons_of_mem _ (List.mem_append_left _ (List.mem_append_right _ h))) (by decide +kernel))
set_option maxRecDepth 20000 in
theorem gX4_setStation_X4_checkIndex : GoodIn wsX4_setStation (va_wsS RX4 24 yX4_checkIndex wsX4_checkIndex) := goodIn_app (goodIn_of _ (by decide +kernel)) ggX4_setStation_X4_checkIndex
set_option maxRecDepth 20000 in
theorem ggX4_setStation_X4_checkArgument : GoodIn wsX4_setStation wsX4_checkArgument := goodIn_ca (goodIn_r _ [16, 17, 18] (by decide +kernel) (by decide +kernel)) (goodIn_sub (fun _ h => List.mem_cons_of_mem _ (List.mem_append_right _ h)) (by decide +kernel))
set_option maxRecDepth 20000 in
theorem gX4_setStation_X4_checkArgument : GoodIn wsX4_setStation (va_wsS RX4 28 yX4_checkArgument wsX4_checkArgument) := goodIn_app (goodIn_of _ (by decide +kernel)) ggX4_setStation_X4_checkArgument
set_option maxRecDepth 20000 in
theorem ggX4_setStation_X1_wouldRise : GoodIn wsX4_setStation wsX1_wouldRise := goodIn_r _ [23, 24, 31, 32] (by decide +kernel) (by decide +kernel)
set_option maxRecDepth 20000 in
theorem gX4_setStation_X1_wouldRise : GoodIn wsX4_setStation (wsV RX4 44 RX1 yX1_wouldRise wsX1_wouldRise) := goodIn_app (goodIn_of _ (by decide +kernel)) ggX4_setStation_X1_wouldRise
theorem dX4_setStation_0 : decode cX4_setStation 0 = .ok (.iload_n 1, 1) := by decide +kernel
theorem dX4_setStation_1 : decode cX4_setStation 1 = .ok (.bipush 8, 2) := by decide +kernel
theorem dX4_setStation_3 : decode cX4_setStation 3 = .ok (.invokestatic 24, 3) := by decide +kernel
theorem dX4_setStation_6 : decode cX4_setStation 6 = .ok (.iload_n 2, 1) := by decide +kernel
theorem dX4_setStation_7 : decode cX4_setStation 7 = .ok (.iconst 1, 1) := by decide +kernel
theorem dX4_setStation_8 : decode cX4_setStation 8 = .ok (.sipush 999, 3) := by decide +kernel
theorem dX4_setStation_11 : decode cX4_setStation 11 = .ok (.invokestatic 28, 3) := by decide +kernel
theorem dX4_setStation_14 : decode cX4_setStation 14 = .ok (.iload_n 3, 1) := by decide +kernel
theorem dX4_setStation_15 : decode cX4_setStation 15 = .ok (.iconst 0, 1) := by decide +kernel
theorem dX4_setStation_16 : decode cX4_setStation 16 = .ok (.iconst 3, 1) := by decide +kernel
theorem dX4_setStation_17 : decode cX4_setStation 17 = .ok (.invokestatic 28, 3) := by decide +kernel
theorem dX4_setStation_20 : decode cX4_setStation 20 = .ok (.aload_n 0, 1) := by decide +kernel
theorem dX4_setStation_21 : decode cX4_setStation 21 = .ok (.getfield 17, 3) := by decide +kernel
theorem dX4_setStation_24 : decode cX4_setStation 24 = .ok (.getfield 32, 3) := by decide +kernel
theorem dX4_setStation_27 : decode cX4_setStation 27 = .ok (.astore 4, 2) := by decide +kernel
theorem dX4_setStation_29 : decode cX4_setStation 29 = .ok (.aload_n 0, 1) := by decide +kernel
theorem dX4_setStation_30 : decode cX4_setStation 30 = .ok (.getfield 17, 3) := by decide +kernel
theorem dX4_setStation_33 : decode cX4_setStation 33 = .ok (.getfield 36, 3) := by decide +kernel
theorem dX4_setStation_36 : decode cX4_setStation 36 = .ok (.aload 4, 2) := by decide +kernel
theorem dX4_setStation_38 : decode cX4_setStation 38 = .ok (.getfield 40, 3) := by decide +kernel
theorem dX4_setStation_41 : decode cX4_setStation 41 = .ok (.iload_n 1, 1) := by decide +kernel
theorem dX4_setStation_42 : decode cX4_setStation 42 = .ok (.iaload, 1) := by decide +kernel
theorem dX4_setStation_43 : decode cX4_setStation 43 = .ok (.if_icmp .gt 24, 3) := by decide +kernel
theorem dX4_setStation_46 : decode cX4_setStation 46 = .ok (.aload_n 0, 1) := by decide +kernel
theorem dX4_setStation_47 : decode cX4_setStation 47 = .ok (.getfield 17, 3) := by decide +kernel
theorem dX4_setStation_50 : decode cX4_setStation 50 = .ok (.getfield 36, 3) := by decide +kernel
theorem dX4_setStation_53 : decode cX4_setStation 53 = .ok (.iload_n 2, 1) := by decide +kernel
theorem dX4_setStation_54 : decode cX4_setStation 54 = .ok (.if_icmp .gt 13, 3) := by decide +kernel
theorem dX4_setStation_57 : decode cX4_setStation 57 = .ok (.aload 4, 2) := by decide +kernel
theorem dX4_setStation_59 : decode cX4_setStation 59 = .ok (.iload_n 1, 1) := by decide +kernel
theorem dX4_setStation_60 : decode cX4_setStation 60 = .ok (.iload_n 2, 1) := by decide +kernel
theorem dX4_setStation_61 : decode cX4_setStation 61 = .ok (.invokevirtual 44, 3) := by decide +kernel
theorem dX4_setStation_64 : decode cX4_setStation 64 = .ok (.ifCond .ne 13, 3) := by decide +kernel
theorem dX4_setStation_67 : decode cX4_setStation 67 = .ok (.new 48, 3) := by decide +kernel
theorem dX4_setStation_70 : decode cX4_setStation 70 = .ok (.dup, 1) := by decide +kernel
theorem dX4_setStation_71 : decode cX4_setStation 71 = .ok (.ldc 50, 2) := by decide +kernel
theorem dX4_setStation_73 : decode cX4_setStation 73 = .ok (.invokespecial 52, 3) := by decide +kernel
theorem dX4_setStation_76 : decode cX4_setStation 76 = .ok (.athrow, 1) := by decide +kernel
theorem dX4_setStation_77 : decode cX4_setStation 77 = .ok (.bipush 10, 2) := by decide +kernel
theorem dX4_setStation_79 : decode cX4_setStation 79 = .ok (.aload 4, 2) := by decide +kernel
theorem dX4_setStation_81 : decode cX4_setStation 81 = .ok (.getfield 40, 3) := by decide +kernel
theorem dX4_setStation_84 : decode cX4_setStation 84 = .ok (.iload_n 1, 1) := by decide +kernel
theorem dX4_setStation_85 : decode cX4_setStation 85 = .ok (.iaload, 1) := by decide +kernel
theorem dX4_setStation_86 : decode cX4_setStation 86 = .ok (.imul, 1) := by decide +kernel
theorem dX4_setStation_87 : decode cX4_setStation 87 = .ok (.aload 4, 2) := by decide +kernel
theorem dX4_setStation_89 : decode cX4_setStation 89 = .ok (.getfield 55, 3) := by decide +kernel
theorem dX4_setStation_92 : decode cX4_setStation 92 = .ok (.iload_n 1, 1) := by decide +kernel
theorem dX4_setStation_93 : decode cX4_setStation 93 = .ok (.iaload, 1) := by decide +kernel
theorem dX4_setStation_94 : decode cX4_setStation 94 = .ok (.iadd, 1) := by decide +kernel
theorem dX4_setStation_95 : decode cX4_setStation 95 = .ok (.istore 5, 2) := by decide +kernel
theorem dX4_setStation_97 : decode cX4_setStation 97 = .ok (.aload 4, 2) := by decide +kernel
theorem dX4_setStation_99 : decode cX4_setStation 99 = .ok (.getfield 40, 3) := by decide +kernel
theorem dX4_setStation_102 : decode cX4_setStation 102 = .ok (.iload_n 1, 1) := by decide +kernel
theorem dX4_setStation_103 : decode cX4_setStation 103 = .ok (.iload_n 2, 1) := by decide +kernel
theorem dX4_setStation_104 : decode cX4_setStation 104 = .ok (.iastore, 1) := by decide +kernel
theorem dX4_setStation_105 : decode cX4_setStation 105 = .ok (.aload 4, 2) := by decide +kernel
theorem dX4_setStation_107 : decode cX4_setStation 107 = .ok (.getfield 55, 3) := by decide +kernel
theorem dX4_setStation_110 : decode cX4_setStation 110 = .ok (.iload_n 1, 1) := by decide +kernel
theorem dX4_setStation_111 : decode cX4_setStation 111 = .ok (.iload_n 3, 1) := by decide +kernel
theorem dX4_setStation_112 : decode cX4_setStation 112 = .ok (.iastore, 1) := by decide +kernel
theorem dX4_setStation_113 : decode cX4_setStation 113 = .ok (.iload 5, 2) := by decide +kernel
theorem dX4_setStation_115 : decode cX4_setStation 115 = .ok (.ireturn, 1) := by decide +kernel
set_option maxRecDepth 20000 in
theorem ggX4_post_X4_checkIndex : GoodIn wsX4_post wsX4_checkIndex := goodIn_ca (goodIn_r _ [9, 10, 11] (by decide +kernel) (by decide +kernel)) (goodIn_sub (fun _ h => List.mem_cons_of_mem _ (List.mem_append_right _ h)) (by decide +kernel))
set_option maxRecDepth 20000 in
theorem gX4_post_X4_checkIndex : GoodIn wsX4_post (va_wsS RX4 24 yX4_checkIndex wsX4_checkIndex) := goodIn_app (goodIn_of _ (by decide +kernel)) ggX4_post_X4_checkIndex
set_option maxRecDepth 20000 in
theorem ggX4_post_X2_addToBag : GoodIn wsX4_post wsX2_addToBag := goodIn_r _ [16, 17, 18, 19, 20, 21, 22, 23, 30, 31, 32, 33, 34, 35, 36, 37] (by decide +kernel) (by decide +kernel)
set_option maxRecDepth 20000 in
theorem gX4_post_X2_addToBag : GoodIn wsX4_post (wsV RX4 69 RX2 yX2_addToBag wsX2_addToBag) := goodIn_app (goodIn_of _ (by decide +kernel)) ggX4_post_X2_addToBag
theorem dX4_post_0 : decode cX4_post 0 = .ok (.iload_n 1, 1) := by decide +kernel
theorem dX4_post_1 : decode cX4_post 1 = .ok (.bipush 8, 2) := by decide +kernel
theorem dX4_post_3 : decode cX4_post 3 = .ok (.invokestatic 24, 3) := by decide +kernel
theorem dX4_post_6 : decode cX4_post 6 = .ok (.iload_n 2, 1) := by decide +kernel
theorem dX4_post_7 : decode cX4_post 7 = .ok (.bipush 16, 2) := by decide +kernel
theorem dX4_post_9 : decode cX4_post 9 = .ok (.invokestatic 24, 3) := by decide +kernel
theorem dX4_post_12 : decode cX4_post 12 = .ok (.aload_n 0, 1) := by decide +kernel
theorem dX4_post_13 : decode cX4_post 13 = .ok (.getfield 17, 3) := by decide +kernel
theorem dX4_post_16 : decode cX4_post 16 = .ok (.getfield 58, 3) := by decide +kernel
theorem dX4_post_19 : decode cX4_post 19 = .ok (.getfield 62, 3) := by decide +kernel
theorem dX4_post_22 : decode cX4_post 22 = .ok (.bipush 60, 2) := by decide +kernel
theorem dX4_post_24 : decode cX4_post 24 = .ok (.if_icmp .lt 13, 3) := by decide +kernel
theorem dX4_post_27 : decode cX4_post 27 = .ok (.new 48, 3) := by decide +kernel
theorem dX4_post_30 : decode cX4_post 30 = .ok (.dup, 1) := by decide +kernel
theorem dX4_post_31 : decode cX4_post 31 = .ok (.ldc 67, 2) := by decide +kernel
theorem dX4_post_33 : decode cX4_post 33 = .ok (.invokespecial 52, 3) := by decide +kernel
theorem dX4_post_36 : decode cX4_post 36 = .ok (.athrow, 1) := by decide +kernel
theorem dX4_post_37 : decode cX4_post 37 = .ok (.aload_n 0, 1) := by decide +kernel
theorem dX4_post_38 : decode cX4_post 38 = .ok (.getfield 17, 3) := by decide +kernel
theorem dX4_post_41 : decode cX4_post 41 = .ok (.getfield 58, 3) := by decide +kernel
theorem dX4_post_44 : decode cX4_post 44 = .ok (.iload_n 1, 1) := by decide +kernel
theorem dX4_post_45 : decode cX4_post 45 = .ok (.iload_n 2, 1) := by decide +kernel
theorem dX4_post_46 : decode cX4_post 46 = .ok (.invokevirtual 69, 3) := by decide +kernel
theorem dX4_post_49 : decode cX4_post 49 = .ok (.ireturn, 1) := by decide +kernel
set_option maxRecDepth 20000 in
theorem ggX4_hire_X4_checkArgument : GoodIn wsX4_hire wsX4_checkArgument := goodIn_ca (goodIn_r _ [10, 11, 12] (by decide +kernel) (by decide +kernel)) (goodIn_sub (fun _ h => List.mem_cons_of_mem _ (List.mem_append_right _ h)) (by decide +kernel))
set_option maxRecDepth 20000 in
theorem gX4_hire_X4_checkArgument : GoodIn wsX4_hire (va_wsS RX4 28 yX4_checkArgument wsX4_checkArgument) := goodIn_app (goodIn_of _ (by decide +kernel)) ggX4_hire_X4_checkArgument
set_option maxRecDepth 20000 in
theorem ggX4_hire_X0_add : GoodIn wsX4_hire wsX0_add := goodIn_r _ [17, 18, 19, 20, 21, 28, 29, 30, 31, 32, 33, 34, 35] (by decide +kernel) (by decide +kernel)
set_option maxRecDepth 20000 in
theorem gX4_hire_X0_add : GoodIn wsX4_hire (wsV RX4 83 RX0 yX0_add wsX0_add) := goodIn_app (goodIn_of _ (by decide +kernel)) ggX4_hire_X0_add
theorem dX4_hire_0 : decode cX4_hire 0 = .ok (.iload_n 1, 1) := by decide +kernel
theorem dX4_hire_1 : decode cX4_hire 1 = .ok (.iconst 1, 1) := by decide +kernel
theorem dX4_hire_2 : decode cX4_hire 2 = .ok (.bipush 9, 2) := by decide +kernel
theorem dX4_hire_4 : decode cX4_hire 4 = .ok (.invokestatic 28, 3) := by decide +kernel
theorem dX4_hire_7 : decode cX4_hire 7 = .ok (.iload_n 2, 1) := by decide +kernel
theorem dX4_hire_8 : decode cX4_hire 8 = .ok (.iconst 0, 1) := by decide +kernel
theorem dX4_hire_9 : decode cX4_hire 9 = .ok (.ldc 73, 2) := by decide +kernel
theorem dX4_hire_11 : decode cX4_hire 11 = .ok (.invokestatic 28, 3) := by decide +kernel
theorem dX4_hire_14 : decode cX4_hire 14 = .ok (.aload_n 0, 1) := by decide +kernel
theorem dX4_hire_15 : decode cX4_hire 15 = .ok (.getfield 17, 3) := by decide +kernel
theorem dX4_hire_18 : decode cX4_hire 18 = .ok (.getfield 74, 3) := by decide +kernel
theorem dX4_hire_21 : decode cX4_hire 21 = .ok (.getfield 78, 3) := by decide +kernel
theorem dX4_hire_24 : decode cX4_hire 24 = .ok (.iconst 4, 1) := by decide +kernel
theorem dX4_hire_25 : decode cX4_hire 25 = .ok (.if_icmp .lt 13, 3) := by decide +kernel
theorem dX4_hire_28 : decode cX4_hire 28 = .ok (.new 48, 3) := by decide +kernel
theorem dX4_hire_31 : decode cX4_hire 31 = .ok (.dup, 1) := by decide +kernel
theorem dX4_hire_32 : decode cX4_hire 32 = .ok (.ldc 81, 2) := by decide +kernel
theorem dX4_hire_34 : decode cX4_hire 34 = .ok (.invokespecial 52, 3) := by decide +kernel
theorem dX4_hire_37 : decode cX4_hire 37 = .ok (.athrow, 1) := by decide +kernel
theorem dX4_hire_38 : decode cX4_hire 38 = .ok (.aload_n 0, 1) := by decide +kernel
theorem dX4_hire_39 : decode cX4_hire 39 = .ok (.getfield 17, 3) := by decide +kernel
theorem dX4_hire_42 : decode cX4_hire 42 = .ok (.getfield 74, 3) := by decide +kernel
theorem dX4_hire_45 : decode cX4_hire 45 = .ok (.iload_n 1, 1) := by decide +kernel
theorem dX4_hire_46 : decode cX4_hire 46 = .ok (.iload_n 2, 1) := by decide +kernel
theorem dX4_hire_47 : decode cX4_hire 47 = .ok (.invokevirtual 83, 3) := by decide +kernel
theorem dX4_hire_50 : decode cX4_hire 50 = .ok (.ireturn, 1) := by decide +kernel
set_option maxRecDepth 20000 in
theorem ggX4_assign_X4_checkIndex : GoodIn wsX4_assign wsX4_checkIndex := goodIn_ca (goodIn_r _ [9, 10, 11] (by decide +kernel) (by decide +kernel)) (goodIn_sub (fun _ h => List.mem_cons_of_mem _ (List.mem_append_left _ (List.mem_append_right _ h))) (by decide +kernel))
set_option maxRecDepth 20000 in
theorem gX4_assign_X4_checkIndex : GoodIn wsX4_assign (va_wsS RX4 24 yX4_checkIndex wsX4_checkIndex) := goodIn_app (goodIn_of _ (by decide +kernel)) ggX4_assign_X4_checkIndex
set_option maxRecDepth 20000 in
theorem ggX4_assign_X4_checkArgument : GoodIn wsX4_assign wsX4_checkArgument := goodIn_ca (goodIn_r _ [14, 15, 16] (by decide +kernel) (by decide +kernel)) (goodIn_sub (fun _ h => List.mem_cons_of_mem _ (List.mem_append_right _ h)) (by decide +kernel))
set_option maxRecDepth 20000 in
theorem gX4_assign_X4_checkArgument : GoodIn wsX4_assign (va_wsS RX4 28 yX4_checkArgument wsX4_checkArgument) := goodIn_app (goodIn_of _ (by decide +kernel)) ggX4_assign_X4_checkArgument
theorem dX4_assign_0 : decode cX4_assign 0 = .ok (.iload_n 1, 1) := by decide +kernel
theorem dX4_assign_1 : decode cX4_assign 1 = .ok (.aload_n 0, 1) := by decide +kernel
theorem dX4_assign_2 : decode cX4_assign 2 = .ok (.getfield 17, 3) := by decide +kernel
theorem dX4_assign_5 : decode cX4_assign 5 = .ok (.getfield 74, 3) := by decide +kernel
theorem dX4_assign_8 : decode cX4_assign 8 = .ok (.getfield 78, 3) := by decide +kernel
theorem dX4_assign_11 : decode cX4_assign 11 = .ok (.invokestatic 24, 3) := by decide +kernel
theorem dX4_assign_14 : decode cX4_assign 14 = .ok (.iload_n 2, 1) := by decide +kernel
theorem dX4_assign_15 : decode cX4_assign 15 = .ok (.iconst 0, 1) := by decide +kernel
theorem dX4_assign_16 : decode cX4_assign 16 = .ok (.ldc 73, 2) := by decide +kernel
theorem dX4_assign_18 : decode cX4_assign 18 = .ok (.invokestatic 28, 3) := by decide +kernel
theorem dX4_assign_21 : decode cX4_assign 21 = .ok (.aload_n 0, 1) := by decide +kernel
theorem dX4_assign_22 : decode cX4_assign 22 = .ok (.getfield 17, 3) := by decide +kernel
theorem dX4_assign_25 : decode cX4_assign 25 = .ok (.getfield 74, 3) := by decide +kernel
theorem dX4_assign_28 : decode cX4_assign 28 = .ok (.getfield 86, 3) := by decide +kernel
theorem dX4_assign_31 : decode cX4_assign 31 = .ok (.iload_n 1, 1) := by decide +kernel
theorem dX4_assign_32 : decode cX4_assign 32 = .ok (.iaload, 1) := by decide +kernel
theorem dX4_assign_33 : decode cX4_assign 33 = .ok (.istore_n 3, 1) := by decide +kernel
theorem dX4_assign_34 : decode cX4_assign 34 = .ok (.aload_n 0, 1) := by decide +kernel
theorem dX4_assign_35 : decode cX4_assign 35 = .ok (.getfield 17, 3) := by decide +kernel
theorem dX4_assign_38 : decode cX4_assign 38 = .ok (.getfield 74, 3) := by decide +kernel
theorem dX4_assign_41 : decode cX4_assign 41 = .ok (.getfield 86, 3) := by decide +kernel
theorem dX4_assign_44 : decode cX4_assign 44 = .ok (.iload_n 1, 1) := by decide +kernel
theorem dX4_assign_45 : decode cX4_assign 45 = .ok (.iload_n 2, 1) := by decide +kernel
theorem dX4_assign_46 : decode cX4_assign 46 = .ok (.iastore, 1) := by decide +kernel
theorem dX4_assign_47 : decode cX4_assign 47 = .ok (.iload_n 3, 1) := by decide +kernel
theorem dX4_assign_48 : decode cX4_assign 48 = .ok (.ireturn, 1) := by decide +kernel
set_option maxRecDepth 20000 in
theorem ggX4_tea_X4_checkIndex : GoodIn wsX4_tea wsX4_checkIndex := goodIn_ca (goodIn_r _ [9, 10, 11] (by decide +kernel) (by decide +kernel)) (goodIn_sub (fun _ h => List.mem_cons_of_mem _ (List.mem_append_right _ h)) (by decide +kernel))
set_option maxRecDepth 20000 in
theorem gX4_tea_X4_checkIndex : GoodIn wsX4_tea (va_wsS RX4 24 yX4_checkIndex wsX4_checkIndex) := goodIn_app (goodIn_of _ (by decide +kernel)) ggX4_tea_X4_checkIndex
theorem dX4_tea_0 : decode cX4_tea 0 = .ok (.iload_n 1, 1) := by decide +kernel
theorem dX4_tea_1 : decode cX4_tea 1 = .ok (.aload_n 0, 1) := by decide +kernel
theorem dX4_tea_2 : decode cX4_tea 2 = .ok (.getfield 17, 3) := by decide +kernel
theorem dX4_tea_5 : decode cX4_tea 5 = .ok (.getfield 74, 3) := by decide +kernel
theorem dX4_tea_8 : decode cX4_tea 8 = .ok (.getfield 78, 3) := by decide +kernel
theorem dX4_tea_11 : decode cX4_tea 11 = .ok (.invokestatic 24, 3) := by decide +kernel
theorem dX4_tea_14 : decode cX4_tea 14 = .ok (.aload_n 0, 1) := by decide +kernel
theorem dX4_tea_15 : decode cX4_tea 15 = .ok (.getfield 17, 3) := by decide +kernel
theorem dX4_tea_18 : decode cX4_tea 18 = .ok (.getfield 74, 3) := by decide +kernel
theorem dX4_tea_21 : decode cX4_tea 21 = .ok (.getfield 89, 3) := by decide +kernel
theorem dX4_tea_24 : decode cX4_tea 24 = .ok (.iload_n 1, 1) := by decide +kernel
theorem dX4_tea_25 : decode cX4_tea 25 = .ok (.iaload, 1) := by decide +kernel
theorem dX4_tea_26 : decode cX4_tea 26 = .ok (.istore_n 2, 1) := by decide +kernel
theorem dX4_tea_27 : decode cX4_tea 27 = .ok (.aload_n 0, 1) := by decide +kernel
theorem dX4_tea_28 : decode cX4_tea 28 = .ok (.getfield 17, 3) := by decide +kernel
theorem dX4_tea_31 : decode cX4_tea 31 = .ok (.getfield 74, 3) := by decide +kernel
theorem dX4_tea_34 : decode cX4_tea 34 = .ok (.getfield 89, 3) := by decide +kernel
theorem dX4_tea_37 : decode cX4_tea 37 = .ok (.iload_n 1, 1) := by decide +kernel
theorem dX4_tea_38 : decode cX4_tea 38 = .ok (.iconst 0, 1) := by decide +kernel
theorem dX4_tea_39 : decode cX4_tea 39 = .ok (.iastore, 1) := by decide +kernel
theorem dX4_tea_40 : decode cX4_tea 40 = .ok (.aload_n 0, 1) := by decide +kernel
theorem dX4_tea_41 : decode cX4_tea 41 = .ok (.getfield 17, 3) := by decide +kernel
theorem dX4_tea_44 : decode cX4_tea 44 = .ok (.getfield 74, 3) := by decide +kernel
theorem dX4_tea_47 : decode cX4_tea 47 = .ok (.getfield 92, 3) := by decide +kernel
theorem dX4_tea_50 : decode cX4_tea 50 = .ok (.iload_n 1, 1) := by decide +kernel
theorem dX4_tea_51 : decode cX4_tea 51 = .ok (.iconst 1, 1) := by decide +kernel
theorem dX4_tea_52 : decode cX4_tea 52 = .ok (.iastore, 1) := by decide +kernel
theorem dX4_tea_53 : decode cX4_tea 53 = .ok (.iload_n 2, 1) := by decide +kernel
theorem dX4_tea_54 : decode cX4_tea 54 = .ok (.ireturn, 1) := by decide +kernel
set_option maxRecDepth 20000 in
theorem ggX4_letter_X4_checkIndex : GoodIn wsX4_letter wsX4_checkIndex := goodIn_ca (goodIn_r _ [7, 8, 9] (by decide +kernel) (by decide +kernel)) (goodIn_sub (fun _ h => List.mem_cons_of_mem _ (List.mem_append_right _ h)) (by decide +kernel))
set_option maxRecDepth 20000 in
theorem gX4_letter_X4_checkIndex : GoodIn wsX4_letter (va_wsS RX4 24 yX4_checkIndex wsX4_checkIndex) := goodIn_app (goodIn_of _ (by decide +kernel)) ggX4_letter_X4_checkIndex
set_option maxRecDepth 20000 in
theorem ggX4_letter_X2_fact : GoodIn wsX4_letter wsX2_fact := goodIn_r _ [14, 15, 16, 17, 18, 19, 26, 27, 28, 29, 30, 31, 32, 33] (by decide +kernel) (by decide +kernel)
set_option maxRecDepth 20000 in
theorem gX4_letter_X2_fact : GoodIn wsX4_letter (wsV RX4 95 RX2 yX2_fact wsX2_fact) := goodIn_app (goodIn_of _ (by decide +kernel)) ggX4_letter_X2_fact
theorem dX4_letter_0 : decode cX4_letter 0 = .ok (.iload_n 1, 1) := by decide +kernel
theorem dX4_letter_1 : decode cX4_letter 1 = .ok (.aload_n 0, 1) := by decide +kernel
theorem dX4_letter_2 : decode cX4_letter 2 = .ok (.getfield 17, 3) := by decide +kernel
theorem dX4_letter_5 : decode cX4_letter 5 = .ok (.getfield 58, 3) := by decide +kernel
theorem dX4_letter_8 : decode cX4_letter 8 = .ok (.getfield 62, 3) := by decide +kernel
theorem dX4_letter_11 : decode cX4_letter 11 = .ok (.invokestatic 24, 3) := by decide +kernel
theorem dX4_letter_14 : decode cX4_letter 14 = .ok (.iload_n 2, 1) := by decide +kernel
theorem dX4_letter_15 : decode cX4_letter 15 = .ok (.iconst 5, 1) := by decide +kernel
theorem dX4_letter_16 : decode cX4_letter 16 = .ok (.invokestatic 24, 3) := by decide +kernel
theorem dX4_letter_19 : decode cX4_letter 19 = .ok (.aload_n 0, 1) := by decide +kernel
theorem dX4_letter_20 : decode cX4_letter 20 = .ok (.getfield 17, 3) := by decide +kernel
theorem dX4_letter_23 : decode cX4_letter 23 = .ok (.getfield 58, 3) := by decide +kernel
theorem dX4_letter_26 : decode cX4_letter 26 = .ok (.iload_n 1, 1) := by decide +kernel
theorem dX4_letter_27 : decode cX4_letter 27 = .ok (.iload_n 2, 1) := by decide +kernel
theorem dX4_letter_28 : decode cX4_letter 28 = .ok (.invokevirtual 95, 3) := by decide +kernel
theorem dX4_letter_31 : decode cX4_letter 31 = .ok (.ireturn, 1) := by decide +kernel
set_option maxRecDepth 20000 in
theorem ggX4_sorter_X4_checkIndex : GoodIn wsX4_sorter wsX4_checkIndex := goodIn_ca (goodIn_r _ [7, 8, 9] (by decide +kernel) (by decide +kernel)) (goodIn_sub (fun _ h => List.mem_cons_of_mem _ (List.mem_append_right _ h)) (by decide +kernel))
set_option maxRecDepth 20000 in
theorem gX4_sorter_X4_checkIndex : GoodIn wsX4_sorter (va_wsS RX4 24 yX4_checkIndex wsX4_checkIndex) := goodIn_app (goodIn_of _ (by decide +kernel)) ggX4_sorter_X4_checkIndex
set_option maxRecDepth 20000 in
theorem ggX4_sorter_X0_fact : GoodIn wsX4_sorter wsX0_fact := goodIn_r _ [14, 15, 16, 17, 18, 19, 20, 21, 28, 29, 30, 31, 32, 33, 34, 35] (by decide +kernel) (by decide +kernel)
set_option maxRecDepth 20000 in
theorem gX4_sorter_X0_fact : GoodIn wsX4_sorter (wsV RX4 98 RX0 yX0_fact wsX0_fact) := goodIn_app (goodIn_of _ (by decide +kernel)) ggX4_sorter_X0_fact
theorem dX4_sorter_0 : decode cX4_sorter 0 = .ok (.iload_n 1, 1) := by decide +kernel
theorem dX4_sorter_1 : decode cX4_sorter 1 = .ok (.aload_n 0, 1) := by decide +kernel
theorem dX4_sorter_2 : decode cX4_sorter 2 = .ok (.getfield 17, 3) := by decide +kernel
theorem dX4_sorter_5 : decode cX4_sorter 5 = .ok (.getfield 74, 3) := by decide +kernel
theorem dX4_sorter_8 : decode cX4_sorter 8 = .ok (.getfield 78, 3) := by decide +kernel
theorem dX4_sorter_11 : decode cX4_sorter 11 = .ok (.invokestatic 24, 3) := by decide +kernel
theorem dX4_sorter_14 : decode cX4_sorter 14 = .ok (.iload_n 2, 1) := by decide +kernel
theorem dX4_sorter_15 : decode cX4_sorter 15 = .ok (.bipush 7, 2) := by decide +kernel
theorem dX4_sorter_17 : decode cX4_sorter 17 = .ok (.invokestatic 24, 3) := by decide +kernel
theorem dX4_sorter_20 : decode cX4_sorter 20 = .ok (.aload_n 0, 1) := by decide +kernel
theorem dX4_sorter_21 : decode cX4_sorter 21 = .ok (.getfield 17, 3) := by decide +kernel
theorem dX4_sorter_24 : decode cX4_sorter 24 = .ok (.getfield 74, 3) := by decide +kernel
theorem dX4_sorter_27 : decode cX4_sorter 27 = .ok (.iload_n 1, 1) := by decide +kernel
theorem dX4_sorter_28 : decode cX4_sorter 28 = .ok (.iload_n 2, 1) := by decide +kernel
theorem dX4_sorter_29 : decode cX4_sorter 29 = .ok (.invokevirtual 98, 3) := by decide +kernel
theorem dX4_sorter_32 : decode cX4_sorter 32 = .ok (.ireturn, 1) := by decide +kernel
set_option maxRecDepth 20000 in
theorem ggX4_hole_X4_checkIndex : GoodIn wsX4_hole wsX4_checkIndex := goodIn_ca (goodIn_r _ [7, 8, 9] (by decide +kernel) (by decide +kernel)) (goodIn_sub (fun _ h => List.mem_cons_of_mem _ (List.mem_append_right _ h)) (by decide +kernel))
set_option maxRecDepth 20000 in
theorem gX4_hole_X4_checkIndex : GoodIn wsX4_hole (va_wsS RX4 24 yX4_checkIndex wsX4_checkIndex) := goodIn_app (goodIn_of _ (by decide +kernel)) ggX4_hole_X4_checkIndex
theorem dX4_hole_0 : decode cX4_hole 0 = .ok (.iload_n 1, 1) := by decide +kernel
theorem dX4_hole_1 : decode cX4_hole 1 = .ok (.bipush 16, 2) := by decide +kernel
theorem dX4_hole_3 : decode cX4_hole 3 = .ok (.invokestatic 24, 3) := by decide +kernel
theorem dX4_hole_6 : decode cX4_hole 6 = .ok (.aload_n 0, 1) := by decide +kernel
theorem dX4_hole_7 : decode cX4_hole 7 = .ok (.getfield 17, 3) := by decide +kernel
theorem dX4_hole_10 : decode cX4_hole 10 = .ok (.getfield 58, 3) := by decide +kernel
theorem dX4_hole_13 : decode cX4_hole 13 = .ok (.getfield 99, 3) := by decide +kernel
theorem dX4_hole_16 : decode cX4_hole 16 = .ok (.iload_n 1, 1) := by decide +kernel
theorem dX4_hole_17 : decode cX4_hole 17 = .ok (.iaload, 1) := by decide +kernel
theorem dX4_hole_18 : decode cX4_hole 18 = .ok (.ireturn, 1) := by decide +kernel
set_option maxRecDepth 20000 in
theorem ggX4_station_X4_checkIndex : GoodIn wsX4_station wsX4_checkIndex := goodIn_ca (goodIn_r _ [9, 10, 11] (by decide +kernel) (by decide +kernel)) (goodIn_sub (fun _ h => List.mem_cons_of_mem _ (List.mem_append_right _ h)) (by decide +kernel))
set_option maxRecDepth 20000 in
theorem gX4_station_X4_checkIndex : GoodIn wsX4_station (va_wsS RX4 24 yX4_checkIndex wsX4_checkIndex) := goodIn_app (goodIn_of _ (by decide +kernel)) ggX4_station_X4_checkIndex
set_option maxRecDepth 20000 in
theorem ggX4_station_X2_lettersInBag : GoodIn wsX4_station wsX2_lettersInBag := goodIn_r _ [16, 17, 18, 19, 20, 15, 21, 22, 23, 32, 33, 34, 35, 36, 37, 38, 39] (by decide +kernel) (by decide +kernel)
set_option maxRecDepth 20000 in
theorem gX4_station_X2_lettersInBag : GoodIn wsX4_station (wsV RX4 102 RX2 yX2_lettersInBag wsX2_lettersInBag) := goodIn_app (goodIn_of _ (by decide +kernel)) ggX4_station_X2_lettersInBag
theorem dX4_station_0 : decode cX4_station 0 = .ok (.iload_n 1, 1) := by decide +kernel
theorem dX4_station_1 : decode cX4_station 1 = .ok (.bipush 8, 2) := by decide +kernel
theorem dX4_station_3 : decode cX4_station 3 = .ok (.invokestatic 24, 3) := by decide +kernel
theorem dX4_station_6 : decode cX4_station 6 = .ok (.iload_n 2, 1) := by decide +kernel
theorem dX4_station_7 : decode cX4_station 7 = .ok (.iconst 3, 1) := by decide +kernel
theorem dX4_station_8 : decode cX4_station 8 = .ok (.invokestatic 24, 3) := by decide +kernel
theorem dX4_station_11 : decode cX4_station 11 = .ok (.iload_n 2, 1) := by decide +kernel
theorem dX4_station_12 : decode cX4_station 12 = .ok (.lookupswitch 54 #[(0, 28), (1, 41)], 28) := by decide +kernel
theorem dX4_station_40 : decode cX4_station 40 = .ok (.aload_n 0, 1) := by decide +kernel
theorem dX4_station_41 : decode cX4_station 41 = .ok (.getfield 17, 3) := by decide +kernel
theorem dX4_station_44 : decode cX4_station 44 = .ok (.getfield 32, 3) := by decide +kernel
theorem dX4_station_47 : decode cX4_station 47 = .ok (.getfield 40, 3) := by decide +kernel
theorem dX4_station_50 : decode cX4_station 50 = .ok (.iload_n 1, 1) := by decide +kernel
theorem dX4_station_51 : decode cX4_station 51 = .ok (.iaload, 1) := by decide +kernel
theorem dX4_station_52 : decode cX4_station 52 = .ok (.ireturn, 1) := by decide +kernel
theorem dX4_station_53 : decode cX4_station 53 = .ok (.aload_n 0, 1) := by decide +kernel
theorem dX4_station_54 : decode cX4_station 54 = .ok (.getfield 17, 3) := by decide +kernel
theorem dX4_station_57 : decode cX4_station 57 = .ok (.getfield 32, 3) := by decide +kernel
theorem dX4_station_60 : decode cX4_station 60 = .ok (.getfield 55, 3) := by decide +kernel
theorem dX4_station_63 : decode cX4_station 63 = .ok (.iload_n 1, 1) := by decide +kernel
theorem dX4_station_64 : decode cX4_station 64 = .ok (.iaload, 1) := by decide +kernel
theorem dX4_station_65 : decode cX4_station 65 = .ok (.ireturn, 1) := by decide +kernel
theorem dX4_station_66 : decode cX4_station 66 = .ok (.aload_n 0, 1) := by decide +kernel
theorem dX4_station_67 : decode cX4_station 67 = .ok (.getfield 17, 3) := by decide +kernel
theorem dX4_station_70 : decode cX4_station 70 = .ok (.getfield 58, 3) := by decide +kernel
theorem dX4_station_73 : decode cX4_station 73 = .ok (.iload_n 1, 1) := by decide +kernel
theorem dX4_station_74 : decode cX4_station 74 = .ok (.invokevirtual 102, 3) := by decide +kernel
theorem dX4_station_77 : decode cX4_station 77 = .ok (.ireturn, 1) := by decide +kernel
set_option maxRecDepth 20000 in
theorem ggX4_count_X4_checkIndex : GoodIn wsX4_count wsX4_checkIndex := goodIn_ca (goodIn_r _ [12, 13, 14] (by decide +kernel) (by decide +kernel)) (goodIn_sub (fun _ h => List.mem_cons_of_mem _ (List.mem_append_right _ h)) (by decide +kernel))
set_option maxRecDepth 20000 in
theorem gX4_count_X4_checkIndex : GoodIn wsX4_count (va_wsS RX4 24 yX4_checkIndex wsX4_checkIndex) := goodIn_app (goodIn_of _ (by decide +kernel)) ggX4_count_X4_checkIndex
set_option maxRecDepth 20000 in
theorem ggX4_count_X1_nextFrom : GoodIn wsX4_count wsX1_nextFrom := goodIn_r _ [19, 20, 43, 44] (by decide +kernel) (by decide +kernel)
set_option maxRecDepth 20000 in
theorem gX4_count_X1_nextFrom : GoodIn wsX4_count (wsV RX4 106 RX1 yX1_nextFrom wsX1_nextFrom) := goodIn_app (goodIn_of _ (by decide +kernel)) ggX4_count_X1_nextFrom
theorem dX4_count_0 : decode cX4_count 0 = .ok (.iload_n 1, 1) := by decide +kernel
theorem dX4_count_1 : decode cX4_count 1 = .ok (.bipush 10, 2) := by decide +kernel
theorem dX4_count_3 : decode cX4_count 3 = .ok (.invokestatic 24, 3) := by decide +kernel
theorem dX4_count_6 : decode cX4_count 6 = .ok (.iload_n 1, 1) := by decide +kernel
theorem dX4_count_7 : decode cX4_count 7 = .ok (.tableswitch 101 0 9 #[53, 61, 72, 101, 101, 101, 101, 101, 101, 83], 53) := by decide +kernel
theorem dX4_count_60 : decode cX4_count 60 = .ok (.aload_n 0, 1) := by decide +kernel
theorem dX4_count_61 : decode cX4_count 61 = .ok (.getfield 17, 3) := by decide +kernel
theorem dX4_count_64 : decode cX4_count 64 = .ok (.getfield 36, 3) := by decide +kernel
theorem dX4_count_67 : decode cX4_count 67 = .ok (.ireturn, 1) := by decide +kernel
theorem dX4_count_68 : decode cX4_count 68 = .ok (.aload_n 0, 1) := by decide +kernel
theorem dX4_count_69 : decode cX4_count 69 = .ok (.getfield 17, 3) := by decide +kernel
theorem dX4_count_72 : decode cX4_count 72 = .ok (.getfield 58, 3) := by decide +kernel
theorem dX4_count_75 : decode cX4_count 75 = .ok (.getfield 62, 3) := by decide +kernel
theorem dX4_count_78 : decode cX4_count 78 = .ok (.ireturn, 1) := by decide +kernel
theorem dX4_count_79 : decode cX4_count 79 = .ok (.aload_n 0, 1) := by decide +kernel
theorem dX4_count_80 : decode cX4_count 80 = .ok (.getfield 17, 3) := by decide +kernel
theorem dX4_count_83 : decode cX4_count 83 = .ok (.getfield 74, 3) := by decide +kernel
theorem dX4_count_86 : decode cX4_count 86 = .ok (.getfield 78, 3) := by decide +kernel
theorem dX4_count_89 : decode cX4_count 89 = .ok (.ireturn, 1) := by decide +kernel
theorem dX4_count_90 : decode cX4_count 90 = .ok (.aload_n 0, 1) := by decide +kernel
theorem dX4_count_91 : decode cX4_count 91 = .ok (.getfield 17, 3) := by decide +kernel
theorem dX4_count_94 : decode cX4_count 94 = .ok (.getfield 32, 3) := by decide +kernel
theorem dX4_count_97 : decode cX4_count 97 = .ok (.aload_n 0, 1) := by decide +kernel
theorem dX4_count_98 : decode cX4_count 98 = .ok (.getfield 17, 3) := by decide +kernel
theorem dX4_count_101 : decode cX4_count 101 = .ok (.getfield 36, 3) := by decide +kernel
theorem dX4_count_104 : decode cX4_count 104 = .ok (.invokevirtual 106, 3) := by decide +kernel
theorem dX4_count_107 : decode cX4_count 107 = .ok (.ireturn, 1) := by decide +kernel
theorem dX4_count_108 : decode cX4_count 108 = .ok (.aload_n 0, 1) := by decide +kernel
theorem dX4_count_109 : decode cX4_count 109 = .ok (.getfield 17, 3) := by decide +kernel
theorem dX4_count_112 : decode cX4_count 112 = .ok (.getfield 58, 3) := by decide +kernel
theorem dX4_count_115 : decode cX4_count 115 = .ok (.getfield 109, 3) := by decide +kernel
theorem dX4_count_118 : decode cX4_count 118 = .ok (.iload_n 1, 1) := by decide +kernel
theorem dX4_count_119 : decode cX4_count 119 = .ok (.iconst 3, 1) := by decide +kernel
theorem dX4_count_120 : decode cX4_count 120 = .ok (.isub, 1) := by decide +kernel
theorem dX4_count_121 : decode cX4_count 121 = .ok (.iaload, 1) := by decide +kernel
theorem dX4_count_122 : decode cX4_count 122 = .ok (.ireturn, 1) := by decide +kernel
set_option maxRecDepth 20000 in
theorem ggX4_pass_X4_checkArgument : GoodIn wsX4_pass wsX4_checkArgument := goodIn_ca (goodIn_r _ [7, 8, 9] (by decide +kernel) (by decide +kernel)) (goodIn_sub (fun _ h => List.mem_cons_of_mem _ (List.mem_append_right _ h)) (by decide +kernel))
set_option maxRecDepth 20000 in
theorem gX4_pass_X4_checkArgument : GoodIn wsX4_pass (va_wsS RX4 28 yX4_checkArgument wsX4_checkArgument) := goodIn_app (goodIn_of _ (by decide +kernel)) ggX4_pass_X4_checkArgument
set_option maxRecDepth 20000 in
theorem ggX4_pass_X3_run : GoodIn wsX4_pass wsX3_run := goodIn_r _ [14, 15, 16, 17, 13, 18, 19, 20, 21, 22, 23, 24, 25, 26, 27, 28, 29, 30, 31, 32, 33, 34, 35, 36, 37, 38, 39, 40, 6, 41, 42, 43, 44, 45, 46, 47, 48, 49, 50, 51, 52, 53, 54, 55, 56, 57, 58, 59, 60, 61, 62, 63, 64, 65, 66, 67, 68, 69, 70, 71, 72, 73, 74, 75, 76, 77, 78, 79, 80, 81, 82, 83, 84, 85, 86, 87, 88, 89, 90, 91, 92, 93, 94, 95, 96, 97, 98, 99, 100, 101, 102, 103, 104, 105, 106, 107, 108, 109, 110, 111, 112, 113, 114, 115, 116, 117, 118, 119, 120, 121, 122, 123, 124, 125, 126, 127, 128, 129, 130, 131, 132, 133, 134, 135, 136, 137, 140, 141, 142, 143, 152, 153, 154, 155, 156, 157, 158, 159, 160, 161, 144, 145, 146, 147, 148, 149, 150, 151] (by decide +kernel) (by decide +kernel)
set_option maxRecDepth 20000 in
theorem gX4_pass_X3_run : GoodIn wsX4_pass (wsV RX4 112 RX3 yX3_run wsX3_run) := goodIn_app (goodIn_of _ (by decide +kernel)) ggX4_pass_X3_run
theorem dX4_pass_0 : decode cX4_pass 0 = .ok (.iload_n 1, 1) := by decide +kernel
theorem dX4_pass_1 : decode cX4_pass 1 = .ok (.iconst 1, 1) := by decide +kernel
theorem dX4_pass_2 : decode cX4_pass 2 = .ok (.sipush 300, 3) := by decide +kernel
theorem dX4_pass_5 : decode cX4_pass 5 = .ok (.invokestatic 28, 3) := by decide +kernel
theorem dX4_pass_8 : decode cX4_pass 8 = .ok (.aload_n 0, 1) := by decide +kernel
theorem dX4_pass_9 : decode cX4_pass 9 = .ok (.getfield 17, 3) := by decide +kernel
theorem dX4_pass_12 : decode cX4_pass 12 = .ok (.getfield 58, 3) := by decide +kernel
theorem dX4_pass_15 : decode cX4_pass 15 = .ok (.getfield 109, 3) := by decide +kernel
theorem dX4_pass_18 : decode cX4_pass 18 = .ok (.iconst 4, 1) := by decide +kernel
theorem dX4_pass_19 : decode cX4_pass 19 = .ok (.iaload, 1) := by decide +kernel
theorem dX4_pass_20 : decode cX4_pass 20 = .ok (.istore_n 2, 1) := by decide +kernel
theorem dX4_pass_21 : decode cX4_pass 21 = .ok (.aload_n 0, 1) := by decide +kernel
theorem dX4_pass_22 : decode cX4_pass 22 = .ok (.getfield 17, 3) := by decide +kernel
theorem dX4_pass_25 : decode cX4_pass 25 = .ok (.iload_n 1, 1) := by decide +kernel
theorem dX4_pass_26 : decode cX4_pass 26 = .ok (.invokevirtual 112, 3) := by decide +kernel
theorem dX4_pass_29 : decode cX4_pass 29 = .ok (.aload_n 0, 1) := by decide +kernel
theorem dX4_pass_30 : decode cX4_pass 30 = .ok (.getfield 17, 3) := by decide +kernel
theorem dX4_pass_33 : decode cX4_pass 33 = .ok (.getfield 58, 3) := by decide +kernel
theorem dX4_pass_36 : decode cX4_pass 36 = .ok (.getfield 109, 3) := by decide +kernel
theorem dX4_pass_39 : decode cX4_pass 39 = .ok (.iconst 4, 1) := by decide +kernel
theorem dX4_pass_40 : decode cX4_pass 40 = .ok (.iaload, 1) := by decide +kernel
theorem dX4_pass_41 : decode cX4_pass 41 = .ok (.iload_n 2, 1) := by decide +kernel
theorem dX4_pass_42 : decode cX4_pass 42 = .ok (.isub, 1) := by decide +kernel
theorem dX4_pass_43 : decode cX4_pass 43 = .ok (.ireturn, 1) := by decide +kernel
set_option maxRecDepth 20000 in
theorem ggX4_arrives_X4_checkIndex : GoodIn wsX4_arrives wsX4_checkIndex := goodIn_ca (goodIn_r _ [9, 10, 11] (by decide +kernel) (by decide +kernel)) (goodIn_sub (fun _ h => List.mem_cons_of_mem _ (List.mem_append_right _ h)) (by decide +kernel))
set_option maxRecDepth 20000 in
theorem gX4_arrives_X4_checkIndex : GoodIn wsX4_arrives (va_wsS RX4 24 yX4_checkIndex wsX4_checkIndex) := goodIn_app (goodIn_of _ (by decide +kernel)) ggX4_arrives_X4_checkIndex
set_option maxRecDepth 20000 in
theorem ggX4_arrives_X3_copyFrom : GoodIn wsX4_arrives wsX3_copyFrom := goodIn_r _ [16, 17, 18, 19, 20, 21, 22, 23, 24, 25, 26, 27, 28, 29, 30, 31, 32, 33, 34, 35, 36, 37, 38, 39, 40, 41, 42, 43, 44, 45, 46, 47, 48, 49, 50, 157, 158, 159, 160, 161, 162, 163, 164, 165, 166, 167, 168, 169, 170, 171, 172, 173, 174, 175, 176] (by decide +kernel) (by decide +kernel)
set_option maxRecDepth 20000 in
theorem gX4_arrives_X3_copyFrom : GoodIn wsX4_arrives (wsV RX4 116 RX3 yX3_copyFrom wsX3_copyFrom) := goodIn_app (goodIn_of _ (by decide +kernel)) ggX4_arrives_X3_copyFrom
set_option maxRecDepth 20000 in
theorem ggX4_arrives_X3_runMinute : GoodIn wsX4_arrives wsX3_runMinute := goodIn_r _ [54, 19, 55, 56, 57, 17, 58, 59, 60, 61, 15, 62, 18, 63, 64, 65, 66, 23, 67, 35, 25, 32, 26, 68, 8, 69, 70, 71, 72, 73, 33, 74, 75, 76, 77, 36, 78, 79, 80, 40, 81, 48, 49, 82, 83, 84, 85, 43, 46, 47, 86, 87, 88, 89, 90, 91, 92, 93, 94, 95, 96, 97, 98, 99, 100, 101, 102, 103, 104, 105, 106, 107, 108, 109, 110, 111, 112, 113, 114, 115, 116, 117, 118, 31, 119, 120, 121, 122, 123, 124, 125, 126, 127, 128, 34, 129, 130, 131, 132, 133, 134, 135, 136, 137, 138, 139, 140, 141, 142, 42, 143, 144, 145, 146, 147, 148, 149, 150, 151, 152, 153, 154, 157, 158, 159, 160, 169, 170, 171, 172, 173, 174, 175, 176, 177, 178, 161, 162, 163, 164, 165, 166, 167, 168] (by decide +kernel) (by decide +kernel)
set_option maxRecDepth 20000 in
theorem gX4_arrives_X3_runMinute : GoodIn wsX4_arrives (wsV RX4 123 RX3 yX3_runMinute wsX3_runMinute) := goodIn_app (goodIn_of _ (by decide +kernel)) ggX4_arrives_X3_runMinute
theorem dX4_arrives_0 : decode cX4_arrives 0 = .ok (.iload_n 1, 1) := by decide +kernel
theorem dX4_arrives_1 : decode cX4_arrives 1 = .ok (.aload_n 0, 1) := by decide +kernel
theorem dX4_arrives_2 : decode cX4_arrives 2 = .ok (.getfield 17, 3) := by decide +kernel
theorem dX4_arrives_5 : decode cX4_arrives 5 = .ok (.getfield 58, 3) := by decide +kernel
theorem dX4_arrives_8 : decode cX4_arrives 8 = .ok (.getfield 62, 3) := by decide +kernel
theorem dX4_arrives_11 : decode cX4_arrives 11 = .ok (.invokestatic 24, 3) := by decide +kernel
theorem dX4_arrives_14 : decode cX4_arrives 14 = .ok (.aload_n 0, 1) := by decide +kernel
theorem dX4_arrives_15 : decode cX4_arrives 15 = .ok (.getfield 21, 3) := by decide +kernel
theorem dX4_arrives_18 : decode cX4_arrives 18 = .ok (.aload_n 0, 1) := by decide +kernel
theorem dX4_arrives_19 : decode cX4_arrives 19 = .ok (.getfield 17, 3) := by decide +kernel
theorem dX4_arrives_22 : decode cX4_arrives 22 = .ok (.invokevirtual 116, 3) := by decide +kernel
theorem dX4_arrives_25 : decode cX4_arrives 25 = .ok (.iconst 0, 1) := by decide +kernel
theorem dX4_arrives_26 : decode cX4_arrives 26 = .ok (.istore_n 2, 1) := by decide +kernel
theorem dX4_arrives_27 : decode cX4_arrives 27 = .ok (.iload_n 2, 1) := by decide +kernel
theorem dX4_arrives_28 : decode cX4_arrives 28 = .ok (.sipush 300, 3) := by decide +kernel
theorem dX4_arrives_31 : decode cX4_arrives 31 = .ok (.if_icmp .gt 43, 3) := by decide +kernel
theorem dX4_arrives_34 : decode cX4_arrives 34 = .ok (.aload_n 0, 1) := by decide +kernel
theorem dX4_arrives_35 : decode cX4_arrives 35 = .ok (.getfield 21, 3) := by decide +kernel
theorem dX4_arrives_38 : decode cX4_arrives 38 = .ok (.getfield 58, 3) := by decide +kernel
theorem dX4_arrives_41 : decode cX4_arrives 41 = .ok (.getfield 120, 3) := by decide +kernel
theorem dX4_arrives_44 : decode cX4_arrives 44 = .ok (.iload_n 1, 1) := by decide +kernel
theorem dX4_arrives_45 : decode cX4_arrives 45 = .ok (.iaload, 1) := by decide +kernel
theorem dX4_arrives_46 : decode cX4_arrives 46 = .ok (.istore_n 3, 1) := by decide +kernel
theorem dX4_arrives_47 : decode cX4_arrives 47 = .ok (.iload_n 3, 1) := by decide +kernel
theorem dX4_arrives_48 : decode cX4_arrives 48 = .ok (.iconst 4, 1) := by decide +kernel
theorem dX4_arrives_49 : decode cX4_arrives 49 = .ok (.if_icmp .ne 5, 3) := by decide +kernel
theorem dX4_arrives_52 : decode cX4_arrives 52 = .ok (.iload_n 2, 1) := by decide +kernel
theorem dX4_arrives_53 : decode cX4_arrives 53 = .ok (.ireturn, 1) := by decide +kernel
theorem dX4_arrives_54 : decode cX4_arrives 54 = .ok (.iload_n 3, 1) := by decide +kernel
theorem dX4_arrives_55 : decode cX4_arrives 55 = .ok (.iconst 5, 1) := by decide +kernel
theorem dX4_arrives_56 : decode cX4_arrives 56 = .ok (.if_icmp .ne 5, 3) := by decide +kernel
theorem dX4_arrives_59 : decode cX4_arrives 59 = .ok (.iconst (-1), 1) := by decide +kernel
theorem dX4_arrives_60 : decode cX4_arrives 60 = .ok (.ireturn, 1) := by decide +kernel
theorem dX4_arrives_61 : decode cX4_arrives 61 = .ok (.aload_n 0, 1) := by decide +kernel
theorem dX4_arrives_62 : decode cX4_arrives 62 = .ok (.getfield 21, 3) := by decide +kernel
theorem dX4_arrives_65 : decode cX4_arrives 65 = .ok (.invokevirtual 123, 3) := by decide +kernel
theorem dX4_arrives_68 : decode cX4_arrives 68 = .ok (.iinc 2 1, 3) := by decide +kernel
theorem dX4_arrives_71 : decode cX4_arrives 71 = .ok (.goto (-44), 3) := by decide +kernel
theorem dX4_arrives_74 : decode cX4_arrives 74 = .ok (.iconst (-1), 1) := by decide +kernel
theorem dX4_arrives_75 : decode cX4_arrives 75 = .ok (.ireturn, 1) := by decide +kernel
set_option maxRecDepth 20000 in
theorem ggX4_foresee_X4_checkArgument : GoodIn wsX4_foresee wsX4_checkArgument := goodIn_ca (goodIn_r _ [10, 11, 12] (by decide +kernel) (by decide +kernel)) (goodIn_sub (fun _ h => List.mem_cons_of_mem _ (List.mem_append_right _ h)) (by decide +kernel))
set_option maxRecDepth 20000 in
theorem gX4_foresee_X4_checkArgument : GoodIn wsX4_foresee (va_wsS RX4 28 yX4_checkArgument wsX4_checkArgument) := goodIn_app (goodIn_of _ (by decide +kernel)) ggX4_foresee_X4_checkArgument
set_option maxRecDepth 20000 in
theorem ggX4_foresee_X3_copyFrom : GoodIn wsX4_foresee wsX3_copyFrom := goodIn_r _ [17, 18, 19, 20, 21, 22, 23, 24, 25, 26, 27, 28, 29, 30, 31, 32, 33, 34, 35, 36, 37, 38, 39, 40, 41, 42, 43, 44, 45, 46, 47, 48, 49, 50, 51, 162, 163, 164, 165, 166, 167, 168, 169, 170, 171, 172, 173, 174, 175, 176, 177, 178, 179, 180, 181] (by decide +kernel) (by decide +kernel)
set_option maxRecDepth 20000 in
theorem gX4_foresee_X3_copyFrom : GoodIn wsX4_foresee (wsV RX4 116 RX3 yX3_copyFrom wsX3_copyFrom) := goodIn_app (goodIn_of _ (by decide +kernel)) ggX4_foresee_X3_copyFrom
set_option maxRecDepth 20000 in
theorem ggX4_foresee_X3_run : GoodIn wsX4_foresee wsX3_run := goodIn_r _ [55, 56, 57, 58, 16, 59, 20, 60, 61, 62, 18, 63, 64, 65, 66, 67, 19, 68, 69, 70, 71, 24, 72, 36, 26, 33, 27, 73, 9, 74, 75, 76, 77, 78, 34, 79, 80, 81, 82, 37, 83, 84, 85, 41, 86, 49, 50, 87, 88, 89, 90, 44, 47, 48, 91, 92, 93, 94, 95, 96, 97, 98, 99, 100, 101, 102, 103, 104, 105, 106, 107, 108, 109, 110, 111, 112, 113, 114, 115, 116, 117, 118, 119, 120, 121, 122, 123, 32, 124, 125, 126, 127, 128, 129, 130, 131, 132, 133, 35, 134, 135, 136, 137, 138, 139, 140, 141, 142, 143, 144, 145, 146, 147, 43, 148, 149, 150, 151, 152, 153, 154, 155, 156, 157, 158, 159, 162, 163, 164, 165, 174, 175, 176, 177, 178, 179, 180, 181, 182, 183, 166, 167, 168, 169, 170, 171, 172, 173] (by decide +kernel) (by decide +kernel)
set_option maxRecDepth 20000 in
theorem gX4_foresee_X3_run : GoodIn wsX4_foresee (wsV RX4 112 RX3 yX3_run wsX3_run) := goodIn_app (goodIn_of _ (by decide +kernel)) ggX4_foresee_X3_run
theorem dX4_foresee_0 : decode cX4_foresee 0 = .ok (.iload_n 1, 1) := by decide +kernel
theorem dX4_foresee_1 : decode cX4_foresee 1 = .ok (.iconst 1, 1) := by decide +kernel
theorem dX4_foresee_2 : decode cX4_foresee 2 = .ok (.sipush 300, 3) := by decide +kernel
theorem dX4_foresee_5 : decode cX4_foresee 5 = .ok (.invokestatic 28, 3) := by decide +kernel
theorem dX4_foresee_8 : decode cX4_foresee 8 = .ok (.iload_n 2, 1) := by decide +kernel
theorem dX4_foresee_9 : decode cX4_foresee 9 = .ok (.iconst 3, 1) := by decide +kernel
theorem dX4_foresee_10 : decode cX4_foresee 10 = .ok (.if_icmp .lt 9, 3) := by decide +kernel
theorem dX4_foresee_13 : decode cX4_foresee 13 = .ok (.iload_n 2, 1) := by decide +kernel
theorem dX4_foresee_14 : decode cX4_foresee 14 = .ok (.bipush 8, 2) := by decide +kernel
theorem dX4_foresee_16 : decode cX4_foresee 16 = .ok (.if_icmp .le 13, 3) := by decide +kernel
theorem dX4_foresee_19 : decode cX4_foresee 19 = .ok (.new 126, 3) := by decide +kernel
theorem dX4_foresee_22 : decode cX4_foresee 22 = .ok (.dup, 1) := by decide +kernel
theorem dX4_foresee_23 : decode cX4_foresee 23 = .ok (.ldc 128, 2) := by decide +kernel
theorem dX4_foresee_25 : decode cX4_foresee 25 = .ok (.invokespecial 130, 3) := by decide +kernel
theorem dX4_foresee_28 : decode cX4_foresee 28 = .ok (.athrow, 1) := by decide +kernel
theorem dX4_foresee_29 : decode cX4_foresee 29 = .ok (.aload_n 0, 1) := by decide +kernel
theorem dX4_foresee_30 : decode cX4_foresee 30 = .ok (.getfield 21, 3) := by decide +kernel
theorem dX4_foresee_33 : decode cX4_foresee 33 = .ok (.aload_n 0, 1) := by decide +kernel
theorem dX4_foresee_34 : decode cX4_foresee 34 = .ok (.getfield 17, 3) := by decide +kernel
theorem dX4_foresee_37 : decode cX4_foresee 37 = .ok (.invokevirtual 116, 3) := by decide +kernel
theorem dX4_foresee_40 : decode cX4_foresee 40 = .ok (.aload_n 0, 1) := by decide +kernel
theorem dX4_foresee_41 : decode cX4_foresee 41 = .ok (.getfield 21, 3) := by decide +kernel
theorem dX4_foresee_44 : decode cX4_foresee 44 = .ok (.iload_n 1, 1) := by decide +kernel
theorem dX4_foresee_45 : decode cX4_foresee 45 = .ok (.invokevirtual 112, 3) := by decide +kernel
theorem dX4_foresee_48 : decode cX4_foresee 48 = .ok (.aload_n 0, 1) := by decide +kernel
theorem dX4_foresee_49 : decode cX4_foresee 49 = .ok (.getfield 21, 3) := by decide +kernel
theorem dX4_foresee_52 : decode cX4_foresee 52 = .ok (.getfield 58, 3) := by decide +kernel
theorem dX4_foresee_55 : decode cX4_foresee 55 = .ok (.getfield 109, 3) := by decide +kernel
theorem dX4_foresee_58 : decode cX4_foresee 58 = .ok (.iload_n 2, 1) := by decide +kernel
theorem dX4_foresee_59 : decode cX4_foresee 59 = .ok (.iconst 3, 1) := by decide +kernel
theorem dX4_foresee_60 : decode cX4_foresee 60 = .ok (.isub, 1) := by decide +kernel
theorem dX4_foresee_61 : decode cX4_foresee 61 = .ok (.iaload, 1) := by decide +kernel
theorem dX4_foresee_62 : decode cX4_foresee 62 = .ok (.ireturn, 1) := by decide +kernel
set_option maxRecDepth 20000 in
theorem ggX4_advise_X4_checkIndex : GoodIn wsX4_advise wsX4_checkIndex := goodIn_ca (goodIn_r _ [8, 9, 10] (by decide +kernel) (by decide +kernel)) (goodIn_sub (fun _ h => List.mem_cons_of_mem _ (List.mem_append_left _ (List.mem_append_right _ h))) (by decide +kernel))
set_option maxRecDepth 20000 in
theorem gX4_advise_X4_checkIndex : GoodIn wsX4_advise (va_wsS RX4 24 yX4_checkIndex wsX4_checkIndex) := goodIn_app (goodIn_of _ (by decide +kernel)) ggX4_advise_X4_checkIndex
set_option maxRecDepth 20000 in
theorem ggX4_advise_X4_checkArgument : GoodIn wsX4_advise wsX4_checkArgument := goodIn_ca (goodIn_r _ [13, 14, 15] (by decide +kernel) (by decide +kernel)) (goodIn_sub (fun _ h => List.mem_cons_of_mem _ (List.mem_append_right _ h)) (by decide +kernel))
set_option maxRecDepth 20000 in
theorem gX4_advise_X4_checkArgument : GoodIn wsX4_advise (va_wsS RX4 28 yX4_checkArgument wsX4_checkArgument) := goodIn_app (goodIn_of _ (by decide +kernel)) ggX4_advise_X4_checkArgument
set_option maxRecDepth 20000 in
theorem ggX4_advise_X4_deliveredIfAssigned : GoodIn wsX4_advise wsX4_deliveredIfAssigned := goodIn_r _ [19, 20, 1, 2, 4, 21, 22, 23, 24, 25, 26, 27, 28, 29, 30, 31, 32, 33, 34, 35, 36, 37, 38, 39, 40, 41, 42, 43, 44, 45, 46, 47, 48, 49, 50, 51, 52, 53, 54, 55, 56, 57, 58, 59, 60, 61, 62, 63, 64, 65, 66, 67, 68, 69, 70, 71, 72, 73, 74, 75, 76, 77, 78, 79, 80, 81, 82, 83, 7, 84, 85, 86, 87, 88, 89, 90, 91, 92, 93, 94, 95, 96, 97, 98, 99, 100, 101, 102, 103, 104, 105, 106, 107, 108, 109, 110, 111, 112, 113, 114, 115, 116, 117, 118, 119, 120, 121, 122, 123, 124, 125, 126, 127, 128, 129, 130, 131, 132, 133, 134, 135, 136, 137, 138, 139, 140, 141, 142, 143, 144, 145, 146, 147, 148, 149, 150, 151, 152, 153, 154, 155, 156, 157, 158, 159, 160, 161, 162, 163, 164, 165, 166, 167, 168, 169, 171, 172, 173, 174, 175, 176, 177, 178, 179, 180, 181, 182, 183, 184, 185, 186, 187, 188, 189, 190, 191, 192, 193, 194] (by decide +kernel) (by decide +kernel)
set_option maxRecDepth 20000 in
theorem gX4_advise_X4_deliveredIfAssigned : GoodIn wsX4_advise (wsV RX4 131 RX4 yX4_deliveredIfAssigned wsX4_deliveredIfAssigned) := goodIn_app (goodIn_of _ (by decide +kernel)) ggX4_advise_X4_deliveredIfAssigned
set_option maxRecDepth 20000 in
theorem ggX4_advise_X4_hasTown : GoodIn wsX4_advise wsX4_hasTown := goodIn_r _ [84] (by decide +kernel) (by decide +kernel)
set_option maxRecDepth 20000 in
theorem gX4_advise_X4_hasTown : GoodIn wsX4_advise (va_wsS RX4 135 yX4_hasTown wsX4_hasTown) := goodIn_app (goodIn_of _ (by decide +kernel)) ggX4_advise_X4_hasTown
theorem dX4_advise_0 : decode cX4_advise 0 = .ok (.iload_n 1, 1) := by decide +kernel
theorem dX4_advise_1 : decode cX4_advise 1 = .ok (.aload_n 0, 1) := by decide +kernel
theorem dX4_advise_2 : decode cX4_advise 2 = .ok (.getfield 17, 3) := by decide +kernel
theorem dX4_advise_5 : decode cX4_advise 5 = .ok (.getfield 74, 3) := by decide +kernel
theorem dX4_advise_8 : decode cX4_advise 8 = .ok (.getfield 78, 3) := by decide +kernel
theorem dX4_advise_11 : decode cX4_advise 11 = .ok (.invokestatic 24, 3) := by decide +kernel
theorem dX4_advise_14 : decode cX4_advise 14 = .ok (.iload_n 2, 1) := by decide +kernel
theorem dX4_advise_15 : decode cX4_advise 15 = .ok (.iconst 1, 1) := by decide +kernel
theorem dX4_advise_16 : decode cX4_advise 16 = .ok (.bipush 120, 2) := by decide +kernel
theorem dX4_advise_18 : decode cX4_advise 18 = .ok (.invokestatic 28, 3) := by decide +kernel
theorem dX4_advise_21 : decode cX4_advise 21 = .ok (.aload_n 0, 1) := by decide +kernel
theorem dX4_advise_22 : decode cX4_advise 22 = .ok (.getfield 17, 3) := by decide +kernel
theorem dX4_advise_25 : decode cX4_advise 25 = .ok (.getfield 74, 3) := by decide +kernel
theorem dX4_advise_28 : decode cX4_advise 28 = .ok (.getfield 86, 3) := by decide +kernel
theorem dX4_advise_31 : decode cX4_advise 31 = .ok (.iload_n 1, 1) := by decide +kernel
theorem dX4_advise_32 : decode cX4_advise 32 = .ok (.iaload, 1) := by decide +kernel
theorem dX4_advise_33 : decode cX4_advise 33 = .ok (.istore_n 3, 1) := by decide +kernel
theorem dX4_advise_34 : decode cX4_advise 34 = .ok (.aload_n 0, 1) := by decide +kernel
theorem dX4_advise_35 : decode cX4_advise 35 = .ok (.iload_n 1, 1) := by decide +kernel
theorem dX4_advise_36 : decode cX4_advise 36 = .ok (.iload_n 3, 1) := by decide +kernel
theorem dX4_advise_37 : decode cX4_advise 37 = .ok (.iload_n 2, 1) := by decide +kernel
theorem dX4_advise_38 : decode cX4_advise 38 = .ok (.invokevirtual 131, 3) := by decide +kernel
theorem dX4_advise_41 : decode cX4_advise 41 = .ok (.istore 4, 2) := by decide +kernel
theorem dX4_advise_43 : decode cX4_advise 43 = .ok (.iconst (-1), 1) := by decide +kernel
theorem dX4_advise_44 : decode cX4_advise 44 = .ok (.istore 5, 2) := by decide +kernel
theorem dX4_advise_46 : decode cX4_advise 46 = .ok (.iconst 0, 1) := by decide +kernel
theorem dX4_advise_47 : decode cX4_advise 47 = .ok (.istore 6, 2) := by decide +kernel
theorem dX4_advise_49 : decode cX4_advise 49 = .ok (.iload 6, 2) := by decide +kernel
theorem dX4_advise_51 : decode cX4_advise 51 = .ok (.bipush 16, 2) := by decide +kernel
theorem dX4_advise_53 : decode cX4_advise 53 = .ok (.if_icmp .ge 47, 3) := by decide +kernel
theorem dX4_advise_56 : decode cX4_advise 56 = .ok (.iload_n 3, 1) := by decide +kernel
theorem dX4_advise_57 : decode cX4_advise 57 = .ok (.iload 6, 2) := by decide +kernel
theorem dX4_advise_59 : decode cX4_advise 59 = .ok (.invokestatic 135, 3) := by decide +kernel
theorem dX4_advise_62 : decode cX4_advise 62 = .ok (.ifCond .ne 32, 3) := by decide +kernel
theorem dX4_advise_65 : decode cX4_advise 65 = .ok (.aload_n 0, 1) := by decide +kernel
theorem dX4_advise_66 : decode cX4_advise 66 = .ok (.iload_n 1, 1) := by decide +kernel
theorem dX4_advise_67 : decode cX4_advise 67 = .ok (.iload_n 3, 1) := by decide +kernel
theorem dX4_advise_68 : decode cX4_advise 68 = .ok (.iconst 1, 1) := by decide +kernel
theorem dX4_advise_69 : decode cX4_advise 69 = .ok (.iload 6, 2) := by decide +kernel
theorem dX4_advise_71 : decode cX4_advise 71 = .ok (.ishl, 1) := by decide +kernel
theorem dX4_advise_72 : decode cX4_advise 72 = .ok (.ior, 1) := by decide +kernel
theorem dX4_advise_73 : decode cX4_advise 73 = .ok (.iload_n 2, 1) := by decide +kernel
theorem dX4_advise_74 : decode cX4_advise 74 = .ok (.invokevirtual 131, 3) := by decide +kernel
theorem dX4_advise_77 : decode cX4_advise 77 = .ok (.istore 7, 2) := by decide +kernel
theorem dX4_advise_79 : decode cX4_advise 79 = .ok (.iload 7, 2) := by decide +kernel
theorem dX4_advise_81 : decode cX4_advise 81 = .ok (.iload 4, 2) := by decide +kernel
theorem dX4_advise_83 : decode cX4_advise 83 = .ok (.if_icmp .le 11, 3) := by decide +kernel
theorem dX4_advise_86 : decode cX4_advise 86 = .ok (.iload 7, 2) := by decide +kernel
theorem dX4_advise_88 : decode cX4_advise 88 = .ok (.istore 4, 2) := by decide +kernel
theorem dX4_advise_90 : decode cX4_advise 90 = .ok (.iload 6, 2) := by decide +kernel
theorem dX4_advise_92 : decode cX4_advise 92 = .ok (.istore 5, 2) := by decide +kernel
theorem dX4_advise_94 : decode cX4_advise 94 = .ok (.iinc 6 1, 3) := by decide +kernel
theorem dX4_advise_97 : decode cX4_advise 97 = .ok (.goto (-48), 3) := by decide +kernel
theorem dX4_advise_100 : decode cX4_advise 100 = .ok (.iload 5, 2) := by decide +kernel
theorem dX4_advise_102 : decode cX4_advise 102 = .ok (.ireturn, 1) := by decide +kernel
theorem dX4_share_0 : decode cX4_share 0 = .ok (.aload_n 0, 1) := by decide +kernel
theorem dX4_share_1 : decode cX4_share 1 = .ok (.getfield 17, 3) := by decide +kernel
theorem dX4_share_4 : decode cX4_share 4 = .ok (.getfield 58, 3) := by decide +kernel
theorem dX4_share_7 : decode cX4_share 7 = .ok (.getfield 109, 3) := by decide +kernel
theorem dX4_share_10 : decode cX4_share 10 = .ok (.iconst 4, 1) := by decide +kernel
theorem dX4_share_11 : decode cX4_share 11 = .ok (.iaload, 1) := by decide +kernel
theorem dX4_share_12 : decode cX4_share 12 = .ok (.istore_n 1, 1) := by decide +kernel
theorem dX4_share_13 : decode cX4_share 13 = .ok (.iload_n 1, 1) := by decide +kernel
theorem dX4_share_14 : decode cX4_share 14 = .ok (.aload_n 0, 1) := by decide +kernel
theorem dX4_share_15 : decode cX4_share 15 = .ok (.getfield 17, 3) := by decide +kernel
theorem dX4_share_18 : decode cX4_share 18 = .ok (.getfield 58, 3) := by decide +kernel
theorem dX4_share_21 : decode cX4_share 21 = .ok (.getfield 109, 3) := by decide +kernel
theorem dX4_share_24 : decode cX4_share 24 = .ok (.iconst 5, 1) := by decide +kernel
theorem dX4_share_25 : decode cX4_share 25 = .ok (.iaload, 1) := by decide +kernel
theorem dX4_share_26 : decode cX4_share 26 = .ok (.iadd, 1) := by decide +kernel
theorem dX4_share_27 : decode cX4_share 27 = .ok (.istore_n 2, 1) := by decide +kernel
theorem dX4_share_28 : decode cX4_share 28 = .ok (.iload_n 2, 1) := by decide +kernel
theorem dX4_share_29 : decode cX4_share 29 = .ok (.ifCond .ne 7, 3) := by decide +kernel
theorem dX4_share_32 : decode cX4_share 32 = .ok (.dconst 0, 1) := by decide +kernel
theorem dX4_share_33 : decode cX4_share 33 = .ok (.goto 8, 3) := by decide +kernel
theorem dX4_share_36 : decode cX4_share 36 = .ok (.iload_n 1, 1) := by decide +kernel
theorem dX4_share_37 : decode cX4_share 37 = .ok (.i2d, 1) := by decide +kernel
theorem dX4_share_38 : decode cX4_share 38 = .ok (.iload_n 2, 1) := by decide +kernel
theorem dX4_share_39 : decode cX4_share 39 = .ok (.i2d, 1) := by decide +kernel
theorem dX4_share_40 : decode cX4_share 40 = .ok (.ddiv, 1) := by decide +kernel
theorem dX4_share_41 : decode cX4_share 41 = .ok (.dreturn, 1) := by decide +kernel
set_option maxRecDepth 20000 in
theorem ggX4_digest_X4_count : GoodIn wsX4_digest wsX4_count := goodIn_ca (goodIn_r _ [12, 3, 13, 6, 7, 4, 5, 14, 15, 16, 17, 11, 18, 19, 20, 21, 22, 23, 24, 25, 26, 77, 78, 79, 80, 81, 82, 91, 92, 93, 94, 95, 96, 97, 98, 83, 84, 85, 86, 87, 88, 89, 90, 99, 100] (by decide +kernel) (by decide +kernel)) (goodIn_sub (fun _ h => List.mem_cons_of_mem _ (List.mem_append_right _ h)) (by decide +kernel))
set_option maxRecDepth 20000 in
theorem gX4_digest_X4_count : GoodIn wsX4_digest (wsV RX4 142 RX4 yX4_count wsX4_count) := goodIn_app (goodIn_of _ (by decide +kernel)) ggX4_digest_X4_count
set_option maxRecDepth 20000 in
theorem ggX4_digest_X4_station : GoodIn wsX4_digest wsX4_station := goodIn_ca (goodIn_r _ [30, 3, 14, 31, 32, 6, 16, 17, 11, 18, 19, 20, 33, 34, 35, 36, 37, 38, 39, 40, 41, 42, 43, 44, 77, 78, 79, 80, 81, 82, 99, 100, 91, 92, 93, 94, 95, 96, 97, 98] (by decide +kernel) (by decide +kernel)) (goodIn_sub (fun _ h => List.mem_cons_of_mem _ (List.mem_append_right _ h)) (by decide +kernel))
set_option maxRecDepth 20000 in
theorem gX4_digest_X4_station : GoodIn wsX4_digest (wsV RX4 145 RX4 yX4_station wsX4_station) := goodIn_app (goodIn_of _ (by decide +kernel)) ggX4_digest_X4_station
set_option maxRecDepth 20000 in
theorem ggX4_digest_X4_hole : GoodIn wsX4_digest wsX4_hole := goodIn_ca (goodIn_r _ [48, 3, 6, 49, 16, 17, 11, 18, 19, 20, 77, 78, 79, 80, 81, 82, 91, 92, 93, 94, 95, 96, 97, 98] (by decide +kernel) (by decide +kernel)) (goodIn_sub (fun _ h => List.mem_cons_of_mem _ (List.mem_append_right _ h)) (by decide +kernel))
set_option maxRecDepth 20000 in
theorem gX4_digest_X4_hole : GoodIn wsX4_digest (wsV RX4 148 RX4 yX4_hole wsX4_hole) := goodIn_app (goodIn_of _ (by decide +kernel)) ggX4_digest_X4_hole
set_option maxRecDepth 20000 in
theorem ggX4_digest_X4_sorter : GoodIn wsX4_digest wsX4_sorter := goodIn_ca (goodIn_r _ [53, 3, 4, 5, 16, 17, 11, 18, 19, 20, 54, 55, 56, 57, 58, 59, 60, 61, 62, 63, 64, 65, 77, 78, 79, 80, 81, 82, 83, 84, 85, 86, 87, 88, 89, 90] (by decide +kernel) (by decide +kernel)) (goodIn_sub (fun _ h => List.mem_cons_of_mem _ (List.mem_append_right _ h)) (by decide +kernel))
set_option maxRecDepth 20000 in
theorem gX4_digest_X4_sorter : GoodIn wsX4_digest (wsV RX4 151 RX4 yX4_sorter wsX4_sorter) := goodIn_app (goodIn_of _ (by decide +kernel)) ggX4_digest_X4_sorter
set_option maxRecDepth 20000 in
theorem ggX4_digest_X4_letter : GoodIn wsX4_digest wsX4_letter := goodIn_ca (goodIn_r _ [69, 3, 6, 7, 16, 17, 11, 18, 19, 20, 70, 71, 72, 36, 73, 43, 74, 44, 75, 76, 77, 78, 79, 80, 81, 82, 91, 92, 93, 94, 95, 96, 97, 98] (by decide +kernel) (by decide +kernel)) (goodIn_sub (fun _ h => List.mem_cons_of_mem _ (List.mem_append_right _ h)) (by decide +kernel))
set_option maxRecDepth 20000 in
theorem gX4_digest_X4_letter : GoodIn wsX4_digest (wsV RX4 154 RX4 yX4_letter wsX4_letter) := goodIn_app (goodIn_of _ (by decide +kernel)) ggX4_digest_X4_letter
theorem dX4_digest_0 : decode cX4_digest 0 = .ok (.ldc2_w 138, 3) := by decide +kernel
theorem dX4_digest_3 : decode cX4_digest 3 = .ok (.lstore_n 1, 1) := by decide +kernel
theorem dX4_digest_4 : decode cX4_digest 4 = .ok (.iconst 0, 1) := by decide +kernel
theorem dX4_digest_5 : decode cX4_digest 5 = .ok (.istore_n 3, 1) := by decide +kernel
theorem dX4_digest_6 : decode cX4_digest 6 = .ok (.iload_n 3, 1) := by decide +kernel
theorem dX4_digest_7 : decode cX4_digest 7 = .ok (.bipush 10, 2) := by decide +kernel
theorem dX4_digest_9 : decode cX4_digest 9 = .ok (.if_icmp .ge 22, 3) := by decide +kernel
theorem dX4_digest_12 : decode cX4_digest 12 = .ok (.lload_n 1, 1) := by decide +kernel
theorem dX4_digest_13 : decode cX4_digest 13 = .ok (.ldc2_w 140, 3) := by decide +kernel
theorem dX4_digest_16 : decode cX4_digest 16 = .ok (.lmul, 1) := by decide +kernel
theorem dX4_digest_17 : decode cX4_digest 17 = .ok (.aload_n 0, 1) := by decide +kernel
theorem dX4_digest_18 : decode cX4_digest 18 = .ok (.iload_n 3, 1) := by decide +kernel
theorem dX4_digest_19 : decode cX4_digest 19 = .ok (.invokevirtual 142, 3) := by decide +kernel
theorem dX4_digest_22 : decode cX4_digest 22 = .ok (.i2l, 1) := by decide +kernel
theorem dX4_digest_23 : decode cX4_digest 23 = .ok (.ladd, 1) := by decide +kernel
theorem dX4_digest_24 : decode cX4_digest 24 = .ok (.lstore_n 1, 1) := by decide +kernel
theorem dX4_digest_25 : decode cX4_digest 25 = .ok (.iinc 3 1, 3) := by decide +kernel
theorem dX4_digest_28 : decode cX4_digest 28 = .ok (.goto (-22), 3) := by decide +kernel
theorem dX4_digest_31 : decode cX4_digest 31 = .ok (.iconst 0, 1) := by decide +kernel
theorem dX4_digest_32 : decode cX4_digest 32 = .ok (.istore_n 3, 1) := by decide +kernel
theorem dX4_digest_33 : decode cX4_digest 33 = .ok (.iload_n 3, 1) := by decide +kernel
theorem dX4_digest_34 : decode cX4_digest 34 = .ok (.bipush 8, 2) := by decide +kernel
theorem dX4_digest_36 : decode cX4_digest 36 = .ok (.if_icmp .ge 39, 3) := by decide +kernel
theorem dX4_digest_39 : decode cX4_digest 39 = .ok (.iconst 0, 1) := by decide +kernel
theorem dX4_digest_40 : decode cX4_digest 40 = .ok (.istore 4, 2) := by decide +kernel
theorem dX4_digest_42 : decode cX4_digest 42 = .ok (.iload 4, 2) := by decide +kernel
theorem dX4_digest_44 : decode cX4_digest 44 = .ok (.iconst 3, 1) := by decide +kernel
theorem dX4_digest_45 : decode cX4_digest 45 = .ok (.if_icmp .ge 24, 3) := by decide +kernel
theorem dX4_digest_48 : decode cX4_digest 48 = .ok (.lload_n 1, 1) := by decide +kernel
theorem dX4_digest_49 : decode cX4_digest 49 = .ok (.ldc2_w 140, 3) := by decide +kernel
theorem dX4_digest_52 : decode cX4_digest 52 = .ok (.lmul, 1) := by decide +kernel
theorem dX4_digest_53 : decode cX4_digest 53 = .ok (.aload_n 0, 1) := by decide +kernel
theorem dX4_digest_54 : decode cX4_digest 54 = .ok (.iload_n 3, 1) := by decide +kernel
theorem dX4_digest_55 : decode cX4_digest 55 = .ok (.iload 4, 2) := by decide +kernel
theorem dX4_digest_57 : decode cX4_digest 57 = .ok (.invokevirtual 145, 3) := by decide +kernel
theorem dX4_digest_60 : decode cX4_digest 60 = .ok (.i2l, 1) := by decide +kernel
theorem dX4_digest_61 : decode cX4_digest 61 = .ok (.ladd, 1) := by decide +kernel
theorem dX4_digest_62 : decode cX4_digest 62 = .ok (.lstore_n 1, 1) := by decide +kernel
theorem dX4_digest_63 : decode cX4_digest 63 = .ok (.iinc 4 1, 3) := by decide +kernel
theorem dX4_digest_66 : decode cX4_digest 66 = .ok (.goto (-24), 3) := by decide +kernel
theorem dX4_digest_69 : decode cX4_digest 69 = .ok (.iinc 3 1, 3) := by decide +kernel
theorem dX4_digest_72 : decode cX4_digest 72 = .ok (.goto (-39), 3) := by decide +kernel
theorem dX4_digest_75 : decode cX4_digest 75 = .ok (.iconst 0, 1) := by decide +kernel
theorem dX4_digest_76 : decode cX4_digest 76 = .ok (.istore_n 3, 1) := by decide +kernel
theorem dX4_digest_77 : decode cX4_digest 77 = .ok (.iload_n 3, 1) := by decide +kernel
theorem dX4_digest_78 : decode cX4_digest 78 = .ok (.bipush 16, 2) := by decide +kernel
theorem dX4_digest_80 : decode cX4_digest 80 = .ok (.if_icmp .ge 22, 3) := by decide +kernel
theorem dX4_digest_83 : decode cX4_digest 83 = .ok (.lload_n 1, 1) := by decide +kernel
theorem dX4_digest_84 : decode cX4_digest 84 = .ok (.ldc2_w 140, 3) := by decide +kernel
theorem dX4_digest_87 : decode cX4_digest 87 = .ok (.lmul, 1) := by decide +kernel
theorem dX4_digest_88 : decode cX4_digest 88 = .ok (.aload_n 0, 1) := by decide +kernel
theorem dX4_digest_89 : decode cX4_digest 89 = .ok (.iload_n 3, 1) := by decide +kernel
theorem dX4_digest_90 : decode cX4_digest 90 = .ok (.invokevirtual 148, 3) := by decide +kernel
theorem dX4_digest_93 : decode cX4_digest 93 = .ok (.i2l, 1) := by decide +kernel
theorem dX4_digest_94 : decode cX4_digest 94 = .ok (.ladd, 1) := by decide +kernel
theorem dX4_digest_95 : decode cX4_digest 95 = .ok (.lstore_n 1, 1) := by decide +kernel
theorem dX4_digest_96 : decode cX4_digest 96 = .ok (.iinc 3 1, 3) := by decide +kernel
theorem dX4_digest_99 : decode cX4_digest 99 = .ok (.goto (-22), 3) := by decide +kernel
theorem dX4_digest_102 : decode cX4_digest 102 = .ok (.iconst 0, 1) := by decide +kernel
theorem dX4_digest_103 : decode cX4_digest 103 = .ok (.istore_n 3, 1) := by decide +kernel
theorem dX4_digest_104 : decode cX4_digest 104 = .ok (.iload_n 3, 1) := by decide +kernel
theorem dX4_digest_105 : decode cX4_digest 105 = .ok (.aload_n 0, 1) := by decide +kernel
theorem dX4_digest_106 : decode cX4_digest 106 = .ok (.getfield 17, 3) := by decide +kernel
theorem dX4_digest_109 : decode cX4_digest 109 = .ok (.getfield 74, 3) := by decide +kernel
theorem dX4_digest_112 : decode cX4_digest 112 = .ok (.getfield 78, 3) := by decide +kernel
theorem dX4_digest_115 : decode cX4_digest 115 = .ok (.if_icmp .ge 40, 3) := by decide +kernel
theorem dX4_digest_118 : decode cX4_digest 118 = .ok (.iconst 0, 1) := by decide +kernel
theorem dX4_digest_119 : decode cX4_digest 119 = .ok (.istore 4, 2) := by decide +kernel
theorem dX4_digest_121 : decode cX4_digest 121 = .ok (.iload 4, 2) := by decide +kernel
theorem dX4_digest_123 : decode cX4_digest 123 = .ok (.bipush 7, 2) := by decide +kernel
theorem dX4_digest_125 : decode cX4_digest 125 = .ok (.if_icmp .ge 24, 3) := by decide +kernel
theorem dX4_digest_128 : decode cX4_digest 128 = .ok (.lload_n 1, 1) := by decide +kernel
theorem dX4_digest_129 : decode cX4_digest 129 = .ok (.ldc2_w 140, 3) := by decide +kernel
theorem dX4_digest_132 : decode cX4_digest 132 = .ok (.lmul, 1) := by decide +kernel
theorem dX4_digest_133 : decode cX4_digest 133 = .ok (.aload_n 0, 1) := by decide +kernel
theorem dX4_digest_134 : decode cX4_digest 134 = .ok (.iload_n 3, 1) := by decide +kernel
theorem dX4_digest_135 : decode cX4_digest 135 = .ok (.iload 4, 2) := by decide +kernel
theorem dX4_digest_137 : decode cX4_digest 137 = .ok (.invokevirtual 151, 3) := by decide +kernel
theorem dX4_digest_140 : decode cX4_digest 140 = .ok (.i2l, 1) := by decide +kernel
theorem dX4_digest_141 : decode cX4_digest 141 = .ok (.ladd, 1) := by decide +kernel
theorem dX4_digest_142 : decode cX4_digest 142 = .ok (.lstore_n 1, 1) := by decide +kernel
theorem dX4_digest_143 : decode cX4_digest 143 = .ok (.iinc 4 1, 3) := by decide +kernel
theorem dX4_digest_146 : decode cX4_digest 146 = .ok (.goto (-25), 3) := by decide +kernel
theorem dX4_digest_149 : decode cX4_digest 149 = .ok (.iinc 3 1, 3) := by decide +kernel
theorem dX4_digest_152 : decode cX4_digest 152 = .ok (.goto (-48), 3) := by decide +kernel
theorem dX4_digest_155 : decode cX4_digest 155 = .ok (.iconst 0, 1) := by decide +kernel
theorem dX4_digest_156 : decode cX4_digest 156 = .ok (.istore_n 3, 1) := by decide +kernel
theorem dX4_digest_157 : decode cX4_digest 157 = .ok (.iload_n 3, 1) := by decide +kernel
theorem dX4_digest_158 : decode cX4_digest 158 = .ok (.aload_n 0, 1) := by decide +kernel
theorem dX4_digest_159 : decode cX4_digest 159 = .ok (.getfield 17, 3) := by decide +kernel
theorem dX4_digest_162 : decode cX4_digest 162 = .ok (.getfield 58, 3) := by decide +kernel
theorem dX4_digest_165 : decode cX4_digest 165 = .ok (.getfield 62, 3) := by decide +kernel
theorem dX4_digest_168 : decode cX4_digest 168 = .ok (.if_icmp .ge 39, 3) := by decide +kernel
theorem dX4_digest_171 : decode cX4_digest 171 = .ok (.iconst 0, 1) := by decide +kernel
theorem dX4_digest_172 : decode cX4_digest 172 = .ok (.istore 4, 2) := by decide +kernel
theorem dX4_digest_174 : decode cX4_digest 174 = .ok (.iload 4, 2) := by decide +kernel
theorem dX4_digest_176 : decode cX4_digest 176 = .ok (.iconst 5, 1) := by decide +kernel
theorem dX4_digest_177 : decode cX4_digest 177 = .ok (.if_icmp .ge 24, 3) := by decide +kernel
theorem dX4_digest_180 : decode cX4_digest 180 = .ok (.lload_n 1, 1) := by decide +kernel
theorem dX4_digest_181 : decode cX4_digest 181 = .ok (.ldc2_w 140, 3) := by decide +kernel
theorem dX4_digest_184 : decode cX4_digest 184 = .ok (.lmul, 1) := by decide +kernel
theorem dX4_digest_185 : decode cX4_digest 185 = .ok (.aload_n 0, 1) := by decide +kernel
theorem dX4_digest_186 : decode cX4_digest 186 = .ok (.iload_n 3, 1) := by decide +kernel
theorem dX4_digest_187 : decode cX4_digest 187 = .ok (.iload 4, 2) := by decide +kernel
theorem dX4_digest_189 : decode cX4_digest 189 = .ok (.invokevirtual 154, 3) := by decide +kernel
theorem dX4_digest_192 : decode cX4_digest 192 = .ok (.i2l, 1) := by decide +kernel
theorem dX4_digest_193 : decode cX4_digest 193 = .ok (.ladd, 1) := by decide +kernel
theorem dX4_digest_194 : decode cX4_digest 194 = .ok (.lstore_n 1, 1) := by decide +kernel
theorem dX4_digest_195 : decode cX4_digest 195 = .ok (.iinc 4 1, 3) := by decide +kernel
theorem dX4_digest_198 : decode cX4_digest 198 = .ok (.goto (-24), 3) := by decide +kernel
theorem dX4_digest_201 : decode cX4_digest 201 = .ok (.iinc 3 1, 3) := by decide +kernel
theorem dX4_digest_204 : decode cX4_digest 204 = .ok (.goto (-47), 3) := by decide +kernel
theorem dX4_digest_207 : decode cX4_digest 207 = .ok (.lload_n 1, 1) := by decide +kernel
theorem dX4_digest_208 : decode cX4_digest 208 = .ok (.lreturn, 1) := by decide +kernel
set_option maxRecDepth 20000 in
theorem ggX4_deliveredIfAssigned_X3_copyFrom : GoodIn wsX4_deliveredIfAssigned wsX3_copyFrom := goodIn_r _ [11, 12, 13, 14, 15, 16, 17, 18, 19, 20, 21, 22, 23, 24, 25, 26, 27, 28, 29, 30, 31, 32, 33, 34, 35, 36, 37, 38, 39, 40, 41, 42, 43, 44, 45, 157, 158, 159, 160, 169, 170, 171, 172, 173, 174, 175, 176, 161, 162, 163, 164, 165, 166, 167, 168] (by decide +kernel) (by decide +kernel)
set_option maxRecDepth 20000 in
theorem gX4_deliveredIfAssigned_X3_copyFrom : GoodIn wsX4_deliveredIfAssigned (wsV RX4 116 RX3 yX3_copyFrom wsX3_copyFrom) := goodIn_app (goodIn_of _ (by decide +kernel)) ggX4_deliveredIfAssigned_X3_copyFrom
set_option maxRecDepth 20000 in
theorem ggX4_deliveredIfAssigned_X3_run : GoodIn wsX4_deliveredIfAssigned wsX3_run := goodIn_r _ [49, 50, 51, 52, 10, 53, 14, 54, 55, 56, 12, 57, 58, 59, 60, 61, 13, 62, 63, 64, 65, 18, 66, 30, 20, 27, 21, 67, 68, 69, 70, 71, 72, 73, 28, 74, 75, 76, 77, 31, 78, 79, 80, 35, 81, 43, 44, 82, 83, 84, 85, 38, 41, 42, 86, 87, 88, 89, 90, 91, 92, 93, 94, 95, 96, 97, 98, 99, 100, 101, 102, 103, 104, 105, 106, 107, 108, 109, 110, 111, 112, 113, 114, 115, 116, 117, 118, 26, 119, 120, 121, 122, 123, 124, 125, 126, 127, 128, 29, 129, 130, 131, 132, 133, 134, 135, 136, 137, 138, 139, 140, 141, 142, 37, 143, 144, 145, 146, 147, 148, 149, 150, 151, 152, 153, 154, 157, 158, 159, 160, 161, 162, 163, 164, 165, 166, 167, 168, 177, 178, 169, 170, 171, 172, 173, 174, 175, 176] (by decide +kernel) (by decide +kernel)
set_option maxRecDepth 20000 in
theorem gX4_deliveredIfAssigned_X3_run : GoodIn wsX4_deliveredIfAssigned (wsV RX4 112 RX3 yX3_run wsX3_run) := goodIn_app (goodIn_of _ (by decide +kernel)) ggX4_deliveredIfAssigned_X3_run
theorem dX4_deliveredIfAssigned_0 : decode cX4_deliveredIfAssigned 0 = .ok (.aload_n 0, 1) := by decide +kernel
theorem dX4_deliveredIfAssigned_1 : decode cX4_deliveredIfAssigned 1 = .ok (.getfield 21, 3) := by decide +kernel
theorem dX4_deliveredIfAssigned_4 : decode cX4_deliveredIfAssigned 4 = .ok (.aload_n 0, 1) := by decide +kernel
theorem dX4_deliveredIfAssigned_5 : decode cX4_deliveredIfAssigned 5 = .ok (.getfield 17, 3) := by decide +kernel
theorem dX4_deliveredIfAssigned_8 : decode cX4_deliveredIfAssigned 8 = .ok (.invokevirtual 116, 3) := by decide +kernel
theorem dX4_deliveredIfAssigned_11 : decode cX4_deliveredIfAssigned 11 = .ok (.aload_n 0, 1) := by decide +kernel
theorem dX4_deliveredIfAssigned_12 : decode cX4_deliveredIfAssigned 12 = .ok (.getfield 21, 3) := by decide +kernel
theorem dX4_deliveredIfAssigned_15 : decode cX4_deliveredIfAssigned 15 = .ok (.getfield 74, 3) := by decide +kernel
theorem dX4_deliveredIfAssigned_18 : decode cX4_deliveredIfAssigned 18 = .ok (.getfield 86, 3) := by decide +kernel
theorem dX4_deliveredIfAssigned_21 : decode cX4_deliveredIfAssigned 21 = .ok (.iload_n 1, 1) := by decide +kernel
theorem dX4_deliveredIfAssigned_22 : decode cX4_deliveredIfAssigned 22 = .ok (.iload_n 2, 1) := by decide +kernel
theorem dX4_deliveredIfAssigned_23 : decode cX4_deliveredIfAssigned 23 = .ok (.iastore, 1) := by decide +kernel
theorem dX4_deliveredIfAssigned_24 : decode cX4_deliveredIfAssigned 24 = .ok (.aload_n 0, 1) := by decide +kernel
theorem dX4_deliveredIfAssigned_25 : decode cX4_deliveredIfAssigned 25 = .ok (.getfield 21, 3) := by decide +kernel
theorem dX4_deliveredIfAssigned_28 : decode cX4_deliveredIfAssigned 28 = .ok (.iload_n 3, 1) := by decide +kernel
theorem dX4_deliveredIfAssigned_29 : decode cX4_deliveredIfAssigned 29 = .ok (.invokevirtual 112, 3) := by decide +kernel
theorem dX4_deliveredIfAssigned_32 : decode cX4_deliveredIfAssigned 32 = .ok (.aload_n 0, 1) := by decide +kernel
theorem dX4_deliveredIfAssigned_33 : decode cX4_deliveredIfAssigned 33 = .ok (.getfield 21, 3) := by decide +kernel
theorem dX4_deliveredIfAssigned_36 : decode cX4_deliveredIfAssigned 36 = .ok (.getfield 58, 3) := by decide +kernel
theorem dX4_deliveredIfAssigned_39 : decode cX4_deliveredIfAssigned 39 = .ok (.getfield 109, 3) := by decide +kernel
theorem dX4_deliveredIfAssigned_42 : decode cX4_deliveredIfAssigned 42 = .ok (.iconst 4, 1) := by decide +kernel
theorem dX4_deliveredIfAssigned_43 : decode cX4_deliveredIfAssigned 43 = .ok (.iaload, 1) := by decide +kernel
theorem dX4_deliveredIfAssigned_44 : decode cX4_deliveredIfAssigned 44 = .ok (.ireturn, 1) := by decide +kernel
theorem dX4_checkIndex_0 : decode cX4_checkIndex 0 = .ok (.iload_n 0, 1) := by decide +kernel
theorem dX4_checkIndex_1 : decode cX4_checkIndex 1 = .ok (.ifCond .lt 8, 3) := by decide +kernel
theorem dX4_checkIndex_4 : decode cX4_checkIndex 4 = .ok (.iload_n 0, 1) := by decide +kernel
theorem dX4_checkIndex_5 : decode cX4_checkIndex 5 = .ok (.iload_n 1, 1) := by decide +kernel
theorem dX4_checkIndex_6 : decode cX4_checkIndex 6 = .ok (.if_icmp .lt 13, 3) := by decide +kernel
theorem dX4_checkIndex_9 : decode cX4_checkIndex 9 = .ok (.new 126, 3) := by decide +kernel
theorem dX4_checkIndex_12 : decode cX4_checkIndex 12 = .ok (.dup, 1) := by decide +kernel
theorem dX4_checkIndex_13 : decode cX4_checkIndex 13 = .ok (.ldc 157, 2) := by decide +kernel
theorem dX4_checkIndex_15 : decode cX4_checkIndex 15 = .ok (.invokespecial 130, 3) := by decide +kernel
theorem dX4_checkIndex_18 : decode cX4_checkIndex 18 = .ok (.athrow, 1) := by decide +kernel
theorem dX4_checkIndex_19 : decode cX4_checkIndex 19 = .ok (.return_, 1) := by decide +kernel
theorem dX4_checkArgument_0 : decode cX4_checkArgument 0 = .ok (.iload_n 0, 1) := by decide +kernel
theorem dX4_checkArgument_1 : decode cX4_checkArgument 1 = .ok (.iload_n 1, 1) := by decide +kernel
theorem dX4_checkArgument_2 : decode cX4_checkArgument 2 = .ok (.if_icmp .lt 8, 3) := by decide +kernel
theorem dX4_checkArgument_5 : decode cX4_checkArgument 5 = .ok (.iload_n 0, 1) := by decide +kernel
theorem dX4_checkArgument_6 : decode cX4_checkArgument 6 = .ok (.iload_n 2, 1) := by decide +kernel
theorem dX4_checkArgument_7 : decode cX4_checkArgument 7 = .ok (.if_icmp .le 13, 3) := by decide +kernel
theorem dX4_checkArgument_10 : decode cX4_checkArgument 10 = .ok (.new 159, 3) := by decide +kernel
theorem dX4_checkArgument_13 : decode cX4_checkArgument 13 = .ok (.dup, 1) := by decide +kernel
theorem dX4_checkArgument_14 : decode cX4_checkArgument 14 = .ok (.ldc 161, 2) := by decide +kernel
theorem dX4_checkArgument_16 : decode cX4_checkArgument 16 = .ok (.invokespecial 163, 3) := by decide +kernel
theorem dX4_checkArgument_19 : decode cX4_checkArgument 19 = .ok (.athrow, 1) := by decide +kernel
theorem dX4_checkArgument_20 : decode cX4_checkArgument 20 = .ok (.return_, 1) := by decide +kernel
theorem dX4_hasTown_0 : decode cX4_hasTown 0 = .ok (.iload_n 0, 1) := by decide +kernel
theorem dX4_hasTown_1 : decode cX4_hasTown 1 = .ok (.iload_n 1, 1) := by decide +kernel
theorem dX4_hasTown_2 : decode cX4_hasTown 2 = .ok (.ishr, 1) := by decide +kernel
theorem dX4_hasTown_3 : decode cX4_hasTown 3 = .ok (.iconst 1, 1) := by decide +kernel
theorem dX4_hasTown_4 : decode cX4_hasTown 4 = .ok (.iand, 1) := by decide +kernel
theorem dX4_hasTown_5 : decode cX4_hasTown 5 = .ok (.iconst 1, 1) := by decide +kernel
theorem dX4_hasTown_6 : decode cX4_hasTown 6 = .ok (.if_icmp .ne 7, 3) := by decide +kernel
theorem dX4_hasTown_9 : decode cX4_hasTown 9 = .ok (.iconst 1, 1) := by decide +kernel
theorem dX4_hasTown_10 : decode cX4_hasTown 10 = .ok (.goto 4, 3) := by decide +kernel
theorem dX4_hasTown_13 : decode cX4_hasTown 13 = .ok (.iconst 0, 1) := by decide +kernel
theorem dX4_hasTown_14 : decode cX4_hasTown 14 = .ok (.ireturn, 1) := by decide +kernel
theorem dX4_stationOf_0 : decode cX4_stationOf 0 = .ok (.iload_n 0, 1) := by decide +kernel
theorem dX4_stationOf_1 : decode cX4_stationOf 1 = .ok (.iconst 2, 1) := by decide +kernel
theorem dX4_stationOf_2 : decode cX4_stationOf 2 = .ok (.idiv, 1) := by decide +kernel
theorem dX4_stationOf_3 : decode cX4_stationOf 3 = .ok (.ireturn, 1) := by decide +kernel
theorem dX5_init_0 : decode cX5_init 0 = .ok (.aload_n 0, 1) := by decide +kernel
theorem dX5_init_1 : decode cX5_init 1 = .ok (.aload_n 1, 1) := by decide +kernel
theorem dX5_init_2 : decode cX5_init 2 = .ok (.putfield 3, 3) := by decide +kernel
theorem dX5_init_5 : decode cX5_init 5 = .ok (.aload_n 0, 1) := by decide +kernel
theorem dX5_init_6 : decode cX5_init 6 = .ok (.invokespecial 9, 3) := by decide +kernel
theorem dX5_init_9 : decode cX5_init 9 = .ok (.aload_n 0, 1) := by decide +kernel
theorem dX5_init_10 : decode cX5_init 10 = .ok (.bipush 60, 2) := by decide +kernel
theorem dX5_init_12 : decode cX5_init 12 = .ok (.newarray .int, 2) := by decide +kernel
theorem dX5_init_14 : decode cX5_init 14 = .ok (.putfield 15, 3) := by decide +kernel
theorem dX5_init_17 : decode cX5_init 17 = .ok (.aload_n 0, 1) := by decide +kernel
theorem dX5_init_18 : decode cX5_init 18 = .ok (.bipush 60, 2) := by decide +kernel
theorem dX5_init_20 : decode cX5_init 20 = .ok (.newarray .int, 2) := by decide +kernel
theorem dX5_init_22 : decode cX5_init 22 = .ok (.putfield 19, 3) := by decide +kernel
theorem dX5_init_25 : decode cX5_init 25 = .ok (.aload_n 0, 1) := by decide +kernel
theorem dX5_init_26 : decode cX5_init 26 = .ok (.bipush 60, 2) := by decide +kernel
theorem dX5_init_28 : decode cX5_init 28 = .ok (.newarray .int, 2) := by decide +kernel
theorem dX5_init_30 : decode cX5_init 30 = .ok (.putfield 22, 3) := by decide +kernel
theorem dX5_init_33 : decode cX5_init 33 = .ok (.aload_n 0, 1) := by decide +kernel
theorem dX5_init_34 : decode cX5_init 34 = .ok (.iconst 4, 1) := by decide +kernel
theorem dX5_init_35 : decode cX5_init 35 = .ok (.newarray .int, 2) := by decide +kernel
theorem dX5_init_37 : decode cX5_init 37 = .ok (.putfield 25, 3) := by decide +kernel
theorem dX5_init_40 : decode cX5_init 40 = .ok (.aload_n 0, 1) := by decide +kernel
theorem dX5_init_41 : decode cX5_init 41 = .ok (.iconst 4, 1) := by decide +kernel
theorem dX5_init_42 : decode cX5_init 42 = .ok (.newarray .int, 2) := by decide +kernel
theorem dX5_init_44 : decode cX5_init 44 = .ok (.putfield 28, 3) := by decide +kernel
theorem dX5_init_47 : decode cX5_init 47 = .ok (.aload_n 0, 1) := by decide +kernel
theorem dX5_init_48 : decode cX5_init 48 = .ok (.iconst 4, 1) := by decide +kernel
theorem dX5_init_49 : decode cX5_init 49 = .ok (.newarray .int, 2) := by decide +kernel
theorem dX5_init_51 : decode cX5_init 51 = .ok (.putfield 31, 3) := by decide +kernel
theorem dX5_init_54 : decode cX5_init 54 = .ok (.aload_n 0, 1) := by decide +kernel
theorem dX5_init_55 : decode cX5_init 55 = .ok (.iconst 4, 1) := by decide +kernel
theorem dX5_init_56 : decode cX5_init 56 = .ok (.newarray .int, 2) := by decide +kernel
theorem dX5_init_58 : decode cX5_init 58 = .ok (.putfield 34, 3) := by decide +kernel
theorem dX5_init_61 : decode cX5_init 61 = .ok (.aload_n 0, 1) := by decide +kernel
theorem dX5_init_62 : decode cX5_init 62 = .ok (.iconst 4, 1) := by decide +kernel
theorem dX5_init_63 : decode cX5_init 63 = .ok (.newarray .int, 2) := by decide +kernel
theorem dX5_init_65 : decode cX5_init 65 = .ok (.putfield 37, 3) := by decide +kernel
theorem dX5_init_68 : decode cX5_init 68 = .ok (.aload_n 0, 1) := by decide +kernel
theorem dX5_init_69 : decode cX5_init 69 = .ok (.iconst 4, 1) := by decide +kernel
theorem dX5_init_70 : decode cX5_init 70 = .ok (.newarray .int, 2) := by decide +kernel
theorem dX5_init_72 : decode cX5_init 72 = .ok (.putfield 40, 3) := by decide +kernel
theorem dX5_init_75 : decode cX5_init 75 = .ok (.return_, 1) := by decide +kernel
theorem dX5_copy_0 : decode cX5_copy 0 = .ok (.aload_n 1, 1) := by decide +kernel
theorem dX5_copy_1 : decode cX5_copy 1 = .ok (.iconst 0, 1) := by decide +kernel
theorem dX5_copy_2 : decode cX5_copy 2 = .ok (.aload_n 2, 1) := by decide +kernel
theorem dX5_copy_3 : decode cX5_copy 3 = .ok (.iconst 0, 1) := by decide +kernel
theorem dX5_copy_4 : decode cX5_copy 4 = .ok (.aload_n 1, 1) := by decide +kernel
theorem dX5_copy_5 : decode cX5_copy 5 = .ok (.arraylength, 1) := by decide +kernel
theorem dX5_copy_6 : decode cX5_copy 6 = .ok (.invokestatic 43, 3) := by decide +kernel
theorem dX5_copy_9 : decode cX5_copy 9 = .ok (.return_, 1) := by decide +kernel
set_option maxRecDepth 20000 in
theorem ggX5_become_X5_copy : GoodIn wsX5_become wsX5_copy := goodIn_r _ [15, 16, 17, 18, 19] (by decide +kernel) (by decide +kernel)
set_option maxRecDepth 20000 in
theorem gX5_become_X5_copy : GoodIn wsX5_become (wsV RX5 53 RX5 yX5_copy wsX5_copy) := goodIn_app (goodIn_of _ (by decide +kernel)) ggX5_become_X5_copy
theorem dX5_become_0 : decode cX5_become 0 = .ok (.aload_n 0, 1) := by decide +kernel
theorem dX5_become_1 : decode cX5_become 1 = .ok (.aload_n 1, 1) := by decide +kernel
theorem dX5_become_2 : decode cX5_become 2 = .ok (.getfield 49, 3) := by decide +kernel
theorem dX5_become_5 : decode cX5_become 5 = .ok (.putfield 49, 3) := by decide +kernel
theorem dX5_become_8 : decode cX5_become 8 = .ok (.aload_n 0, 1) := by decide +kernel
theorem dX5_become_9 : decode cX5_become 9 = .ok (.aload_n 1, 1) := by decide +kernel
theorem dX5_become_10 : decode cX5_become 10 = .ok (.getfield 15, 3) := by decide +kernel
theorem dX5_become_13 : decode cX5_become 13 = .ok (.aload_n 0, 1) := by decide +kernel
theorem dX5_become_14 : decode cX5_become 14 = .ok (.getfield 15, 3) := by decide +kernel
theorem dX5_become_17 : decode cX5_become 17 = .ok (.invokevirtual 53, 3) := by decide +kernel
theorem dX5_become_20 : decode cX5_become 20 = .ok (.aload_n 0, 1) := by decide +kernel
theorem dX5_become_21 : decode cX5_become 21 = .ok (.aload_n 1, 1) := by decide +kernel
theorem dX5_become_22 : decode cX5_become 22 = .ok (.getfield 19, 3) := by decide +kernel
theorem dX5_become_25 : decode cX5_become 25 = .ok (.aload_n 0, 1) := by decide +kernel
theorem dX5_become_26 : decode cX5_become 26 = .ok (.getfield 19, 3) := by decide +kernel
theorem dX5_become_29 : decode cX5_become 29 = .ok (.invokevirtual 53, 3) := by decide +kernel
theorem dX5_become_32 : decode cX5_become 32 = .ok (.aload_n 0, 1) := by decide +kernel
theorem dX5_become_33 : decode cX5_become 33 = .ok (.aload_n 1, 1) := by decide +kernel
theorem dX5_become_34 : decode cX5_become 34 = .ok (.getfield 22, 3) := by decide +kernel
theorem dX5_become_37 : decode cX5_become 37 = .ok (.aload_n 0, 1) := by decide +kernel
theorem dX5_become_38 : decode cX5_become 38 = .ok (.getfield 22, 3) := by decide +kernel
theorem dX5_become_41 : decode cX5_become 41 = .ok (.invokevirtual 53, 3) := by decide +kernel
theorem dX5_become_44 : decode cX5_become 44 = .ok (.aload_n 0, 1) := by decide +kernel
theorem dX5_become_45 : decode cX5_become 45 = .ok (.aload_n 1, 1) := by decide +kernel
theorem dX5_become_46 : decode cX5_become 46 = .ok (.getfield 25, 3) := by decide +kernel
theorem dX5_become_49 : decode cX5_become 49 = .ok (.aload_n 0, 1) := by decide +kernel
theorem dX5_become_50 : decode cX5_become 50 = .ok (.getfield 25, 3) := by decide +kernel
theorem dX5_become_53 : decode cX5_become 53 = .ok (.invokevirtual 53, 3) := by decide +kernel
theorem dX5_become_56 : decode cX5_become 56 = .ok (.aload_n 0, 1) := by decide +kernel
theorem dX5_become_57 : decode cX5_become 57 = .ok (.aload_n 1, 1) := by decide +kernel
theorem dX5_become_58 : decode cX5_become 58 = .ok (.getfield 28, 3) := by decide +kernel
theorem dX5_become_61 : decode cX5_become 61 = .ok (.aload_n 0, 1) := by decide +kernel
theorem dX5_become_62 : decode cX5_become 62 = .ok (.getfield 28, 3) := by decide +kernel
theorem dX5_become_65 : decode cX5_become 65 = .ok (.invokevirtual 53, 3) := by decide +kernel
theorem dX5_become_68 : decode cX5_become 68 = .ok (.aload_n 0, 1) := by decide +kernel
theorem dX5_become_69 : decode cX5_become 69 = .ok (.aload_n 1, 1) := by decide +kernel
theorem dX5_become_70 : decode cX5_become 70 = .ok (.getfield 31, 3) := by decide +kernel
theorem dX5_become_73 : decode cX5_become 73 = .ok (.aload_n 0, 1) := by decide +kernel
theorem dX5_become_74 : decode cX5_become 74 = .ok (.getfield 31, 3) := by decide +kernel
theorem dX5_become_77 : decode cX5_become 77 = .ok (.invokevirtual 53, 3) := by decide +kernel
theorem dX5_become_80 : decode cX5_become 80 = .ok (.aload_n 0, 1) := by decide +kernel
theorem dX5_become_81 : decode cX5_become 81 = .ok (.aload_n 1, 1) := by decide +kernel
theorem dX5_become_82 : decode cX5_become 82 = .ok (.getfield 34, 3) := by decide +kernel
theorem dX5_become_85 : decode cX5_become 85 = .ok (.aload_n 0, 1) := by decide +kernel
theorem dX5_become_86 : decode cX5_become 86 = .ok (.getfield 34, 3) := by decide +kernel
theorem dX5_become_89 : decode cX5_become 89 = .ok (.invokevirtual 53, 3) := by decide +kernel
theorem dX5_become_92 : decode cX5_become 92 = .ok (.aload_n 0, 1) := by decide +kernel
theorem dX5_become_93 : decode cX5_become 93 = .ok (.aload_n 1, 1) := by decide +kernel
theorem dX5_become_94 : decode cX5_become 94 = .ok (.getfield 37, 3) := by decide +kernel
theorem dX5_become_97 : decode cX5_become 97 = .ok (.aload_n 0, 1) := by decide +kernel
theorem dX5_become_98 : decode cX5_become 98 = .ok (.getfield 37, 3) := by decide +kernel
theorem dX5_become_101 : decode cX5_become 101 = .ok (.invokevirtual 53, 3) := by decide +kernel
theorem dX5_become_104 : decode cX5_become 104 = .ok (.aload_n 0, 1) := by decide +kernel
theorem dX5_become_105 : decode cX5_become 105 = .ok (.aload_n 1, 1) := by decide +kernel
theorem dX5_become_106 : decode cX5_become 106 = .ok (.getfield 40, 3) := by decide +kernel
theorem dX5_become_109 : decode cX5_become 109 = .ok (.aload_n 0, 1) := by decide +kernel
theorem dX5_become_110 : decode cX5_become 110 = .ok (.getfield 40, 3) := by decide +kernel
theorem dX5_become_113 : decode cX5_become 113 = .ok (.invokevirtual 53, 3) := by decide +kernel
theorem dX5_become_116 : decode cX5_become 116 = .ok (.return_, 1) := by decide +kernel
theorem dX5_are_0 : decode cX5_are 0 = .ok (.iconst 0, 1) := by decide +kernel
theorem dX5_are_1 : decode cX5_are 1 = .ok (.istore_n 2, 1) := by decide +kernel
theorem dX5_are_2 : decode cX5_are 2 = .ok (.iconst 0, 1) := by decide +kernel
theorem dX5_are_3 : decode cX5_are 3 = .ok (.istore_n 3, 1) := by decide +kernel
theorem dX5_are_4 : decode cX5_are 4 = .ok (.iload_n 3, 1) := by decide +kernel
theorem dX5_are_5 : decode cX5_are 5 = .ok (.aload_n 0, 1) := by decide +kernel
theorem dX5_are_6 : decode cX5_are 6 = .ok (.getfield 3, 3) := by decide +kernel
theorem dX5_are_9 : decode cX5_are 9 = .ok (.getfield 57, 3) := by decide +kernel
theorem dX5_are_12 : decode cX5_are 12 = .ok (.if_icmp .ge 27, 3) := by decide +kernel
theorem dX5_are_15 : decode cX5_are 15 = .ok (.iload_n 2, 1) := by decide +kernel
theorem dX5_are_16 : decode cX5_are 16 = .ok (.aload_n 0, 1) := by decide +kernel
theorem dX5_are_17 : decode cX5_are 17 = .ok (.getfield 15, 3) := by decide +kernel
theorem dX5_are_20 : decode cX5_are 20 = .ok (.iload_n 3, 1) := by decide +kernel
theorem dX5_are_21 : decode cX5_are 21 = .ok (.iaload, 1) := by decide +kernel
theorem dX5_are_22 : decode cX5_are 22 = .ok (.iload_n 1, 1) := by decide +kernel
theorem dX5_are_23 : decode cX5_are 23 = .ok (.if_icmp .ne 7, 3) := by decide +kernel
theorem dX5_are_26 : decode cX5_are 26 = .ok (.iconst 1, 1) := by decide +kernel
theorem dX5_are_27 : decode cX5_are 27 = .ok (.goto 4, 3) := by decide +kernel
theorem dX5_are_30 : decode cX5_are 30 = .ok (.iconst 0, 1) := by decide +kernel
theorem dX5_are_31 : decode cX5_are 31 = .ok (.iadd, 1) := by decide +kernel
theorem dX5_are_32 : decode cX5_are 32 = .ok (.istore_n 2, 1) := by decide +kernel
theorem dX5_are_33 : decode cX5_are 33 = .ok (.iinc 3 1, 3) := by decide +kernel
theorem dX5_are_36 : decode cX5_are 36 = .ok (.goto (-32), 3) := by decide +kernel
theorem dX5_are_39 : decode cX5_are 39 = .ok (.iload_n 2, 1) := by decide +kernel
theorem dX5_are_40 : decode cX5_are 40 = .ok (.ireturn, 1) := by decide +kernel
theorem dX5_inHole_0 : decode cX5_inHole 0 = .ok (.iconst 0, 1) := by decide +kernel
theorem dX5_inHole_1 : decode cX5_inHole 1 = .ok (.istore_n 2, 1) := by decide +kernel
theorem dX5_inHole_2 : decode cX5_inHole 2 = .ok (.iconst 0, 1) := by decide +kernel
theorem dX5_inHole_3 : decode cX5_inHole 3 = .ok (.istore_n 3, 1) := by decide +kernel
theorem dX5_inHole_4 : decode cX5_inHole 4 = .ok (.iload_n 3, 1) := by decide +kernel
theorem dX5_inHole_5 : decode cX5_inHole 5 = .ok (.aload_n 0, 1) := by decide +kernel
theorem dX5_inHole_6 : decode cX5_inHole 6 = .ok (.getfield 3, 3) := by decide +kernel
theorem dX5_inHole_9 : decode cX5_inHole 9 = .ok (.getfield 57, 3) := by decide +kernel
theorem dX5_inHole_12 : decode cX5_inHole 12 = .ok (.if_icmp .ge 40, 3) := by decide +kernel
theorem dX5_inHole_15 : decode cX5_inHole 15 = .ok (.iload_n 2, 1) := by decide +kernel
theorem dX5_inHole_16 : decode cX5_inHole 16 = .ok (.aload_n 0, 1) := by decide +kernel
theorem dX5_inHole_17 : decode cX5_inHole 17 = .ok (.getfield 15, 3) := by decide +kernel
theorem dX5_inHole_20 : decode cX5_inHole 20 = .ok (.iload_n 3, 1) := by decide +kernel
theorem dX5_inHole_21 : decode cX5_inHole 21 = .ok (.iaload, 1) := by decide +kernel
theorem dX5_inHole_22 : decode cX5_inHole 22 = .ok (.iconst 3, 1) := by decide +kernel
theorem dX5_inHole_23 : decode cX5_inHole 23 = .ok (.if_icmp .ne 20, 3) := by decide +kernel
theorem dX5_inHole_26 : decode cX5_inHole 26 = .ok (.aload_n 0, 1) := by decide +kernel
theorem dX5_inHole_27 : decode cX5_inHole 27 = .ok (.getfield 3, 3) := by decide +kernel
theorem dX5_inHole_30 : decode cX5_inHole 30 = .ok (.getfield 60, 3) := by decide +kernel
theorem dX5_inHole_33 : decode cX5_inHole 33 = .ok (.iload_n 3, 1) := by decide +kernel
theorem dX5_inHole_34 : decode cX5_inHole 34 = .ok (.iaload, 1) := by decide +kernel
theorem dX5_inHole_35 : decode cX5_inHole 35 = .ok (.iload_n 1, 1) := by decide +kernel
theorem dX5_inHole_36 : decode cX5_inHole 36 = .ok (.if_icmp .ne 7, 3) := by decide +kernel
theorem dX5_inHole_39 : decode cX5_inHole 39 = .ok (.iconst 1, 1) := by decide +kernel
theorem dX5_inHole_40 : decode cX5_inHole 40 = .ok (.goto 4, 3) := by decide +kernel
theorem dX5_inHole_43 : decode cX5_inHole 43 = .ok (.iconst 0, 1) := by decide +kernel
theorem dX5_inHole_44 : decode cX5_inHole 44 = .ok (.iadd, 1) := by decide +kernel
theorem dX5_inHole_45 : decode cX5_inHole 45 = .ok (.istore_n 2, 1) := by decide +kernel
theorem dX5_inHole_46 : decode cX5_inHole 46 = .ok (.iinc 3 1, 3) := by decide +kernel
theorem dX5_inHole_49 : decode cX5_inHole 49 = .ok (.goto (-45), 3) := by decide +kernel
theorem dX5_inHole_52 : decode cX5_inHole 52 = .ok (.iload_n 2, 1) := by decide +kernel
theorem dX5_inHole_53 : decode cX5_inHole 53 = .ok (.ireturn, 1) := by decide +kernel
theorem dX5_firstFor_0 : decode cX5_firstFor 0 = .ok (.iconst 0, 1) := by decide +kernel
theorem dX5_firstFor_1 : decode cX5_firstFor 1 = .ok (.istore_n 2, 1) := by decide +kernel
theorem dX5_firstFor_2 : decode cX5_firstFor 2 = .ok (.iload_n 2, 1) := by decide +kernel
theorem dX5_firstFor_3 : decode cX5_firstFor 3 = .ok (.aload_n 0, 1) := by decide +kernel
theorem dX5_firstFor_4 : decode cX5_firstFor 4 = .ok (.getfield 3, 3) := by decide +kernel
theorem dX5_firstFor_7 : decode cX5_firstFor 7 = .ok (.getfield 57, 3) := by decide +kernel
theorem dX5_firstFor_10 : decode cX5_firstFor 10 = .ok (.if_icmp .ge 43, 3) := by decide +kernel
theorem dX5_firstFor_13 : decode cX5_firstFor 13 = .ok (.aload_n 0, 1) := by decide +kernel
theorem dX5_firstFor_14 : decode cX5_firstFor 14 = .ok (.getfield 15, 3) := by decide +kernel
theorem dX5_firstFor_17 : decode cX5_firstFor 17 = .ok (.iload_n 2, 1) := by decide +kernel
theorem dX5_firstFor_18 : decode cX5_firstFor 18 = .ok (.iaload, 1) := by decide +kernel
theorem dX5_firstFor_19 : decode cX5_firstFor 19 = .ok (.iconst 1, 1) := by decide +kernel
theorem dX5_firstFor_20 : decode cX5_firstFor 20 = .ok (.if_icmp .ne 27, 3) := by decide +kernel
theorem dX5_firstFor_23 : decode cX5_firstFor 23 = .ok (.aload_n 0, 1) := by decide +kernel
theorem dX5_firstFor_24 : decode cX5_firstFor 24 = .ok (.getfield 25, 3) := by decide +kernel
theorem dX5_firstFor_27 : decode cX5_firstFor 27 = .ok (.iload_n 1, 1) := by decide +kernel
theorem dX5_firstFor_28 : decode cX5_firstFor 28 = .ok (.iaload, 1) := by decide +kernel
theorem dX5_firstFor_29 : decode cX5_firstFor 29 = .ok (.aload_n 0, 1) := by decide +kernel
theorem dX5_firstFor_30 : decode cX5_firstFor 30 = .ok (.getfield 3, 3) := by decide +kernel
theorem dX5_firstFor_33 : decode cX5_firstFor 33 = .ok (.getfield 60, 3) := by decide +kernel
theorem dX5_firstFor_36 : decode cX5_firstFor 36 = .ok (.iload_n 2, 1) := by decide +kernel
theorem dX5_firstFor_37 : decode cX5_firstFor 37 = .ok (.iaload, 1) := by decide +kernel
theorem dX5_firstFor_38 : decode cX5_firstFor 38 = .ok (.ishr, 1) := by decide +kernel
theorem dX5_firstFor_39 : decode cX5_firstFor 39 = .ok (.iconst 1, 1) := by decide +kernel
theorem dX5_firstFor_40 : decode cX5_firstFor 40 = .ok (.iand, 1) := by decide +kernel
theorem dX5_firstFor_41 : decode cX5_firstFor 41 = .ok (.iconst 1, 1) := by decide +kernel
theorem dX5_firstFor_42 : decode cX5_firstFor 42 = .ok (.if_icmp .ne 5, 3) := by decide +kernel
theorem dX5_firstFor_45 : decode cX5_firstFor 45 = .ok (.iload_n 2, 1) := by decide +kernel
theorem dX5_firstFor_46 : decode cX5_firstFor 46 = .ok (.ireturn, 1) := by decide +kernel
theorem dX5_firstFor_47 : decode cX5_firstFor 47 = .ok (.iinc 2 1, 3) := by decide +kernel
theorem dX5_firstFor_50 : decode cX5_firstFor 50 = .ok (.goto (-48), 3) := by decide +kernel
theorem dX5_firstFor_53 : decode cX5_firstFor 53 = .ok (.iconst (-1), 1) := by decide +kernel
theorem dX5_firstFor_54 : decode cX5_firstFor 54 = .ok (.ireturn, 1) := by decide +kernel
set_option maxRecDepth 20000 in
theorem ggX5_take_X5_firstFor : GoodIn wsX5_take wsX5_firstFor := goodIn_r _ [16, 3, 10, 17, 18, 19, 20, 21, 22, 23, 24, 25, 26, 27, 28, 29, 30, 31, 32, 33, 34, 35, 36, 37, 38] (by decide +kernel) (by decide +kernel)
set_option maxRecDepth 20000 in
theorem gX5_take_X5_firstFor : GoodIn wsX5_take (wsV RX5 63 RX5 yX5_firstFor wsX5_firstFor) := goodIn_app (goodIn_of _ (by decide +kernel)) ggX5_take_X5_firstFor
theorem dX5_take_0 : decode cX5_take 0 = .ok (.aload_n 0, 1) := by decide +kernel
theorem dX5_take_1 : decode cX5_take 1 = .ok (.iload_n 1, 1) := by decide +kernel
theorem dX5_take_2 : decode cX5_take 2 = .ok (.invokevirtual 63, 3) := by decide +kernel
theorem dX5_take_5 : decode cX5_take 5 = .ok (.istore_n 2, 1) := by decide +kernel
theorem dX5_take_6 : decode cX5_take 6 = .ok (.iload_n 2, 1) := by decide +kernel
theorem dX5_take_7 : decode cX5_take 7 = .ok (.iconst (-1), 1) := by decide +kernel
theorem dX5_take_8 : decode cX5_take 8 = .ok (.if_icmp .ne 4, 3) := by decide +kernel
theorem dX5_take_11 : decode cX5_take 11 = .ok (.return_, 1) := by decide +kernel
theorem dX5_take_12 : decode cX5_take 12 = .ok (.aload_n 0, 1) := by decide +kernel
theorem dX5_take_13 : decode cX5_take 13 = .ok (.getfield 34, 3) := by decide +kernel
theorem dX5_take_16 : decode cX5_take 16 = .ok (.iload_n 1, 1) := by decide +kernel
theorem dX5_take_17 : decode cX5_take 17 = .ok (.iload_n 2, 1) := by decide +kernel
theorem dX5_take_18 : decode cX5_take 18 = .ok (.iastore, 1) := by decide +kernel
theorem dX5_take_19 : decode cX5_take 19 = .ok (.aload_n 0, 1) := by decide +kernel
theorem dX5_take_20 : decode cX5_take 20 = .ok (.getfield 37, 3) := by decide +kernel
theorem dX5_take_23 : decode cX5_take 23 = .ok (.iload_n 1, 1) := by decide +kernel
theorem dX5_take_24 : decode cX5_take 24 = .ok (.iconst 1, 1) := by decide +kernel
theorem dX5_take_25 : decode cX5_take 25 = .ok (.aload_n 0, 1) := by decide +kernel
theorem dX5_take_26 : decode cX5_take 26 = .ok (.getfield 3, 3) := by decide +kernel
theorem dX5_take_29 : decode cX5_take 29 = .ok (.getfield 67, 3) := by decide +kernel
theorem dX5_take_32 : decode cX5_take 32 = .ok (.iload_n 1, 1) := by decide +kernel
theorem dX5_take_33 : decode cX5_take 33 = .ok (.iaload, 1) := by decide +kernel
theorem dX5_take_34 : decode cX5_take 34 = .ok (.aload_n 0, 1) := by decide +kernel
theorem dX5_take_35 : decode cX5_take 35 = .ok (.getfield 28, 3) := by decide +kernel
theorem dX5_take_38 : decode cX5_take 38 = .ok (.iload_n 1, 1) := by decide +kernel
theorem dX5_take_39 : decode cX5_take 39 = .ok (.iaload, 1) := by decide +kernel
theorem dX5_take_40 : decode cX5_take 40 = .ok (.iconst 5, 1) := by decide +kernel
theorem dX5_take_41 : decode cX5_take 41 = .ok (.idiv, 1) := by decide +kernel
theorem dX5_take_42 : decode cX5_take 42 = .ok (.iadd, 1) := by decide +kernel
theorem dX5_take_43 : decode cX5_take 43 = .ok (.iconst 2, 1) := by decide +kernel
theorem dX5_take_44 : decode cX5_take 44 = .ok (.aload_n 0, 1) := by decide +kernel
theorem dX5_take_45 : decode cX5_take 45 = .ok (.getfield 31, 3) := by decide +kernel
theorem dX5_take_48 : decode cX5_take 48 = .ok (.iload_n 1, 1) := by decide +kernel
theorem dX5_take_49 : decode cX5_take 49 = .ok (.iaload, 1) := by decide +kernel
theorem dX5_take_50 : decode cX5_take 50 = .ok (.imul, 1) := by decide +kernel
theorem dX5_take_51 : decode cX5_take 51 = .ok (.isub, 1) := by decide +kernel
theorem dX5_take_52 : decode cX5_take 52 = .ok (.invokestatic 70, 3) := by decide +kernel
theorem dX5_take_55 : decode cX5_take 55 = .ok (.iastore, 1) := by decide +kernel
theorem dX5_take_56 : decode cX5_take 56 = .ok (.aload_n 0, 1) := by decide +kernel
theorem dX5_take_57 : decode cX5_take 57 = .ok (.getfield 15, 3) := by decide +kernel
theorem dX5_take_60 : decode cX5_take 60 = .ok (.iload_n 2, 1) := by decide +kernel
theorem dX5_take_61 : decode cX5_take 61 = .ok (.iconst 2, 1) := by decide +kernel
theorem dX5_take_62 : decode cX5_take 62 = .ok (.iastore, 1) := by decide +kernel
theorem dX5_take_63 : decode cX5_take 63 = .ok (.aload_n 0, 1) := by decide +kernel
theorem dX5_take_64 : decode cX5_take 64 = .ok (.getfield 19, 3) := by decide +kernel
theorem dX5_take_67 : decode cX5_take 67 = .ok (.iload_n 2, 1) := by decide +kernel
theorem dX5_take_68 : decode cX5_take 68 = .ok (.iload_n 1, 1) := by decide +kernel
theorem dX5_take_69 : decode cX5_take 69 = .ok (.iastore, 1) := by decide +kernel
theorem dX5_take_70 : decode cX5_take 70 = .ok (.return_, 1) := by decide +kernel
theorem dX5_let_0 : decode cX5_let 0 = .ok (.aload_n 0, 1) := by decide +kernel
theorem dX5_let_1 : decode cX5_let 1 = .ok (.getfield 34, 3) := by decide +kernel
theorem dX5_let_4 : decode cX5_let 4 = .ok (.iload_n 1, 1) := by decide +kernel
theorem dX5_let_5 : decode cX5_let 5 = .ok (.iaload, 1) := by decide +kernel
theorem dX5_let_6 : decode cX5_let 6 = .ok (.istore_n 3, 1) := by decide +kernel
theorem dX5_let_7 : decode cX5_let 7 = .ok (.aload_n 0, 1) := by decide +kernel
theorem dX5_let_8 : decode cX5_let 8 = .ok (.getfield 15, 3) := by decide +kernel
theorem dX5_let_11 : decode cX5_let 11 = .ok (.iload_n 3, 1) := by decide +kernel
theorem dX5_let_12 : decode cX5_let 12 = .ok (.iload_n 2, 1) := by decide +kernel
theorem dX5_let_13 : decode cX5_let 13 = .ok (.iastore, 1) := by decide +kernel
theorem dX5_let_14 : decode cX5_let 14 = .ok (.aload_n 0, 1) := by decide +kernel
theorem dX5_let_15 : decode cX5_let 15 = .ok (.getfield 19, 3) := by decide +kernel
theorem dX5_let_18 : decode cX5_let 18 = .ok (.iload_n 3, 1) := by decide +kernel
theorem dX5_let_19 : decode cX5_let 19 = .ok (.iconst (-1), 1) := by decide +kernel
theorem dX5_let_20 : decode cX5_let 20 = .ok (.iastore, 1) := by decide +kernel
theorem dX5_let_21 : decode cX5_let 21 = .ok (.aload_n 0, 1) := by decide +kernel
theorem dX5_let_22 : decode cX5_let 22 = .ok (.getfield 34, 3) := by decide +kernel
theorem dX5_let_25 : decode cX5_let 25 = .ok (.iload_n 1, 1) := by decide +kernel
theorem dX5_let_26 : decode cX5_let 26 = .ok (.iconst (-1), 1) := by decide +kernel
theorem dX5_let_27 : decode cX5_let 27 = .ok (.iastore, 1) := by decide +kernel
theorem dX5_let_28 : decode cX5_let 28 = .ok (.aload_n 0, 1) := by decide +kernel
theorem dX5_let_29 : decode cX5_let 29 = .ok (.getfield 37, 3) := by decide +kernel
theorem dX5_let_32 : decode cX5_let 32 = .ok (.iload_n 1, 1) := by decide +kernel
theorem dX5_let_33 : decode cX5_let 33 = .ok (.iconst 0, 1) := by decide +kernel
theorem dX5_let_34 : decode cX5_let 34 = .ok (.iastore, 1) := by decide +kernel
theorem dX5_let_35 : decode cX5_let 35 = .ok (.return_, 1) := by decide +kernel
set_option maxRecDepth 20000 in
theorem ggX5_work_X5_take : GoodIn wsX5_work wsX5_take := goodIn_r _ [10, 1, 2, 3, 5, 11, 12, 13, 14, 15, 16, 17, 18, 19, 20, 9, 21, 22, 31, 32, 33, 34, 35, 36, 37, 38, 39, 40, 41, 42, 43, 44, 45, 46, 47, 48, 49, 50, 51] (by decide +kernel) (by decide +kernel)
set_option maxRecDepth 20000 in
theorem gX5_work_X5_take : GoodIn wsX5_work (wsV RX5 76 RX5 yX5_take wsX5_take) := goodIn_app (goodIn_of _ (by decide +kernel)) ggX5_work_X5_take
set_option maxRecDepth 20000 in
theorem ggX5_work_X5_inHole : GoodIn wsX5_work wsX5_inHole := goodIn_r _ [26, 3, 16, 31, 32, 33, 34, 35, 36, 37, 38, 39, 40, 41, 42, 43, 44, 45, 46, 47, 48, 49, 50, 51] (by decide +kernel) (by decide +kernel)
set_option maxRecDepth 20000 in
theorem gX5_work_X5_inHole : GoodIn wsX5_work (wsV RX5 80 RX5 yX5_inHole wsX5_inHole) := goodIn_app (goodIn_of _ (by decide +kernel)) ggX5_work_X5_inHole
set_option maxRecDepth 20000 in
theorem ggX5_work_X5_let : GoodIn wsX5_work wsX5_let := goodIn_r _ [30, 1, 16, 17, 2, 31, 32, 33, 34, 35, 36, 37, 38, 39, 40, 41] (by decide +kernel) (by decide +kernel)
set_option maxRecDepth 20000 in
theorem gX5_work_X5_let : GoodIn wsX5_work (wsV RX5 83 RX5 yX5_let wsX5_let) := goodIn_app (goodIn_of _ (by decide +kernel)) ggX5_work_X5_let
theorem dX5_work_0 : decode cX5_work 0 = .ok (.aload_n 0, 1) := by decide +kernel
theorem dX5_work_1 : decode cX5_work 1 = .ok (.getfield 34, 3) := by decide +kernel
theorem dX5_work_4 : decode cX5_work 4 = .ok (.iload_n 1, 1) := by decide +kernel
theorem dX5_work_5 : decode cX5_work 5 = .ok (.iaload, 1) := by decide +kernel
theorem dX5_work_6 : decode cX5_work 6 = .ok (.iconst (-1), 1) := by decide +kernel
theorem dX5_work_7 : decode cX5_work 7 = .ok (.if_icmp .ne 8, 3) := by decide +kernel
theorem dX5_work_10 : decode cX5_work 10 = .ok (.aload_n 0, 1) := by decide +kernel
theorem dX5_work_11 : decode cX5_work 11 = .ok (.iload_n 1, 1) := by decide +kernel
theorem dX5_work_12 : decode cX5_work 12 = .ok (.invokevirtual 76, 3) := by decide +kernel
theorem dX5_work_15 : decode cX5_work 15 = .ok (.aload_n 0, 1) := by decide +kernel
theorem dX5_work_16 : decode cX5_work 16 = .ok (.getfield 34, 3) := by decide +kernel
theorem dX5_work_19 : decode cX5_work 19 = .ok (.iload_n 1, 1) := by decide +kernel
theorem dX5_work_20 : decode cX5_work 20 = .ok (.iaload, 1) := by decide +kernel
theorem dX5_work_21 : decode cX5_work 21 = .ok (.iconst (-1), 1) := by decide +kernel
theorem dX5_work_22 : decode cX5_work 22 = .ok (.if_icmp .ne 4, 3) := by decide +kernel
theorem dX5_work_25 : decode cX5_work 25 = .ok (.return_, 1) := by decide +kernel
theorem dX5_work_26 : decode cX5_work 26 = .ok (.aload_n 0, 1) := by decide +kernel
theorem dX5_work_27 : decode cX5_work 27 = .ok (.getfield 37, 3) := by decide +kernel
theorem dX5_work_30 : decode cX5_work 30 = .ok (.iload_n 1, 1) := by decide +kernel
theorem dX5_work_31 : decode cX5_work 31 = .ok (.dup2, 1) := by decide +kernel
theorem dX5_work_32 : decode cX5_work 32 = .ok (.iaload, 1) := by decide +kernel
theorem dX5_work_33 : decode cX5_work 33 = .ok (.iconst 1, 1) := by decide +kernel
theorem dX5_work_34 : decode cX5_work 34 = .ok (.isub, 1) := by decide +kernel
theorem dX5_work_35 : decode cX5_work 35 = .ok (.iastore, 1) := by decide +kernel
theorem dX5_work_36 : decode cX5_work 36 = .ok (.aload_n 0, 1) := by decide +kernel
theorem dX5_work_37 : decode cX5_work 37 = .ok (.getfield 37, 3) := by decide +kernel
theorem dX5_work_40 : decode cX5_work 40 = .ok (.iload_n 1, 1) := by decide +kernel
theorem dX5_work_41 : decode cX5_work 41 = .ok (.iaload, 1) := by decide +kernel
theorem dX5_work_42 : decode cX5_work 42 = .ok (.ifCond .le 4, 3) := by decide +kernel
theorem dX5_work_45 : decode cX5_work 45 = .ok (.return_, 1) := by decide +kernel
theorem dX5_work_46 : decode cX5_work 46 = .ok (.aload_n 0, 1) := by decide +kernel
theorem dX5_work_47 : decode cX5_work 47 = .ok (.aload_n 0, 1) := by decide +kernel
theorem dX5_work_48 : decode cX5_work 48 = .ok (.getfield 3, 3) := by decide +kernel
theorem dX5_work_51 : decode cX5_work 51 = .ok (.getfield 60, 3) := by decide +kernel
theorem dX5_work_54 : decode cX5_work 54 = .ok (.aload_n 0, 1) := by decide +kernel
theorem dX5_work_55 : decode cX5_work 55 = .ok (.getfield 34, 3) := by decide +kernel
theorem dX5_work_58 : decode cX5_work 58 = .ok (.iload_n 1, 1) := by decide +kernel
theorem dX5_work_59 : decode cX5_work 59 = .ok (.iaload, 1) := by decide +kernel
theorem dX5_work_60 : decode cX5_work 60 = .ok (.iaload, 1) := by decide +kernel
theorem dX5_work_61 : decode cX5_work 61 = .ok (.invokevirtual 80, 3) := by decide +kernel
theorem dX5_work_64 : decode cX5_work 64 = .ok (.bipush 8, 2) := by decide +kernel
theorem dX5_work_66 : decode cX5_work 66 = .ok (.if_icmp .ge 7, 3) := by decide +kernel
theorem dX5_work_69 : decode cX5_work 69 = .ok (.iconst 1, 1) := by decide +kernel
theorem dX5_work_70 : decode cX5_work 70 = .ok (.goto 4, 3) := by decide +kernel
theorem dX5_work_73 : decode cX5_work 73 = .ok (.iconst 0, 1) := by decide +kernel
theorem dX5_work_74 : decode cX5_work 74 = .ok (.istore_n 2, 1) := by decide +kernel
theorem dX5_work_75 : decode cX5_work 75 = .ok (.aload_n 0, 1) := by decide +kernel
theorem dX5_work_76 : decode cX5_work 76 = .ok (.iload_n 1, 1) := by decide +kernel
theorem dX5_work_77 : decode cX5_work 77 = .ok (.iload_n 2, 1) := by decide +kernel
theorem dX5_work_78 : decode cX5_work 78 = .ok (.ifCond .eq 7, 3) := by decide +kernel
theorem dX5_work_81 : decode cX5_work 81 = .ok (.iconst 3, 1) := by decide +kernel
theorem dX5_work_82 : decode cX5_work 82 = .ok (.goto 4, 3) := by decide +kernel
theorem dX5_work_85 : decode cX5_work 85 = .ok (.iconst 1, 1) := by decide +kernel
theorem dX5_work_86 : decode cX5_work 86 = .ok (.invokevirtual 83, 3) := by decide +kernel
theorem dX5_work_89 : decode cX5_work 89 = .ok (.aload_n 0, 1) := by decide +kernel
theorem dX5_work_90 : decode cX5_work 90 = .ok (.getfield 40, 3) := by decide +kernel
theorem dX5_work_93 : decode cX5_work 93 = .ok (.iload_n 1, 1) := by decide +kernel
theorem dX5_work_94 : decode cX5_work 94 = .ok (.dup2, 1) := by decide +kernel
theorem dX5_work_95 : decode cX5_work 95 = .ok (.iaload, 1) := by decide +kernel
theorem dX5_work_96 : decode cX5_work 96 = .ok (.iload_n 2, 1) := by decide +kernel
theorem dX5_work_97 : decode cX5_work 97 = .ok (.ifCond .eq 7, 3) := by decide +kernel
theorem dX5_work_100 : decode cX5_work 100 = .ok (.iconst 1, 1) := by decide +kernel
theorem dX5_work_101 : decode cX5_work 101 = .ok (.goto 4, 3) := by decide +kernel
theorem dX5_work_104 : decode cX5_work 104 = .ok (.iconst 0, 1) := by decide +kernel
theorem dX5_work_105 : decode cX5_work 105 = .ok (.iadd, 1) := by decide +kernel
theorem dX5_work_106 : decode cX5_work 106 = .ok (.iastore, 1) := by decide +kernel
theorem dX5_work_107 : decode cX5_work 107 = .ok (.aload_n 0, 1) := by decide +kernel
theorem dX5_work_108 : decode cX5_work 108 = .ok (.getfield 28, 3) := by decide +kernel
theorem dX5_work_111 : decode cX5_work 111 = .ok (.iload_n 1, 1) := by decide +kernel
theorem dX5_work_112 : decode cX5_work 112 = .ok (.dup2, 1) := by decide +kernel
theorem dX5_work_113 : decode cX5_work 113 = .ok (.iaload, 1) := by decide +kernel
theorem dX5_work_114 : decode cX5_work 114 = .ok (.iconst 1, 1) := by decide +kernel
theorem dX5_work_115 : decode cX5_work 115 = .ok (.iadd, 1) := by decide +kernel
theorem dX5_work_116 : decode cX5_work 116 = .ok (.iastore, 1) := by decide +kernel
theorem dX5_work_117 : decode cX5_work 117 = .ok (.return_, 1) := by decide +kernel
set_option maxRecDepth 20000 in
theorem ggX5_end_X5_let : GoodIn wsX5_end wsX5_let := goodIn_r _ [9, 10, 1, 2, 11, 12, 13, 14, 15, 16, 17, 18, 19, 20, 21, 22] (by decide +kernel) (by decide +kernel)
set_option maxRecDepth 20000 in
theorem gX5_end_X5_let : GoodIn wsX5_end (wsV RX5 83 RX5 yX5_let wsX5_let) := goodIn_app (goodIn_of _ (by decide +kernel)) ggX5_end_X5_let
theorem dX5_end_0 : decode cX5_end 0 = .ok (.aload_n 0, 1) := by decide +kernel
theorem dX5_end_1 : decode cX5_end 1 = .ok (.getfield 15, 3) := by decide +kernel
theorem dX5_end_4 : decode cX5_end 4 = .ok (.iload_n 1, 1) := by decide +kernel
theorem dX5_end_5 : decode cX5_end 5 = .ok (.iaload, 1) := by decide +kernel
theorem dX5_end_6 : decode cX5_end 6 = .ok (.iconst 2, 1) := by decide +kernel
theorem dX5_end_7 : decode cX5_end 7 = .ok (.if_icmp .ne 14, 3) := by decide +kernel
theorem dX5_end_10 : decode cX5_end 10 = .ok (.aload_n 0, 1) := by decide +kernel
theorem dX5_end_11 : decode cX5_end 11 = .ok (.aload_n 0, 1) := by decide +kernel
theorem dX5_end_12 : decode cX5_end 12 = .ok (.getfield 19, 3) := by decide +kernel
theorem dX5_end_15 : decode cX5_end 15 = .ok (.iload_n 1, 1) := by decide +kernel
theorem dX5_end_16 : decode cX5_end 16 = .ok (.iaload, 1) := by decide +kernel
theorem dX5_end_17 : decode cX5_end 17 = .ok (.iload_n 2, 1) := by decide +kernel
theorem dX5_end_18 : decode cX5_end 18 = .ok (.invokevirtual 83, 3) := by decide +kernel
theorem dX5_end_21 : decode cX5_end 21 = .ok (.aload_n 0, 1) := by decide +kernel
theorem dX5_end_22 : decode cX5_end 22 = .ok (.getfield 15, 3) := by decide +kernel
theorem dX5_end_25 : decode cX5_end 25 = .ok (.iload_n 1, 1) := by decide +kernel
theorem dX5_end_26 : decode cX5_end 26 = .ok (.iload_n 2, 1) := by decide +kernel
theorem dX5_end_27 : decode cX5_end 27 = .ok (.iastore, 1) := by decide +kernel
theorem dX5_end_28 : decode cX5_end 28 = .ok (.aload_n 0, 1) := by decide +kernel
theorem dX5_end_29 : decode cX5_end 29 = .ok (.getfield 22, 3) := by decide +kernel
theorem dX5_end_32 : decode cX5_end 32 = .ok (.iload_n 1, 1) := by decide +kernel
theorem dX5_end_33 : decode cX5_end 33 = .ok (.aload_n 0, 1) := by decide +kernel
theorem dX5_end_34 : decode cX5_end 34 = .ok (.getfield 49, 3) := by decide +kernel
theorem dX5_end_37 : decode cX5_end 37 = .ok (.iastore, 1) := by decide +kernel
theorem dX5_end_38 : decode cX5_end 38 = .ok (.return_, 1) := by decide +kernel
set_option maxRecDepth 20000 in
theorem ggX5_passStation_X5_end : GoodIn wsX5_passStation wsX5_end := goodIn_r _ [7, 2, 8, 9, 10, 11, 12, 13, 6, 14, 15, 16, 17, 18, 19, 20, 21, 22, 23, 24, 25, 26, 27] (by decide +kernel) (by decide +kernel)
set_option maxRecDepth 20000 in
theorem gX5_passStation_X5_end : GoodIn wsX5_passStation (wsV RX5 87 RX5 yX5_end wsX5_end) := goodIn_app (goodIn_of _ (by decide +kernel)) ggX5_passStation_X5_end
theorem dX5_passStation_0 : decode cX5_passStation 0 = .ok (.iconst 0, 1) := by decide +kernel
theorem dX5_passStation_1 : decode cX5_passStation 1 = .ok (.istore_n 2, 1) := by decide +kernel
theorem dX5_passStation_2 : decode cX5_passStation 2 = .ok (.iload_n 2, 1) := by decide +kernel
theorem dX5_passStation_3 : decode cX5_passStation 3 = .ok (.aload_n 0, 1) := by decide +kernel
theorem dX5_passStation_4 : decode cX5_passStation 4 = .ok (.getfield 3, 3) := by decide +kernel
theorem dX5_passStation_7 : decode cX5_passStation 7 = .ok (.getfield 57, 3) := by decide +kernel
theorem dX5_passStation_10 : decode cX5_passStation 10 = .ok (.if_icmp .ge 83, 3) := by decide +kernel
theorem dX5_passStation_13 : decode cX5_passStation 13 = .ok (.aload_n 0, 1) := by decide +kernel
theorem dX5_passStation_14 : decode cX5_passStation 14 = .ok (.getfield 3, 3) := by decide +kernel
theorem dX5_passStation_17 : decode cX5_passStation 17 = .ok (.getfield 60, 3) := by decide +kernel
theorem dX5_passStation_20 : decode cX5_passStation 20 = .ok (.iload_n 2, 1) := by decide +kernel
theorem dX5_passStation_21 : decode cX5_passStation 21 = .ok (.iaload, 1) := by decide +kernel
theorem dX5_passStation_22 : decode cX5_passStation 22 = .ok (.iconst 2, 1) := by decide +kernel
theorem dX5_passStation_23 : decode cX5_passStation 23 = .ok (.idiv, 1) := by decide +kernel
theorem dX5_passStation_24 : decode cX5_passStation 24 = .ok (.iload_n 1, 1) := by decide +kernel
theorem dX5_passStation_25 : decode cX5_passStation 25 = .ok (.if_icmp .ne 7, 3) := by decide +kernel
theorem dX5_passStation_28 : decode cX5_passStation 28 = .ok (.iconst 1, 1) := by decide +kernel
theorem dX5_passStation_29 : decode cX5_passStation 29 = .ok (.goto 4, 3) := by decide +kernel
theorem dX5_passStation_32 : decode cX5_passStation 32 = .ok (.iconst 0, 1) := by decide +kernel
theorem dX5_passStation_33 : decode cX5_passStation 33 = .ok (.istore_n 3, 1) := by decide +kernel
theorem dX5_passStation_34 : decode cX5_passStation 34 = .ok (.iload_n 3, 1) := by decide +kernel
theorem dX5_passStation_35 : decode cX5_passStation 35 = .ok (.ifCond .eq 22, 3) := by decide +kernel
theorem dX5_passStation_38 : decode cX5_passStation 38 = .ok (.aload_n 0, 1) := by decide +kernel
theorem dX5_passStation_39 : decode cX5_passStation 39 = .ok (.getfield 15, 3) := by decide +kernel
theorem dX5_passStation_42 : decode cX5_passStation 42 = .ok (.iload_n 2, 1) := by decide +kernel
theorem dX5_passStation_43 : decode cX5_passStation 43 = .ok (.iaload, 1) := by decide +kernel
theorem dX5_passStation_44 : decode cX5_passStation 44 = .ok (.iconst 3, 1) := by decide +kernel
theorem dX5_passStation_45 : decode cX5_passStation 45 = .ok (.if_icmp .ne 12, 3) := by decide +kernel
theorem dX5_passStation_48 : decode cX5_passStation 48 = .ok (.aload_n 0, 1) := by decide +kernel
theorem dX5_passStation_49 : decode cX5_passStation 49 = .ok (.iload_n 2, 1) := by decide +kernel
theorem dX5_passStation_50 : decode cX5_passStation 50 = .ok (.iconst 4, 1) := by decide +kernel
theorem dX5_passStation_51 : decode cX5_passStation 51 = .ok (.invokevirtual 87, 3) := by decide +kernel
theorem dX5_passStation_54 : decode cX5_passStation 54 = .ok (.goto 33, 3) := by decide +kernel
theorem dX5_passStation_57 : decode cX5_passStation 57 = .ok (.iload_n 3, 1) := by decide +kernel
theorem dX5_passStation_58 : decode cX5_passStation 58 = .ok (.ifCond .eq 29, 3) := by decide +kernel
theorem dX5_passStation_61 : decode cX5_passStation 61 = .ok (.aload_n 0, 1) := by decide +kernel
theorem dX5_passStation_62 : decode cX5_passStation 62 = .ok (.getfield 15, 3) := by decide +kernel
theorem dX5_passStation_65 : decode cX5_passStation 65 = .ok (.iload_n 2, 1) := by decide +kernel
theorem dX5_passStation_66 : decode cX5_passStation 66 = .ok (.iaload, 1) := by decide +kernel
theorem dX5_passStation_67 : decode cX5_passStation 67 = .ok (.iconst 1, 1) := by decide +kernel
theorem dX5_passStation_68 : decode cX5_passStation 68 = .ok (.if_icmp .eq 13, 3) := by decide +kernel
theorem dX5_passStation_71 : decode cX5_passStation 71 = .ok (.aload_n 0, 1) := by decide +kernel
theorem dX5_passStation_72 : decode cX5_passStation 72 = .ok (.getfield 15, 3) := by decide +kernel
theorem dX5_passStation_75 : decode cX5_passStation 75 = .ok (.iload_n 2, 1) := by decide +kernel
theorem dX5_passStation_76 : decode cX5_passStation 76 = .ok (.iaload, 1) := by decide +kernel
theorem dX5_passStation_77 : decode cX5_passStation 77 = .ok (.iconst 2, 1) := by decide +kernel
theorem dX5_passStation_78 : decode cX5_passStation 78 = .ok (.if_icmp .ne 9, 3) := by decide +kernel
theorem dX5_passStation_81 : decode cX5_passStation 81 = .ok (.aload_n 0, 1) := by decide +kernel
theorem dX5_passStation_82 : decode cX5_passStation 82 = .ok (.iload_n 2, 1) := by decide +kernel
theorem dX5_passStation_83 : decode cX5_passStation 83 = .ok (.iconst 5, 1) := by decide +kernel
theorem dX5_passStation_84 : decode cX5_passStation 84 = .ok (.invokevirtual 87, 3) := by decide +kernel
theorem dX5_passStation_87 : decode cX5_passStation 87 = .ok (.iinc 2 1, 3) := by decide +kernel
theorem dX5_passStation_90 : decode cX5_passStation 90 = .ok (.goto (-88), 3) := by decide +kernel
theorem dX5_passStation_93 : decode cX5_passStation 93 = .ok (.iconst 0, 1) := by decide +kernel
theorem dX5_passStation_94 : decode cX5_passStation 94 = .ok (.istore_n 2, 1) := by decide +kernel
theorem dX5_passStation_95 : decode cX5_passStation 95 = .ok (.iload_n 2, 1) := by decide +kernel
theorem dX5_passStation_96 : decode cX5_passStation 96 = .ok (.aload_n 0, 1) := by decide +kernel
theorem dX5_passStation_97 : decode cX5_passStation 97 = .ok (.getfield 3, 3) := by decide +kernel
theorem dX5_passStation_100 : decode cX5_passStation 100 = .ok (.getfield 57, 3) := by decide +kernel
theorem dX5_passStation_103 : decode cX5_passStation 103 = .ok (.if_icmp .ge 65, 3) := by decide +kernel
theorem dX5_passStation_106 : decode cX5_passStation 106 = .ok (.aload_n 0, 1) := by decide +kernel
theorem dX5_passStation_107 : decode cX5_passStation 107 = .ok (.getfield 15, 3) := by decide +kernel
theorem dX5_passStation_110 : decode cX5_passStation 110 = .ok (.iload_n 2, 1) := by decide +kernel
theorem dX5_passStation_111 : decode cX5_passStation 111 = .ok (.iaload, 1) := by decide +kernel
theorem dX5_passStation_112 : decode cX5_passStation 112 = .ok (.ifCond .ne 50, 3) := by decide +kernel
theorem dX5_passStation_115 : decode cX5_passStation 115 = .ok (.aload_n 0, 1) := by decide +kernel
theorem dX5_passStation_116 : decode cX5_passStation 116 = .ok (.getfield 3, 3) := by decide +kernel
theorem dX5_passStation_119 : decode cX5_passStation 119 = .ok (.getfield 90, 3) := by decide +kernel
theorem dX5_passStation_122 : decode cX5_passStation 122 = .ok (.iload_n 2, 1) := by decide +kernel
theorem dX5_passStation_123 : decode cX5_passStation 123 = .ok (.iaload, 1) := by decide +kernel
theorem dX5_passStation_124 : decode cX5_passStation 124 = .ok (.iload_n 1, 1) := by decide +kernel
theorem dX5_passStation_125 : decode cX5_passStation 125 = .ok (.if_icmp .eq 6, 3) := by decide +kernel
theorem dX5_passStation_128 : decode cX5_passStation 128 = .ok (.goto 34, 3) := by decide +kernel
theorem dX5_passStation_131 : decode cX5_passStation 131 = .ok (.aload_n 0, 1) := by decide +kernel
theorem dX5_passStation_132 : decode cX5_passStation 132 = .ok (.getfield 3, 3) := by decide +kernel
theorem dX5_passStation_135 : decode cX5_passStation 135 = .ok (.getfield 60, 3) := by decide +kernel
theorem dX5_passStation_138 : decode cX5_passStation 138 = .ok (.iload_n 2, 1) := by decide +kernel
theorem dX5_passStation_139 : decode cX5_passStation 139 = .ok (.iaload, 1) := by decide +kernel
theorem dX5_passStation_140 : decode cX5_passStation 140 = .ok (.iconst 2, 1) := by decide +kernel
theorem dX5_passStation_141 : decode cX5_passStation 141 = .ok (.idiv, 1) := by decide +kernel
theorem dX5_passStation_142 : decode cX5_passStation 142 = .ok (.iload_n 1, 1) := by decide +kernel
theorem dX5_passStation_143 : decode cX5_passStation 143 = .ok (.if_icmp .gt 12, 3) := by decide +kernel
theorem dX5_passStation_146 : decode cX5_passStation 146 = .ok (.aload_n 0, 1) := by decide +kernel
theorem dX5_passStation_147 : decode cX5_passStation 147 = .ok (.iload_n 2, 1) := by decide +kernel
theorem dX5_passStation_148 : decode cX5_passStation 148 = .ok (.iconst 5, 1) := by decide +kernel
theorem dX5_passStation_149 : decode cX5_passStation 149 = .ok (.invokevirtual 87, 3) := by decide +kernel
theorem dX5_passStation_152 : decode cX5_passStation 152 = .ok (.goto 10, 3) := by decide +kernel
theorem dX5_passStation_155 : decode cX5_passStation 155 = .ok (.aload_n 0, 1) := by decide +kernel
theorem dX5_passStation_156 : decode cX5_passStation 156 = .ok (.getfield 15, 3) := by decide +kernel
theorem dX5_passStation_159 : decode cX5_passStation 159 = .ok (.iload_n 2, 1) := by decide +kernel
theorem dX5_passStation_160 : decode cX5_passStation 160 = .ok (.iconst 1, 1) := by decide +kernel
theorem dX5_passStation_161 : decode cX5_passStation 161 = .ok (.iastore, 1) := by decide +kernel
theorem dX5_passStation_162 : decode cX5_passStation 162 = .ok (.iinc 2 1, 3) := by decide +kernel
theorem dX5_passStation_165 : decode cX5_passStation 165 = .ok (.goto (-70), 3) := by decide +kernel
theorem dX5_passStation_168 : decode cX5_passStation 168 = .ok (.return_, 1) := by decide +kernel
set_option maxRecDepth 20000 in
theorem ggX5_shake_X5_inHole : GoodIn wsX5_shake wsX5_inHole := goodIn_r _ [9, 1, 4, 10, 11, 12, 13, 14, 15, 16, 17, 18, 19, 20, 21, 22, 23, 24, 25, 26, 27, 28, 29, 30] (by decide +kernel) (by decide +kernel)
set_option maxRecDepth 20000 in
theorem gX5_shake_X5_inHole : GoodIn wsX5_shake (wsV RX5 80 RX5 yX5_inHole wsX5_inHole) := goodIn_app (goodIn_of _ (by decide +kernel)) ggX5_shake_X5_inHole
theorem dX5_shake_0 : decode cX5_shake 0 = .ok (.iconst 0, 1) := by decide +kernel
theorem dX5_shake_1 : decode cX5_shake 1 = .ok (.istore_n 2, 1) := by decide +kernel
theorem dX5_shake_2 : decode cX5_shake 2 = .ok (.iload_n 2, 1) := by decide +kernel
theorem dX5_shake_3 : decode cX5_shake 3 = .ok (.aload_n 0, 1) := by decide +kernel
theorem dX5_shake_4 : decode cX5_shake 4 = .ok (.getfield 3, 3) := by decide +kernel
theorem dX5_shake_7 : decode cX5_shake 7 = .ok (.getfield 93, 3) := by decide +kernel
theorem dX5_shake_10 : decode cX5_shake 10 = .ok (.if_icmp .ge 35, 3) := by decide +kernel
theorem dX5_shake_13 : decode cX5_shake 13 = .ok (.iload_n 1, 1) := by decide +kernel
theorem dX5_shake_14 : decode cX5_shake 14 = .ok (.ifCond .le 10, 3) := by decide +kernel
theorem dX5_shake_17 : decode cX5_shake 17 = .ok (.aload_n 0, 1) := by decide +kernel
theorem dX5_shake_18 : decode cX5_shake 18 = .ok (.getfield 31, 3) := by decide +kernel
theorem dX5_shake_21 : decode cX5_shake 21 = .ok (.iload_n 2, 1) := by decide +kernel
theorem dX5_shake_22 : decode cX5_shake 22 = .ok (.iconst 0, 1) := by decide +kernel
theorem dX5_shake_23 : decode cX5_shake 23 = .ok (.iastore, 1) := by decide +kernel
theorem dX5_shake_24 : decode cX5_shake 24 = .ok (.iload_n 1, 1) := by decide +kernel
theorem dX5_shake_25 : decode cX5_shake 25 = .ok (.iconst 3, 1) := by decide +kernel
theorem dX5_shake_26 : decode cX5_shake 26 = .ok (.if_icmp .ne 13, 3) := by decide +kernel
theorem dX5_shake_29 : decode cX5_shake 29 = .ok (.aload_n 0, 1) := by decide +kernel
theorem dX5_shake_30 : decode cX5_shake 30 = .ok (.getfield 28, 3) := by decide +kernel
theorem dX5_shake_33 : decode cX5_shake 33 = .ok (.iload_n 2, 1) := by decide +kernel
theorem dX5_shake_34 : decode cX5_shake 34 = .ok (.dup2, 1) := by decide +kernel
theorem dX5_shake_35 : decode cX5_shake 35 = .ok (.iaload, 1) := by decide +kernel
theorem dX5_shake_36 : decode cX5_shake 36 = .ok (.iconst 3, 1) := by decide +kernel
theorem dX5_shake_37 : decode cX5_shake 37 = .ok (.iadd, 1) := by decide +kernel
theorem dX5_shake_38 : decode cX5_shake 38 = .ok (.iastore, 1) := by decide +kernel
theorem dX5_shake_39 : decode cX5_shake 39 = .ok (.iinc 2 1, 3) := by decide +kernel
theorem dX5_shake_42 : decode cX5_shake 42 = .ok (.goto (-40), 3) := by decide +kernel
theorem dX5_shake_45 : decode cX5_shake 45 = .ok (.iload_n 1, 1) := by decide +kernel
theorem dX5_shake_46 : decode cX5_shake 46 = .ok (.iconst 2, 1) := by decide +kernel
theorem dX5_shake_47 : decode cX5_shake 47 = .ok (.if_icmp .ge 4, 3) := by decide +kernel
theorem dX5_shake_50 : decode cX5_shake 50 = .ok (.return_, 1) := by decide +kernel
theorem dX5_shake_51 : decode cX5_shake 51 = .ok (.iconst 0, 1) := by decide +kernel
theorem dX5_shake_52 : decode cX5_shake 52 = .ok (.istore_n 2, 1) := by decide +kernel
theorem dX5_shake_53 : decode cX5_shake 53 = .ok (.iconst 1, 1) := by decide +kernel
theorem dX5_shake_54 : decode cX5_shake 54 = .ok (.istore_n 3, 1) := by decide +kernel
theorem dX5_shake_55 : decode cX5_shake 55 = .ok (.iload_n 3, 1) := by decide +kernel
theorem dX5_shake_56 : decode cX5_shake 56 = .ok (.bipush 16, 2) := by decide +kernel
theorem dX5_shake_58 : decode cX5_shake 58 = .ok (.if_icmp .ge 24, 3) := by decide +kernel
theorem dX5_shake_61 : decode cX5_shake 61 = .ok (.aload_n 0, 1) := by decide +kernel
theorem dX5_shake_62 : decode cX5_shake 62 = .ok (.iload_n 3, 1) := by decide +kernel
theorem dX5_shake_63 : decode cX5_shake 63 = .ok (.invokevirtual 80, 3) := by decide +kernel
theorem dX5_shake_66 : decode cX5_shake 66 = .ok (.aload_n 0, 1) := by decide +kernel
theorem dX5_shake_67 : decode cX5_shake 67 = .ok (.iload_n 2, 1) := by decide +kernel
theorem dX5_shake_68 : decode cX5_shake 68 = .ok (.invokevirtual 80, 3) := by decide +kernel
theorem dX5_shake_71 : decode cX5_shake 71 = .ok (.if_icmp .le 5, 3) := by decide +kernel
theorem dX5_shake_74 : decode cX5_shake 74 = .ok (.iload_n 3, 1) := by decide +kernel
theorem dX5_shake_75 : decode cX5_shake 75 = .ok (.istore_n 2, 1) := by decide +kernel
theorem dX5_shake_76 : decode cX5_shake 76 = .ok (.iinc 3 1, 3) := by decide +kernel
theorem dX5_shake_79 : decode cX5_shake 79 = .ok (.goto (-24), 3) := by decide +kernel
theorem dX5_shake_82 : decode cX5_shake 82 = .ok (.iconst 0, 1) := by decide +kernel
theorem dX5_shake_83 : decode cX5_shake 83 = .ok (.istore_n 3, 1) := by decide +kernel
theorem dX5_shake_84 : decode cX5_shake 84 = .ok (.iload_n 3, 1) := by decide +kernel
theorem dX5_shake_85 : decode cX5_shake 85 = .ok (.aload_n 0, 1) := by decide +kernel
theorem dX5_shake_86 : decode cX5_shake 86 = .ok (.getfield 3, 3) := by decide +kernel
theorem dX5_shake_89 : decode cX5_shake 89 = .ok (.getfield 57, 3) := by decide +kernel
theorem dX5_shake_92 : decode cX5_shake 92 = .ok (.if_icmp .ge 39, 3) := by decide +kernel
theorem dX5_shake_95 : decode cX5_shake 95 = .ok (.aload_n 0, 1) := by decide +kernel
theorem dX5_shake_96 : decode cX5_shake 96 = .ok (.getfield 15, 3) := by decide +kernel
theorem dX5_shake_99 : decode cX5_shake 99 = .ok (.iload_n 3, 1) := by decide +kernel
theorem dX5_shake_100 : decode cX5_shake 100 = .ok (.iaload, 1) := by decide +kernel
theorem dX5_shake_101 : decode cX5_shake 101 = .ok (.iconst 3, 1) := by decide +kernel
theorem dX5_shake_102 : decode cX5_shake 102 = .ok (.if_icmp .ne 23, 3) := by decide +kernel
theorem dX5_shake_105 : decode cX5_shake 105 = .ok (.aload_n 0, 1) := by decide +kernel
theorem dX5_shake_106 : decode cX5_shake 106 = .ok (.getfield 3, 3) := by decide +kernel
theorem dX5_shake_109 : decode cX5_shake 109 = .ok (.getfield 60, 3) := by decide +kernel
theorem dX5_shake_112 : decode cX5_shake 112 = .ok (.iload_n 3, 1) := by decide +kernel
theorem dX5_shake_113 : decode cX5_shake 113 = .ok (.iaload, 1) := by decide +kernel
theorem dX5_shake_114 : decode cX5_shake 114 = .ok (.iload_n 2, 1) := by decide +kernel
theorem dX5_shake_115 : decode cX5_shake 115 = .ok (.if_icmp .ne 10, 3) := by decide +kernel
theorem dX5_shake_118 : decode cX5_shake 118 = .ok (.aload_n 0, 1) := by decide +kernel
theorem dX5_shake_119 : decode cX5_shake 119 = .ok (.getfield 15, 3) := by decide +kernel
theorem dX5_shake_122 : decode cX5_shake 122 = .ok (.iload_n 3, 1) := by decide +kernel
theorem dX5_shake_123 : decode cX5_shake 123 = .ok (.iconst 1, 1) := by decide +kernel
theorem dX5_shake_124 : decode cX5_shake 124 = .ok (.iastore, 1) := by decide +kernel
theorem dX5_shake_125 : decode cX5_shake 125 = .ok (.iinc 3 1, 3) := by decide +kernel
theorem dX5_shake_128 : decode cX5_shake 128 = .ok (.goto (-44), 3) := by decide +kernel
theorem dX5_shake_131 : decode cX5_shake 131 = .ok (.return_, 1) := by decide +kernel
set_option maxRecDepth 20000 in
theorem ggX5_pass_X5_work : GoodIn wsX5_pass wsX5_work := goodIn_r _ [7, 8, 9, 1, 10, 11, 12, 13, 14, 6, 15, 16, 17, 18, 19, 20, 21, 22, 23, 24, 25, 26, 27, 28, 29, 30, 31, 32, 33, 34, 35, 53, 54, 55, 56, 57, 58, 59, 60, 61, 62, 63, 64, 65, 66, 67, 68, 69, 70, 71, 72, 73] (by decide +kernel) (by decide +kernel)
set_option maxRecDepth 20000 in
theorem gX5_pass_X5_work : GoodIn wsX5_pass (wsV RX5 96 RX5 yX5_work wsX5_work) := goodIn_app (goodIn_of _ (by decide +kernel)) ggX5_pass_X5_work
set_option maxRecDepth 20000 in
theorem ggX5_pass_X5_are : GoodIn wsX5_pass wsX5_are := goodIn_r _ [39, 1, 21, 53, 54, 55, 56, 57, 58, 59, 60, 61, 62, 63, 64, 65, 66, 67, 68, 69, 70, 71, 72, 73] (by decide +kernel) (by decide +kernel)
set_option maxRecDepth 20000 in
theorem gX5_pass_X5_are : GoodIn wsX5_pass (wsV RX5 99 RX5 yX5_are wsX5_are) := goodIn_app (goodIn_of _ (by decide +kernel)) ggX5_pass_X5_are
set_option maxRecDepth 20000 in
theorem ggX5_pass_X5_passStation : GoodIn wsX5_pass wsX5_passStation := goodIn_r _ [43, 1, 21, 44, 45, 46, 6, 47, 22, 48, 2, 32, 33, 34, 35, 8, 9, 53, 54, 55, 56, 57, 58, 59, 60, 61, 62, 63, 64, 65, 66, 67, 68, 69, 70, 71, 72, 73] (by decide +kernel) (by decide +kernel)
set_option maxRecDepth 20000 in
theorem gX5_pass_X5_passStation : GoodIn wsX5_pass (wsV RX5 105 RX5 yX5_passStation wsX5_passStation) := goodIn_app (goodIn_of _ (by decide +kernel)) ggX5_pass_X5_passStation
set_option maxRecDepth 20000 in
theorem ggX5_pass_X5_shake : GoodIn wsX5_pass wsX5_shake := goodIn_r _ [52, 1, 16, 11, 21, 28, 29, 30, 6, 31, 53, 54, 55, 56, 57, 58, 59, 60, 61, 62, 63, 64, 65, 66, 67, 68, 69, 70, 71, 72, 73] (by decide +kernel) (by decide +kernel)
set_option maxRecDepth 20000 in
theorem gX5_pass_X5_shake : GoodIn wsX5_pass (wsV RX5 111 RX5 yX5_shake wsX5_shake) := goodIn_app (goodIn_of _ (by decide +kernel)) ggX5_pass_X5_shake
theorem dX5_pass_0 : decode cX5_pass 0 = .ok (.iconst 0, 1) := by decide +kernel
theorem dX5_pass_1 : decode cX5_pass 1 = .ok (.istore_n 1, 1) := by decide +kernel
theorem dX5_pass_2 : decode cX5_pass 2 = .ok (.iload_n 1, 1) := by decide +kernel
theorem dX5_pass_3 : decode cX5_pass 3 = .ok (.aload_n 0, 1) := by decide +kernel
theorem dX5_pass_4 : decode cX5_pass 4 = .ok (.getfield 3, 3) := by decide +kernel
theorem dX5_pass_7 : decode cX5_pass 7 = .ok (.getfield 93, 3) := by decide +kernel
theorem dX5_pass_10 : decode cX5_pass 10 = .ok (.if_icmp .ge 14, 3) := by decide +kernel
theorem dX5_pass_13 : decode cX5_pass 13 = .ok (.aload_n 0, 1) := by decide +kernel
theorem dX5_pass_14 : decode cX5_pass 14 = .ok (.iload_n 1, 1) := by decide +kernel
theorem dX5_pass_15 : decode cX5_pass 15 = .ok (.invokevirtual 96, 3) := by decide +kernel
theorem dX5_pass_18 : decode cX5_pass 18 = .ok (.iinc 1 1, 3) := by decide +kernel
theorem dX5_pass_21 : decode cX5_pass 21 = .ok (.goto (-19), 3) := by decide +kernel
theorem dX5_pass_24 : decode cX5_pass 24 = .ok (.aload_n 0, 1) := by decide +kernel
theorem dX5_pass_25 : decode cX5_pass 25 = .ok (.iconst 4, 1) := by decide +kernel
theorem dX5_pass_26 : decode cX5_pass 26 = .ok (.invokevirtual 99, 3) := by decide +kernel
theorem dX5_pass_29 : decode cX5_pass 29 = .ok (.istore_n 1, 1) := by decide +kernel
theorem dX5_pass_30 : decode cX5_pass 30 = .ok (.iconst 0, 1) := by decide +kernel
theorem dX5_pass_31 : decode cX5_pass 31 = .ok (.istore_n 2, 1) := by decide +kernel
theorem dX5_pass_32 : decode cX5_pass 32 = .ok (.iload_n 2, 1) := by decide +kernel
theorem dX5_pass_33 : decode cX5_pass 33 = .ok (.bipush 8, 2) := by decide +kernel
theorem dX5_pass_35 : decode cX5_pass 35 = .ok (.if_icmp .ge 30, 3) := by decide +kernel
theorem dX5_pass_38 : decode cX5_pass 38 = .ok (.aload_n 0, 1) := by decide +kernel
theorem dX5_pass_39 : decode cX5_pass 39 = .ok (.getfield 3, 3) := by decide +kernel
theorem dX5_pass_42 : decode cX5_pass 42 = .ok (.getfield 102, 3) := by decide +kernel
theorem dX5_pass_45 : decode cX5_pass 45 = .ok (.iload_n 2, 1) := by decide +kernel
theorem dX5_pass_46 : decode cX5_pass 46 = .ok (.iaload, 1) := by decide +kernel
theorem dX5_pass_47 : decode cX5_pass 47 = .ok (.aload_n 0, 1) := by decide +kernel
theorem dX5_pass_48 : decode cX5_pass 48 = .ok (.getfield 49, 3) := by decide +kernel
theorem dX5_pass_51 : decode cX5_pass 51 = .ok (.if_icmp .ne 8, 3) := by decide +kernel
theorem dX5_pass_54 : decode cX5_pass 54 = .ok (.aload_n 0, 1) := by decide +kernel
theorem dX5_pass_55 : decode cX5_pass 55 = .ok (.iload_n 2, 1) := by decide +kernel
theorem dX5_pass_56 : decode cX5_pass 56 = .ok (.invokevirtual 105, 3) := by decide +kernel
theorem dX5_pass_59 : decode cX5_pass 59 = .ok (.iinc 2 1, 3) := by decide +kernel
theorem dX5_pass_62 : decode cX5_pass 62 = .ok (.goto (-30), 3) := by decide +kernel
theorem dX5_pass_65 : decode cX5_pass 65 = .ok (.iconst 0, 1) := by decide +kernel
theorem dX5_pass_66 : decode cX5_pass 66 = .ok (.istore_n 2, 1) := by decide +kernel
theorem dX5_pass_67 : decode cX5_pass 67 = .ok (.iload_n 2, 1) := by decide +kernel
theorem dX5_pass_68 : decode cX5_pass 68 = .ok (.bipush 8, 2) := by decide +kernel
theorem dX5_pass_70 : decode cX5_pass 70 = .ok (.if_icmp .ge 40, 3) := by decide +kernel
theorem dX5_pass_73 : decode cX5_pass 73 = .ok (.aload_n 0, 1) := by decide +kernel
theorem dX5_pass_74 : decode cX5_pass 74 = .ok (.getfield 3, 3) := by decide +kernel
theorem dX5_pass_77 : decode cX5_pass 77 = .ok (.getfield 102, 3) := by decide +kernel
theorem dX5_pass_80 : decode cX5_pass 80 = .ok (.iload_n 2, 1) := by decide +kernel
theorem dX5_pass_81 : decode cX5_pass 81 = .ok (.iaload, 1) := by decide +kernel
theorem dX5_pass_82 : decode cX5_pass 82 = .ok (.iconst 5, 1) := by decide +kernel
theorem dX5_pass_83 : decode cX5_pass 83 = .ok (.iadd, 1) := by decide +kernel
theorem dX5_pass_84 : decode cX5_pass 84 = .ok (.aload_n 0, 1) := by decide +kernel
theorem dX5_pass_85 : decode cX5_pass 85 = .ok (.getfield 49, 3) := by decide +kernel
theorem dX5_pass_88 : decode cX5_pass 88 = .ok (.if_icmp .ne 16, 3) := by decide +kernel
theorem dX5_pass_91 : decode cX5_pass 91 = .ok (.aload_n 0, 1) := by decide +kernel
theorem dX5_pass_92 : decode cX5_pass 92 = .ok (.aload_n 0, 1) := by decide +kernel
theorem dX5_pass_93 : decode cX5_pass 93 = .ok (.getfield 3, 3) := by decide +kernel
theorem dX5_pass_96 : decode cX5_pass 96 = .ok (.getfield 108, 3) := by decide +kernel
theorem dX5_pass_99 : decode cX5_pass 99 = .ok (.iload_n 2, 1) := by decide +kernel
theorem dX5_pass_100 : decode cX5_pass 100 = .ok (.iaload, 1) := by decide +kernel
theorem dX5_pass_101 : decode cX5_pass 101 = .ok (.invokevirtual 111, 3) := by decide +kernel
theorem dX5_pass_104 : decode cX5_pass 104 = .ok (.iinc 2 1, 3) := by decide +kernel
theorem dX5_pass_107 : decode cX5_pass 107 = .ok (.goto (-40), 3) := by decide +kernel
theorem dX5_pass_110 : decode cX5_pass 110 = .ok (.aload_n 0, 1) := by decide +kernel
theorem dX5_pass_111 : decode cX5_pass 111 = .ok (.dup, 1) := by decide +kernel
theorem dX5_pass_112 : decode cX5_pass 112 = .ok (.getfield 49, 3) := by decide +kernel
theorem dX5_pass_115 : decode cX5_pass 115 = .ok (.iconst 1, 1) := by decide +kernel
theorem dX5_pass_116 : decode cX5_pass 116 = .ok (.iadd, 1) := by decide +kernel
theorem dX5_pass_117 : decode cX5_pass 117 = .ok (.putfield 49, 3) := by decide +kernel
theorem dX5_pass_120 : decode cX5_pass 120 = .ok (.aload_n 0, 1) := by decide +kernel
theorem dX5_pass_121 : decode cX5_pass 121 = .ok (.iconst 4, 1) := by decide +kernel
theorem dX5_pass_122 : decode cX5_pass 122 = .ok (.invokevirtual 99, 3) := by decide +kernel
theorem dX5_pass_125 : decode cX5_pass 125 = .ok (.iload_n 1, 1) := by decide +kernel
theorem dX5_pass_126 : decode cX5_pass 126 = .ok (.isub, 1) := by decide +kernel
theorem dX5_pass_127 : decode cX5_pass 127 = .ok (.ireturn, 1) := by decide +kernel
set_option maxRecDepth 20000 in
theorem ggX5_pass__X5_pass : GoodIn wsX5_pass_ wsX5_pass := goodIn_r _ [5, 6, 7, 8, 9, 10, 4, 11, 12, 13, 14, 15, 16, 17, 18, 19, 20, 21, 22, 23, 24, 25, 26, 27, 28, 29, 30, 31, 32, 33, 34, 35, 36, 37, 38, 39, 40, 41, 42, 43, 44, 45, 46, 47, 48, 49, 50, 51, 52, 53, 54, 55, 56, 57, 58, 59, 60, 61, 62, 63, 64, 65, 66, 67, 68, 69, 70, 71, 72, 73, 74, 75, 76, 77] (by decide +kernel) (by decide +kernel)
set_option maxRecDepth 20000 in
theorem gX5_pass__X5_pass : GoodIn wsX5_pass_ (wsV RX5 114 RX5 yX5_pass wsX5_pass) := goodIn_app (goodIn_of _ (by decide +kernel)) ggX5_pass__X5_pass
theorem dX5_pass__0 : decode cX5_pass_ 0 = .ok (.iconst 0, 1) := by decide +kernel
theorem dX5_pass__1 : decode cX5_pass_ 1 = .ok (.istore_n 2, 1) := by decide +kernel
theorem dX5_pass__2 : decode cX5_pass_ 2 = .ok (.iconst 0, 1) := by decide +kernel
theorem dX5_pass__3 : decode cX5_pass_ 3 = .ok (.istore_n 3, 1) := by decide +kernel
theorem dX5_pass__4 : decode cX5_pass_ 4 = .ok (.iload_n 3, 1) := by decide +kernel
theorem dX5_pass__5 : decode cX5_pass_ 5 = .ok (.iload_n 1, 1) := by decide +kernel
theorem dX5_pass__6 : decode cX5_pass_ 6 = .ok (.if_icmp .ge 16, 3) := by decide +kernel
theorem dX5_pass__9 : decode cX5_pass_ 9 = .ok (.iload_n 2, 1) := by decide +kernel
theorem dX5_pass__10 : decode cX5_pass_ 10 = .ok (.aload_n 0, 1) := by decide +kernel
theorem dX5_pass__11 : decode cX5_pass_ 11 = .ok (.invokevirtual 114, 3) := by decide +kernel
theorem dX5_pass__14 : decode cX5_pass_ 14 = .ok (.iadd, 1) := by decide +kernel
theorem dX5_pass__15 : decode cX5_pass_ 15 = .ok (.istore_n 2, 1) := by decide +kernel
theorem dX5_pass__16 : decode cX5_pass_ 16 = .ok (.iinc 3 1, 3) := by decide +kernel
theorem dX5_pass__19 : decode cX5_pass_ 19 = .ok (.goto (-15), 3) := by decide +kernel
theorem dX5_pass__22 : decode cX5_pass_ 22 = .ok (.iload_n 2, 1) := by decide +kernel
theorem dX5_pass__23 : decode cX5_pass_ 23 = .ok (.ireturn, 1) := by decide +kernel
set_option maxRecDepth 20000 in
theorem ggX6_init_X5_init : GoodIn wsX6_init wsX5_init := goodIn_r _ [16, 17, 18, 2, 3, 4, 19, 20, 21, 22, 23, 24, 25, 26, 27, 38, 39, 40, 41, 42, 43, 44, 45, 46, 47, 48] (by decide +kernel) (by decide +kernel)
set_option maxRecDepth 20000 in
theorem gX6_init_X5_init_n27 : GoodIn wsX6_init (wsX5_init) := ggX6_init_X5_init
theorem dX6_init_0 : decode cX6_init 0 = .ok (.aload_n 0, 1) := by decide +kernel
theorem dX6_init_1 : decode cX6_init 1 = .ok (.invokespecial 1, 3) := by decide +kernel
theorem dX6_init_4 : decode cX6_init 4 = .ok (.aload_n 0, 1) := by decide +kernel
theorem dX6_init_5 : decode cX6_init 5 = .ok (.bipush 8, 2) := by decide +kernel
theorem dX6_init_7 : decode cX6_init 7 = .ok (.newarray .int, 2) := by decide +kernel
theorem dX6_init_9 : decode cX6_init 9 = .ok (.putfield 9, 3) := by decide +kernel
theorem dX6_init_12 : decode cX6_init 12 = .ok (.aload_n 0, 1) := by decide +kernel
theorem dX6_init_13 : decode cX6_init 13 = .ok (.bipush 8, 2) := by decide +kernel
theorem dX6_init_15 : decode cX6_init 15 = .ok (.newarray .int, 2) := by decide +kernel
theorem dX6_init_17 : decode cX6_init 17 = .ok (.putfield 13, 3) := by decide +kernel
theorem dX6_init_20 : decode cX6_init 20 = .ok (.aload_n 0, 1) := by decide +kernel
theorem dX6_init_21 : decode cX6_init 21 = .ok (.bipush 60, 2) := by decide +kernel
theorem dX6_init_23 : decode cX6_init 23 = .ok (.newarray .int, 2) := by decide +kernel
theorem dX6_init_25 : decode cX6_init 25 = .ok (.putfield 16, 3) := by decide +kernel
theorem dX6_init_28 : decode cX6_init 28 = .ok (.aload_n 0, 1) := by decide +kernel
theorem dX6_init_29 : decode cX6_init 29 = .ok (.bipush 60, 2) := by decide +kernel
theorem dX6_init_31 : decode cX6_init 31 = .ok (.newarray .int, 2) := by decide +kernel
theorem dX6_init_33 : decode cX6_init 33 = .ok (.putfield 19, 3) := by decide +kernel
theorem dX6_init_36 : decode cX6_init 36 = .ok (.aload_n 0, 1) := by decide +kernel
theorem dX6_init_37 : decode cX6_init 37 = .ok (.iconst 4, 1) := by decide +kernel
theorem dX6_init_38 : decode cX6_init 38 = .ok (.newarray .int, 2) := by decide +kernel
theorem dX6_init_40 : decode cX6_init 40 = .ok (.putfield 22, 3) := by decide +kernel
theorem dX6_init_43 : decode cX6_init 43 = .ok (.aload_n 0, 1) := by decide +kernel
theorem dX6_init_44 : decode cX6_init 44 = .ok (.new 25, 3) := by decide +kernel
theorem dX6_init_47 : decode cX6_init 47 = .ok (.dup, 1) := by decide +kernel
theorem dX6_init_48 : decode cX6_init 48 = .ok (.aload_n 0, 1) := by decide +kernel
theorem dX6_init_49 : decode cX6_init 49 = .ok (.invokespecial 27, 3) := by decide +kernel
theorem dX6_init_52 : decode cX6_init 52 = .ok (.putfield 30, 3) := by decide +kernel
theorem dX6_init_55 : decode cX6_init 55 = .ok (.aload_n 0, 1) := by decide +kernel
theorem dX6_init_56 : decode cX6_init 56 = .ok (.new 25, 3) := by decide +kernel
theorem dX6_init_59 : decode cX6_init 59 = .ok (.dup, 1) := by decide +kernel
theorem dX6_init_60 : decode cX6_init 60 = .ok (.aload_n 0, 1) := by decide +kernel
theorem dX6_init_61 : decode cX6_init 61 = .ok (.invokespecial 27, 3) := by decide +kernel
theorem dX6_init_64 : decode cX6_init 64 = .ok (.putfield 34, 3) := by decide +kernel
theorem dX6_init_67 : decode cX6_init 67 = .ok (.iconst 0, 1) := by decide +kernel
theorem dX6_init_68 : decode cX6_init 68 = .ok (.istore_n 1, 1) := by decide +kernel
theorem dX6_init_69 : decode cX6_init 69 = .ok (.iload_n 1, 1) := by decide +kernel
theorem dX6_init_70 : decode cX6_init 70 = .ok (.bipush 8, 2) := by decide +kernel
theorem dX6_init_72 : decode cX6_init 72 = .ok (.if_icmp .ge 22, 3) := by decide +kernel
theorem dX6_init_75 : decode cX6_init 75 = .ok (.aload_n 0, 1) := by decide +kernel
theorem dX6_init_76 : decode cX6_init 76 = .ok (.getfield 9, 3) := by decide +kernel
theorem dX6_init_79 : decode cX6_init 79 = .ok (.iload_n 1, 1) := by decide +kernel
theorem dX6_init_80 : decode cX6_init 80 = .ok (.bipush 20, 2) := by decide +kernel
theorem dX6_init_82 : decode cX6_init 82 = .ok (.iload_n 1, 1) := by decide +kernel
theorem dX6_init_83 : decode cX6_init 83 = .ok (.imul, 1) := by decide +kernel
theorem dX6_init_84 : decode cX6_init 84 = .ok (.bipush 20, 2) := by decide +kernel
theorem dX6_init_86 : decode cX6_init 86 = .ok (.iadd, 1) := by decide +kernel
theorem dX6_init_87 : decode cX6_init 87 = .ok (.iastore, 1) := by decide +kernel
theorem dX6_init_88 : decode cX6_init 88 = .ok (.iinc 1 1, 3) := by decide +kernel
theorem dX6_init_91 : decode cX6_init 91 = .ok (.goto (-22), 3) := by decide +kernel
theorem dX6_init_94 : decode cX6_init 94 = .ok (.return_, 1) := by decide +kernel
theorem dX6_thrown_0 : decode cX6_thrown 0 = .ok (.aload_n 0, 1) := by decide +kernel
theorem dX6_thrown_1 : decode cX6_thrown 1 = .ok (.getfield 37, 3) := by decide +kernel
theorem dX6_thrown_4 : decode cX6_thrown 4 = .ok (.ireturn, 1) := by decide +kernel
theorem dX6_no_0 : decode cX6_no 0 = .ok (.aload_n 0, 1) := by decide +kernel
theorem dX6_no_1 : decode cX6_no 1 = .ok (.iload_n 1, 1) := by decide +kernel
theorem dX6_no_2 : decode cX6_no 2 = .ok (.putfield 37, 3) := by decide +kernel
theorem dX6_no_5 : decode cX6_no 5 = .ok (.iconst 0, 1) := by decide +kernel
theorem dX6_no_6 : decode cX6_no 6 = .ok (.ireturn, 1) := by decide +kernel
theorem dX6_isIn_0 : decode cX6_isIn 0 = .ok (.iload_n 0, 1) := by decide +kernel
theorem dX6_isIn_1 : decode cX6_isIn 1 = .ok (.iload_n 1, 1) := by decide +kernel
theorem dX6_isIn_2 : decode cX6_isIn 2 = .ok (.if_icmp .lt 12, 3) := by decide +kernel
theorem dX6_isIn_5 : decode cX6_isIn 5 = .ok (.iload_n 0, 1) := by decide +kernel
theorem dX6_isIn_6 : decode cX6_isIn 6 = .ok (.iload_n 2, 1) := by decide +kernel
theorem dX6_isIn_7 : decode cX6_isIn 7 = .ok (.if_icmp .gt 7, 3) := by decide +kernel
theorem dX6_isIn_10 : decode cX6_isIn 10 = .ok (.iconst 1, 1) := by decide +kernel
theorem dX6_isIn_11 : decode cX6_isIn 11 = .ok (.goto 4, 3) := by decide +kernel
theorem dX6_isIn_14 : decode cX6_isIn 14 = .ok (.iconst 0, 1) := by decide +kernel
theorem dX6_isIn_15 : decode cX6_isIn 15 = .ok (.ireturn, 1) := by decide +kernel
set_option maxRecDepth 20000 in
theorem ggX6_isStation_X6_isIn : GoodIn wsX6_isStation wsX6_isIn := goodIn_r _ [4] (by decide +kernel) (by decide +kernel)
set_option maxRecDepth 20000 in
theorem gX6_isStation_X6_isIn : GoodIn wsX6_isStation (va_wsS RX6 41 yX6_isIn wsX6_isIn) := goodIn_app (goodIn_of _ (by decide +kernel)) ggX6_isStation_X6_isIn
theorem dX6_isStation_0 : decode cX6_isStation 0 = .ok (.iload_n 0, 1) := by decide +kernel
theorem dX6_isStation_1 : decode cX6_isStation 1 = .ok (.iconst 0, 1) := by decide +kernel
theorem dX6_isStation_2 : decode cX6_isStation 2 = .ok (.bipush 7, 2) := by decide +kernel
theorem dX6_isStation_4 : decode cX6_isStation 4 = .ok (.invokestatic 41, 3) := by decide +kernel
theorem dX6_isStation_7 : decode cX6_isStation 7 = .ok (.ireturn, 1) := by decide +kernel
set_option maxRecDepth 20000 in
theorem ggX6_isTown_X6_isIn : GoodIn wsX6_isTown wsX6_isIn := goodIn_r _ [4] (by decide +kernel) (by decide +kernel)
set_option maxRecDepth 20000 in
theorem gX6_isTown_X6_isIn : GoodIn wsX6_isTown (va_wsS RX6 41 yX6_isIn wsX6_isIn) := goodIn_app (goodIn_of _ (by decide +kernel)) ggX6_isTown_X6_isIn
theorem dX6_isTown_0 : decode cX6_isTown 0 = .ok (.iload_n 0, 1) := by decide +kernel
theorem dX6_isTown_1 : decode cX6_isTown 1 = .ok (.iconst 0, 1) := by decide +kernel
theorem dX6_isTown_2 : decode cX6_isTown 2 = .ok (.bipush 15, 2) := by decide +kernel
theorem dX6_isTown_4 : decode cX6_isTown 4 = .ok (.invokestatic 41, 3) := by decide +kernel
theorem dX6_isTown_7 : decode cX6_isTown 7 = .ok (.ireturn, 1) := by decide +kernel
set_option maxRecDepth 20000 in
theorem ggX6_isSet_X6_isIn : GoodIn wsX6_isSet wsX6_isIn := goodIn_r _ [5] (by decide +kernel) (by decide +kernel)
set_option maxRecDepth 20000 in
theorem gX6_isSet_X6_isIn : GoodIn wsX6_isSet (va_wsS RX6 41 yX6_isIn wsX6_isIn) := goodIn_app (goodIn_of _ (by decide +kernel)) ggX6_isSet_X6_isIn
theorem dX6_isSet_0 : decode cX6_isSet 0 = .ok (.iload_n 0, 1) := by decide +kernel
theorem dX6_isSet_1 : decode cX6_isSet 1 = .ok (.iconst 0, 1) := by decide +kernel
theorem dX6_isSet_2 : decode cX6_isSet 2 = .ok (.ldc 45, 2) := by decide +kernel
theorem dX6_isSet_4 : decode cX6_isSet 4 = .ok (.invokestatic 41, 3) := by decide +kernel
theorem dX6_isSet_7 : decode cX6_isSet 7 = .ok (.ireturn, 1) := by decide +kernel
set_option maxRecDepth 20000 in
theorem ggX6_isLetter_X6_isIn : GoodIn wsX6_isLetter wsX6_isIn := goodIn_r _ [5] (by decide +kernel) (by decide +kernel)
set_option maxRecDepth 20000 in
theorem gX6_isLetter_X6_isIn : GoodIn wsX6_isLetter (va_wsS RX6 41 yX6_isIn wsX6_isIn) := goodIn_app (goodIn_of _ (by decide +kernel)) ggX6_isLetter_X6_isIn
theorem dX6_isLetter_0 : decode cX6_isLetter 0 = .ok (.iload_n 1, 1) := by decide +kernel
theorem dX6_isLetter_1 : decode cX6_isLetter 1 = .ok (.iconst 0, 1) := by decide +kernel
theorem dX6_isLetter_2 : decode cX6_isLetter 2 = .ok (.aload_n 0, 1) := by decide +kernel
theorem dX6_isLetter_3 : decode cX6_isLetter 3 = .ok (.getfield 46, 3) := by decide +kernel
theorem dX6_isLetter_6 : decode cX6_isLetter 6 = .ok (.iconst 1, 1) := by decide +kernel
theorem dX6_isLetter_7 : decode cX6_isLetter 7 = .ok (.isub, 1) := by decide +kernel
theorem dX6_isLetter_8 : decode cX6_isLetter 8 = .ok (.invokestatic 41, 3) := by decide +kernel
theorem dX6_isLetter_11 : decode cX6_isLetter 11 = .ok (.ireturn, 1) := by decide +kernel
set_option maxRecDepth 20000 in
theorem ggX6_isSorter_X6_isIn : GoodIn wsX6_isSorter wsX6_isIn := goodIn_r _ [5] (by decide +kernel) (by decide +kernel)
set_option maxRecDepth 20000 in
theorem gX6_isSorter_X6_isIn : GoodIn wsX6_isSorter (va_wsS RX6 41 yX6_isIn wsX6_isIn) := goodIn_app (goodIn_of _ (by decide +kernel)) ggX6_isSorter_X6_isIn
theorem dX6_isSorter_0 : decode cX6_isSorter 0 = .ok (.iload_n 1, 1) := by decide +kernel
theorem dX6_isSorter_1 : decode cX6_isSorter 1 = .ok (.iconst 0, 1) := by decide +kernel
theorem dX6_isSorter_2 : decode cX6_isSorter 2 = .ok (.aload_n 0, 1) := by decide +kernel
theorem dX6_isSorter_3 : decode cX6_isSorter 3 = .ok (.getfield 49, 3) := by decide +kernel
theorem dX6_isSorter_6 : decode cX6_isSorter 6 = .ok (.iconst 1, 1) := by decide +kernel
theorem dX6_isSorter_7 : decode cX6_isSorter 7 = .ok (.isub, 1) := by decide +kernel
theorem dX6_isSorter_8 : decode cX6_isSorter 8 = .ok (.invokestatic 41, 3) := by decide +kernel
theorem dX6_isSorter_11 : decode cX6_isSorter 11 = .ok (.ireturn, 1) := by decide +kernel
theorem dX6_wouldRise_0 : decode cX6_wouldRise 0 = .ok (.iload_n 1, 1) := by decide +kernel
theorem dX6_wouldRise_1 : decode cX6_wouldRise 1 = .ok (.ifCond .eq 15, 3) := by decide +kernel
theorem dX6_wouldRise_4 : decode cX6_wouldRise 4 = .ok (.aload_n 0, 1) := by decide +kernel
theorem dX6_wouldRise_5 : decode cX6_wouldRise 5 = .ok (.getfield 9, 3) := by decide +kernel
theorem dX6_wouldRise_8 : decode cX6_wouldRise 8 = .ok (.iload_n 1, 1) := by decide +kernel
theorem dX6_wouldRise_9 : decode cX6_wouldRise 9 = .ok (.iconst 1, 1) := by decide +kernel
theorem dX6_wouldRise_10 : decode cX6_wouldRise 10 = .ok (.isub, 1) := by decide +kernel
theorem dX6_wouldRise_11 : decode cX6_wouldRise 11 = .ok (.iaload, 1) := by decide +kernel
theorem dX6_wouldRise_12 : decode cX6_wouldRise 12 = .ok (.iload_n 2, 1) := by decide +kernel
theorem dX6_wouldRise_13 : decode cX6_wouldRise 13 = .ok (.if_icmp .ge 25, 3) := by decide +kernel
theorem dX6_wouldRise_16 : decode cX6_wouldRise 16 = .ok (.iload_n 1, 1) := by decide +kernel
theorem dX6_wouldRise_17 : decode cX6_wouldRise 17 = .ok (.bipush 7, 2) := by decide +kernel
theorem dX6_wouldRise_19 : decode cX6_wouldRise 19 = .ok (.if_icmp .eq 15, 3) := by decide +kernel
theorem dX6_wouldRise_22 : decode cX6_wouldRise 22 = .ok (.iload_n 2, 1) := by decide +kernel
theorem dX6_wouldRise_23 : decode cX6_wouldRise 23 = .ok (.aload_n 0, 1) := by decide +kernel
theorem dX6_wouldRise_24 : decode cX6_wouldRise 24 = .ok (.getfield 9, 3) := by decide +kernel
theorem dX6_wouldRise_27 : decode cX6_wouldRise 27 = .ok (.iload_n 1, 1) := by decide +kernel
theorem dX6_wouldRise_28 : decode cX6_wouldRise 28 = .ok (.iconst 1, 1) := by decide +kernel
theorem dX6_wouldRise_29 : decode cX6_wouldRise 29 = .ok (.iadd, 1) := by decide +kernel
theorem dX6_wouldRise_30 : decode cX6_wouldRise 30 = .ok (.iaload, 1) := by decide +kernel
theorem dX6_wouldRise_31 : decode cX6_wouldRise 31 = .ok (.if_icmp .ge 7, 3) := by decide +kernel
theorem dX6_wouldRise_34 : decode cX6_wouldRise 34 = .ok (.iconst 1, 1) := by decide +kernel
theorem dX6_wouldRise_35 : decode cX6_wouldRise 35 = .ok (.goto 4, 3) := by decide +kernel
theorem dX6_wouldRise_38 : decode cX6_wouldRise 38 = .ok (.iconst 0, 1) := by decide +kernel
theorem dX6_wouldRise_39 : decode cX6_wouldRise 39 = .ok (.ireturn, 1) := by decide +kernel
set_option maxRecDepth 20000 in
theorem ggX6_setStation_X6_isStation : GoodIn wsX6_setStation wsX6_isStation := goodIn_r _ [8, 9, 10, 7, 11] (by decide +kernel) (by decide +kernel)
set_option maxRecDepth 20000 in
theorem gX6_setStation_X6_isStation : GoodIn wsX6_setStation (va_wsS RX6 52 yX6_isStation wsX6_isStation) := goodIn_app (goodIn_of _ (by decide +kernel)) ggX6_setStation_X6_isStation
set_option maxRecDepth 20000 in
theorem ggX6_setStation_X6_no : GoodIn wsX6_setStation wsX6_no := goodIn_r _ [15, 1, 20, 21, 22, 23, 24, 25, 26, 27, 28, 29] (by decide +kernel) (by decide +kernel)
set_option maxRecDepth 20000 in
theorem gX6_setStation_X6_no : GoodIn wsX6_setStation (wsV RX6 56 RX6 yX6_no wsX6_no) := goodIn_app (goodIn_of _ (by decide +kernel)) ggX6_setStation_X6_no
set_option maxRecDepth 20000 in
theorem ggX6_setStation_X6_isIn : GoodIn wsX6_setStation wsX6_isIn := goodIn_r _ [11] (by decide +kernel) (by decide +kernel)
set_option maxRecDepth 20000 in
theorem gX6_setStation_X6_isIn : GoodIn wsX6_setStation (va_wsS RX6 41 yX6_isIn wsX6_isIn) := goodIn_app (goodIn_of _ (by decide +kernel)) ggX6_setStation_X6_isIn
set_option maxRecDepth 20000 in
theorem ggX6_setStation_X6_wouldRise : GoodIn wsX6_setStation wsX6_wouldRise := goodIn_r _ [19, 3, 20, 21, 22, 23, 24, 25, 26, 27, 28, 29] (by decide +kernel) (by decide +kernel)
set_option maxRecDepth 20000 in
theorem gX6_setStation_X6_wouldRise : GoodIn wsX6_setStation (wsV RX6 63 RX6 yX6_wouldRise wsX6_wouldRise) := goodIn_app (goodIn_of _ (by decide +kernel)) ggX6_setStation_X6_wouldRise
theorem dX6_setStation_0 : decode cX6_setStation 0 = .ok (.aload_n 0, 1) := by decide +kernel
theorem dX6_setStation_1 : decode cX6_setStation 1 = .ok (.iconst 0, 1) := by decide +kernel
theorem dX6_setStation_2 : decode cX6_setStation 2 = .ok (.putfield 37, 3) := by decide +kernel
theorem dX6_setStation_5 : decode cX6_setStation 5 = .ok (.iload_n 1, 1) := by decide +kernel
theorem dX6_setStation_6 : decode cX6_setStation 6 = .ok (.invokestatic 52, 3) := by decide +kernel
theorem dX6_setStation_9 : decode cX6_setStation 9 = .ok (.ifCond .ne 9, 3) := by decide +kernel
theorem dX6_setStation_12 : decode cX6_setStation 12 = .ok (.aload_n 0, 1) := by decide +kernel
theorem dX6_setStation_13 : decode cX6_setStation 13 = .ok (.iconst 1, 1) := by decide +kernel
theorem dX6_setStation_14 : decode cX6_setStation 14 = .ok (.invokevirtual 56, 3) := by decide +kernel
theorem dX6_setStation_17 : decode cX6_setStation 17 = .ok (.ireturn, 1) := by decide +kernel
theorem dX6_setStation_18 : decode cX6_setStation 18 = .ok (.iload_n 2, 1) := by decide +kernel
theorem dX6_setStation_19 : decode cX6_setStation 19 = .ok (.iconst 1, 1) := by decide +kernel
theorem dX6_setStation_20 : decode cX6_setStation 20 = .ok (.sipush 999, 3) := by decide +kernel
theorem dX6_setStation_23 : decode cX6_setStation 23 = .ok (.invokestatic 41, 3) := by decide +kernel
theorem dX6_setStation_26 : decode cX6_setStation 26 = .ok (.ifCond .eq 12, 3) := by decide +kernel
theorem dX6_setStation_29 : decode cX6_setStation 29 = .ok (.iload_n 3, 1) := by decide +kernel
theorem dX6_setStation_30 : decode cX6_setStation 30 = .ok (.iconst 0, 1) := by decide +kernel
theorem dX6_setStation_31 : decode cX6_setStation 31 = .ok (.iconst 3, 1) := by decide +kernel
theorem dX6_setStation_32 : decode cX6_setStation 32 = .ok (.invokestatic 41, 3) := by decide +kernel
theorem dX6_setStation_35 : decode cX6_setStation 35 = .ok (.ifCond .ne 9, 3) := by decide +kernel
theorem dX6_setStation_38 : decode cX6_setStation 38 = .ok (.aload_n 0, 1) := by decide +kernel
theorem dX6_setStation_39 : decode cX6_setStation 39 = .ok (.iconst 2, 1) := by decide +kernel
theorem dX6_setStation_40 : decode cX6_setStation 40 = .ok (.invokevirtual 56, 3) := by decide +kernel
theorem dX6_setStation_43 : decode cX6_setStation 43 = .ok (.ireturn, 1) := by decide +kernel
theorem dX6_setStation_44 : decode cX6_setStation 44 = .ok (.aload_n 0, 1) := by decide +kernel
theorem dX6_setStation_45 : decode cX6_setStation 45 = .ok (.getfield 30, 3) := by decide +kernel
theorem dX6_setStation_48 : decode cX6_setStation 48 = .ok (.getfield 60, 3) := by decide +kernel
theorem dX6_setStation_51 : decode cX6_setStation 51 = .ok (.aload_n 0, 1) := by decide +kernel
theorem dX6_setStation_52 : decode cX6_setStation 52 = .ok (.getfield 9, 3) := by decide +kernel
theorem dX6_setStation_55 : decode cX6_setStation 55 = .ok (.iload_n 1, 1) := by decide +kernel
theorem dX6_setStation_56 : decode cX6_setStation 56 = .ok (.iaload, 1) := by decide +kernel
theorem dX6_setStation_57 : decode cX6_setStation 57 = .ok (.if_icmp .gt 23, 3) := by decide +kernel
theorem dX6_setStation_60 : decode cX6_setStation 60 = .ok (.aload_n 0, 1) := by decide +kernel
theorem dX6_setStation_61 : decode cX6_setStation 61 = .ok (.getfield 30, 3) := by decide +kernel
theorem dX6_setStation_64 : decode cX6_setStation 64 = .ok (.getfield 60, 3) := by decide +kernel
theorem dX6_setStation_67 : decode cX6_setStation 67 = .ok (.iload_n 2, 1) := by decide +kernel
theorem dX6_setStation_68 : decode cX6_setStation 68 = .ok (.if_icmp .gt 12, 3) := by decide +kernel
theorem dX6_setStation_71 : decode cX6_setStation 71 = .ok (.aload_n 0, 1) := by decide +kernel
theorem dX6_setStation_72 : decode cX6_setStation 72 = .ok (.iload_n 1, 1) := by decide +kernel
theorem dX6_setStation_73 : decode cX6_setStation 73 = .ok (.iload_n 2, 1) := by decide +kernel
theorem dX6_setStation_74 : decode cX6_setStation 74 = .ok (.invokevirtual 63, 3) := by decide +kernel
theorem dX6_setStation_77 : decode cX6_setStation 77 = .ok (.ifCond .ne 9, 3) := by decide +kernel
theorem dX6_setStation_80 : decode cX6_setStation 80 = .ok (.aload_n 0, 1) := by decide +kernel
theorem dX6_setStation_81 : decode cX6_setStation 81 = .ok (.iconst 3, 1) := by decide +kernel
theorem dX6_setStation_82 : decode cX6_setStation 82 = .ok (.invokevirtual 56, 3) := by decide +kernel
theorem dX6_setStation_85 : decode cX6_setStation 85 = .ok (.ireturn, 1) := by decide +kernel
theorem dX6_setStation_86 : decode cX6_setStation 86 = .ok (.bipush 10, 2) := by decide +kernel
theorem dX6_setStation_88 : decode cX6_setStation 88 = .ok (.aload_n 0, 1) := by decide +kernel
theorem dX6_setStation_89 : decode cX6_setStation 89 = .ok (.getfield 9, 3) := by decide +kernel
theorem dX6_setStation_92 : decode cX6_setStation 92 = .ok (.iload_n 1, 1) := by decide +kernel
theorem dX6_setStation_93 : decode cX6_setStation 93 = .ok (.iaload, 1) := by decide +kernel
theorem dX6_setStation_94 : decode cX6_setStation 94 = .ok (.imul, 1) := by decide +kernel
theorem dX6_setStation_95 : decode cX6_setStation 95 = .ok (.aload_n 0, 1) := by decide +kernel
theorem dX6_setStation_96 : decode cX6_setStation 96 = .ok (.getfield 13, 3) := by decide +kernel
theorem dX6_setStation_99 : decode cX6_setStation 99 = .ok (.iload_n 1, 1) := by decide +kernel
theorem dX6_setStation_100 : decode cX6_setStation 100 = .ok (.iaload, 1) := by decide +kernel
theorem dX6_setStation_101 : decode cX6_setStation 101 = .ok (.iadd, 1) := by decide +kernel
theorem dX6_setStation_102 : decode cX6_setStation 102 = .ok (.istore 4, 2) := by decide +kernel
theorem dX6_setStation_104 : decode cX6_setStation 104 = .ok (.aload_n 0, 1) := by decide +kernel
theorem dX6_setStation_105 : decode cX6_setStation 105 = .ok (.getfield 9, 3) := by decide +kernel
theorem dX6_setStation_108 : decode cX6_setStation 108 = .ok (.iload_n 1, 1) := by decide +kernel
theorem dX6_setStation_109 : decode cX6_setStation 109 = .ok (.iload_n 2, 1) := by decide +kernel
theorem dX6_setStation_110 : decode cX6_setStation 110 = .ok (.iastore, 1) := by decide +kernel
theorem dX6_setStation_111 : decode cX6_setStation 111 = .ok (.aload_n 0, 1) := by decide +kernel
theorem dX6_setStation_112 : decode cX6_setStation 112 = .ok (.getfield 13, 3) := by decide +kernel
theorem dX6_setStation_115 : decode cX6_setStation 115 = .ok (.iload_n 1, 1) := by decide +kernel
theorem dX6_setStation_116 : decode cX6_setStation 116 = .ok (.iload_n 3, 1) := by decide +kernel
theorem dX6_setStation_117 : decode cX6_setStation 117 = .ok (.iastore, 1) := by decide +kernel
theorem dX6_setStation_118 : decode cX6_setStation 118 = .ok (.iload 4, 2) := by decide +kernel
theorem dX6_setStation_120 : decode cX6_setStation 120 = .ok (.ireturn, 1) := by decide +kernel
set_option maxRecDepth 20000 in
theorem ggX6_post_X6_isStation : GoodIn wsX6_post wsX6_isStation := goodIn_r _ [9, 10, 11, 8, 12] (by decide +kernel) (by decide +kernel)
set_option maxRecDepth 20000 in
theorem gX6_post_X6_isStation : GoodIn wsX6_post (va_wsS RX6 52 yX6_isStation wsX6_isStation) := goodIn_app (goodIn_of _ (by decide +kernel)) ggX6_post_X6_isStation
set_option maxRecDepth 20000 in
theorem ggX6_post_X6_isTown : GoodIn wsX6_post wsX6_isTown := goodIn_r _ [15, 10, 11, 8, 12] (by decide +kernel) (by decide +kernel)
set_option maxRecDepth 20000 in
theorem gX6_post_X6_isTown : GoodIn wsX6_post (va_wsS RX6 67 yX6_isTown wsX6_isTown) := goodIn_app (goodIn_of _ (by decide +kernel)) ggX6_post_X6_isTown
set_option maxRecDepth 20000 in
theorem ggX6_post_X6_no : GoodIn wsX6_post wsX6_no := goodIn_r _ [19, 1, 20, 21, 22, 23, 24, 25, 26, 27, 28, 29] (by decide +kernel) (by decide +kernel)
set_option maxRecDepth 20000 in
theorem gX6_post_X6_no : GoodIn wsX6_post (wsV RX6 56 RX6 yX6_no wsX6_no) := goodIn_app (goodIn_of _ (by decide +kernel)) ggX6_post_X6_no
theorem dX6_post_0 : decode cX6_post 0 = .ok (.aload_n 0, 1) := by decide +kernel
theorem dX6_post_1 : decode cX6_post 1 = .ok (.iconst 0, 1) := by decide +kernel
theorem dX6_post_2 : decode cX6_post 2 = .ok (.putfield 37, 3) := by decide +kernel
theorem dX6_post_5 : decode cX6_post 5 = .ok (.iload_n 1, 1) := by decide +kernel
theorem dX6_post_6 : decode cX6_post 6 = .ok (.invokestatic 52, 3) := by decide +kernel
theorem dX6_post_9 : decode cX6_post 9 = .ok (.ifCond .eq 10, 3) := by decide +kernel
theorem dX6_post_12 : decode cX6_post 12 = .ok (.iload_n 2, 1) := by decide +kernel
theorem dX6_post_13 : decode cX6_post 13 = .ok (.invokestatic 67, 3) := by decide +kernel
theorem dX6_post_16 : decode cX6_post 16 = .ok (.ifCond .ne 9, 3) := by decide +kernel
theorem dX6_post_19 : decode cX6_post 19 = .ok (.aload_n 0, 1) := by decide +kernel
theorem dX6_post_20 : decode cX6_post 20 = .ok (.iconst 1, 1) := by decide +kernel
theorem dX6_post_21 : decode cX6_post 21 = .ok (.invokevirtual 56, 3) := by decide +kernel
theorem dX6_post_24 : decode cX6_post 24 = .ok (.ireturn, 1) := by decide +kernel
theorem dX6_post_25 : decode cX6_post 25 = .ok (.aload_n 0, 1) := by decide +kernel
theorem dX6_post_26 : decode cX6_post 26 = .ok (.getfield 46, 3) := by decide +kernel
theorem dX6_post_29 : decode cX6_post 29 = .ok (.bipush 60, 2) := by decide +kernel
theorem dX6_post_31 : decode cX6_post 31 = .ok (.if_icmp .ne 9, 3) := by decide +kernel
theorem dX6_post_34 : decode cX6_post 34 = .ok (.aload_n 0, 1) := by decide +kernel
theorem dX6_post_35 : decode cX6_post 35 = .ok (.iconst 2, 1) := by decide +kernel
theorem dX6_post_36 : decode cX6_post 36 = .ok (.invokevirtual 56, 3) := by decide +kernel
theorem dX6_post_39 : decode cX6_post 39 = .ok (.ireturn, 1) := by decide +kernel
theorem dX6_post_40 : decode cX6_post 40 = .ok (.aload_n 0, 1) := by decide +kernel
theorem dX6_post_41 : decode cX6_post 41 = .ok (.getfield 19, 3) := by decide +kernel
theorem dX6_post_44 : decode cX6_post 44 = .ok (.aload_n 0, 1) := by decide +kernel
theorem dX6_post_45 : decode cX6_post 45 = .ok (.getfield 46, 3) := by decide +kernel
theorem dX6_post_48 : decode cX6_post 48 = .ok (.iload_n 1, 1) := by decide +kernel
theorem dX6_post_49 : decode cX6_post 49 = .ok (.iastore, 1) := by decide +kernel
theorem dX6_post_50 : decode cX6_post 50 = .ok (.aload_n 0, 1) := by decide +kernel
theorem dX6_post_51 : decode cX6_post 51 = .ok (.getfield 16, 3) := by decide +kernel
theorem dX6_post_54 : decode cX6_post 54 = .ok (.aload_n 0, 1) := by decide +kernel
theorem dX6_post_55 : decode cX6_post 55 = .ok (.getfield 46, 3) := by decide +kernel
theorem dX6_post_58 : decode cX6_post 58 = .ok (.iload_n 2, 1) := by decide +kernel
theorem dX6_post_59 : decode cX6_post 59 = .ok (.iastore, 1) := by decide +kernel
theorem dX6_post_60 : decode cX6_post 60 = .ok (.aload_n 0, 1) := by decide +kernel
theorem dX6_post_61 : decode cX6_post 61 = .ok (.getfield 30, 3) := by decide +kernel
theorem dX6_post_64 : decode cX6_post 64 = .ok (.getfield 70, 3) := by decide +kernel
theorem dX6_post_67 : decode cX6_post 67 = .ok (.aload_n 0, 1) := by decide +kernel
theorem dX6_post_68 : decode cX6_post 68 = .ok (.getfield 46, 3) := by decide +kernel
theorem dX6_post_71 : decode cX6_post 71 = .ok (.iconst (-1), 1) := by decide +kernel
theorem dX6_post_72 : decode cX6_post 72 = .ok (.iastore, 1) := by decide +kernel
theorem dX6_post_73 : decode cX6_post 73 = .ok (.aload_n 0, 1) := by decide +kernel
theorem dX6_post_74 : decode cX6_post 74 = .ok (.getfield 30, 3) := by decide +kernel
theorem dX6_post_77 : decode cX6_post 77 = .ok (.getfield 73, 3) := by decide +kernel
theorem dX6_post_80 : decode cX6_post 80 = .ok (.aload_n 0, 1) := by decide +kernel
theorem dX6_post_81 : decode cX6_post 81 = .ok (.getfield 46, 3) := by decide +kernel
theorem dX6_post_84 : decode cX6_post 84 = .ok (.iconst (-1), 1) := by decide +kernel
theorem dX6_post_85 : decode cX6_post 85 = .ok (.iastore, 1) := by decide +kernel
theorem dX6_post_86 : decode cX6_post 86 = .ok (.aload_n 0, 1) := by decide +kernel
theorem dX6_post_87 : decode cX6_post 87 = .ok (.dup, 1) := by decide +kernel
theorem dX6_post_88 : decode cX6_post 88 = .ok (.getfield 46, 3) := by decide +kernel
theorem dX6_post_91 : decode cX6_post 91 = .ok (.iconst 1, 1) := by decide +kernel
theorem dX6_post_92 : decode cX6_post 92 = .ok (.iadd, 1) := by decide +kernel
theorem dX6_post_93 : decode cX6_post 93 = .ok (.putfield 46, 3) := by decide +kernel
theorem dX6_post_96 : decode cX6_post 96 = .ok (.aload_n 0, 1) := by decide +kernel
theorem dX6_post_97 : decode cX6_post 97 = .ok (.getfield 46, 3) := by decide +kernel
theorem dX6_post_100 : decode cX6_post 100 = .ok (.iconst 1, 1) := by decide +kernel
theorem dX6_post_101 : decode cX6_post 101 = .ok (.isub, 1) := by decide +kernel
theorem dX6_post_102 : decode cX6_post 102 = .ok (.ireturn, 1) := by decide +kernel
set_option maxRecDepth 20000 in
theorem ggX6_hire_X6_isIn : GoodIn wsX6_hire wsX6_isIn := goodIn_r _ [8] (by decide +kernel) (by decide +kernel)
set_option maxRecDepth 20000 in
theorem gX6_hire_X6_isIn : GoodIn wsX6_hire (va_wsS RX6 41 yX6_isIn wsX6_isIn) := goodIn_app (goodIn_of _ (by decide +kernel)) ggX6_hire_X6_isIn
set_option maxRecDepth 20000 in
theorem ggX6_hire_X6_isSet : GoodIn wsX6_hire wsX6_isSet := goodIn_r _ [11, 12, 5, 6, 7, 8] (by decide +kernel) (by decide +kernel)
set_option maxRecDepth 20000 in
theorem gX6_hire_X6_isSet : GoodIn wsX6_hire (va_wsS RX6 76 yX6_isSet wsX6_isSet) := goodIn_app (goodIn_of _ (by decide +kernel)) ggX6_hire_X6_isSet
set_option maxRecDepth 20000 in
theorem ggX6_hire_X6_no : GoodIn wsX6_hire wsX6_no := goodIn_r _ [16, 1, 17, 18, 19, 20, 21, 22, 23, 24, 25, 26] (by decide +kernel) (by decide +kernel)
set_option maxRecDepth 20000 in
theorem gX6_hire_X6_no : GoodIn wsX6_hire (wsV RX6 56 RX6 yX6_no wsX6_no) := goodIn_app (goodIn_of _ (by decide +kernel)) ggX6_hire_X6_no
theorem dX6_hire_0 : decode cX6_hire 0 = .ok (.aload_n 0, 1) := by decide +kernel
theorem dX6_hire_1 : decode cX6_hire 1 = .ok (.iconst 0, 1) := by decide +kernel
theorem dX6_hire_2 : decode cX6_hire 2 = .ok (.putfield 37, 3) := by decide +kernel
theorem dX6_hire_5 : decode cX6_hire 5 = .ok (.iload_n 1, 1) := by decide +kernel
theorem dX6_hire_6 : decode cX6_hire 6 = .ok (.iconst 1, 1) := by decide +kernel
theorem dX6_hire_7 : decode cX6_hire 7 = .ok (.bipush 9, 2) := by decide +kernel
theorem dX6_hire_9 : decode cX6_hire 9 = .ok (.invokestatic 41, 3) := by decide +kernel
theorem dX6_hire_12 : decode cX6_hire 12 = .ok (.ifCond .eq 10, 3) := by decide +kernel
theorem dX6_hire_15 : decode cX6_hire 15 = .ok (.iload_n 2, 1) := by decide +kernel
theorem dX6_hire_16 : decode cX6_hire 16 = .ok (.invokestatic 76, 3) := by decide +kernel
theorem dX6_hire_19 : decode cX6_hire 19 = .ok (.ifCond .ne 9, 3) := by decide +kernel
theorem dX6_hire_22 : decode cX6_hire 22 = .ok (.aload_n 0, 1) := by decide +kernel
theorem dX6_hire_23 : decode cX6_hire 23 = .ok (.iconst 1, 1) := by decide +kernel
theorem dX6_hire_24 : decode cX6_hire 24 = .ok (.invokevirtual 56, 3) := by decide +kernel
theorem dX6_hire_27 : decode cX6_hire 27 = .ok (.ireturn, 1) := by decide +kernel
theorem dX6_hire_28 : decode cX6_hire 28 = .ok (.aload_n 0, 1) := by decide +kernel
theorem dX6_hire_29 : decode cX6_hire 29 = .ok (.getfield 49, 3) := by decide +kernel
theorem dX6_hire_32 : decode cX6_hire 32 = .ok (.iconst 4, 1) := by decide +kernel
theorem dX6_hire_33 : decode cX6_hire 33 = .ok (.if_icmp .ne 9, 3) := by decide +kernel
theorem dX6_hire_36 : decode cX6_hire 36 = .ok (.aload_n 0, 1) := by decide +kernel
theorem dX6_hire_37 : decode cX6_hire 37 = .ok (.iconst 2, 1) := by decide +kernel
theorem dX6_hire_38 : decode cX6_hire 38 = .ok (.invokevirtual 56, 3) := by decide +kernel
theorem dX6_hire_41 : decode cX6_hire 41 = .ok (.ireturn, 1) := by decide +kernel
theorem dX6_hire_42 : decode cX6_hire 42 = .ok (.aload_n 0, 1) := by decide +kernel
theorem dX6_hire_43 : decode cX6_hire 43 = .ok (.getfield 22, 3) := by decide +kernel
theorem dX6_hire_46 : decode cX6_hire 46 = .ok (.aload_n 0, 1) := by decide +kernel
theorem dX6_hire_47 : decode cX6_hire 47 = .ok (.getfield 49, 3) := by decide +kernel
theorem dX6_hire_50 : decode cX6_hire 50 = .ok (.iload_n 1, 1) := by decide +kernel
theorem dX6_hire_51 : decode cX6_hire 51 = .ok (.iastore, 1) := by decide +kernel
theorem dX6_hire_52 : decode cX6_hire 52 = .ok (.aload_n 0, 1) := by decide +kernel
theorem dX6_hire_53 : decode cX6_hire 53 = .ok (.getfield 30, 3) := by decide +kernel
theorem dX6_hire_56 : decode cX6_hire 56 = .ok (.getfield 79, 3) := by decide +kernel
theorem dX6_hire_59 : decode cX6_hire 59 = .ok (.aload_n 0, 1) := by decide +kernel
theorem dX6_hire_60 : decode cX6_hire 60 = .ok (.getfield 49, 3) := by decide +kernel
theorem dX6_hire_63 : decode cX6_hire 63 = .ok (.iload_n 2, 1) := by decide +kernel
theorem dX6_hire_64 : decode cX6_hire 64 = .ok (.iastore, 1) := by decide +kernel
theorem dX6_hire_65 : decode cX6_hire 65 = .ok (.aload_n 0, 1) := by decide +kernel
theorem dX6_hire_66 : decode cX6_hire 66 = .ok (.getfield 30, 3) := by decide +kernel
theorem dX6_hire_69 : decode cX6_hire 69 = .ok (.getfield 82, 3) := by decide +kernel
theorem dX6_hire_72 : decode cX6_hire 72 = .ok (.aload_n 0, 1) := by decide +kernel
theorem dX6_hire_73 : decode cX6_hire 73 = .ok (.getfield 49, 3) := by decide +kernel
theorem dX6_hire_76 : decode cX6_hire 76 = .ok (.iconst (-1), 1) := by decide +kernel
theorem dX6_hire_77 : decode cX6_hire 77 = .ok (.iastore, 1) := by decide +kernel
theorem dX6_hire_78 : decode cX6_hire 78 = .ok (.aload_n 0, 1) := by decide +kernel
theorem dX6_hire_79 : decode cX6_hire 79 = .ok (.dup, 1) := by decide +kernel
theorem dX6_hire_80 : decode cX6_hire 80 = .ok (.getfield 49, 3) := by decide +kernel
theorem dX6_hire_83 : decode cX6_hire 83 = .ok (.iconst 1, 1) := by decide +kernel
theorem dX6_hire_84 : decode cX6_hire 84 = .ok (.iadd, 1) := by decide +kernel
theorem dX6_hire_85 : decode cX6_hire 85 = .ok (.putfield 49, 3) := by decide +kernel
theorem dX6_hire_88 : decode cX6_hire 88 = .ok (.aload_n 0, 1) := by decide +kernel
theorem dX6_hire_89 : decode cX6_hire 89 = .ok (.getfield 49, 3) := by decide +kernel
theorem dX6_hire_92 : decode cX6_hire 92 = .ok (.iconst 1, 1) := by decide +kernel
theorem dX6_hire_93 : decode cX6_hire 93 = .ok (.isub, 1) := by decide +kernel
theorem dX6_hire_94 : decode cX6_hire 94 = .ok (.ireturn, 1) := by decide +kernel
set_option maxRecDepth 20000 in
theorem ggX6_assign_X6_isSorter : GoodIn wsX6_assign wsX6_isSorter := goodIn_r _ [7, 8, 9, 10, 6, 11, 20, 21, 22, 23, 24, 25, 26, 27, 28, 29] (by decide +kernel) (by decide +kernel)
set_option maxRecDepth 20000 in
theorem gX6_assign_X6_isSorter : GoodIn wsX6_assign (wsV RX6 85 RX6 yX6_isSorter wsX6_isSorter) := goodIn_app (goodIn_of _ (by decide +kernel)) ggX6_assign_X6_isSorter
set_option maxRecDepth 20000 in
theorem ggX6_assign_X6_no : GoodIn wsX6_assign wsX6_no := goodIn_r _ [15, 1, 20, 21, 22, 23, 24, 25, 26, 27, 28, 29] (by decide +kernel) (by decide +kernel)
set_option maxRecDepth 20000 in
theorem gX6_assign_X6_no : GoodIn wsX6_assign (wsV RX6 56 RX6 yX6_no wsX6_no) := goodIn_app (goodIn_of _ (by decide +kernel)) ggX6_assign_X6_no
set_option maxRecDepth 20000 in
theorem ggX6_assign_X6_isSet : GoodIn wsX6_assign wsX6_isSet := goodIn_r _ [18, 19, 9, 10, 6, 11] (by decide +kernel) (by decide +kernel)
set_option maxRecDepth 20000 in
theorem gX6_assign_X6_isSet : GoodIn wsX6_assign (va_wsS RX6 76 yX6_isSet wsX6_isSet) := goodIn_app (goodIn_of _ (by decide +kernel)) ggX6_assign_X6_isSet
theorem dX6_assign_0 : decode cX6_assign 0 = .ok (.aload_n 0, 1) := by decide +kernel
theorem dX6_assign_1 : decode cX6_assign 1 = .ok (.iconst 0, 1) := by decide +kernel
theorem dX6_assign_2 : decode cX6_assign 2 = .ok (.putfield 37, 3) := by decide +kernel
theorem dX6_assign_5 : decode cX6_assign 5 = .ok (.aload_n 0, 1) := by decide +kernel
theorem dX6_assign_6 : decode cX6_assign 6 = .ok (.iload_n 1, 1) := by decide +kernel
theorem dX6_assign_7 : decode cX6_assign 7 = .ok (.invokevirtual 85, 3) := by decide +kernel
theorem dX6_assign_10 : decode cX6_assign 10 = .ok (.ifCond .ne 9, 3) := by decide +kernel
theorem dX6_assign_13 : decode cX6_assign 13 = .ok (.aload_n 0, 1) := by decide +kernel
theorem dX6_assign_14 : decode cX6_assign 14 = .ok (.iconst 1, 1) := by decide +kernel
theorem dX6_assign_15 : decode cX6_assign 15 = .ok (.invokevirtual 56, 3) := by decide +kernel
theorem dX6_assign_18 : decode cX6_assign 18 = .ok (.ireturn, 1) := by decide +kernel
theorem dX6_assign_19 : decode cX6_assign 19 = .ok (.iload_n 2, 1) := by decide +kernel
theorem dX6_assign_20 : decode cX6_assign 20 = .ok (.invokestatic 76, 3) := by decide +kernel
theorem dX6_assign_23 : decode cX6_assign 23 = .ok (.ifCond .ne 9, 3) := by decide +kernel
theorem dX6_assign_26 : decode cX6_assign 26 = .ok (.aload_n 0, 1) := by decide +kernel
theorem dX6_assign_27 : decode cX6_assign 27 = .ok (.iconst 2, 1) := by decide +kernel
theorem dX6_assign_28 : decode cX6_assign 28 = .ok (.invokevirtual 56, 3) := by decide +kernel
theorem dX6_assign_31 : decode cX6_assign 31 = .ok (.ireturn, 1) := by decide +kernel
theorem dX6_assign_32 : decode cX6_assign 32 = .ok (.aload_n 0, 1) := by decide +kernel
theorem dX6_assign_33 : decode cX6_assign 33 = .ok (.getfield 30, 3) := by decide +kernel
theorem dX6_assign_36 : decode cX6_assign 36 = .ok (.getfield 79, 3) := by decide +kernel
theorem dX6_assign_39 : decode cX6_assign 39 = .ok (.iload_n 1, 1) := by decide +kernel
theorem dX6_assign_40 : decode cX6_assign 40 = .ok (.iaload, 1) := by decide +kernel
theorem dX6_assign_41 : decode cX6_assign 41 = .ok (.istore_n 3, 1) := by decide +kernel
theorem dX6_assign_42 : decode cX6_assign 42 = .ok (.aload_n 0, 1) := by decide +kernel
theorem dX6_assign_43 : decode cX6_assign 43 = .ok (.getfield 30, 3) := by decide +kernel
theorem dX6_assign_46 : decode cX6_assign 46 = .ok (.getfield 79, 3) := by decide +kernel
theorem dX6_assign_49 : decode cX6_assign 49 = .ok (.iload_n 1, 1) := by decide +kernel
theorem dX6_assign_50 : decode cX6_assign 50 = .ok (.iload_n 2, 1) := by decide +kernel
theorem dX6_assign_51 : decode cX6_assign 51 = .ok (.iastore, 1) := by decide +kernel
theorem dX6_assign_52 : decode cX6_assign 52 = .ok (.iload_n 3, 1) := by decide +kernel
theorem dX6_assign_53 : decode cX6_assign 53 = .ok (.ireturn, 1) := by decide +kernel
set_option maxRecDepth 20000 in
theorem ggX6_tea_X6_isSorter : GoodIn wsX6_tea wsX6_isSorter := goodIn_r _ [7, 8, 9, 10, 6, 11, 16, 17, 18, 19, 20, 21, 22, 23, 24, 25] (by decide +kernel) (by decide +kernel)
set_option maxRecDepth 20000 in
theorem gX6_tea_X6_isSorter : GoodIn wsX6_tea (wsV RX6 85 RX6 yX6_isSorter wsX6_isSorter) := goodIn_app (goodIn_of _ (by decide +kernel)) ggX6_tea_X6_isSorter
set_option maxRecDepth 20000 in
theorem ggX6_tea_X6_no : GoodIn wsX6_tea wsX6_no := goodIn_r _ [15, 1, 16, 17, 18, 19, 20, 21, 22, 23, 24, 25] (by decide +kernel) (by decide +kernel)
set_option maxRecDepth 20000 in
theorem gX6_tea_X6_no : GoodIn wsX6_tea (wsV RX6 56 RX6 yX6_no wsX6_no) := goodIn_app (goodIn_of _ (by decide +kernel)) ggX6_tea_X6_no
theorem dX6_tea_0 : decode cX6_tea 0 = .ok (.aload_n 0, 1) := by decide +kernel
theorem dX6_tea_1 : decode cX6_tea 1 = .ok (.iconst 0, 1) := by decide +kernel
theorem dX6_tea_2 : decode cX6_tea 2 = .ok (.putfield 37, 3) := by decide +kernel
theorem dX6_tea_5 : decode cX6_tea 5 = .ok (.aload_n 0, 1) := by decide +kernel
theorem dX6_tea_6 : decode cX6_tea 6 = .ok (.iload_n 1, 1) := by decide +kernel
theorem dX6_tea_7 : decode cX6_tea 7 = .ok (.invokevirtual 85, 3) := by decide +kernel
theorem dX6_tea_10 : decode cX6_tea 10 = .ok (.ifCond .ne 9, 3) := by decide +kernel
theorem dX6_tea_13 : decode cX6_tea 13 = .ok (.aload_n 0, 1) := by decide +kernel
theorem dX6_tea_14 : decode cX6_tea 14 = .ok (.iconst 1, 1) := by decide +kernel
theorem dX6_tea_15 : decode cX6_tea 15 = .ok (.invokevirtual 56, 3) := by decide +kernel
theorem dX6_tea_18 : decode cX6_tea 18 = .ok (.ireturn, 1) := by decide +kernel
theorem dX6_tea_19 : decode cX6_tea 19 = .ok (.aload_n 0, 1) := by decide +kernel
theorem dX6_tea_20 : decode cX6_tea 20 = .ok (.getfield 30, 3) := by decide +kernel
theorem dX6_tea_23 : decode cX6_tea 23 = .ok (.getfield 88, 3) := by decide +kernel
theorem dX6_tea_26 : decode cX6_tea 26 = .ok (.iload_n 1, 1) := by decide +kernel
theorem dX6_tea_27 : decode cX6_tea 27 = .ok (.iaload, 1) := by decide +kernel
theorem dX6_tea_28 : decode cX6_tea 28 = .ok (.istore_n 2, 1) := by decide +kernel
theorem dX6_tea_29 : decode cX6_tea 29 = .ok (.aload_n 0, 1) := by decide +kernel
theorem dX6_tea_30 : decode cX6_tea 30 = .ok (.getfield 30, 3) := by decide +kernel
theorem dX6_tea_33 : decode cX6_tea 33 = .ok (.getfield 88, 3) := by decide +kernel
theorem dX6_tea_36 : decode cX6_tea 36 = .ok (.iload_n 1, 1) := by decide +kernel
theorem dX6_tea_37 : decode cX6_tea 37 = .ok (.iconst 0, 1) := by decide +kernel
theorem dX6_tea_38 : decode cX6_tea 38 = .ok (.iastore, 1) := by decide +kernel
theorem dX6_tea_39 : decode cX6_tea 39 = .ok (.aload_n 0, 1) := by decide +kernel
theorem dX6_tea_40 : decode cX6_tea 40 = .ok (.getfield 30, 3) := by decide +kernel
theorem dX6_tea_43 : decode cX6_tea 43 = .ok (.getfield 91, 3) := by decide +kernel
theorem dX6_tea_46 : decode cX6_tea 46 = .ok (.iload_n 1, 1) := by decide +kernel
theorem dX6_tea_47 : decode cX6_tea 47 = .ok (.iconst 1, 1) := by decide +kernel
theorem dX6_tea_48 : decode cX6_tea 48 = .ok (.iastore, 1) := by decide +kernel
theorem dX6_tea_49 : decode cX6_tea 49 = .ok (.iload_n 2, 1) := by decide +kernel
theorem dX6_tea_50 : decode cX6_tea 50 = .ok (.ireturn, 1) := by decide +kernel
theorem dX6_letterTold_0 : decode cX6_letterTold 0 = .ok (.iconst 5, 1) := by decide +kernel
theorem dX6_letterTold_1 : decode cX6_letterTold 1 = .ok (.newarray .int, 2) := by decide +kernel
theorem dX6_letterTold_3 : decode cX6_letterTold 3 = .ok (.dup, 1) := by decide +kernel
theorem dX6_letterTold_4 : decode cX6_letterTold 4 = .ok (.iconst 0, 1) := by decide +kernel
theorem dX6_letterTold_5 : decode cX6_letterTold 5 = .ok (.aload_n 0, 1) := by decide +kernel
theorem dX6_letterTold_6 : decode cX6_letterTold 6 = .ok (.getfield 30, 3) := by decide +kernel
theorem dX6_letterTold_9 : decode cX6_letterTold 9 = .ok (.getfield 94, 3) := by decide +kernel
theorem dX6_letterTold_12 : decode cX6_letterTold 12 = .ok (.iload_n 1, 1) := by decide +kernel
theorem dX6_letterTold_13 : decode cX6_letterTold 13 = .ok (.iaload, 1) := by decide +kernel
theorem dX6_letterTold_14 : decode cX6_letterTold 14 = .ok (.iastore, 1) := by decide +kernel
theorem dX6_letterTold_15 : decode cX6_letterTold 15 = .ok (.dup, 1) := by decide +kernel
theorem dX6_letterTold_16 : decode cX6_letterTold 16 = .ok (.iconst 1, 1) := by decide +kernel
theorem dX6_letterTold_17 : decode cX6_letterTold 17 = .ok (.aload_n 0, 1) := by decide +kernel
theorem dX6_letterTold_18 : decode cX6_letterTold 18 = .ok (.getfield 16, 3) := by decide +kernel
theorem dX6_letterTold_21 : decode cX6_letterTold 21 = .ok (.iload_n 1, 1) := by decide +kernel
theorem dX6_letterTold_22 : decode cX6_letterTold 22 = .ok (.iaload, 1) := by decide +kernel
theorem dX6_letterTold_23 : decode cX6_letterTold 23 = .ok (.iastore, 1) := by decide +kernel
theorem dX6_letterTold_24 : decode cX6_letterTold 24 = .ok (.dup, 1) := by decide +kernel
theorem dX6_letterTold_25 : decode cX6_letterTold 25 = .ok (.iconst 2, 1) := by decide +kernel
theorem dX6_letterTold_26 : decode cX6_letterTold 26 = .ok (.aload_n 0, 1) := by decide +kernel
theorem dX6_letterTold_27 : decode cX6_letterTold 27 = .ok (.getfield 19, 3) := by decide +kernel
theorem dX6_letterTold_30 : decode cX6_letterTold 30 = .ok (.iload_n 1, 1) := by decide +kernel
theorem dX6_letterTold_31 : decode cX6_letterTold 31 = .ok (.iaload, 1) := by decide +kernel
theorem dX6_letterTold_32 : decode cX6_letterTold 32 = .ok (.iastore, 1) := by decide +kernel
theorem dX6_letterTold_33 : decode cX6_letterTold 33 = .ok (.dup, 1) := by decide +kernel
theorem dX6_letterTold_34 : decode cX6_letterTold 34 = .ok (.iconst 3, 1) := by decide +kernel
theorem dX6_letterTold_35 : decode cX6_letterTold 35 = .ok (.aload_n 0, 1) := by decide +kernel
theorem dX6_letterTold_36 : decode cX6_letterTold 36 = .ok (.getfield 30, 3) := by decide +kernel
theorem dX6_letterTold_39 : decode cX6_letterTold 39 = .ok (.getfield 70, 3) := by decide +kernel
theorem dX6_letterTold_42 : decode cX6_letterTold 42 = .ok (.iload_n 1, 1) := by decide +kernel
theorem dX6_letterTold_43 : decode cX6_letterTold 43 = .ok (.iaload, 1) := by decide +kernel
theorem dX6_letterTold_44 : decode cX6_letterTold 44 = .ok (.iastore, 1) := by decide +kernel
theorem dX6_letterTold_45 : decode cX6_letterTold 45 = .ok (.dup, 1) := by decide +kernel
theorem dX6_letterTold_46 : decode cX6_letterTold 46 = .ok (.iconst 4, 1) := by decide +kernel
theorem dX6_letterTold_47 : decode cX6_letterTold 47 = .ok (.aload_n 0, 1) := by decide +kernel
theorem dX6_letterTold_48 : decode cX6_letterTold 48 = .ok (.getfield 30, 3) := by decide +kernel
theorem dX6_letterTold_51 : decode cX6_letterTold 51 = .ok (.getfield 73, 3) := by decide +kernel
theorem dX6_letterTold_54 : decode cX6_letterTold 54 = .ok (.iload_n 1, 1) := by decide +kernel
theorem dX6_letterTold_55 : decode cX6_letterTold 55 = .ok (.iaload, 1) := by decide +kernel
theorem dX6_letterTold_56 : decode cX6_letterTold 56 = .ok (.iastore, 1) := by decide +kernel
theorem dX6_letterTold_57 : decode cX6_letterTold 57 = .ok (.astore_n 3, 1) := by decide +kernel
theorem dX6_letterTold_58 : decode cX6_letterTold 58 = .ok (.aload_n 3, 1) := by decide +kernel
theorem dX6_letterTold_59 : decode cX6_letterTold 59 = .ok (.iload_n 2, 1) := by decide +kernel
theorem dX6_letterTold_60 : decode cX6_letterTold 60 = .ok (.iaload, 1) := by decide +kernel
theorem dX6_letterTold_61 : decode cX6_letterTold 61 = .ok (.ireturn, 1) := by decide +kernel
set_option maxRecDepth 20000 in
theorem ggX6_letter_X6_isLetter : GoodIn wsX6_letter wsX6_isLetter := goodIn_r _ [6, 7, 8, 9, 5, 10, 23, 24, 25, 26, 27, 28, 29, 30, 31, 32] (by decide +kernel) (by decide +kernel)
set_option maxRecDepth 20000 in
theorem gX6_letter_X6_isLetter : GoodIn wsX6_letter (wsV RX6 97 RX6 yX6_isLetter wsX6_isLetter) := goodIn_app (goodIn_of _ (by decide +kernel)) ggX6_letter_X6_isLetter
set_option maxRecDepth 20000 in
theorem ggX6_letter_X6_isIn : GoodIn wsX6_letter wsX6_isIn := goodIn_r _ [10] (by decide +kernel) (by decide +kernel)
set_option maxRecDepth 20000 in
theorem gX6_letter_X6_isIn : GoodIn wsX6_letter (va_wsS RX6 41 yX6_isIn wsX6_isIn) := goodIn_app (goodIn_of _ (by decide +kernel)) ggX6_letter_X6_isIn
set_option maxRecDepth 20000 in
theorem ggX6_letter_X6_letterTold : GoodIn wsX6_letter wsX6_letterTold := goodIn_r _ [14, 15, 16, 17, 18, 23, 24, 25, 26, 27, 28, 29, 30, 31, 32, 33, 34, 35, 36, 37, 38, 39, 40, 41, 42, 43] (by decide +kernel) (by decide +kernel)
set_option maxRecDepth 20000 in
theorem gX6_letter_X6_letterTold : GoodIn wsX6_letter (wsV RX6 100 RX6 yX6_letterTold wsX6_letterTold) := goodIn_app (goodIn_of _ (by decide +kernel)) ggX6_letter_X6_letterTold
set_option maxRecDepth 20000 in
theorem ggX6_letter_X6_no : GoodIn wsX6_letter wsX6_no := goodIn_r _ [22, 1, 23, 24, 25, 26, 27, 28, 29, 30, 31, 32] (by decide +kernel) (by decide +kernel)
set_option maxRecDepth 20000 in
theorem gX6_letter_X6_no : GoodIn wsX6_letter (wsV RX6 56 RX6 yX6_no wsX6_no) := goodIn_app (goodIn_of _ (by decide +kernel)) ggX6_letter_X6_no
theorem dX6_letter_0 : decode cX6_letter 0 = .ok (.aload_n 0, 1) := by decide +kernel
theorem dX6_letter_1 : decode cX6_letter 1 = .ok (.iconst 0, 1) := by decide +kernel
theorem dX6_letter_2 : decode cX6_letter 2 = .ok (.putfield 37, 3) := by decide +kernel
theorem dX6_letter_5 : decode cX6_letter 5 = .ok (.aload_n 0, 1) := by decide +kernel
theorem dX6_letter_6 : decode cX6_letter 6 = .ok (.iload_n 1, 1) := by decide +kernel
theorem dX6_letter_7 : decode cX6_letter 7 = .ok (.invokevirtual 97, 3) := by decide +kernel
theorem dX6_letter_10 : decode cX6_letter 10 = .ok (.ifCond .eq 21, 3) := by decide +kernel
theorem dX6_letter_13 : decode cX6_letter 13 = .ok (.iload_n 2, 1) := by decide +kernel
theorem dX6_letter_14 : decode cX6_letter 14 = .ok (.iconst 0, 1) := by decide +kernel
theorem dX6_letter_15 : decode cX6_letter 15 = .ok (.iconst 4, 1) := by decide +kernel
theorem dX6_letter_16 : decode cX6_letter 16 = .ok (.invokestatic 41, 3) := by decide +kernel
theorem dX6_letter_19 : decode cX6_letter 19 = .ok (.ifCond .eq 12, 3) := by decide +kernel
theorem dX6_letter_22 : decode cX6_letter 22 = .ok (.aload_n 0, 1) := by decide +kernel
theorem dX6_letter_23 : decode cX6_letter 23 = .ok (.iload_n 1, 1) := by decide +kernel
theorem dX6_letter_24 : decode cX6_letter 24 = .ok (.iload_n 2, 1) := by decide +kernel
theorem dX6_letter_25 : decode cX6_letter 25 = .ok (.invokevirtual 100, 3) := by decide +kernel
theorem dX6_letter_28 : decode cX6_letter 28 = .ok (.goto 8, 3) := by decide +kernel
theorem dX6_letter_31 : decode cX6_letter 31 = .ok (.aload_n 0, 1) := by decide +kernel
theorem dX6_letter_32 : decode cX6_letter 32 = .ok (.iconst 1, 1) := by decide +kernel
theorem dX6_letter_33 : decode cX6_letter 33 = .ok (.invokevirtual 56, 3) := by decide +kernel
theorem dX6_letter_36 : decode cX6_letter 36 = .ok (.ireturn, 1) := by decide +kernel
theorem dX6_sorterTold_0 : decode cX6_sorterTold 0 = .ok (.bipush 7, 2) := by decide +kernel
theorem dX6_sorterTold_2 : decode cX6_sorterTold 2 = .ok (.newarray .int, 2) := by decide +kernel
theorem dX6_sorterTold_4 : decode cX6_sorterTold 4 = .ok (.dup, 1) := by decide +kernel
theorem dX6_sorterTold_5 : decode cX6_sorterTold 5 = .ok (.iconst 0, 1) := by decide +kernel
theorem dX6_sorterTold_6 : decode cX6_sorterTold 6 = .ok (.aload_n 0, 1) := by decide +kernel
theorem dX6_sorterTold_7 : decode cX6_sorterTold 7 = .ok (.getfield 22, 3) := by decide +kernel
theorem dX6_sorterTold_10 : decode cX6_sorterTold 10 = .ok (.iload_n 1, 1) := by decide +kernel
theorem dX6_sorterTold_11 : decode cX6_sorterTold 11 = .ok (.iaload, 1) := by decide +kernel
theorem dX6_sorterTold_12 : decode cX6_sorterTold 12 = .ok (.iastore, 1) := by decide +kernel
theorem dX6_sorterTold_13 : decode cX6_sorterTold 13 = .ok (.dup, 1) := by decide +kernel
theorem dX6_sorterTold_14 : decode cX6_sorterTold 14 = .ok (.iconst 1, 1) := by decide +kernel
theorem dX6_sorterTold_15 : decode cX6_sorterTold 15 = .ok (.aload_n 0, 1) := by decide +kernel
theorem dX6_sorterTold_16 : decode cX6_sorterTold 16 = .ok (.getfield 30, 3) := by decide +kernel
theorem dX6_sorterTold_19 : decode cX6_sorterTold 19 = .ok (.getfield 79, 3) := by decide +kernel
theorem dX6_sorterTold_22 : decode cX6_sorterTold 22 = .ok (.iload_n 1, 1) := by decide +kernel
theorem dX6_sorterTold_23 : decode cX6_sorterTold 23 = .ok (.iaload, 1) := by decide +kernel
theorem dX6_sorterTold_24 : decode cX6_sorterTold 24 = .ok (.iastore, 1) := by decide +kernel
theorem dX6_sorterTold_25 : decode cX6_sorterTold 25 = .ok (.dup, 1) := by decide +kernel
theorem dX6_sorterTold_26 : decode cX6_sorterTold 26 = .ok (.iconst 2, 1) := by decide +kernel
theorem dX6_sorterTold_27 : decode cX6_sorterTold 27 = .ok (.aload_n 0, 1) := by decide +kernel
theorem dX6_sorterTold_28 : decode cX6_sorterTold 28 = .ok (.getfield 30, 3) := by decide +kernel
theorem dX6_sorterTold_31 : decode cX6_sorterTold 31 = .ok (.getfield 88, 3) := by decide +kernel
theorem dX6_sorterTold_34 : decode cX6_sorterTold 34 = .ok (.iload_n 1, 1) := by decide +kernel
theorem dX6_sorterTold_35 : decode cX6_sorterTold 35 = .ok (.iaload, 1) := by decide +kernel
theorem dX6_sorterTold_36 : decode cX6_sorterTold 36 = .ok (.iastore, 1) := by decide +kernel
theorem dX6_sorterTold_37 : decode cX6_sorterTold 37 = .ok (.dup, 1) := by decide +kernel
theorem dX6_sorterTold_38 : decode cX6_sorterTold 38 = .ok (.iconst 3, 1) := by decide +kernel
theorem dX6_sorterTold_39 : decode cX6_sorterTold 39 = .ok (.aload_n 0, 1) := by decide +kernel
theorem dX6_sorterTold_40 : decode cX6_sorterTold 40 = .ok (.getfield 30, 3) := by decide +kernel
theorem dX6_sorterTold_43 : decode cX6_sorterTold 43 = .ok (.getfield 91, 3) := by decide +kernel
theorem dX6_sorterTold_46 : decode cX6_sorterTold 46 = .ok (.iload_n 1, 1) := by decide +kernel
theorem dX6_sorterTold_47 : decode cX6_sorterTold 47 = .ok (.iaload, 1) := by decide +kernel
theorem dX6_sorterTold_48 : decode cX6_sorterTold 48 = .ok (.iastore, 1) := by decide +kernel
theorem dX6_sorterTold_49 : decode cX6_sorterTold 49 = .ok (.dup, 1) := by decide +kernel
theorem dX6_sorterTold_50 : decode cX6_sorterTold 50 = .ok (.iconst 4, 1) := by decide +kernel
theorem dX6_sorterTold_51 : decode cX6_sorterTold 51 = .ok (.aload_n 0, 1) := by decide +kernel
theorem dX6_sorterTold_52 : decode cX6_sorterTold 52 = .ok (.getfield 30, 3) := by decide +kernel
theorem dX6_sorterTold_55 : decode cX6_sorterTold 55 = .ok (.getfield 82, 3) := by decide +kernel
theorem dX6_sorterTold_58 : decode cX6_sorterTold 58 = .ok (.iload_n 1, 1) := by decide +kernel
theorem dX6_sorterTold_59 : decode cX6_sorterTold 59 = .ok (.iaload, 1) := by decide +kernel
theorem dX6_sorterTold_60 : decode cX6_sorterTold 60 = .ok (.iastore, 1) := by decide +kernel
theorem dX6_sorterTold_61 : decode cX6_sorterTold 61 = .ok (.dup, 1) := by decide +kernel
theorem dX6_sorterTold_62 : decode cX6_sorterTold 62 = .ok (.iconst 5, 1) := by decide +kernel
theorem dX6_sorterTold_63 : decode cX6_sorterTold 63 = .ok (.aload_n 0, 1) := by decide +kernel
theorem dX6_sorterTold_64 : decode cX6_sorterTold 64 = .ok (.getfield 30, 3) := by decide +kernel
theorem dX6_sorterTold_67 : decode cX6_sorterTold 67 = .ok (.getfield 104, 3) := by decide +kernel
theorem dX6_sorterTold_70 : decode cX6_sorterTold 70 = .ok (.iload_n 1, 1) := by decide +kernel
theorem dX6_sorterTold_71 : decode cX6_sorterTold 71 = .ok (.iaload, 1) := by decide +kernel
theorem dX6_sorterTold_72 : decode cX6_sorterTold 72 = .ok (.iastore, 1) := by decide +kernel
theorem dX6_sorterTold_73 : decode cX6_sorterTold 73 = .ok (.dup, 1) := by decide +kernel
theorem dX6_sorterTold_74 : decode cX6_sorterTold 74 = .ok (.bipush 6, 2) := by decide +kernel
theorem dX6_sorterTold_76 : decode cX6_sorterTold 76 = .ok (.aload_n 0, 1) := by decide +kernel
theorem dX6_sorterTold_77 : decode cX6_sorterTold 77 = .ok (.getfield 30, 3) := by decide +kernel
theorem dX6_sorterTold_80 : decode cX6_sorterTold 80 = .ok (.getfield 107, 3) := by decide +kernel
theorem dX6_sorterTold_83 : decode cX6_sorterTold 83 = .ok (.iload_n 1, 1) := by decide +kernel
theorem dX6_sorterTold_84 : decode cX6_sorterTold 84 = .ok (.iaload, 1) := by decide +kernel
theorem dX6_sorterTold_85 : decode cX6_sorterTold 85 = .ok (.iastore, 1) := by decide +kernel
theorem dX6_sorterTold_86 : decode cX6_sorterTold 86 = .ok (.astore_n 3, 1) := by decide +kernel
theorem dX6_sorterTold_87 : decode cX6_sorterTold 87 = .ok (.aload_n 3, 1) := by decide +kernel
theorem dX6_sorterTold_88 : decode cX6_sorterTold 88 = .ok (.iload_n 2, 1) := by decide +kernel
theorem dX6_sorterTold_89 : decode cX6_sorterTold 89 = .ok (.iaload, 1) := by decide +kernel
theorem dX6_sorterTold_90 : decode cX6_sorterTold 90 = .ok (.ireturn, 1) := by decide +kernel
set_option maxRecDepth 20000 in
theorem ggX6_sorter_X6_isSorter : GoodIn wsX6_sorter wsX6_isSorter := goodIn_r _ [6, 7, 8, 9, 5, 10, 22, 23, 24, 25, 26, 27, 28, 29, 30, 31] (by decide +kernel) (by decide +kernel)
set_option maxRecDepth 20000 in
theorem gX6_sorter_X6_isSorter : GoodIn wsX6_sorter (wsV RX6 85 RX6 yX6_isSorter wsX6_isSorter) := goodIn_app (goodIn_of _ (by decide +kernel)) ggX6_sorter_X6_isSorter
set_option maxRecDepth 20000 in
theorem ggX6_sorter_X6_isIn : GoodIn wsX6_sorter wsX6_isIn := goodIn_r _ [10] (by decide +kernel) (by decide +kernel)
set_option maxRecDepth 20000 in
theorem gX6_sorter_X6_isIn : GoodIn wsX6_sorter (va_wsS RX6 41 yX6_isIn wsX6_isIn) := goodIn_app (goodIn_of _ (by decide +kernel)) ggX6_sorter_X6_isIn
set_option maxRecDepth 20000 in
theorem ggX6_sorter_X6_sorterTold : GoodIn wsX6_sorter wsX6_sorterTold := goodIn_r _ [14, 15, 16, 17, 22, 23, 24, 25, 26, 27, 28, 29, 30, 31, 32, 33, 34, 35, 36, 37, 38, 39, 40, 41, 42] (by decide +kernel) (by decide +kernel)
set_option maxRecDepth 20000 in
theorem gX6_sorter_X6_sorterTold : GoodIn wsX6_sorter (wsV RX6 110 RX6 yX6_sorterTold wsX6_sorterTold) := goodIn_app (goodIn_of _ (by decide +kernel)) ggX6_sorter_X6_sorterTold
set_option maxRecDepth 20000 in
theorem ggX6_sorter_X6_no : GoodIn wsX6_sorter wsX6_no := goodIn_r _ [21, 1, 22, 23, 24, 25, 26, 27, 28, 29, 30, 31] (by decide +kernel) (by decide +kernel)
set_option maxRecDepth 20000 in
theorem gX6_sorter_X6_no : GoodIn wsX6_sorter (wsV RX6 56 RX6 yX6_no wsX6_no) := goodIn_app (goodIn_of _ (by decide +kernel)) ggX6_sorter_X6_no
theorem dX6_sorter_0 : decode cX6_sorter 0 = .ok (.aload_n 0, 1) := by decide +kernel
theorem dX6_sorter_1 : decode cX6_sorter 1 = .ok (.iconst 0, 1) := by decide +kernel
theorem dX6_sorter_2 : decode cX6_sorter 2 = .ok (.putfield 37, 3) := by decide +kernel
theorem dX6_sorter_5 : decode cX6_sorter 5 = .ok (.aload_n 0, 1) := by decide +kernel
theorem dX6_sorter_6 : decode cX6_sorter 6 = .ok (.iload_n 1, 1) := by decide +kernel
theorem dX6_sorter_7 : decode cX6_sorter 7 = .ok (.invokevirtual 85, 3) := by decide +kernel
theorem dX6_sorter_10 : decode cX6_sorter 10 = .ok (.ifCond .eq 22, 3) := by decide +kernel
theorem dX6_sorter_13 : decode cX6_sorter 13 = .ok (.iload_n 2, 1) := by decide +kernel
theorem dX6_sorter_14 : decode cX6_sorter 14 = .ok (.iconst 0, 1) := by decide +kernel
theorem dX6_sorter_15 : decode cX6_sorter 15 = .ok (.bipush 6, 2) := by decide +kernel
theorem dX6_sorter_17 : decode cX6_sorter 17 = .ok (.invokestatic 41, 3) := by decide +kernel
theorem dX6_sorter_20 : decode cX6_sorter 20 = .ok (.ifCond .eq 12, 3) := by decide +kernel
theorem dX6_sorter_23 : decode cX6_sorter 23 = .ok (.aload_n 0, 1) := by decide +kernel
theorem dX6_sorter_24 : decode cX6_sorter 24 = .ok (.iload_n 1, 1) := by decide +kernel
theorem dX6_sorter_25 : decode cX6_sorter 25 = .ok (.iload_n 2, 1) := by decide +kernel
theorem dX6_sorter_26 : decode cX6_sorter 26 = .ok (.invokevirtual 110, 3) := by decide +kernel
theorem dX6_sorter_29 : decode cX6_sorter 29 = .ok (.goto 8, 3) := by decide +kernel
theorem dX6_sorter_32 : decode cX6_sorter 32 = .ok (.aload_n 0, 1) := by decide +kernel
theorem dX6_sorter_33 : decode cX6_sorter 33 = .ok (.iconst 1, 1) := by decide +kernel
theorem dX6_sorter_34 : decode cX6_sorter 34 = .ok (.invokevirtual 56, 3) := by decide +kernel
theorem dX6_sorter_37 : decode cX6_sorter 37 = .ok (.ireturn, 1) := by decide +kernel
set_option maxRecDepth 20000 in
theorem ggX6_hole_X6_isTown : GoodIn wsX6_hole wsX6_isTown := goodIn_r _ [6, 7, 8, 5, 9] (by decide +kernel) (by decide +kernel)
set_option maxRecDepth 20000 in
theorem gX6_hole_X6_isTown : GoodIn wsX6_hole (va_wsS RX6 67 yX6_isTown wsX6_isTown) := goodIn_app (goodIn_of _ (by decide +kernel)) ggX6_hole_X6_isTown
set_option maxRecDepth 20000 in
theorem ggX6_hole_X5_inHole : GoodIn wsX6_hole wsX5_inHole := goodIn_r _ [14, 15, 16, 31, 32, 33, 34, 35, 36, 37, 38, 39, 40, 41, 21, 22, 23, 24, 25, 26, 27, 28, 29, 30] (by decide +kernel) (by decide +kernel)
set_option maxRecDepth 20000 in
theorem gX6_hole_X5_inHole : GoodIn wsX6_hole (wsV RX6 113 RX5 yX5_inHole wsX5_inHole) := goodIn_app (goodIn_of _ (by decide +kernel)) ggX6_hole_X5_inHole
set_option maxRecDepth 20000 in
theorem ggX6_hole_X6_no : GoodIn wsX6_hole wsX6_no := goodIn_r _ [20, 1, 21, 22, 23, 24, 25, 26, 27, 28, 29, 30] (by decide +kernel) (by decide +kernel)
set_option maxRecDepth 20000 in
theorem gX6_hole_X6_no : GoodIn wsX6_hole (wsV RX6 56 RX6 yX6_no wsX6_no) := goodIn_app (goodIn_of _ (by decide +kernel)) ggX6_hole_X6_no
theorem dX6_hole_0 : decode cX6_hole 0 = .ok (.aload_n 0, 1) := by decide +kernel
theorem dX6_hole_1 : decode cX6_hole 1 = .ok (.iconst 0, 1) := by decide +kernel
theorem dX6_hole_2 : decode cX6_hole 2 = .ok (.putfield 37, 3) := by decide +kernel
theorem dX6_hole_5 : decode cX6_hole 5 = .ok (.iload_n 1, 1) := by decide +kernel
theorem dX6_hole_6 : decode cX6_hole 6 = .ok (.invokestatic 67, 3) := by decide +kernel
theorem dX6_hole_9 : decode cX6_hole 9 = .ok (.ifCond .eq 14, 3) := by decide +kernel
theorem dX6_hole_12 : decode cX6_hole 12 = .ok (.aload_n 0, 1) := by decide +kernel
theorem dX6_hole_13 : decode cX6_hole 13 = .ok (.getfield 30, 3) := by decide +kernel
theorem dX6_hole_16 : decode cX6_hole 16 = .ok (.iload_n 1, 1) := by decide +kernel
theorem dX6_hole_17 : decode cX6_hole 17 = .ok (.invokevirtual 113, 3) := by decide +kernel
theorem dX6_hole_20 : decode cX6_hole 20 = .ok (.goto 8, 3) := by decide +kernel
theorem dX6_hole_23 : decode cX6_hole 23 = .ok (.aload_n 0, 1) := by decide +kernel
theorem dX6_hole_24 : decode cX6_hole 24 = .ok (.iconst 1, 1) := by decide +kernel
theorem dX6_hole_25 : decode cX6_hole 25 = .ok (.invokevirtual 56, 3) := by decide +kernel
theorem dX6_hole_28 : decode cX6_hole 28 = .ok (.ireturn, 1) := by decide +kernel
theorem dX6_stationTold_0 : decode cX6_stationTold 0 = .ok (.iconst 0, 1) := by decide +kernel
theorem dX6_stationTold_1 : decode cX6_stationTold 1 = .ok (.istore_n 3, 1) := by decide +kernel
theorem dX6_stationTold_2 : decode cX6_stationTold 2 = .ok (.iconst 0, 1) := by decide +kernel
theorem dX6_stationTold_3 : decode cX6_stationTold 3 = .ok (.istore 4, 2) := by decide +kernel
theorem dX6_stationTold_5 : decode cX6_stationTold 5 = .ok (.iload 4, 2) := by decide +kernel
theorem dX6_stationTold_7 : decode cX6_stationTold 7 = .ok (.aload_n 0, 1) := by decide +kernel
theorem dX6_stationTold_8 : decode cX6_stationTold 8 = .ok (.getfield 46, 3) := by decide +kernel
theorem dX6_stationTold_11 : decode cX6_stationTold 11 = .ok (.if_icmp .ge 41, 3) := by decide +kernel
theorem dX6_stationTold_14 : decode cX6_stationTold 14 = .ok (.iload_n 3, 1) := by decide +kernel
theorem dX6_stationTold_15 : decode cX6_stationTold 15 = .ok (.aload_n 0, 1) := by decide +kernel
theorem dX6_stationTold_16 : decode cX6_stationTold 16 = .ok (.getfield 30, 3) := by decide +kernel
theorem dX6_stationTold_19 : decode cX6_stationTold 19 = .ok (.getfield 94, 3) := by decide +kernel
theorem dX6_stationTold_22 : decode cX6_stationTold 22 = .ok (.iload 4, 2) := by decide +kernel
theorem dX6_stationTold_24 : decode cX6_stationTold 24 = .ok (.iaload, 1) := by decide +kernel
theorem dX6_stationTold_25 : decode cX6_stationTold 25 = .ok (.ifCond .ne 18, 3) := by decide +kernel
theorem dX6_stationTold_28 : decode cX6_stationTold 28 = .ok (.aload_n 0, 1) := by decide +kernel
theorem dX6_stationTold_29 : decode cX6_stationTold 29 = .ok (.getfield 19, 3) := by decide +kernel
theorem dX6_stationTold_32 : decode cX6_stationTold 32 = .ok (.iload 4, 2) := by decide +kernel
theorem dX6_stationTold_34 : decode cX6_stationTold 34 = .ok (.iaload, 1) := by decide +kernel
theorem dX6_stationTold_35 : decode cX6_stationTold 35 = .ok (.iload_n 1, 1) := by decide +kernel
theorem dX6_stationTold_36 : decode cX6_stationTold 36 = .ok (.if_icmp .ne 7, 3) := by decide +kernel
theorem dX6_stationTold_39 : decode cX6_stationTold 39 = .ok (.iconst 1, 1) := by decide +kernel
theorem dX6_stationTold_40 : decode cX6_stationTold 40 = .ok (.goto 4, 3) := by decide +kernel
theorem dX6_stationTold_43 : decode cX6_stationTold 43 = .ok (.iconst 0, 1) := by decide +kernel
theorem dX6_stationTold_44 : decode cX6_stationTold 44 = .ok (.iadd, 1) := by decide +kernel
theorem dX6_stationTold_45 : decode cX6_stationTold 45 = .ok (.istore_n 3, 1) := by decide +kernel
theorem dX6_stationTold_46 : decode cX6_stationTold 46 = .ok (.iinc 4 1, 3) := by decide +kernel
theorem dX6_stationTold_49 : decode cX6_stationTold 49 = .ok (.goto (-44), 3) := by decide +kernel
theorem dX6_stationTold_52 : decode cX6_stationTold 52 = .ok (.iload_n 2, 1) := by decide +kernel
theorem dX6_stationTold_53 : decode cX6_stationTold 53 = .ok (.ifCond .ne 12, 3) := by decide +kernel
theorem dX6_stationTold_56 : decode cX6_stationTold 56 = .ok (.aload_n 0, 1) := by decide +kernel
theorem dX6_stationTold_57 : decode cX6_stationTold 57 = .ok (.getfield 9, 3) := by decide +kernel
theorem dX6_stationTold_60 : decode cX6_stationTold 60 = .ok (.iload_n 1, 1) := by decide +kernel
theorem dX6_stationTold_61 : decode cX6_stationTold 61 = .ok (.iaload, 1) := by decide +kernel
theorem dX6_stationTold_62 : decode cX6_stationTold 62 = .ok (.goto 18, 3) := by decide +kernel
theorem dX6_stationTold_65 : decode cX6_stationTold 65 = .ok (.iload_n 2, 1) := by decide +kernel
theorem dX6_stationTold_66 : decode cX6_stationTold 66 = .ok (.iconst 1, 1) := by decide +kernel
theorem dX6_stationTold_67 : decode cX6_stationTold 67 = .ok (.if_icmp .ne 12, 3) := by decide +kernel
theorem dX6_stationTold_70 : decode cX6_stationTold 70 = .ok (.aload_n 0, 1) := by decide +kernel
theorem dX6_stationTold_71 : decode cX6_stationTold 71 = .ok (.getfield 13, 3) := by decide +kernel
theorem dX6_stationTold_74 : decode cX6_stationTold 74 = .ok (.iload_n 1, 1) := by decide +kernel
theorem dX6_stationTold_75 : decode cX6_stationTold 75 = .ok (.iaload, 1) := by decide +kernel
theorem dX6_stationTold_76 : decode cX6_stationTold 76 = .ok (.goto 4, 3) := by decide +kernel
theorem dX6_stationTold_79 : decode cX6_stationTold 79 = .ok (.iload_n 3, 1) := by decide +kernel
theorem dX6_stationTold_80 : decode cX6_stationTold 80 = .ok (.ireturn, 1) := by decide +kernel
set_option maxRecDepth 20000 in
theorem ggX6_station_X6_isStation : GoodIn wsX6_station wsX6_isStation := goodIn_r _ [5, 6, 7, 4, 8] (by decide +kernel) (by decide +kernel)
set_option maxRecDepth 20000 in
theorem gX6_station_X6_isStation : GoodIn wsX6_station (va_wsS RX6 52 yX6_isStation wsX6_isStation) := goodIn_app (goodIn_of _ (by decide +kernel)) ggX6_station_X6_isStation
set_option maxRecDepth 20000 in
theorem ggX6_station_X6_isIn : GoodIn wsX6_station wsX6_isIn := goodIn_r _ [8] (by decide +kernel) (by decide +kernel)
set_option maxRecDepth 20000 in
theorem gX6_station_X6_isIn : GoodIn wsX6_station (va_wsS RX6 41 yX6_isIn wsX6_isIn) := goodIn_app (goodIn_of _ (by decide +kernel)) ggX6_station_X6_isIn
set_option maxRecDepth 20000 in
theorem ggX6_station_X6_stationTold : GoodIn wsX6_station wsX6_stationTold := goodIn_r _ [12, 13, 14, 15, 16, 17, 22, 23, 24, 25, 26, 27, 28, 29, 30, 31, 32, 33, 34, 35, 36, 37, 38, 39, 40, 41, 42] (by decide +kernel) (by decide +kernel)
set_option maxRecDepth 20000 in
theorem gX6_station_X6_stationTold : GoodIn wsX6_station (wsV RX6 116 RX6 yX6_stationTold wsX6_stationTold) := goodIn_app (goodIn_of _ (by decide +kernel)) ggX6_station_X6_stationTold
set_option maxRecDepth 20000 in
theorem ggX6_station_X6_no : GoodIn wsX6_station wsX6_no := goodIn_r _ [21, 1, 22, 23, 24, 25, 26, 27, 28, 29, 30, 31] (by decide +kernel) (by decide +kernel)
set_option maxRecDepth 20000 in
theorem gX6_station_X6_no : GoodIn wsX6_station (wsV RX6 56 RX6 yX6_no wsX6_no) := goodIn_app (goodIn_of _ (by decide +kernel)) ggX6_station_X6_no
theorem dX6_station_0 : decode cX6_station 0 = .ok (.aload_n 0, 1) := by decide +kernel
theorem dX6_station_1 : decode cX6_station 1 = .ok (.iconst 0, 1) := by decide +kernel
theorem dX6_station_2 : decode cX6_station 2 = .ok (.putfield 37, 3) := by decide +kernel
theorem dX6_station_5 : decode cX6_station 5 = .ok (.iload_n 1, 1) := by decide +kernel
theorem dX6_station_6 : decode cX6_station 6 = .ok (.invokestatic 52, 3) := by decide +kernel
theorem dX6_station_9 : decode cX6_station 9 = .ok (.ifCond .eq 21, 3) := by decide +kernel
theorem dX6_station_12 : decode cX6_station 12 = .ok (.iload_n 2, 1) := by decide +kernel
theorem dX6_station_13 : decode cX6_station 13 = .ok (.iconst 0, 1) := by decide +kernel
theorem dX6_station_14 : decode cX6_station 14 = .ok (.iconst 2, 1) := by decide +kernel
theorem dX6_station_15 : decode cX6_station 15 = .ok (.invokestatic 41, 3) := by decide +kernel
theorem dX6_station_18 : decode cX6_station 18 = .ok (.ifCond .eq 12, 3) := by decide +kernel
theorem dX6_station_21 : decode cX6_station 21 = .ok (.aload_n 0, 1) := by decide +kernel
theorem dX6_station_22 : decode cX6_station 22 = .ok (.iload_n 1, 1) := by decide +kernel
theorem dX6_station_23 : decode cX6_station 23 = .ok (.iload_n 2, 1) := by decide +kernel
theorem dX6_station_24 : decode cX6_station 24 = .ok (.invokevirtual 116, 3) := by decide +kernel
theorem dX6_station_27 : decode cX6_station 27 = .ok (.goto 8, 3) := by decide +kernel
theorem dX6_station_30 : decode cX6_station 30 = .ok (.aload_n 0, 1) := by decide +kernel
theorem dX6_station_31 : decode cX6_station 31 = .ok (.iconst 1, 1) := by decide +kernel
theorem dX6_station_32 : decode cX6_station 32 = .ok (.invokevirtual 56, 3) := by decide +kernel
theorem dX6_station_35 : decode cX6_station 35 = .ok (.ireturn, 1) := by decide +kernel
set_option maxRecDepth 20000 in
theorem ggX6_counted_X6_isIn : GoodIn wsX6_counted wsX6_isIn := goodIn_r _ [8] (by decide +kernel) (by decide +kernel)
set_option maxRecDepth 20000 in
theorem gX6_counted_X6_isIn : GoodIn wsX6_counted (va_wsS RX6 41 yX6_isIn wsX6_isIn) := goodIn_app (goodIn_of _ (by decide +kernel)) ggX6_counted_X6_isIn
set_option maxRecDepth 20000 in
theorem ggX6_counted_X5_are : GoodIn wsX6_counted wsX5_are := goodIn_r _ [13, 14, 15, 26, 27, 28, 29, 30, 31, 32, 33, 34, 35, 36, 16, 17, 18, 19, 20, 21, 22, 23, 24, 25] (by decide +kernel) (by decide +kernel)
set_option maxRecDepth 20000 in
theorem gX6_counted_X5_are : GoodIn wsX6_counted (wsV RX6 119 RX5 yX5_are wsX5_are) := goodIn_app (goodIn_of _ (by decide +kernel)) ggX6_counted_X5_are
theorem dX6_counted_0 : decode cX6_counted 0 = .ok (.iload_n 1, 1) := by decide +kernel
theorem dX6_counted_1 : decode cX6_counted 1 = .ok (.iconst 3, 1) := by decide +kernel
theorem dX6_counted_2 : decode cX6_counted 2 = .ok (.bipush 8, 2) := by decide +kernel
theorem dX6_counted_4 : decode cX6_counted 4 = .ok (.invokestatic 41, 3) := by decide +kernel
theorem dX6_counted_7 : decode cX6_counted 7 = .ok (.ifCond .eq 14, 3) := by decide +kernel
theorem dX6_counted_10 : decode cX6_counted 10 = .ok (.aload_n 0, 1) := by decide +kernel
theorem dX6_counted_11 : decode cX6_counted 11 = .ok (.getfield 30, 3) := by decide +kernel
theorem dX6_counted_14 : decode cX6_counted 14 = .ok (.iload_n 1, 1) := by decide +kernel
theorem dX6_counted_15 : decode cX6_counted 15 = .ok (.iconst 3, 1) := by decide +kernel
theorem dX6_counted_16 : decode cX6_counted 16 = .ok (.isub, 1) := by decide +kernel
theorem dX6_counted_17 : decode cX6_counted 17 = .ok (.invokevirtual 119, 3) := by decide +kernel
theorem dX6_counted_20 : decode cX6_counted 20 = .ok (.ireturn, 1) := by decide +kernel
theorem dX6_counted_21 : decode cX6_counted 21 = .ok (.iconst 0, 1) := by decide +kernel
theorem dX6_counted_22 : decode cX6_counted 22 = .ok (.istore_n 2, 1) := by decide +kernel
theorem dX6_counted_23 : decode cX6_counted 23 = .ok (.iload_n 2, 1) := by decide +kernel
theorem dX6_counted_24 : decode cX6_counted 24 = .ok (.bipush 8, 2) := by decide +kernel
theorem dX6_counted_26 : decode cX6_counted 26 = .ok (.if_icmp .ge 25, 3) := by decide +kernel
theorem dX6_counted_29 : decode cX6_counted 29 = .ok (.aload_n 0, 1) := by decide +kernel
theorem dX6_counted_30 : decode cX6_counted 30 = .ok (.getfield 9, 3) := by decide +kernel
theorem dX6_counted_33 : decode cX6_counted 33 = .ok (.iload_n 2, 1) := by decide +kernel
theorem dX6_counted_34 : decode cX6_counted 34 = .ok (.iaload, 1) := by decide +kernel
theorem dX6_counted_35 : decode cX6_counted 35 = .ok (.aload_n 0, 1) := by decide +kernel
theorem dX6_counted_36 : decode cX6_counted 36 = .ok (.getfield 30, 3) := by decide +kernel
theorem dX6_counted_39 : decode cX6_counted 39 = .ok (.getfield 60, 3) := by decide +kernel
theorem dX6_counted_42 : decode cX6_counted 42 = .ok (.if_icmp .ge 9, 3) := by decide +kernel
theorem dX6_counted_45 : decode cX6_counted 45 = .ok (.iinc 2 1, 3) := by decide +kernel
theorem dX6_counted_48 : decode cX6_counted 48 = .ok (.goto (-25), 3) := by decide +kernel
theorem dX6_counted_51 : decode cX6_counted 51 = .ok (.iload_n 1, 1) := by decide +kernel
theorem dX6_counted_52 : decode cX6_counted 52 = .ok (.ifCond .ne 13, 3) := by decide +kernel
theorem dX6_counted_55 : decode cX6_counted 55 = .ok (.aload_n 0, 1) := by decide +kernel
theorem dX6_counted_56 : decode cX6_counted 56 = .ok (.getfield 30, 3) := by decide +kernel
theorem dX6_counted_59 : decode cX6_counted 59 = .ok (.getfield 60, 3) := by decide +kernel
theorem dX6_counted_62 : decode cX6_counted 62 = .ok (.goto 28, 3) := by decide +kernel
theorem dX6_counted_65 : decode cX6_counted 65 = .ok (.iload_n 1, 1) := by decide +kernel
theorem dX6_counted_66 : decode cX6_counted 66 = .ok (.iconst 1, 1) := by decide +kernel
theorem dX6_counted_67 : decode cX6_counted 67 = .ok (.if_icmp .ne 10, 3) := by decide +kernel
theorem dX6_counted_70 : decode cX6_counted 70 = .ok (.aload_n 0, 1) := by decide +kernel
theorem dX6_counted_71 : decode cX6_counted 71 = .ok (.getfield 46, 3) := by decide +kernel
theorem dX6_counted_74 : decode cX6_counted 74 = .ok (.goto 16, 3) := by decide +kernel
theorem dX6_counted_77 : decode cX6_counted 77 = .ok (.iload_n 1, 1) := by decide +kernel
theorem dX6_counted_78 : decode cX6_counted 78 = .ok (.iconst 2, 1) := by decide +kernel
theorem dX6_counted_79 : decode cX6_counted 79 = .ok (.if_icmp .ne 10, 3) := by decide +kernel
theorem dX6_counted_82 : decode cX6_counted 82 = .ok (.aload_n 0, 1) := by decide +kernel
theorem dX6_counted_83 : decode cX6_counted 83 = .ok (.getfield 49, 3) := by decide +kernel
theorem dX6_counted_86 : decode cX6_counted 86 = .ok (.goto 4, 3) := by decide +kernel
theorem dX6_counted_89 : decode cX6_counted 89 = .ok (.iload_n 2, 1) := by decide +kernel
theorem dX6_counted_90 : decode cX6_counted 90 = .ok (.ireturn, 1) := by decide +kernel
set_option maxRecDepth 20000 in
theorem ggX6_count_X6_isIn : GoodIn wsX6_count wsX6_isIn := goodIn_r _ [5] (by decide +kernel) (by decide +kernel)
set_option maxRecDepth 20000 in
theorem gX6_count_X6_isIn : GoodIn wsX6_count (va_wsS RX6 41 yX6_isIn wsX6_isIn) := goodIn_app (goodIn_of _ (by decide +kernel)) ggX6_count_X6_isIn
set_option maxRecDepth 20000 in
theorem ggX6_count_X6_counted : GoodIn wsX6_count wsX6_counted := goodIn_r _ [9, 10, 11, 12, 13, 2, 3, 4, 5, 14, 15, 16, 17, 18, 19, 20, 25, 26, 27, 28, 29, 30, 31, 32, 33, 34, 35, 36, 37, 38, 39, 40, 41, 42, 43, 44, 45] (by decide +kernel) (by decide +kernel)
set_option maxRecDepth 20000 in
theorem gX6_count_X6_counted : GoodIn wsX6_count (wsV RX6 122 RX6 yX6_counted wsX6_counted) := goodIn_app (goodIn_of _ (by decide +kernel)) ggX6_count_X6_counted
set_option maxRecDepth 20000 in
theorem ggX6_count_X6_no : GoodIn wsX6_count wsX6_no := goodIn_r _ [24, 1, 25, 26, 27, 28, 29, 30, 31, 32, 33, 34] (by decide +kernel) (by decide +kernel)
set_option maxRecDepth 20000 in
theorem gX6_count_X6_no : GoodIn wsX6_count (wsV RX6 56 RX6 yX6_no wsX6_no) := goodIn_app (goodIn_of _ (by decide +kernel)) ggX6_count_X6_no
theorem dX6_count_0 : decode cX6_count 0 = .ok (.aload_n 0, 1) := by decide +kernel
theorem dX6_count_1 : decode cX6_count 1 = .ok (.iconst 0, 1) := by decide +kernel
theorem dX6_count_2 : decode cX6_count 2 = .ok (.putfield 37, 3) := by decide +kernel
theorem dX6_count_5 : decode cX6_count 5 = .ok (.iload_n 1, 1) := by decide +kernel
theorem dX6_count_6 : decode cX6_count 6 = .ok (.iconst 0, 1) := by decide +kernel
theorem dX6_count_7 : decode cX6_count 7 = .ok (.bipush 9, 2) := by decide +kernel
theorem dX6_count_9 : decode cX6_count 9 = .ok (.invokestatic 41, 3) := by decide +kernel
theorem dX6_count_12 : decode cX6_count 12 = .ok (.ifCond .eq 11, 3) := by decide +kernel
theorem dX6_count_15 : decode cX6_count 15 = .ok (.aload_n 0, 1) := by decide +kernel
theorem dX6_count_16 : decode cX6_count 16 = .ok (.iload_n 1, 1) := by decide +kernel
theorem dX6_count_17 : decode cX6_count 17 = .ok (.invokevirtual 122, 3) := by decide +kernel
theorem dX6_count_20 : decode cX6_count 20 = .ok (.goto 8, 3) := by decide +kernel
theorem dX6_count_23 : decode cX6_count 23 = .ok (.aload_n 0, 1) := by decide +kernel
theorem dX6_count_24 : decode cX6_count 24 = .ok (.iconst 1, 1) := by decide +kernel
theorem dX6_count_25 : decode cX6_count 25 = .ok (.invokevirtual 56, 3) := by decide +kernel
theorem dX6_count_28 : decode cX6_count 28 = .ok (.ireturn, 1) := by decide +kernel
set_option maxRecDepth 20000 in
theorem ggX6_pass_X6_isIn : GoodIn wsX6_pass wsX6_isIn := goodIn_r _ [6] (by decide +kernel) (by decide +kernel)
set_option maxRecDepth 20000 in
theorem gX6_pass_X6_isIn : GoodIn wsX6_pass (va_wsS RX6 41 yX6_isIn wsX6_isIn) := goodIn_app (goodIn_of _ (by decide +kernel)) ggX6_pass_X6_isIn
set_option maxRecDepth 20000 in
theorem ggX6_pass_X5_pass_ : GoodIn wsX6_pass wsX5_pass_ := goodIn_r _ [11, 12, 13, 14, 10, 15, 16, 17, 18, 19, 20, 21, 22, 23, 24, 25, 26, 27, 28, 29, 30, 31, 32, 33, 34, 35, 36, 37, 38, 39, 40, 41, 42, 43, 44, 45, 46, 47, 48, 49, 50, 51, 52, 53, 54, 55, 56, 57, 58, 59, 60, 61, 62, 63, 64, 65, 66, 81, 82, 83, 84, 85, 86, 87, 88, 89, 90, 91, 71, 72, 73, 74, 75, 76, 77, 78, 79, 80] (by decide +kernel) (by decide +kernel)
set_option maxRecDepth 20000 in
theorem gX6_pass_X5_pass_ : GoodIn wsX6_pass (wsV RX6 125 RX5 yX5_pass_ wsX5_pass_) := goodIn_app (goodIn_of _ (by decide +kernel)) ggX6_pass_X5_pass_
set_option maxRecDepth 20000 in
theorem ggX6_pass_X6_no : GoodIn wsX6_pass wsX6_no := goodIn_r _ [70, 1, 71, 72, 73, 74, 75, 76, 77, 78, 79, 80] (by decide +kernel) (by decide +kernel)
set_option maxRecDepth 20000 in
theorem gX6_pass_X6_no : GoodIn wsX6_pass (wsV RX6 56 RX6 yX6_no wsX6_no) := goodIn_app (goodIn_of _ (by decide +kernel)) ggX6_pass_X6_no
theorem dX6_pass_0 : decode cX6_pass 0 = .ok (.aload_n 0, 1) := by decide +kernel
theorem dX6_pass_1 : decode cX6_pass 1 = .ok (.iconst 0, 1) := by decide +kernel
theorem dX6_pass_2 : decode cX6_pass 2 = .ok (.putfield 37, 3) := by decide +kernel
theorem dX6_pass_5 : decode cX6_pass 5 = .ok (.iload_n 1, 1) := by decide +kernel
theorem dX6_pass_6 : decode cX6_pass 6 = .ok (.iconst 1, 1) := by decide +kernel
theorem dX6_pass_7 : decode cX6_pass 7 = .ok (.sipush 300, 3) := by decide +kernel
theorem dX6_pass_10 : decode cX6_pass 10 = .ok (.invokestatic 41, 3) := by decide +kernel
theorem dX6_pass_13 : decode cX6_pass 13 = .ok (.ifCond .eq 14, 3) := by decide +kernel
theorem dX6_pass_16 : decode cX6_pass 16 = .ok (.aload_n 0, 1) := by decide +kernel
theorem dX6_pass_17 : decode cX6_pass 17 = .ok (.getfield 30, 3) := by decide +kernel
theorem dX6_pass_20 : decode cX6_pass 20 = .ok (.iload_n 1, 1) := by decide +kernel
theorem dX6_pass_21 : decode cX6_pass 21 = .ok (.invokevirtual 125, 3) := by decide +kernel
theorem dX6_pass_24 : decode cX6_pass 24 = .ok (.goto 8, 3) := by decide +kernel
theorem dX6_pass_27 : decode cX6_pass 27 = .ok (.aload_n 0, 1) := by decide +kernel
theorem dX6_pass_28 : decode cX6_pass 28 = .ok (.iconst 1, 1) := by decide +kernel
theorem dX6_pass_29 : decode cX6_pass 29 = .ok (.invokevirtual 56, 3) := by decide +kernel
theorem dX6_pass_32 : decode cX6_pass 32 = .ok (.ireturn, 1) := by decide +kernel
set_option maxRecDepth 20000 in
theorem ggX6_arrives_X6_isLetter : GoodIn wsX6_arrives wsX6_isLetter := goodIn_r _ [8, 9, 10, 11, 7, 12, 85, 86, 87, 88, 89, 90, 91, 92, 93, 94] (by decide +kernel) (by decide +kernel)
set_option maxRecDepth 20000 in
theorem gX6_arrives_X6_isLetter : GoodIn wsX6_arrives (wsV RX6 97 RX6 yX6_isLetter wsX6_isLetter) := goodIn_app (goodIn_of _ (by decide +kernel)) ggX6_arrives_X6_isLetter
set_option maxRecDepth 20000 in
theorem ggX6_arrives_X6_no : GoodIn wsX6_arrives wsX6_no := goodIn_r _ [16, 1, 85, 86, 87, 88, 89, 90, 91, 92, 93, 94] (by decide +kernel) (by decide +kernel)
set_option maxRecDepth 20000 in
theorem gX6_arrives_X6_no : GoodIn wsX6_arrives (wsV RX6 56 RX6 yX6_no wsX6_no) := goodIn_app (goodIn_of _ (by decide +kernel)) ggX6_arrives_X6_no
set_option maxRecDepth 20000 in
theorem ggX6_arrives_X5_become : GoodIn wsX6_arrives wsX5_become := goodIn_r _ [21, 22, 23, 24, 25, 26, 27, 28, 29, 30, 31, 32, 33, 34, 20, 35, 36, 37, 38, 39, 95, 96, 97, 98, 99, 100, 101, 102, 103, 104, 105] (by decide +kernel) (by decide +kernel)
set_option maxRecDepth 20000 in
theorem gX6_arrives_X5_become : GoodIn wsX6_arrives (wsV RX6 128 RX5 yX5_become wsX5_become) := goodIn_app (goodIn_of _ (by decide +kernel)) ggX6_arrives_X5_become
set_option maxRecDepth 20000 in
theorem ggX6_arrives_X5_pass : GoodIn wsX6_arrives wsX5_pass := goodIn_r _ [43, 44, 22, 45, 46, 47, 20, 48, 29, 30, 31, 27, 49, 50, 51, 52, 28, 53, 54, 55, 56, 23, 24, 57, 58, 59, 60, 26, 61, 62, 63, 64, 65, 66, 67, 68, 69, 70, 71, 72, 73, 74, 75, 76, 77, 78, 79, 80, 25, 81, 82, 83, 84, 95, 96, 97, 98, 99, 100, 101, 102, 103, 104, 105, 85, 86, 87, 88, 89, 90, 91, 92, 93, 94] (by decide +kernel) (by decide +kernel)
set_option maxRecDepth 20000 in
theorem gX6_arrives_X5_pass : GoodIn wsX6_arrives (wsV RX6 132 RX5 yX5_pass wsX5_pass) := goodIn_app (goodIn_of _ (by decide +kernel)) ggX6_arrives_X5_pass
theorem dX6_arrives_0 : decode cX6_arrives 0 = .ok (.aload_n 0, 1) := by decide +kernel
theorem dX6_arrives_1 : decode cX6_arrives 1 = .ok (.iconst 0, 1) := by decide +kernel
theorem dX6_arrives_2 : decode cX6_arrives 2 = .ok (.putfield 37, 3) := by decide +kernel
theorem dX6_arrives_5 : decode cX6_arrives 5 = .ok (.aload_n 0, 1) := by decide +kernel
theorem dX6_arrives_6 : decode cX6_arrives 6 = .ok (.iload_n 1, 1) := by decide +kernel
theorem dX6_arrives_7 : decode cX6_arrives 7 = .ok (.invokevirtual 97, 3) := by decide +kernel
theorem dX6_arrives_10 : decode cX6_arrives 10 = .ok (.ifCond .ne 9, 3) := by decide +kernel
theorem dX6_arrives_13 : decode cX6_arrives 13 = .ok (.aload_n 0, 1) := by decide +kernel
theorem dX6_arrives_14 : decode cX6_arrives 14 = .ok (.iconst 1, 1) := by decide +kernel
theorem dX6_arrives_15 : decode cX6_arrives 15 = .ok (.invokevirtual 56, 3) := by decide +kernel
theorem dX6_arrives_18 : decode cX6_arrives 18 = .ok (.ireturn, 1) := by decide +kernel
theorem dX6_arrives_19 : decode cX6_arrives 19 = .ok (.aload_n 0, 1) := by decide +kernel
theorem dX6_arrives_20 : decode cX6_arrives 20 = .ok (.getfield 34, 3) := by decide +kernel
theorem dX6_arrives_23 : decode cX6_arrives 23 = .ok (.aload_n 0, 1) := by decide +kernel
theorem dX6_arrives_24 : decode cX6_arrives 24 = .ok (.getfield 30, 3) := by decide +kernel
theorem dX6_arrives_27 : decode cX6_arrives 27 = .ok (.invokevirtual 128, 3) := by decide +kernel
theorem dX6_arrives_30 : decode cX6_arrives 30 = .ok (.iconst 0, 1) := by decide +kernel
theorem dX6_arrives_31 : decode cX6_arrives 31 = .ok (.istore_n 2, 1) := by decide +kernel
theorem dX6_arrives_32 : decode cX6_arrives 32 = .ok (.iload_n 2, 1) := by decide +kernel
theorem dX6_arrives_33 : decode cX6_arrives 33 = .ok (.sipush 300, 3) := by decide +kernel
theorem dX6_arrives_36 : decode cX6_arrives 36 = .ok (.if_icmp .gt 32, 3) := by decide +kernel
theorem dX6_arrives_39 : decode cX6_arrives 39 = .ok (.aload_n 0, 1) := by decide +kernel
theorem dX6_arrives_40 : decode cX6_arrives 40 = .ok (.getfield 34, 3) := by decide +kernel
theorem dX6_arrives_43 : decode cX6_arrives 43 = .ok (.getfield 94, 3) := by decide +kernel
theorem dX6_arrives_46 : decode cX6_arrives 46 = .ok (.iload_n 1, 1) := by decide +kernel
theorem dX6_arrives_47 : decode cX6_arrives 47 = .ok (.iaload, 1) := by decide +kernel
theorem dX6_arrives_48 : decode cX6_arrives 48 = .ok (.iconst 4, 1) := by decide +kernel
theorem dX6_arrives_49 : decode cX6_arrives 49 = .ok (.if_icmp .ne 5, 3) := by decide +kernel
theorem dX6_arrives_52 : decode cX6_arrives 52 = .ok (.iload_n 2, 1) := by decide +kernel
theorem dX6_arrives_53 : decode cX6_arrives 53 = .ok (.ireturn, 1) := by decide +kernel
theorem dX6_arrives_54 : decode cX6_arrives 54 = .ok (.aload_n 0, 1) := by decide +kernel
theorem dX6_arrives_55 : decode cX6_arrives 55 = .ok (.getfield 34, 3) := by decide +kernel
theorem dX6_arrives_58 : decode cX6_arrives 58 = .ok (.invokevirtual 132, 3) := by decide +kernel
theorem dX6_arrives_61 : decode cX6_arrives 61 = .ok (.pop, 1) := by decide +kernel
theorem dX6_arrives_62 : decode cX6_arrives 62 = .ok (.iinc 2 1, 3) := by decide +kernel
theorem dX6_arrives_65 : decode cX6_arrives 65 = .ok (.goto (-33), 3) := by decide +kernel
theorem dX6_arrives_68 : decode cX6_arrives 68 = .ok (.iconst (-1), 1) := by decide +kernel
theorem dX6_arrives_69 : decode cX6_arrives 69 = .ok (.ireturn, 1) := by decide +kernel
set_option maxRecDepth 20000 in
theorem ggX6_foresee_X6_isIn : GoodIn wsX6_foresee wsX6_isIn := goodIn_r _ [7] (by decide +kernel) (by decide +kernel)
set_option maxRecDepth 20000 in
theorem gX6_foresee_X6_isIn : GoodIn wsX6_foresee (va_wsS RX6 41 yX6_isIn wsX6_isIn) := goodIn_app (goodIn_of _ (by decide +kernel)) ggX6_foresee_X6_isIn
set_option maxRecDepth 20000 in
theorem ggX6_foresee_X6_no : GoodIn wsX6_foresee wsX6_no := goodIn_r _ [11, 1, 85, 86, 87, 88, 89, 90, 91, 92, 93, 94] (by decide +kernel) (by decide +kernel)
set_option maxRecDepth 20000 in
theorem gX6_foresee_X6_no : GoodIn wsX6_foresee (wsV RX6 56 RX6 yX6_no wsX6_no) := goodIn_app (goodIn_of _ (by decide +kernel)) ggX6_foresee_X6_no
set_option maxRecDepth 20000 in
theorem ggX6_foresee_X5_become : GoodIn wsX6_foresee wsX5_become := goodIn_r _ [16, 17, 18, 19, 20, 21, 22, 23, 24, 25, 26, 27, 28, 29, 15, 30, 31, 32, 33, 34, 95, 96, 97, 98, 99, 100, 101, 102, 103, 104, 105] (by decide +kernel) (by decide +kernel)
set_option maxRecDepth 20000 in
theorem gX6_foresee_X5_become : GoodIn wsX6_foresee (wsV RX6 128 RX5 yX5_become wsX5_become) := goodIn_app (goodIn_of _ (by decide +kernel)) ggX6_foresee_X5_become
set_option maxRecDepth 20000 in
theorem ggX6_foresee_X5_pass_ : GoodIn wsX6_foresee wsX5_pass_ := goodIn_r _ [38, 39, 40, 41, 15, 42, 43, 17, 44, 45, 46, 47, 24, 25, 26, 22, 48, 49, 50, 51, 23, 52, 53, 54, 55, 18, 19, 56, 57, 58, 59, 21, 60, 61, 62, 63, 64, 65, 66, 67, 68, 69, 70, 71, 72, 73, 74, 75, 76, 77, 78, 79, 20, 80, 81, 82, 83, 95, 96, 97, 98, 99, 100, 101, 102, 103, 104, 105, 85, 86, 87, 88, 89, 90, 91, 92, 93, 94] (by decide +kernel) (by decide +kernel)
set_option maxRecDepth 20000 in
theorem gX6_foresee_X5_pass_ : GoodIn wsX6_foresee (wsV RX6 125 RX5 yX5_pass_ wsX5_pass_) := goodIn_app (goodIn_of _ (by decide +kernel)) ggX6_foresee_X5_pass_
set_option maxRecDepth 20000 in
theorem ggX6_foresee_X5_are : GoodIn wsX6_foresee wsX5_are := goodIn_r _ [71, 43, 18, 95, 96, 97, 98, 99, 100, 101, 102, 103, 104, 105, 85, 86, 87, 88, 89, 90, 91, 92, 93, 94] (by decide +kernel) (by decide +kernel)
set_option maxRecDepth 20000 in
theorem gX6_foresee_X5_are : GoodIn wsX6_foresee (wsV RX6 119 RX5 yX5_are wsX5_are) := goodIn_app (goodIn_of _ (by decide +kernel)) ggX6_foresee_X5_are
theorem dX6_foresee_0 : decode cX6_foresee 0 = .ok (.aload_n 0, 1) := by decide +kernel
theorem dX6_foresee_1 : decode cX6_foresee 1 = .ok (.iconst 0, 1) := by decide +kernel
theorem dX6_foresee_2 : decode cX6_foresee 2 = .ok (.putfield 37, 3) := by decide +kernel
theorem dX6_foresee_5 : decode cX6_foresee 5 = .ok (.iload_n 1, 1) := by decide +kernel
theorem dX6_foresee_6 : decode cX6_foresee 6 = .ok (.iconst 1, 1) := by decide +kernel
theorem dX6_foresee_7 : decode cX6_foresee 7 = .ok (.sipush 300, 3) := by decide +kernel
theorem dX6_foresee_10 : decode cX6_foresee 10 = .ok (.invokestatic 41, 3) := by decide +kernel
theorem dX6_foresee_13 : decode cX6_foresee 13 = .ok (.ifCond .ne 9, 3) := by decide +kernel
theorem dX6_foresee_16 : decode cX6_foresee 16 = .ok (.aload_n 0, 1) := by decide +kernel
theorem dX6_foresee_17 : decode cX6_foresee 17 = .ok (.iconst 1, 1) := by decide +kernel
theorem dX6_foresee_18 : decode cX6_foresee 18 = .ok (.invokevirtual 56, 3) := by decide +kernel
theorem dX6_foresee_21 : decode cX6_foresee 21 = .ok (.ireturn, 1) := by decide +kernel
theorem dX6_foresee_22 : decode cX6_foresee 22 = .ok (.iload_n 2, 1) := by decide +kernel
theorem dX6_foresee_23 : decode cX6_foresee 23 = .ok (.iconst 3, 1) := by decide +kernel
theorem dX6_foresee_24 : decode cX6_foresee 24 = .ok (.bipush 8, 2) := by decide +kernel
theorem dX6_foresee_26 : decode cX6_foresee 26 = .ok (.invokestatic 41, 3) := by decide +kernel
theorem dX6_foresee_29 : decode cX6_foresee 29 = .ok (.ifCond .ne 9, 3) := by decide +kernel
theorem dX6_foresee_32 : decode cX6_foresee 32 = .ok (.aload_n 0, 1) := by decide +kernel
theorem dX6_foresee_33 : decode cX6_foresee 33 = .ok (.iconst 2, 1) := by decide +kernel
theorem dX6_foresee_34 : decode cX6_foresee 34 = .ok (.invokevirtual 56, 3) := by decide +kernel
theorem dX6_foresee_37 : decode cX6_foresee 37 = .ok (.ireturn, 1) := by decide +kernel
theorem dX6_foresee_38 : decode cX6_foresee 38 = .ok (.aload_n 0, 1) := by decide +kernel
theorem dX6_foresee_39 : decode cX6_foresee 39 = .ok (.getfield 34, 3) := by decide +kernel
theorem dX6_foresee_42 : decode cX6_foresee 42 = .ok (.aload_n 0, 1) := by decide +kernel
theorem dX6_foresee_43 : decode cX6_foresee 43 = .ok (.getfield 30, 3) := by decide +kernel
theorem dX6_foresee_46 : decode cX6_foresee 46 = .ok (.invokevirtual 128, 3) := by decide +kernel
theorem dX6_foresee_49 : decode cX6_foresee 49 = .ok (.aload_n 0, 1) := by decide +kernel
theorem dX6_foresee_50 : decode cX6_foresee 50 = .ok (.getfield 34, 3) := by decide +kernel
theorem dX6_foresee_53 : decode cX6_foresee 53 = .ok (.iload_n 1, 1) := by decide +kernel
theorem dX6_foresee_54 : decode cX6_foresee 54 = .ok (.invokevirtual 125, 3) := by decide +kernel
theorem dX6_foresee_57 : decode cX6_foresee 57 = .ok (.pop, 1) := by decide +kernel
theorem dX6_foresee_58 : decode cX6_foresee 58 = .ok (.aload_n 0, 1) := by decide +kernel
theorem dX6_foresee_59 : decode cX6_foresee 59 = .ok (.getfield 34, 3) := by decide +kernel
theorem dX6_foresee_62 : decode cX6_foresee 62 = .ok (.iload_n 2, 1) := by decide +kernel
theorem dX6_foresee_63 : decode cX6_foresee 63 = .ok (.iconst 3, 1) := by decide +kernel
theorem dX6_foresee_64 : decode cX6_foresee 64 = .ok (.isub, 1) := by decide +kernel
theorem dX6_foresee_65 : decode cX6_foresee 65 = .ok (.invokevirtual 119, 3) := by decide +kernel
theorem dX6_foresee_68 : decode cX6_foresee 68 = .ok (.ireturn, 1) := by decide +kernel
set_option maxRecDepth 20000 in
theorem ggX6_advise_X6_isSorter : GoodIn wsX6_advise wsX6_isSorter := goodIn_r _ [8, 9, 10, 11, 7, 12, 89, 90, 91, 92, 93, 94, 95, 96, 97, 98] (by decide +kernel) (by decide +kernel)
set_option maxRecDepth 20000 in
theorem gX6_advise_X6_isSorter : GoodIn wsX6_advise (wsV RX6 85 RX6 yX6_isSorter wsX6_isSorter) := goodIn_app (goodIn_of _ (by decide +kernel)) ggX6_advise_X6_isSorter
set_option maxRecDepth 20000 in
theorem ggX6_advise_X6_no : GoodIn wsX6_advise wsX6_no := goodIn_r _ [16, 1, 89, 90, 91, 92, 93, 94, 95, 96, 97, 98] (by decide +kernel) (by decide +kernel)
set_option maxRecDepth 20000 in
theorem gX6_advise_X6_no : GoodIn wsX6_advise (wsV RX6 56 RX6 yX6_no wsX6_no) := goodIn_app (goodIn_of _ (by decide +kernel)) ggX6_advise_X6_no
set_option maxRecDepth 20000 in
theorem ggX6_advise_X6_isIn : GoodIn wsX6_advise wsX6_isIn := goodIn_r _ [12] (by decide +kernel) (by decide +kernel)
set_option maxRecDepth 20000 in
theorem gX6_advise_X6_isIn : GoodIn wsX6_advise (va_wsS RX6 41 yX6_isIn wsX6_isIn) := goodIn_app (goodIn_of _ (by decide +kernel)) ggX6_advise_X6_isIn
set_option maxRecDepth 20000 in
theorem ggX6_advise_X5_become : GoodIn wsX6_advise wsX5_become := goodIn_r _ [21, 22, 23, 24, 25, 26, 27, 28, 29, 30, 31, 32, 33, 34, 20, 35, 36, 37, 38, 39, 99, 100, 101, 102, 103, 104, 105, 106, 107, 108, 109] (by decide +kernel) (by decide +kernel)
set_option maxRecDepth 20000 in
theorem gX6_advise_X5_become : GoodIn wsX6_advise (wsV RX6 128 RX5 yX5_become wsX5_become) := goodIn_app (goodIn_of _ (by decide +kernel)) ggX6_advise_X5_become
set_option maxRecDepth 20000 in
theorem ggX6_advise_X5_pass_ : GoodIn wsX6_advise wsX5_pass_ := goodIn_r _ [43, 44, 45, 46, 20, 47, 48, 22, 49, 50, 51, 52, 29, 30, 31, 27, 53, 54, 55, 56, 28, 57, 58, 59, 60, 23, 24, 61, 62, 63, 64, 26, 65, 66, 67, 68, 69, 70, 71, 72, 73, 74, 75, 76, 77, 78, 79, 80, 81, 82, 83, 84, 25, 85, 86, 87, 88, 99, 100, 101, 102, 103, 104, 105, 106, 107, 108, 109, 89, 90, 91, 92, 93, 94, 95, 96, 97, 98] (by decide +kernel) (by decide +kernel)
set_option maxRecDepth 20000 in
theorem gX6_advise_X5_pass_ : GoodIn wsX6_advise (wsV RX6 125 RX5 yX5_pass_ wsX5_pass_) := goodIn_app (goodIn_of _ (by decide +kernel)) ggX6_advise_X5_pass_
theorem dX6_advise_0 : decode cX6_advise 0 = .ok (.aload_n 0, 1) := by decide +kernel
theorem dX6_advise_1 : decode cX6_advise 1 = .ok (.iconst 0, 1) := by decide +kernel
theorem dX6_advise_2 : decode cX6_advise 2 = .ok (.putfield 37, 3) := by decide +kernel
theorem dX6_advise_5 : decode cX6_advise 5 = .ok (.aload_n 0, 1) := by decide +kernel
theorem dX6_advise_6 : decode cX6_advise 6 = .ok (.iload_n 1, 1) := by decide +kernel
theorem dX6_advise_7 : decode cX6_advise 7 = .ok (.invokevirtual 85, 3) := by decide +kernel
theorem dX6_advise_10 : decode cX6_advise 10 = .ok (.ifCond .ne 9, 3) := by decide +kernel
theorem dX6_advise_13 : decode cX6_advise 13 = .ok (.aload_n 0, 1) := by decide +kernel
theorem dX6_advise_14 : decode cX6_advise 14 = .ok (.iconst 1, 1) := by decide +kernel
theorem dX6_advise_15 : decode cX6_advise 15 = .ok (.invokevirtual 56, 3) := by decide +kernel
theorem dX6_advise_18 : decode cX6_advise 18 = .ok (.ireturn, 1) := by decide +kernel
theorem dX6_advise_19 : decode cX6_advise 19 = .ok (.iload_n 2, 1) := by decide +kernel
theorem dX6_advise_20 : decode cX6_advise 20 = .ok (.iconst 1, 1) := by decide +kernel
theorem dX6_advise_21 : decode cX6_advise 21 = .ok (.bipush 120, 2) := by decide +kernel
theorem dX6_advise_23 : decode cX6_advise 23 = .ok (.invokestatic 41, 3) := by decide +kernel
theorem dX6_advise_26 : decode cX6_advise 26 = .ok (.ifCond .ne 9, 3) := by decide +kernel
theorem dX6_advise_29 : decode cX6_advise 29 = .ok (.aload_n 0, 1) := by decide +kernel
theorem dX6_advise_30 : decode cX6_advise 30 = .ok (.iconst 2, 1) := by decide +kernel
theorem dX6_advise_31 : decode cX6_advise 31 = .ok (.invokevirtual 56, 3) := by decide +kernel
theorem dX6_advise_34 : decode cX6_advise 34 = .ok (.ireturn, 1) := by decide +kernel
theorem dX6_advise_35 : decode cX6_advise 35 = .ok (.aload_n 0, 1) := by decide +kernel
theorem dX6_advise_36 : decode cX6_advise 36 = .ok (.getfield 34, 3) := by decide +kernel
theorem dX6_advise_39 : decode cX6_advise 39 = .ok (.aload_n 0, 1) := by decide +kernel
theorem dX6_advise_40 : decode cX6_advise 40 = .ok (.getfield 30, 3) := by decide +kernel
theorem dX6_advise_43 : decode cX6_advise 43 = .ok (.invokevirtual 128, 3) := by decide +kernel
theorem dX6_advise_46 : decode cX6_advise 46 = .ok (.aload_n 0, 1) := by decide +kernel
theorem dX6_advise_47 : decode cX6_advise 47 = .ok (.getfield 34, 3) := by decide +kernel
theorem dX6_advise_50 : decode cX6_advise 50 = .ok (.iload_n 2, 1) := by decide +kernel
theorem dX6_advise_51 : decode cX6_advise 51 = .ok (.invokevirtual 125, 3) := by decide +kernel
theorem dX6_advise_54 : decode cX6_advise 54 = .ok (.istore_n 3, 1) := by decide +kernel
theorem dX6_advise_55 : decode cX6_advise 55 = .ok (.iconst (-1), 1) := by decide +kernel
theorem dX6_advise_56 : decode cX6_advise 56 = .ok (.istore 4, 2) := by decide +kernel
theorem dX6_advise_58 : decode cX6_advise 58 = .ok (.iconst 0, 1) := by decide +kernel
theorem dX6_advise_59 : decode cX6_advise 59 = .ok (.istore 5, 2) := by decide +kernel
theorem dX6_advise_61 : decode cX6_advise 61 = .ok (.iload 5, 2) := by decide +kernel
theorem dX6_advise_63 : decode cX6_advise 63 = .ok (.bipush 16, 2) := by decide +kernel
theorem dX6_advise_65 : decode cX6_advise 65 = .ok (.if_icmp .ge 62, 3) := by decide +kernel
theorem dX6_advise_68 : decode cX6_advise 68 = .ok (.aload_n 0, 1) := by decide +kernel
theorem dX6_advise_69 : decode cX6_advise 69 = .ok (.getfield 34, 3) := by decide +kernel
theorem dX6_advise_72 : decode cX6_advise 72 = .ok (.aload_n 0, 1) := by decide +kernel
theorem dX6_advise_73 : decode cX6_advise 73 = .ok (.getfield 30, 3) := by decide +kernel
theorem dX6_advise_76 : decode cX6_advise 76 = .ok (.invokevirtual 128, 3) := by decide +kernel
theorem dX6_advise_79 : decode cX6_advise 79 = .ok (.aload_n 0, 1) := by decide +kernel
theorem dX6_advise_80 : decode cX6_advise 80 = .ok (.getfield 34, 3) := by decide +kernel
theorem dX6_advise_83 : decode cX6_advise 83 = .ok (.getfield 79, 3) := by decide +kernel
theorem dX6_advise_86 : decode cX6_advise 86 = .ok (.iload_n 1, 1) := by decide +kernel
theorem dX6_advise_87 : decode cX6_advise 87 = .ok (.dup2, 1) := by decide +kernel
theorem dX6_advise_88 : decode cX6_advise 88 = .ok (.iaload, 1) := by decide +kernel
theorem dX6_advise_89 : decode cX6_advise 89 = .ok (.iconst 1, 1) := by decide +kernel
theorem dX6_advise_90 : decode cX6_advise 90 = .ok (.iload 5, 2) := by decide +kernel
theorem dX6_advise_92 : decode cX6_advise 92 = .ok (.ishl, 1) := by decide +kernel
theorem dX6_advise_93 : decode cX6_advise 93 = .ok (.ior, 1) := by decide +kernel
theorem dX6_advise_94 : decode cX6_advise 94 = .ok (.iastore, 1) := by decide +kernel
theorem dX6_advise_95 : decode cX6_advise 95 = .ok (.aload_n 0, 1) := by decide +kernel
theorem dX6_advise_96 : decode cX6_advise 96 = .ok (.getfield 34, 3) := by decide +kernel
theorem dX6_advise_99 : decode cX6_advise 99 = .ok (.iload_n 2, 1) := by decide +kernel
theorem dX6_advise_100 : decode cX6_advise 100 = .ok (.invokevirtual 125, 3) := by decide +kernel
theorem dX6_advise_103 : decode cX6_advise 103 = .ok (.istore 6, 2) := by decide +kernel
theorem dX6_advise_105 : decode cX6_advise 105 = .ok (.iload 6, 2) := by decide +kernel
theorem dX6_advise_107 : decode cX6_advise 107 = .ok (.iload_n 3, 1) := by decide +kernel
theorem dX6_advise_108 : decode cX6_advise 108 = .ok (.if_icmp .gt 6, 3) := by decide +kernel
theorem dX6_advise_111 : decode cX6_advise 111 = .ok (.goto 10, 3) := by decide +kernel
theorem dX6_advise_114 : decode cX6_advise 114 = .ok (.iload 6, 2) := by decide +kernel
theorem dX6_advise_116 : decode cX6_advise 116 = .ok (.istore_n 3, 1) := by decide +kernel
theorem dX6_advise_117 : decode cX6_advise 117 = .ok (.iload 5, 2) := by decide +kernel
theorem dX6_advise_119 : decode cX6_advise 119 = .ok (.istore 4, 2) := by decide +kernel
theorem dX6_advise_121 : decode cX6_advise 121 = .ok (.iinc 5 1, 3) := by decide +kernel
theorem dX6_advise_124 : decode cX6_advise 124 = .ok (.goto (-63), 3) := by decide +kernel
theorem dX6_advise_127 : decode cX6_advise 127 = .ok (.iload 4, 2) := by decide +kernel
theorem dX6_advise_129 : decode cX6_advise 129 = .ok (.ireturn, 1) := by decide +kernel
set_option maxRecDepth 20000 in
theorem ggX6_share_X5_are : GoodIn wsX6_share wsX5_are := goodIn_r _ [7, 8, 9, 20, 21, 22, 23, 24, 25, 26, 27, 28, 29, 30, 10, 11, 12, 13, 14, 15, 16, 17, 18, 19] (by decide +kernel) (by decide +kernel)
set_option maxRecDepth 20000 in
theorem gX6_share_X5_are : GoodIn wsX6_share (wsV RX6 119 RX5 yX5_are wsX5_are) := goodIn_app (goodIn_of _ (by decide +kernel)) ggX6_share_X5_are
theorem dX6_share_0 : decode cX6_share 0 = .ok (.aload_n 0, 1) := by decide +kernel
theorem dX6_share_1 : decode cX6_share 1 = .ok (.iconst 0, 1) := by decide +kernel
theorem dX6_share_2 : decode cX6_share 2 = .ok (.putfield 37, 3) := by decide +kernel
theorem dX6_share_5 : decode cX6_share 5 = .ok (.aload_n 0, 1) := by decide +kernel
theorem dX6_share_6 : decode cX6_share 6 = .ok (.getfield 30, 3) := by decide +kernel
theorem dX6_share_9 : decode cX6_share 9 = .ok (.iconst 4, 1) := by decide +kernel
theorem dX6_share_10 : decode cX6_share 10 = .ok (.invokevirtual 119, 3) := by decide +kernel
theorem dX6_share_13 : decode cX6_share 13 = .ok (.aload_n 0, 1) := by decide +kernel
theorem dX6_share_14 : decode cX6_share 14 = .ok (.getfield 30, 3) := by decide +kernel
theorem dX6_share_17 : decode cX6_share 17 = .ok (.iconst 5, 1) := by decide +kernel
theorem dX6_share_18 : decode cX6_share 18 = .ok (.invokevirtual 119, 3) := by decide +kernel
theorem dX6_share_21 : decode cX6_share 21 = .ok (.iadd, 1) := by decide +kernel
theorem dX6_share_22 : decode cX6_share 22 = .ok (.istore_n 1, 1) := by decide +kernel
theorem dX6_share_23 : decode cX6_share 23 = .ok (.iload_n 1, 1) := by decide +kernel
theorem dX6_share_24 : decode cX6_share 24 = .ok (.ifCond .ne 7, 3) := by decide +kernel
theorem dX6_share_27 : decode cX6_share 27 = .ok (.dconst 0, 1) := by decide +kernel
theorem dX6_share_28 : decode cX6_share 28 = .ok (.goto 15, 3) := by decide +kernel
theorem dX6_share_31 : decode cX6_share 31 = .ok (.aload_n 0, 1) := by decide +kernel
theorem dX6_share_32 : decode cX6_share 32 = .ok (.getfield 30, 3) := by decide +kernel
theorem dX6_share_35 : decode cX6_share 35 = .ok (.iconst 4, 1) := by decide +kernel
theorem dX6_share_36 : decode cX6_share 36 = .ok (.invokevirtual 119, 3) := by decide +kernel
theorem dX6_share_39 : decode cX6_share 39 = .ok (.i2d, 1) := by decide +kernel
theorem dX6_share_40 : decode cX6_share 40 = .ok (.iload_n 1, 1) := by decide +kernel
theorem dX6_share_41 : decode cX6_share 41 = .ok (.i2d, 1) := by decide +kernel
theorem dX6_share_42 : decode cX6_share 42 = .ok (.ddiv, 1) := by decide +kernel
theorem dX6_share_43 : decode cX6_share 43 = .ok (.dreturn, 1) := by decide +kernel
set_option maxRecDepth 20000 in
theorem ggX6_digest_X6_counted : GoodIn wsX6_digest wsX6_counted := goodIn_r _ [11, 4, 12, 6, 5, 13, 14, 10, 15, 16, 17, 18, 19, 20, 21, 22, 44, 45, 46, 47, 48, 49, 50, 51, 52, 53, 54, 55, 56, 57, 58, 59, 60, 61, 62, 63, 64] (by decide +kernel) (by decide +kernel)
set_option maxRecDepth 20000 in
theorem gX6_digest_X6_counted : GoodIn wsX6_digest (wsV RX6 122 RX6 yX6_counted wsX6_counted) := goodIn_app (goodIn_of _ (by decide +kernel)) ggX6_digest_X6_counted
set_option maxRecDepth 20000 in
theorem ggX6_digest_X6_stationTold : GoodIn wsX6_digest wsX6_stationTold := goodIn_r _ [26, 6, 4, 27, 12, 28, 44, 45, 46, 47, 48, 49, 50, 51, 52, 53, 54, 55, 56, 57, 58, 59, 60, 61, 62, 63, 64] (by decide +kernel) (by decide +kernel)
set_option maxRecDepth 20000 in
theorem gX6_digest_X6_stationTold : GoodIn wsX6_digest (wsV RX6 116 RX6 yX6_stationTold wsX6_stationTold) := goodIn_app (goodIn_of _ (by decide +kernel)) ggX6_digest_X6_stationTold
set_option maxRecDepth 20000 in
theorem ggX6_digest_X5_inHole : GoodIn wsX6_digest wsX5_inHole := goodIn_r _ [32, 21, 22, 54, 55, 56, 57, 58, 59, 60, 61, 62, 63, 64, 44, 45, 46, 47, 48, 49, 50, 51, 52, 53] (by decide +kernel) (by decide +kernel)
set_option maxRecDepth 20000 in
theorem gX6_digest_X5_inHole : GoodIn wsX6_digest (wsV RX6 113 RX5 yX5_inHole wsX5_inHole) := goodIn_app (goodIn_of _ (by decide +kernel)) ggX6_digest_X5_inHole
set_option maxRecDepth 20000 in
theorem ggX6_digest_X6_sorterTold : GoodIn wsX6_digest wsX6_sorterTold := goodIn_r _ [36, 37, 38, 4, 44, 45, 46, 47, 48, 49, 50, 51, 52, 53, 54, 55, 56, 57, 58, 59, 60, 61, 62, 63, 64] (by decide +kernel) (by decide +kernel)
set_option maxRecDepth 20000 in
theorem gX6_digest_X6_sorterTold : GoodIn wsX6_digest (wsV RX6 110 RX6 yX6_sorterTold wsX6_sorterTold) := goodIn_app (goodIn_of _ (by decide +kernel)) ggX6_digest_X6_sorterTold
set_option maxRecDepth 20000 in
theorem ggX6_digest_X6_letterTold : GoodIn wsX6_digest wsX6_letterTold := goodIn_r _ [42, 37, 4, 43, 27, 44, 45, 46, 47, 48, 49, 50, 51, 52, 53, 54, 55, 56, 57, 58, 59, 60, 61, 62, 63, 64] (by decide +kernel) (by decide +kernel)
set_option maxRecDepth 20000 in
theorem gX6_digest_X6_letterTold : GoodIn wsX6_digest (wsV RX6 100 RX6 yX6_letterTold wsX6_letterTold) := goodIn_app (goodIn_of _ (by decide +kernel)) ggX6_digest_X6_letterTold
theorem dX6_digest_0 : decode cX6_digest 0 = .ok (.aload_n 0, 1) := by decide +kernel
theorem dX6_digest_1 : decode cX6_digest 1 = .ok (.iconst 0, 1) := by decide +kernel
theorem dX6_digest_2 : decode cX6_digest 2 = .ok (.putfield 37, 3) := by decide +kernel
theorem dX6_digest_5 : decode cX6_digest 5 = .ok (.ldc2_w 135, 3) := by decide +kernel
theorem dX6_digest_8 : decode cX6_digest 8 = .ok (.lstore_n 1, 1) := by decide +kernel
theorem dX6_digest_9 : decode cX6_digest 9 = .ok (.iconst 0, 1) := by decide +kernel
theorem dX6_digest_10 : decode cX6_digest 10 = .ok (.istore_n 3, 1) := by decide +kernel
theorem dX6_digest_11 : decode cX6_digest 11 = .ok (.iload_n 3, 1) := by decide +kernel
theorem dX6_digest_12 : decode cX6_digest 12 = .ok (.bipush 10, 2) := by decide +kernel
theorem dX6_digest_14 : decode cX6_digest 14 = .ok (.if_icmp .ge 22, 3) := by decide +kernel
theorem dX6_digest_17 : decode cX6_digest 17 = .ok (.lload_n 1, 1) := by decide +kernel
theorem dX6_digest_18 : decode cX6_digest 18 = .ok (.ldc2_w 137, 3) := by decide +kernel
theorem dX6_digest_21 : decode cX6_digest 21 = .ok (.lmul, 1) := by decide +kernel
theorem dX6_digest_22 : decode cX6_digest 22 = .ok (.aload_n 0, 1) := by decide +kernel
theorem dX6_digest_23 : decode cX6_digest 23 = .ok (.iload_n 3, 1) := by decide +kernel
theorem dX6_digest_24 : decode cX6_digest 24 = .ok (.invokevirtual 122, 3) := by decide +kernel
theorem dX6_digest_27 : decode cX6_digest 27 = .ok (.i2l, 1) := by decide +kernel
theorem dX6_digest_28 : decode cX6_digest 28 = .ok (.ladd, 1) := by decide +kernel
theorem dX6_digest_29 : decode cX6_digest 29 = .ok (.lstore_n 1, 1) := by decide +kernel
theorem dX6_digest_30 : decode cX6_digest 30 = .ok (.iinc 3 1, 3) := by decide +kernel
theorem dX6_digest_33 : decode cX6_digest 33 = .ok (.goto (-22), 3) := by decide +kernel
theorem dX6_digest_36 : decode cX6_digest 36 = .ok (.iconst 0, 1) := by decide +kernel
theorem dX6_digest_37 : decode cX6_digest 37 = .ok (.istore_n 3, 1) := by decide +kernel
theorem dX6_digest_38 : decode cX6_digest 38 = .ok (.iload_n 3, 1) := by decide +kernel
theorem dX6_digest_39 : decode cX6_digest 39 = .ok (.bipush 8, 2) := by decide +kernel
theorem dX6_digest_41 : decode cX6_digest 41 = .ok (.if_icmp .ge 39, 3) := by decide +kernel
theorem dX6_digest_44 : decode cX6_digest 44 = .ok (.iconst 0, 1) := by decide +kernel
theorem dX6_digest_45 : decode cX6_digest 45 = .ok (.istore 4, 2) := by decide +kernel
theorem dX6_digest_47 : decode cX6_digest 47 = .ok (.iload 4, 2) := by decide +kernel
theorem dX6_digest_49 : decode cX6_digest 49 = .ok (.iconst 3, 1) := by decide +kernel
theorem dX6_digest_50 : decode cX6_digest 50 = .ok (.if_icmp .ge 24, 3) := by decide +kernel
theorem dX6_digest_53 : decode cX6_digest 53 = .ok (.lload_n 1, 1) := by decide +kernel
theorem dX6_digest_54 : decode cX6_digest 54 = .ok (.ldc2_w 137, 3) := by decide +kernel
theorem dX6_digest_57 : decode cX6_digest 57 = .ok (.lmul, 1) := by decide +kernel
theorem dX6_digest_58 : decode cX6_digest 58 = .ok (.aload_n 0, 1) := by decide +kernel
theorem dX6_digest_59 : decode cX6_digest 59 = .ok (.iload_n 3, 1) := by decide +kernel
theorem dX6_digest_60 : decode cX6_digest 60 = .ok (.iload 4, 2) := by decide +kernel
theorem dX6_digest_62 : decode cX6_digest 62 = .ok (.invokevirtual 116, 3) := by decide +kernel
theorem dX6_digest_65 : decode cX6_digest 65 = .ok (.i2l, 1) := by decide +kernel
theorem dX6_digest_66 : decode cX6_digest 66 = .ok (.ladd, 1) := by decide +kernel
theorem dX6_digest_67 : decode cX6_digest 67 = .ok (.lstore_n 1, 1) := by decide +kernel
theorem dX6_digest_68 : decode cX6_digest 68 = .ok (.iinc 4 1, 3) := by decide +kernel
theorem dX6_digest_71 : decode cX6_digest 71 = .ok (.goto (-24), 3) := by decide +kernel
theorem dX6_digest_74 : decode cX6_digest 74 = .ok (.iinc 3 1, 3) := by decide +kernel
theorem dX6_digest_77 : decode cX6_digest 77 = .ok (.goto (-39), 3) := by decide +kernel
theorem dX6_digest_80 : decode cX6_digest 80 = .ok (.iconst 0, 1) := by decide +kernel
theorem dX6_digest_81 : decode cX6_digest 81 = .ok (.istore_n 3, 1) := by decide +kernel
theorem dX6_digest_82 : decode cX6_digest 82 = .ok (.iload_n 3, 1) := by decide +kernel
theorem dX6_digest_83 : decode cX6_digest 83 = .ok (.bipush 16, 2) := by decide +kernel
theorem dX6_digest_85 : decode cX6_digest 85 = .ok (.if_icmp .ge 25, 3) := by decide +kernel
theorem dX6_digest_88 : decode cX6_digest 88 = .ok (.lload_n 1, 1) := by decide +kernel
theorem dX6_digest_89 : decode cX6_digest 89 = .ok (.ldc2_w 137, 3) := by decide +kernel
theorem dX6_digest_92 : decode cX6_digest 92 = .ok (.lmul, 1) := by decide +kernel
theorem dX6_digest_93 : decode cX6_digest 93 = .ok (.aload_n 0, 1) := by decide +kernel
theorem dX6_digest_94 : decode cX6_digest 94 = .ok (.getfield 30, 3) := by decide +kernel
theorem dX6_digest_97 : decode cX6_digest 97 = .ok (.iload_n 3, 1) := by decide +kernel
theorem dX6_digest_98 : decode cX6_digest 98 = .ok (.invokevirtual 113, 3) := by decide +kernel
theorem dX6_digest_101 : decode cX6_digest 101 = .ok (.i2l, 1) := by decide +kernel
theorem dX6_digest_102 : decode cX6_digest 102 = .ok (.ladd, 1) := by decide +kernel
theorem dX6_digest_103 : decode cX6_digest 103 = .ok (.lstore_n 1, 1) := by decide +kernel
theorem dX6_digest_104 : decode cX6_digest 104 = .ok (.iinc 3 1, 3) := by decide +kernel
theorem dX6_digest_107 : decode cX6_digest 107 = .ok (.goto (-25), 3) := by decide +kernel
theorem dX6_digest_110 : decode cX6_digest 110 = .ok (.iconst 0, 1) := by decide +kernel
theorem dX6_digest_111 : decode cX6_digest 111 = .ok (.istore_n 3, 1) := by decide +kernel
theorem dX6_digest_112 : decode cX6_digest 112 = .ok (.iload_n 3, 1) := by decide +kernel
theorem dX6_digest_113 : decode cX6_digest 113 = .ok (.aload_n 0, 1) := by decide +kernel
theorem dX6_digest_114 : decode cX6_digest 114 = .ok (.getfield 49, 3) := by decide +kernel
theorem dX6_digest_117 : decode cX6_digest 117 = .ok (.if_icmp .ge 40, 3) := by decide +kernel
theorem dX6_digest_120 : decode cX6_digest 120 = .ok (.iconst 0, 1) := by decide +kernel
theorem dX6_digest_121 : decode cX6_digest 121 = .ok (.istore 4, 2) := by decide +kernel
theorem dX6_digest_123 : decode cX6_digest 123 = .ok (.iload 4, 2) := by decide +kernel
theorem dX6_digest_125 : decode cX6_digest 125 = .ok (.bipush 7, 2) := by decide +kernel
theorem dX6_digest_127 : decode cX6_digest 127 = .ok (.if_icmp .ge 24, 3) := by decide +kernel
theorem dX6_digest_130 : decode cX6_digest 130 = .ok (.lload_n 1, 1) := by decide +kernel
theorem dX6_digest_131 : decode cX6_digest 131 = .ok (.ldc2_w 137, 3) := by decide +kernel
theorem dX6_digest_134 : decode cX6_digest 134 = .ok (.lmul, 1) := by decide +kernel
theorem dX6_digest_135 : decode cX6_digest 135 = .ok (.aload_n 0, 1) := by decide +kernel
theorem dX6_digest_136 : decode cX6_digest 136 = .ok (.iload_n 3, 1) := by decide +kernel
theorem dX6_digest_137 : decode cX6_digest 137 = .ok (.iload 4, 2) := by decide +kernel
theorem dX6_digest_139 : decode cX6_digest 139 = .ok (.invokevirtual 110, 3) := by decide +kernel
theorem dX6_digest_142 : decode cX6_digest 142 = .ok (.i2l, 1) := by decide +kernel
theorem dX6_digest_143 : decode cX6_digest 143 = .ok (.ladd, 1) := by decide +kernel
theorem dX6_digest_144 : decode cX6_digest 144 = .ok (.lstore_n 1, 1) := by decide +kernel
theorem dX6_digest_145 : decode cX6_digest 145 = .ok (.iinc 4 1, 3) := by decide +kernel
theorem dX6_digest_148 : decode cX6_digest 148 = .ok (.goto (-25), 3) := by decide +kernel
theorem dX6_digest_151 : decode cX6_digest 151 = .ok (.iinc 3 1, 3) := by decide +kernel
theorem dX6_digest_154 : decode cX6_digest 154 = .ok (.goto (-42), 3) := by decide +kernel
theorem dX6_digest_157 : decode cX6_digest 157 = .ok (.iconst 0, 1) := by decide +kernel
theorem dX6_digest_158 : decode cX6_digest 158 = .ok (.istore_n 3, 1) := by decide +kernel
theorem dX6_digest_159 : decode cX6_digest 159 = .ok (.iload_n 3, 1) := by decide +kernel
theorem dX6_digest_160 : decode cX6_digest 160 = .ok (.aload_n 0, 1) := by decide +kernel
theorem dX6_digest_161 : decode cX6_digest 161 = .ok (.getfield 46, 3) := by decide +kernel
theorem dX6_digest_164 : decode cX6_digest 164 = .ok (.if_icmp .ge 39, 3) := by decide +kernel
theorem dX6_digest_167 : decode cX6_digest 167 = .ok (.iconst 0, 1) := by decide +kernel
theorem dX6_digest_168 : decode cX6_digest 168 = .ok (.istore 4, 2) := by decide +kernel
theorem dX6_digest_170 : decode cX6_digest 170 = .ok (.iload 4, 2) := by decide +kernel
theorem dX6_digest_172 : decode cX6_digest 172 = .ok (.iconst 5, 1) := by decide +kernel
theorem dX6_digest_173 : decode cX6_digest 173 = .ok (.if_icmp .ge 24, 3) := by decide +kernel
theorem dX6_digest_176 : decode cX6_digest 176 = .ok (.lload_n 1, 1) := by decide +kernel
theorem dX6_digest_177 : decode cX6_digest 177 = .ok (.ldc2_w 137, 3) := by decide +kernel
theorem dX6_digest_180 : decode cX6_digest 180 = .ok (.lmul, 1) := by decide +kernel
theorem dX6_digest_181 : decode cX6_digest 181 = .ok (.aload_n 0, 1) := by decide +kernel
theorem dX6_digest_182 : decode cX6_digest 182 = .ok (.iload_n 3, 1) := by decide +kernel
theorem dX6_digest_183 : decode cX6_digest 183 = .ok (.iload 4, 2) := by decide +kernel
theorem dX6_digest_185 : decode cX6_digest 185 = .ok (.invokevirtual 100, 3) := by decide +kernel
theorem dX6_digest_188 : decode cX6_digest 188 = .ok (.i2l, 1) := by decide +kernel
theorem dX6_digest_189 : decode cX6_digest 189 = .ok (.ladd, 1) := by decide +kernel
theorem dX6_digest_190 : decode cX6_digest 190 = .ok (.lstore_n 1, 1) := by decide +kernel
theorem dX6_digest_191 : decode cX6_digest 191 = .ok (.iinc 4 1, 3) := by decide +kernel
theorem dX6_digest_194 : decode cX6_digest 194 = .ok (.goto (-24), 3) := by decide +kernel
theorem dX6_digest_197 : decode cX6_digest 197 = .ok (.iinc 3 1, 3) := by decide +kernel
theorem dX6_digest_200 : decode cX6_digest 200 = .ok (.goto (-41), 3) := by decide +kernel
theorem dX6_digest_203 : decode cX6_digest 203 = .ok (.lload_n 1, 1) := by decide +kernel
theorem dX6_digest_204 : decode cX6_digest 204 = .ok (.lreturn, 1) := by decide +kernel
theorem dJ9_max_7cf53_0 : decode cJ9_max_7cf53 0 = .ok (.iload_n 0, 1) := by decide +kernel
theorem dJ9_max_7cf53_1 : decode cJ9_max_7cf53 1 = .ok (.iload_n 1, 1) := by decide +kernel
theorem dJ9_max_7cf53_2 : decode cJ9_max_7cf53 2 = .ok (.if_icmp .lt 7, 3) := by decide +kernel
theorem dJ9_max_7cf53_5 : decode cJ9_max_7cf53 5 = .ok (.iload_n 0, 1) := by decide +kernel
theorem dJ9_max_7cf53_6 : decode cJ9_max_7cf53 6 = .ok (.goto 4, 3) := by decide +kernel
theorem dJ9_max_7cf53_9 : decode cJ9_max_7cf53 9 = .ok (.iload_n 1, 1) := by decide +kernel
theorem dJ9_max_7cf53_10 : decode cJ9_max_7cf53 10 = .ok (.ireturn, 1) := by decide +kernel
