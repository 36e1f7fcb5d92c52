theorem dX0_init_0 : decode cX0_init 0 = .ok (.aload_n 0, 1) := by decide +kernel
theorem dX0_init_1 : decode cX0_init 1 = .ok (.invokespecial 3, 3) := by decide +kernel
theorem dX0_init_4 : decode cX0_init 4 = .ok (.aload_n 0, 1) := by decide +kernel
theorem dX0_init_5 : decode cX0_init 5 = .ok (.bipush 100, 2) := by decide +kernel
theorem dX0_init_7 : decode cX0_init 7 = .ok (.newarray .int, 2) := by decide +kernel
theorem dX0_init_9 : decode cX0_init 9 = .ok (.putfield 9, 3) := by decide +kernel
theorem dX0_init_12 : decode cX0_init 12 = .ok (.aload_n 0, 1) := by decide +kernel
theorem dX0_init_13 : decode cX0_init 13 = .ok (.bipush 100, 2) := by decide +kernel
theorem dX0_init_15 : decode cX0_init 15 = .ok (.newarray .int, 2) := by decide +kernel
theorem dX0_init_17 : decode cX0_init 17 = .ok (.putfield 15, 3) := by decide +kernel
theorem dX0_init_20 : decode cX0_init 20 = .ok (.aload_n 0, 1) := by decide +kernel
theorem dX0_init_21 : decode cX0_init 21 = .ok (.bipush 100, 2) := by decide +kernel
theorem dX0_init_23 : decode cX0_init 23 = .ok (.newarray .long, 2) := by decide +kernel
theorem dX0_init_25 : decode cX0_init 25 = .ok (.putfield 18, 3) := by decide +kernel
theorem dX0_init_28 : decode cX0_init 28 = .ok (.aload_n 0, 1) := by decide +kernel
theorem dX0_init_29 : decode cX0_init 29 = .ok (.bipush 100, 2) := by decide +kernel
theorem dX0_init_31 : decode cX0_init 31 = .ok (.newarray .long, 2) := by decide +kernel
theorem dX0_init_33 : decode cX0_init 33 = .ok (.putfield 22, 3) := by decide +kernel
theorem dX0_init_36 : decode cX0_init 36 = .ok (.return_, 1) := by decide +kernel
theorem dX0_push_0 : decode cX0_push 0 = .ok (.aload_n 0, 1) := by decide +kernel
theorem dX0_push_1 : decode cX0_push 1 = .ok (.getfield 9, 3) := by decide +kernel
theorem dX0_push_4 : decode cX0_push 4 = .ok (.aload_n 0, 1) := by decide +kernel
theorem dX0_push_5 : decode cX0_push 5 = .ok (.getfield 25, 3) := by decide +kernel
theorem dX0_push_8 : decode cX0_push 8 = .ok (.iload_n 1, 1) := by decide +kernel
theorem dX0_push_9 : decode cX0_push 9 = .ok (.iastore, 1) := by decide +kernel
theorem dX0_push_10 : decode cX0_push 10 = .ok (.aload_n 0, 1) := by decide +kernel
theorem dX0_push_11 : decode cX0_push 11 = .ok (.getfield 15, 3) := by decide +kernel
theorem dX0_push_14 : decode cX0_push 14 = .ok (.aload_n 0, 1) := by decide +kernel
theorem dX0_push_15 : decode cX0_push 15 = .ok (.getfield 25, 3) := by decide +kernel
theorem dX0_push_18 : decode cX0_push 18 = .ok (.iload_n 2, 1) := by decide +kernel
theorem dX0_push_19 : decode cX0_push 19 = .ok (.iastore, 1) := by decide +kernel
theorem dX0_push_20 : decode cX0_push 20 = .ok (.aload_n 0, 1) := by decide +kernel
theorem dX0_push_21 : decode cX0_push 21 = .ok (.getfield 18, 3) := by decide +kernel
theorem dX0_push_24 : decode cX0_push 24 = .ok (.aload_n 0, 1) := by decide +kernel
theorem dX0_push_25 : decode cX0_push 25 = .ok (.getfield 25, 3) := by decide +kernel
theorem dX0_push_28 : decode cX0_push 28 = .ok (.lload_n 3, 1) := by decide +kernel
theorem dX0_push_29 : decode cX0_push 29 = .ok (.lastore, 1) := by decide +kernel
theorem dX0_push_30 : decode cX0_push 30 = .ok (.aload_n 0, 1) := by decide +kernel
theorem dX0_push_31 : decode cX0_push 31 = .ok (.getfield 22, 3) := by decide +kernel
theorem dX0_push_34 : decode cX0_push 34 = .ok (.aload_n 0, 1) := by decide +kernel
theorem dX0_push_35 : decode cX0_push 35 = .ok (.getfield 25, 3) := by decide +kernel
theorem dX0_push_38 : decode cX0_push 38 = .ok (.lload 5, 2) := by decide +kernel
theorem dX0_push_40 : decode cX0_push 40 = .ok (.lastore, 1) := by decide +kernel
theorem dX0_push_41 : decode cX0_push 41 = .ok (.aload_n 0, 1) := by decide +kernel
theorem dX0_push_42 : decode cX0_push 42 = .ok (.aload_n 0, 1) := by decide +kernel
theorem dX0_push_43 : decode cX0_push 43 = .ok (.getfield 25, 3) := by decide +kernel
theorem dX0_push_46 : decode cX0_push 46 = .ok (.iconst 1, 1) := by decide +kernel
theorem dX0_push_47 : decode cX0_push 47 = .ok (.iadd, 1) := by decide +kernel
theorem dX0_push_48 : decode cX0_push 48 = .ok (.bipush 100, 2) := by decide +kernel
theorem dX0_push_50 : decode cX0_push 50 = .ok (.irem, 1) := by decide +kernel
theorem dX0_push_51 : decode cX0_push 51 = .ok (.putfield 25, 3) := by decide +kernel
theorem dX0_push_54 : decode cX0_push 54 = .ok (.aload_n 0, 1) := by decide +kernel
theorem dX0_push_55 : decode cX0_push 55 = .ok (.aload_n 0, 1) := by decide +kernel
theorem dX0_push_56 : decode cX0_push 56 = .ok (.getfield 29, 3) := by decide +kernel
theorem dX0_push_59 : decode cX0_push 59 = .ok (.iconst 1, 1) := by decide +kernel
theorem dX0_push_60 : decode cX0_push 60 = .ok (.iadd, 1) := by decide +kernel
theorem dX0_push_61 : decode cX0_push 61 = .ok (.bipush 100, 2) := by decide +kernel
theorem dX0_push_63 : decode cX0_push 63 = .ok (.invokestatic 32, 3) := by decide +kernel
theorem dX0_push_66 : decode cX0_push 66 = .ok (.putfield 29, 3) := by decide +kernel
theorem dX0_push_69 : decode cX0_push 69 = .ok (.return_, 1) := by decide +kernel
theorem dX0_pop_0 : decode cX0_pop 0 = .ok (.aload_n 0, 1) := by decide +kernel
theorem dX0_pop_1 : decode cX0_pop 1 = .ok (.aload_n 0, 1) := by decide +kernel
theorem dX0_pop_2 : decode cX0_pop 2 = .ok (.getfield 25, 3) := by decide +kernel
theorem dX0_pop_5 : decode cX0_pop 5 = .ok (.bipush 100, 2) := by decide +kernel
theorem dX0_pop_7 : decode cX0_pop 7 = .ok (.iadd, 1) := by decide +kernel
theorem dX0_pop_8 : decode cX0_pop 8 = .ok (.iconst 1, 1) := by decide +kernel
theorem dX0_pop_9 : decode cX0_pop 9 = .ok (.isub, 1) := by decide +kernel
theorem dX0_pop_10 : decode cX0_pop 10 = .ok (.bipush 100, 2) := by decide +kernel
theorem dX0_pop_12 : decode cX0_pop 12 = .ok (.irem, 1) := by decide +kernel
theorem dX0_pop_13 : decode cX0_pop 13 = .ok (.putfield 25, 3) := by decide +kernel
theorem dX0_pop_16 : decode cX0_pop 16 = .ok (.aload_n 0, 1) := by decide +kernel
theorem dX0_pop_17 : decode cX0_pop 17 = .ok (.dup, 1) := by decide +kernel
theorem dX0_pop_18 : decode cX0_pop 18 = .ok (.getfield 29, 3) := by decide +kernel
theorem dX0_pop_21 : decode cX0_pop 21 = .ok (.iconst 1, 1) := by decide +kernel
theorem dX0_pop_22 : decode cX0_pop 22 = .ok (.isub, 1) := by decide +kernel
theorem dX0_pop_23 : decode cX0_pop 23 = .ok (.putfield 29, 3) := by decide +kernel
theorem dX0_pop_26 : decode cX0_pop 26 = .ok (.aload_n 0, 1) := by decide +kernel
theorem dX0_pop_27 : decode cX0_pop 27 = .ok (.aload_n 0, 1) := by decide +kernel
theorem dX0_pop_28 : decode cX0_pop 28 = .ok (.getfield 9, 3) := by decide +kernel
theorem dX0_pop_31 : decode cX0_pop 31 = .ok (.aload_n 0, 1) := by decide +kernel
theorem dX0_pop_32 : decode cX0_pop 32 = .ok (.getfield 25, 3) := by decide +kernel
theorem dX0_pop_35 : decode cX0_pop 35 = .ok (.iaload, 1) := by decide +kernel
theorem dX0_pop_36 : decode cX0_pop 36 = .ok (.putfield 38, 3) := by decide +kernel
theorem dX0_pop_39 : decode cX0_pop 39 = .ok (.aload_n 0, 1) := by decide +kernel
theorem dX0_pop_40 : decode cX0_pop 40 = .ok (.aload_n 0, 1) := by decide +kernel
theorem dX0_pop_41 : decode cX0_pop 41 = .ok (.getfield 15, 3) := by decide +kernel
theorem dX0_pop_44 : decode cX0_pop 44 = .ok (.aload_n 0, 1) := by decide +kernel
theorem dX0_pop_45 : decode cX0_pop 45 = .ok (.getfield 25, 3) := by decide +kernel
theorem dX0_pop_48 : decode cX0_pop 48 = .ok (.iaload, 1) := by decide +kernel
theorem dX0_pop_49 : decode cX0_pop 49 = .ok (.putfield 41, 3) := by decide +kernel
theorem dX0_pop_52 : decode cX0_pop 52 = .ok (.aload_n 0, 1) := by decide +kernel
theorem dX0_pop_53 : decode cX0_pop 53 = .ok (.aload_n 0, 1) := by decide +kernel
theorem dX0_pop_54 : decode cX0_pop 54 = .ok (.getfield 18, 3) := by decide +kernel
theorem dX0_pop_57 : decode cX0_pop 57 = .ok (.aload_n 0, 1) := by decide +kernel
theorem dX0_pop_58 : decode cX0_pop 58 = .ok (.getfield 25, 3) := by decide +kernel
theorem dX0_pop_61 : decode cX0_pop 61 = .ok (.laload, 1) := by decide +kernel
theorem dX0_pop_62 : decode cX0_pop 62 = .ok (.putfield 44, 3) := by decide +kernel
theorem dX0_pop_65 : decode cX0_pop 65 = .ok (.aload_n 0, 1) := by decide +kernel
theorem dX0_pop_66 : decode cX0_pop 66 = .ok (.aload_n 0, 1) := by decide +kernel
theorem dX0_pop_67 : decode cX0_pop 67 = .ok (.getfield 22, 3) := by decide +kernel
theorem dX0_pop_70 : decode cX0_pop 70 = .ok (.aload_n 0, 1) := by decide +kernel
theorem dX0_pop_71 : decode cX0_pop 71 = .ok (.getfield 25, 3) := by decide +kernel
theorem dX0_pop_74 : decode cX0_pop 74 = .ok (.laload, 1) := by decide +kernel
theorem dX0_pop_75 : decode cX0_pop 75 = .ok (.putfield 48, 3) := by decide +kernel
theorem dX0_pop_78 : decode cX0_pop 78 = .ok (.return_, 1) := by decide +kernel
theorem dX0_clear_0 : decode cX0_clear 0 = .ok (.aload_n 0, 1) := by decide +kernel
theorem dX0_clear_1 : decode cX0_clear 1 = .ok (.iconst 0, 1) := by decide +kernel
theorem dX0_clear_2 : decode cX0_clear 2 = .ok (.putfield 25, 3) := by decide +kernel
theorem dX0_clear_5 : decode cX0_clear 5 = .ok (.aload_n 0, 1) := by decide +kernel
theorem dX0_clear_6 : decode cX0_clear 6 = .ok (.iconst 0, 1) := by decide +kernel
theorem dX0_clear_7 : decode cX0_clear 7 = .ok (.putfield 29, 3) := by decide +kernel
theorem dX0_clear_10 : decode cX0_clear 10 = .ok (.return_, 1) := by decide +kernel
theorem dX1_init_0 : decode cX1_init 0 = .ok (.aload_n 0, 1) := by decide +kernel
theorem dX1_init_1 : decode cX1_init 1 = .ok (.invokespecial 3, 3) := by decide +kernel
theorem dX1_init_4 : decode cX1_init 4 = .ok (.aload_n 0, 1) := by decide +kernel
theorem dX1_init_5 : decode cX1_init 5 = .ok (.bipush 61, 2) := by decide +kernel
theorem dX1_init_7 : decode cX1_init 7 = .ok (.anewarray 9, 3) := by decide +kernel
theorem dX1_init_10 : decode cX1_init 10 = .ok (.putfield 11, 3) := by decide +kernel
theorem dX1_init_13 : decode cX1_init 13 = .ok (.aload_n 0, 1) := by decide +kernel
theorem dX1_init_14 : decode cX1_init 14 = .ok (.bipush 61, 2) := by decide +kernel
theorem dX1_init_16 : decode cX1_init 16 = .ok (.newarray .long, 2) := by decide +kernel
theorem dX1_init_18 : decode cX1_init 18 = .ok (.putfield 17, 3) := by decide +kernel
theorem dX1_init_21 : decode cX1_init 21 = .ok (.aload_n 0, 1) := by decide +kernel
theorem dX1_init_22 : decode cX1_init 22 = .ok (.bipush 60, 2) := by decide +kernel
theorem dX1_init_24 : decode cX1_init 24 = .ok (.newarray .int, 2) := by decide +kernel
theorem dX1_init_26 : decode cX1_init 26 = .ok (.putfield 21, 3) := by decide +kernel
theorem dX1_init_29 : decode cX1_init 29 = .ok (.iconst 0, 1) := by decide +kernel
theorem dX1_init_30 : decode cX1_init 30 = .ok (.istore_n 1, 1) := by decide +kernel
theorem dX1_init_31 : decode cX1_init 31 = .ok (.iload_n 1, 1) := by decide +kernel
theorem dX1_init_32 : decode cX1_init 32 = .ok (.aload_n 0, 1) := by decide +kernel
theorem dX1_init_33 : decode cX1_init 33 = .ok (.getfield 11, 3) := by decide +kernel
theorem dX1_init_36 : decode cX1_init 36 = .ok (.arraylength, 1) := by decide +kernel
theorem dX1_init_37 : decode cX1_init 37 = .ok (.if_icmp .ge 22, 3) := by decide +kernel
theorem dX1_init_40 : decode cX1_init 40 = .ok (.aload_n 0, 1) := by decide +kernel
theorem dX1_init_41 : decode cX1_init 41 = .ok (.getfield 11, 3) := by decide +kernel
theorem dX1_init_44 : decode cX1_init 44 = .ok (.iload_n 1, 1) := by decide +kernel
theorem dX1_init_45 : decode cX1_init 45 = .ok (.new 9, 3) := by decide +kernel
theorem dX1_init_48 : decode cX1_init 48 = .ok (.dup, 1) := by decide +kernel
theorem dX1_init_49 : decode cX1_init 49 = .ok (.invokespecial 25, 3) := by decide +kernel
theorem dX1_init_52 : decode cX1_init 52 = .ok (.aastore, 1) := by decide +kernel
theorem dX1_init_53 : decode cX1_init 53 = .ok (.iinc 1 1, 3) := by decide +kernel
theorem dX1_init_56 : decode cX1_init 56 = .ok (.goto (-25), 3) := by decide +kernel
theorem dX1_init_59 : decode cX1_init 59 = .ok (.return_, 1) := by decide +kernel
theorem dX1_at_0 : decode cX1_at 0 = .ok (.iload_n 1, 1) := by decide +kernel
theorem dX1_at_1 : decode cX1_at 1 = .ok (.ifCond .lt 11, 3) := by decide +kernel
theorem dX1_at_4 : decode cX1_at 4 = .ok (.iload_n 1, 1) := by decide +kernel
theorem dX1_at_5 : decode cX1_at 5 = .ok (.aload_n 0, 1) := by decide +kernel
theorem dX1_at_6 : decode cX1_at 6 = .ok (.getfield 26, 3) := by decide +kernel
theorem dX1_at_9 : decode cX1_at 9 = .ok (.if_icmp .lt 7, 3) := by decide +kernel
theorem dX1_at_12 : decode cX1_at 12 = .ok (.aconst_null, 1) := by decide +kernel
theorem dX1_at_13 : decode cX1_at 13 = .ok (.goto 9, 3) := by decide +kernel
theorem dX1_at_16 : decode cX1_at 16 = .ok (.aload_n 0, 1) := by decide +kernel
theorem dX1_at_17 : decode cX1_at 17 = .ok (.getfield 11, 3) := by decide +kernel
theorem dX1_at_20 : decode cX1_at 20 = .ok (.iload_n 1, 1) := by decide +kernel
theorem dX1_at_21 : decode cX1_at 21 = .ok (.aaload, 1) := by decide +kernel
theorem dX1_at_22 : decode cX1_at 22 = .ok (.areturn, 1) := by decide +kernel
theorem dX1_fresh_0 : decode cX1_fresh 0 = .ok (.aload_n 0, 1) := by decide +kernel
theorem dX1_fresh_1 : decode cX1_fresh 1 = .ok (.getfield 11, 3) := by decide +kernel
theorem dX1_fresh_4 : decode cX1_fresh 4 = .ok (.aload_n 0, 1) := by decide +kernel
theorem dX1_fresh_5 : decode cX1_fresh 5 = .ok (.getfield 26, 3) := by decide +kernel
theorem dX1_fresh_8 : decode cX1_fresh 8 = .ok (.bipush 60, 2) := by decide +kernel
theorem dX1_fresh_10 : decode cX1_fresh 10 = .ok (.invokestatic 30, 3) := by decide +kernel
theorem dX1_fresh_13 : decode cX1_fresh 13 = .ok (.aaload, 1) := by decide +kernel
theorem dX1_fresh_14 : decode cX1_fresh 14 = .ok (.areturn, 1) := by decide +kernel
theorem dX1_countWaiting_0 : decode cX1_countWaiting 0 = .ok (.iconst 0, 1) := by decide +kernel
theorem dX1_countWaiting_1 : decode cX1_countWaiting 1 = .ok (.istore_n 1, 1) := by decide +kernel
theorem dX1_countWaiting_2 : decode cX1_countWaiting 2 = .ok (.iconst 0, 1) := by decide +kernel
theorem dX1_countWaiting_3 : decode cX1_countWaiting 3 = .ok (.istore_n 2, 1) := by decide +kernel
theorem dX1_countWaiting_4 : decode cX1_countWaiting 4 = .ok (.iload_n 2, 1) := by decide +kernel
theorem dX1_countWaiting_5 : decode cX1_countWaiting 5 = .ok (.aload_n 0, 1) := by decide +kernel
theorem dX1_countWaiting_6 : decode cX1_countWaiting 6 = .ok (.getfield 26, 3) := by decide +kernel
theorem dX1_countWaiting_9 : decode cX1_countWaiting 9 = .ok (.if_icmp .ge 29, 3) := by decide +kernel
theorem dX1_countWaiting_12 : decode cX1_countWaiting 12 = .ok (.iload_n 1, 1) := by decide +kernel
theorem dX1_countWaiting_13 : decode cX1_countWaiting 13 = .ok (.aload_n 0, 1) := by decide +kernel
theorem dX1_countWaiting_14 : decode cX1_countWaiting 14 = .ok (.getfield 11, 3) := by decide +kernel
theorem dX1_countWaiting_17 : decode cX1_countWaiting 17 = .ok (.iload_n 2, 1) := by decide +kernel
theorem dX1_countWaiting_18 : decode cX1_countWaiting 18 = .ok (.aaload, 1) := by decide +kernel
theorem dX1_countWaiting_19 : decode cX1_countWaiting 19 = .ok (.invokevirtual 36, 3) := by decide +kernel
theorem dX1_countWaiting_22 : decode cX1_countWaiting 22 = .ok (.ifCond .eq 7, 3) := by decide +kernel
theorem dX1_countWaiting_25 : decode cX1_countWaiting 25 = .ok (.iconst 1, 1) := by decide +kernel
theorem dX1_countWaiting_26 : decode cX1_countWaiting 26 = .ok (.goto 4, 3) := by decide +kernel
theorem dX1_countWaiting_29 : decode cX1_countWaiting 29 = .ok (.iconst 0, 1) := by decide +kernel
theorem dX1_countWaiting_30 : decode cX1_countWaiting 30 = .ok (.iadd, 1) := by decide +kernel
theorem dX1_countWaiting_31 : decode cX1_countWaiting 31 = .ok (.istore_n 1, 1) := by decide +kernel
theorem dX1_countWaiting_32 : decode cX1_countWaiting 32 = .ok (.iinc 2 1, 3) := by decide +kernel
theorem dX1_countWaiting_35 : decode cX1_countWaiting 35 = .ok (.goto (-31), 3) := by decide +kernel
theorem dX1_countWaiting_38 : decode cX1_countWaiting 38 = .ok (.iload_n 1, 1) := by decide +kernel
theorem dX1_countWaiting_39 : decode cX1_countWaiting 39 = .ok (.ireturn, 1) := by decide +kernel
theorem dX1_takeMust_0 : decode cX1_takeMust 0 = .ok (.iconst 0, 1) := by decide +kernel
theorem dX1_takeMust_1 : decode cX1_takeMust 1 = .ok (.istore_n 3, 1) := by decide +kernel
theorem dX1_takeMust_2 : decode cX1_takeMust 2 = .ok (.iload_n 3, 1) := by decide +kernel
theorem dX1_takeMust_3 : decode cX1_takeMust 3 = .ok (.aload_n 0, 1) := by decide +kernel
theorem dX1_takeMust_4 : decode cX1_takeMust 4 = .ok (.getfield 26, 3) := by decide +kernel
theorem dX1_takeMust_7 : decode cX1_takeMust 7 = .ok (.if_icmp .ge 49, 3) := by decide +kernel
theorem dX1_takeMust_10 : decode cX1_takeMust 10 = .ok (.aload_n 0, 1) := by decide +kernel
theorem dX1_takeMust_11 : decode cX1_takeMust 11 = .ok (.getfield 11, 3) := by decide +kernel
theorem dX1_takeMust_14 : decode cX1_takeMust 14 = .ok (.iload_n 3, 1) := by decide +kernel
theorem dX1_takeMust_15 : decode cX1_takeMust 15 = .ok (.aaload, 1) := by decide +kernel
theorem dX1_takeMust_16 : decode cX1_takeMust 16 = .ok (.astore 4, 2) := by decide +kernel
theorem dX1_takeMust_18 : decode cX1_takeMust 18 = .ok (.aload 4, 2) := by decide +kernel
theorem dX1_takeMust_20 : decode cX1_takeMust 20 = .ok (.invokevirtual 36, 3) := by decide +kernel
theorem dX1_takeMust_23 : decode cX1_takeMust 23 = .ok (.ifCond .eq 27, 3) := by decide +kernel
theorem dX1_takeMust_26 : decode cX1_takeMust 26 = .ok (.aload 4, 2) := by decide +kernel
theorem dX1_takeMust_28 : decode cX1_takeMust 28 = .ok (.getfield 40, 3) := by decide +kernel
theorem dX1_takeMust_31 : decode cX1_takeMust 31 = .ok (.iload_n 2, 1) := by decide +kernel
theorem dX1_takeMust_32 : decode cX1_takeMust 32 = .ok (.if_icmp .ge 18, 3) := by decide +kernel
theorem dX1_takeMust_35 : decode cX1_takeMust 35 = .ok (.aload_n 1, 1) := by decide +kernel
theorem dX1_takeMust_36 : decode cX1_takeMust 36 = .ok (.iload_n 3, 1) := by decide +kernel
theorem dX1_takeMust_37 : decode cX1_takeMust 37 = .ok (.aload 4, 2) := by decide +kernel
theorem dX1_takeMust_39 : decode cX1_takeMust 39 = .ok (.getfield 43, 3) := by decide +kernel
theorem dX1_takeMust_42 : decode cX1_takeMust 42 = .ok (.invokevirtual 46, 3) := by decide +kernel
theorem dX1_takeMust_45 : decode cX1_takeMust 45 = .ok (.ifCond .ne 5, 3) := by decide +kernel
theorem dX1_takeMust_48 : decode cX1_takeMust 48 = .ok (.iconst 0, 1) := by decide +kernel
theorem dX1_takeMust_49 : decode cX1_takeMust 49 = .ok (.ireturn, 1) := by decide +kernel
theorem dX1_takeMust_50 : decode cX1_takeMust 50 = .ok (.iinc 3 1, 3) := by decide +kernel
theorem dX1_takeMust_53 : decode cX1_takeMust 53 = .ok (.goto (-51), 3) := by decide +kernel
theorem dX1_takeMust_56 : decode cX1_takeMust 56 = .ok (.iconst 1, 1) := by decide +kernel
theorem dX1_takeMust_57 : decode cX1_takeMust 57 = .ok (.ireturn, 1) := by decide +kernel
theorem dX1_takeOthers_0 : decode cX1_takeOthers 0 = .ok (.iconst (-1), 1) := by decide +kernel
theorem dX1_takeOthers_1 : decode cX1_takeOthers 1 = .ok (.istore_n 3, 1) := by decide +kernel
theorem dX1_takeOthers_2 : decode cX1_takeOthers 2 = .ok (.iconst 0, 1) := by decide +kernel
theorem dX1_takeOthers_3 : decode cX1_takeOthers 3 = .ok (.istore 4, 2) := by decide +kernel
theorem dX1_takeOthers_5 : decode cX1_takeOthers 5 = .ok (.iload 4, 2) := by decide +kernel
theorem dX1_takeOthers_7 : decode cX1_takeOthers 7 = .ok (.aload_n 0, 1) := by decide +kernel
theorem dX1_takeOthers_8 : decode cX1_takeOthers 8 = .ok (.getfield 26, 3) := by decide +kernel
theorem dX1_takeOthers_11 : decode cX1_takeOthers 11 = .ok (.if_icmp .ge 37, 3) := by decide +kernel
theorem dX1_takeOthers_14 : decode cX1_takeOthers 14 = .ok (.aload_n 0, 1) := by decide +kernel
theorem dX1_takeOthers_15 : decode cX1_takeOthers 15 = .ok (.iload_n 3, 1) := by decide +kernel
theorem dX1_takeOthers_16 : decode cX1_takeOthers 16 = .ok (.iload_n 2, 1) := by decide +kernel
theorem dX1_takeOthers_17 : decode cX1_takeOthers 17 = .ok (.invokevirtual 52, 3) := by decide +kernel
theorem dX1_takeOthers_20 : decode cX1_takeOthers 20 = .ok (.istore_n 3, 1) := by decide +kernel
theorem dX1_takeOthers_21 : decode cX1_takeOthers 21 = .ok (.iload_n 3, 1) := by decide +kernel
theorem dX1_takeOthers_22 : decode cX1_takeOthers 22 = .ok (.iconst (-1), 1) := by decide +kernel
theorem dX1_takeOthers_23 : decode cX1_takeOthers 23 = .ok (.if_icmp .ne 4, 3) := by decide +kernel
theorem dX1_takeOthers_26 : decode cX1_takeOthers 26 = .ok (.return_, 1) := by decide +kernel
theorem dX1_takeOthers_27 : decode cX1_takeOthers 27 = .ok (.aload_n 1, 1) := by decide +kernel
theorem dX1_takeOthers_28 : decode cX1_takeOthers 28 = .ok (.iload_n 3, 1) := by decide +kernel
theorem dX1_takeOthers_29 : decode cX1_takeOthers 29 = .ok (.aload_n 0, 1) := by decide +kernel
theorem dX1_takeOthers_30 : decode cX1_takeOthers 30 = .ok (.getfield 11, 3) := by decide +kernel
theorem dX1_takeOthers_33 : decode cX1_takeOthers 33 = .ok (.iload_n 3, 1) := by decide +kernel
theorem dX1_takeOthers_34 : decode cX1_takeOthers 34 = .ok (.aaload, 1) := by decide +kernel
theorem dX1_takeOthers_35 : decode cX1_takeOthers 35 = .ok (.getfield 43, 3) := by decide +kernel
theorem dX1_takeOthers_38 : decode cX1_takeOthers 38 = .ok (.invokevirtual 46, 3) := by decide +kernel
theorem dX1_takeOthers_41 : decode cX1_takeOthers 41 = .ok (.pop, 1) := by decide +kernel
theorem dX1_takeOthers_42 : decode cX1_takeOthers 42 = .ok (.iinc 4 1, 3) := by decide +kernel
theorem dX1_takeOthers_45 : decode cX1_takeOthers 45 = .ok (.goto (-40), 3) := by decide +kernel
theorem dX1_takeOthers_48 : decode cX1_takeOthers 48 = .ok (.return_, 1) := by decide +kernel
theorem dX1_nextOther_0 : decode cX1_nextOther 0 = .ok (.iload_n 1, 1) := by decide +kernel
theorem dX1_nextOther_1 : decode cX1_nextOther 1 = .ok (.iconst (-1), 1) := by decide +kernel
theorem dX1_nextOther_2 : decode cX1_nextOther 2 = .ok (.if_icmp .ne 9, 3) := by decide +kernel
theorem dX1_nextOther_5 : decode cX1_nextOther 5 = .ok (.iload_n 2, 1) := by decide +kernel
theorem dX1_nextOther_6 : decode cX1_nextOther 6 = .ok (.iconst 1, 1) := by decide +kernel
theorem dX1_nextOther_7 : decode cX1_nextOther 7 = .ok (.isub, 1) := by decide +kernel
theorem dX1_nextOther_8 : decode cX1_nextOther 8 = .ok (.goto 12, 3) := by decide +kernel
theorem dX1_nextOther_11 : decode cX1_nextOther 11 = .ok (.aload_n 0, 1) := by decide +kernel
theorem dX1_nextOther_12 : decode cX1_nextOther 12 = .ok (.getfield 11, 3) := by decide +kernel
theorem dX1_nextOther_15 : decode cX1_nextOther 15 = .ok (.iload_n 1, 1) := by decide +kernel
theorem dX1_nextOther_16 : decode cX1_nextOther 16 = .ok (.aaload, 1) := by decide +kernel
theorem dX1_nextOther_17 : decode cX1_nextOther 17 = .ok (.getfield 40, 3) := by decide +kernel
theorem dX1_nextOther_20 : decode cX1_nextOther 20 = .ok (.istore_n 3, 1) := by decide +kernel
theorem dX1_nextOther_21 : decode cX1_nextOther 21 = .ok (.iconst (-1), 1) := by decide +kernel
theorem dX1_nextOther_22 : decode cX1_nextOther 22 = .ok (.istore 4, 2) := by decide +kernel
theorem dX1_nextOther_24 : decode cX1_nextOther 24 = .ok (.iconst 0, 1) := by decide +kernel
theorem dX1_nextOther_25 : decode cX1_nextOther 25 = .ok (.istore 5, 2) := by decide +kernel
theorem dX1_nextOther_27 : decode cX1_nextOther 27 = .ok (.iload 5, 2) := by decide +kernel
theorem dX1_nextOther_29 : decode cX1_nextOther 29 = .ok (.aload_n 0, 1) := by decide +kernel
theorem dX1_nextOther_30 : decode cX1_nextOther 30 = .ok (.getfield 26, 3) := by decide +kernel
theorem dX1_nextOther_33 : decode cX1_nextOther 33 = .ok (.if_icmp .ge 99, 3) := by decide +kernel
theorem dX1_nextOther_36 : decode cX1_nextOther 36 = .ok (.aload_n 0, 1) := by decide +kernel
theorem dX1_nextOther_37 : decode cX1_nextOther 37 = .ok (.getfield 11, 3) := by decide +kernel
theorem dX1_nextOther_40 : decode cX1_nextOther 40 = .ok (.iload 5, 2) := by decide +kernel
theorem dX1_nextOther_42 : decode cX1_nextOther 42 = .ok (.aaload, 1) := by decide +kernel
theorem dX1_nextOther_43 : decode cX1_nextOther 43 = .ok (.astore 6, 2) := by decide +kernel
theorem dX1_nextOther_45 : decode cX1_nextOther 45 = .ok (.aload 6, 2) := by decide +kernel
theorem dX1_nextOther_47 : decode cX1_nextOther 47 = .ok (.getfield 40, 3) := by decide +kernel
theorem dX1_nextOther_50 : decode cX1_nextOther 50 = .ok (.iload_n 3, 1) := by decide +kernel
theorem dX1_nextOther_51 : decode cX1_nextOther 51 = .ok (.if_icmp .gt 18, 3) := by decide +kernel
theorem dX1_nextOther_54 : decode cX1_nextOther 54 = .ok (.aload 6, 2) := by decide +kernel
theorem dX1_nextOther_56 : decode cX1_nextOther 56 = .ok (.getfield 40, 3) := by decide +kernel
theorem dX1_nextOther_59 : decode cX1_nextOther 59 = .ok (.iload_n 3, 1) := by decide +kernel
theorem dX1_nextOther_60 : decode cX1_nextOther 60 = .ok (.if_icmp .ne 13, 3) := by decide +kernel
theorem dX1_nextOther_63 : decode cX1_nextOther 63 = .ok (.iload 5, 2) := by decide +kernel
theorem dX1_nextOther_65 : decode cX1_nextOther 65 = .ok (.iload_n 1, 1) := by decide +kernel
theorem dX1_nextOther_66 : decode cX1_nextOther 66 = .ok (.if_icmp .le 7, 3) := by decide +kernel
theorem dX1_nextOther_69 : decode cX1_nextOther 69 = .ok (.iconst 1, 1) := by decide +kernel
theorem dX1_nextOther_70 : decode cX1_nextOther 70 = .ok (.goto 4, 3) := by decide +kernel
theorem dX1_nextOther_73 : decode cX1_nextOther 73 = .ok (.iconst 0, 1) := by decide +kernel
theorem dX1_nextOther_74 : decode cX1_nextOther 74 = .ok (.istore 7, 2) := by decide +kernel
theorem dX1_nextOther_76 : decode cX1_nextOther 76 = .ok (.aload 6, 2) := by decide +kernel
theorem dX1_nextOther_78 : decode cX1_nextOther 78 = .ok (.invokevirtual 36, 3) := by decide +kernel
theorem dX1_nextOther_81 : decode cX1_nextOther 81 = .ok (.ifCond .eq 45, 3) := by decide +kernel
theorem dX1_nextOther_84 : decode cX1_nextOther 84 = .ok (.aload 6, 2) := by decide +kernel
theorem dX1_nextOther_86 : decode cX1_nextOther 86 = .ok (.getfield 40, 3) := by decide +kernel
theorem dX1_nextOther_89 : decode cX1_nextOther 89 = .ok (.iload_n 2, 1) := by decide +kernel
theorem dX1_nextOther_90 : decode cX1_nextOther 90 = .ok (.if_icmp .lt 36, 3) := by decide +kernel
theorem dX1_nextOther_93 : decode cX1_nextOther 93 = .ok (.iload 7, 2) := by decide +kernel
theorem dX1_nextOther_95 : decode cX1_nextOther 95 = .ok (.ifCond .eq 31, 3) := by decide +kernel
theorem dX1_nextOther_98 : decode cX1_nextOther 98 = .ok (.iload 4, 2) := by decide +kernel
theorem dX1_nextOther_100 : decode cX1_nextOther 100 = .ok (.iconst (-1), 1) := by decide +kernel
theorem dX1_nextOther_101 : decode cX1_nextOther 101 = .ok (.if_icmp .eq 21, 3) := by decide +kernel
theorem dX1_nextOther_104 : decode cX1_nextOther 104 = .ok (.aload 6, 2) := by decide +kernel
theorem dX1_nextOther_106 : decode cX1_nextOther 106 = .ok (.getfield 40, 3) := by decide +kernel
theorem dX1_nextOther_109 : decode cX1_nextOther 109 = .ok (.aload_n 0, 1) := by decide +kernel
theorem dX1_nextOther_110 : decode cX1_nextOther 110 = .ok (.getfield 11, 3) := by decide +kernel
theorem dX1_nextOther_113 : decode cX1_nextOther 113 = .ok (.iload 4, 2) := by decide +kernel
theorem dX1_nextOther_115 : decode cX1_nextOther 115 = .ok (.aaload, 1) := by decide +kernel
theorem dX1_nextOther_116 : decode cX1_nextOther 116 = .ok (.getfield 40, 3) := by decide +kernel
theorem dX1_nextOther_119 : decode cX1_nextOther 119 = .ok (.if_icmp .ge 7, 3) := by decide +kernel
theorem dX1_nextOther_122 : decode cX1_nextOther 122 = .ok (.iload 5, 2) := by decide +kernel
theorem dX1_nextOther_124 : decode cX1_nextOther 124 = .ok (.istore 4, 2) := by decide +kernel
theorem dX1_nextOther_126 : decode cX1_nextOther 126 = .ok (.iinc 5 1, 3) := by decide +kernel
theorem dX1_nextOther_129 : decode cX1_nextOther 129 = .ok (.goto (-102), 3) := by decide +kernel
theorem dX1_nextOther_132 : decode cX1_nextOther 132 = .ok (.iload 4, 2) := by decide +kernel
theorem dX1_nextOther_134 : decode cX1_nextOther 134 = .ok (.ireturn, 1) := by decide +kernel
theorem dX1_list_0 : decode cX1_list 0 = .ok (.iconst 0, 1) := by decide +kernel
theorem dX1_list_1 : decode cX1_list 1 = .ok (.istore_n 3, 1) := by decide +kernel
theorem dX1_list_2 : decode cX1_list 2 = .ok (.iload_n 3, 1) := by decide +kernel
theorem dX1_list_3 : decode cX1_list 3 = .ok (.aload_n 0, 1) := by decide +kernel
theorem dX1_list_4 : decode cX1_list 4 = .ok (.getfield 26, 3) := by decide +kernel
theorem dX1_list_7 : decode cX1_list 7 = .ok (.if_icmp .ge 36, 3) := by decide +kernel
theorem dX1_list_10 : decode cX1_list 10 = .ok (.aload_n 0, 1) := by decide +kernel
theorem dX1_list_11 : decode cX1_list 11 = .ok (.getfield 11, 3) := by decide +kernel
theorem dX1_list_14 : decode cX1_list 14 = .ok (.iload_n 3, 1) := by decide +kernel
theorem dX1_list_15 : decode cX1_list 15 = .ok (.aaload, 1) := by decide +kernel
theorem dX1_list_16 : decode cX1_list 16 = .ok (.getfield 55, 3) := by decide +kernel
theorem dX1_list_19 : decode cX1_list 19 = .ok (.iload_n 1, 1) := by decide +kernel
theorem dX1_list_20 : decode cX1_list 20 = .ok (.if_icmp .ne 17, 3) := by decide +kernel
theorem dX1_list_23 : decode cX1_list 23 = .ok (.aload_n 2, 1) := by decide +kernel
theorem dX1_list_24 : decode cX1_list 24 = .ok (.iload_n 3, 1) := by decide +kernel
theorem dX1_list_25 : decode cX1_list 25 = .ok (.aload_n 0, 1) := by decide +kernel
theorem dX1_list_26 : decode cX1_list 26 = .ok (.getfield 11, 3) := by decide +kernel
theorem dX1_list_29 : decode cX1_list 29 = .ok (.iload_n 3, 1) := by decide +kernel
theorem dX1_list_30 : decode cX1_list 30 = .ok (.aaload, 1) := by decide +kernel
theorem dX1_list_31 : decode cX1_list 31 = .ok (.getfield 40, 3) := by decide +kernel
theorem dX1_list_34 : decode cX1_list 34 = .ok (.invokevirtual 58, 3) := by decide +kernel
theorem dX1_list_37 : decode cX1_list 37 = .ok (.iinc 3 1, 3) := by decide +kernel
theorem dX1_list_40 : decode cX1_list 40 = .ok (.goto (-38), 3) := by decide +kernel
theorem dX1_list_43 : decode cX1_list 43 = .ok (.return_, 1) := by decide +kernel
theorem dX1_markVoid_0 : decode cX1_markVoid 0 = .ok (.iconst 0, 1) := by decide +kernel
theorem dX1_markVoid_1 : decode cX1_markVoid 1 = .ok (.istore_n 2, 1) := by decide +kernel
theorem dX1_markVoid_2 : decode cX1_markVoid 2 = .ok (.iload_n 2, 1) := by decide +kernel
theorem dX1_markVoid_3 : decode cX1_markVoid 3 = .ok (.aload_n 0, 1) := by decide +kernel
theorem dX1_markVoid_4 : decode cX1_markVoid 4 = .ok (.getfield 26, 3) := by decide +kernel
theorem dX1_markVoid_7 : decode cX1_markVoid 7 = .ok (.if_icmp .ge 19, 3) := by decide +kernel
theorem dX1_markVoid_10 : decode cX1_markVoid 10 = .ok (.aload_n 0, 1) := by decide +kernel
theorem dX1_markVoid_11 : decode cX1_markVoid 11 = .ok (.getfield 11, 3) := by decide +kernel
theorem dX1_markVoid_14 : decode cX1_markVoid 14 = .ok (.iload_n 2, 1) := by decide +kernel
theorem dX1_markVoid_15 : decode cX1_markVoid 15 = .ok (.aaload, 1) := by decide +kernel
theorem dX1_markVoid_16 : decode cX1_markVoid 16 = .ok (.iconst 0, 1) := by decide +kernel
theorem dX1_markVoid_17 : decode cX1_markVoid 17 = .ok (.putfield 64, 3) := by decide +kernel
theorem dX1_markVoid_20 : decode cX1_markVoid 20 = .ok (.iinc 2 1, 3) := by decide +kernel
theorem dX1_markVoid_23 : decode cX1_markVoid 23 = .ok (.goto (-21), 3) := by decide +kernel
theorem dX1_markVoid_26 : decode cX1_markVoid 26 = .ok (.aload_n 0, 1) := by decide +kernel
theorem dX1_markVoid_27 : decode cX1_markVoid 27 = .ok (.getfield 26, 3) := by decide +kernel
theorem dX1_markVoid_30 : decode cX1_markVoid 30 = .ok (.iconst 1, 1) := by decide +kernel
theorem dX1_markVoid_31 : decode cX1_markVoid 31 = .ok (.isub, 1) := by decide +kernel
theorem dX1_markVoid_32 : decode cX1_markVoid 32 = .ok (.istore_n 2, 1) := by decide +kernel
theorem dX1_markVoid_33 : decode cX1_markVoid 33 = .ok (.iload_n 2, 1) := by decide +kernel
theorem dX1_markVoid_34 : decode cX1_markVoid 34 = .ok (.ifCond .lt 52, 3) := by decide +kernel
theorem dX1_markVoid_37 : decode cX1_markVoid 37 = .ok (.aload_n 0, 1) := by decide +kernel
theorem dX1_markVoid_38 : decode cX1_markVoid 38 = .ok (.getfield 11, 3) := by decide +kernel
theorem dX1_markVoid_41 : decode cX1_markVoid 41 = .ok (.iload_n 2, 1) := by decide +kernel
theorem dX1_markVoid_42 : decode cX1_markVoid 42 = .ok (.aaload, 1) := by decide +kernel
theorem dX1_markVoid_43 : decode cX1_markVoid 43 = .ok (.astore_n 3, 1) := by decide +kernel
theorem dX1_markVoid_44 : decode cX1_markVoid 44 = .ok (.aload_n 0, 1) := by decide +kernel
theorem dX1_markVoid_45 : decode cX1_markVoid 45 = .ok (.aload_n 3, 1) := by decide +kernel
theorem dX1_markVoid_46 : decode cX1_markVoid 46 = .ok (.getfield 68, 3) := by decide +kernel
theorem dX1_markVoid_49 : decode cX1_markVoid 49 = .ok (.invokevirtual 71, 3) := by decide +kernel
theorem dX1_markVoid_52 : decode cX1_markVoid 52 = .ok (.astore 4, 2) := by decide +kernel
theorem dX1_markVoid_54 : decode cX1_markVoid 54 = .ok (.aload 4, 2) := by decide +kernel
theorem dX1_markVoid_56 : decode cX1_markVoid 56 = .ok (.ifnull 24, 3) := by decide +kernel
theorem dX1_markVoid_59 : decode cX1_markVoid 59 = .ok (.aload_n 3, 1) := by decide +kernel
theorem dX1_markVoid_60 : decode cX1_markVoid 60 = .ok (.iload_n 1, 1) := by decide +kernel
theorem dX1_markVoid_61 : decode cX1_markVoid 61 = .ok (.invokevirtual 75, 3) := by decide +kernel
theorem dX1_markVoid_64 : decode cX1_markVoid 64 = .ok (.ifCond .eq 16, 3) := by decide +kernel
theorem dX1_markVoid_67 : decode cX1_markVoid 67 = .ok (.aload_n 3, 1) := by decide +kernel
theorem dX1_markVoid_68 : decode cX1_markVoid 68 = .ok (.getfield 64, 3) := by decide +kernel
theorem dX1_markVoid_71 : decode cX1_markVoid 71 = .ok (.ifCond .ne 9, 3) := by decide +kernel
theorem dX1_markVoid_74 : decode cX1_markVoid 74 = .ok (.aload 4, 2) := by decide +kernel
theorem dX1_markVoid_76 : decode cX1_markVoid 76 = .ok (.iconst 1, 1) := by decide +kernel
theorem dX1_markVoid_77 : decode cX1_markVoid 77 = .ok (.putfield 64, 3) := by decide +kernel
theorem dX1_markVoid_80 : decode cX1_markVoid 80 = .ok (.iinc 2 (-1), 3) := by decide +kernel
theorem dX1_markVoid_83 : decode cX1_markVoid 83 = .ok (.goto (-50), 3) := by decide +kernel
theorem dX1_markVoid_86 : decode cX1_markVoid 86 = .ok (.return_, 1) := by decide +kernel
theorem dX1_lawPlace_0 : decode cX1_lawPlace 0 = .ok (.iconst (-1), 1) := by decide +kernel
theorem dX1_lawPlace_1 : decode cX1_lawPlace 1 = .ok (.istore 4, 2) := by decide +kernel
theorem dX1_lawPlace_3 : decode cX1_lawPlace 3 = .ok (.iconst (-1), 1) := by decide +kernel
theorem dX1_lawPlace_4 : decode cX1_lawPlace 4 = .ok (.istore 5, 2) := by decide +kernel
theorem dX1_lawPlace_6 : decode cX1_lawPlace 6 = .ok (.iconst 0, 1) := by decide +kernel
theorem dX1_lawPlace_7 : decode cX1_lawPlace 7 = .ok (.istore 6, 2) := by decide +kernel
theorem dX1_lawPlace_9 : decode cX1_lawPlace 9 = .ok (.iload 6, 2) := by decide +kernel
theorem dX1_lawPlace_11 : decode cX1_lawPlace 11 = .ok (.aload_n 0, 1) := by decide +kernel
theorem dX1_lawPlace_12 : decode cX1_lawPlace 12 = .ok (.getfield 26, 3) := by decide +kernel
theorem dX1_lawPlace_15 : decode cX1_lawPlace 15 = .ok (.if_icmp .ge 122, 3) := by decide +kernel
theorem dX1_lawPlace_18 : decode cX1_lawPlace 18 = .ok (.aload_n 0, 1) := by decide +kernel
theorem dX1_lawPlace_19 : decode cX1_lawPlace 19 = .ok (.getfield 11, 3) := by decide +kernel
theorem dX1_lawPlace_22 : decode cX1_lawPlace 22 = .ok (.iload 6, 2) := by decide +kernel
theorem dX1_lawPlace_24 : decode cX1_lawPlace 24 = .ok (.aaload, 1) := by decide +kernel
theorem dX1_lawPlace_25 : decode cX1_lawPlace 25 = .ok (.astore 7, 2) := by decide +kernel
theorem dX1_lawPlace_27 : decode cX1_lawPlace 27 = .ok (.aload 7, 2) := by decide +kernel
theorem dX1_lawPlace_29 : decode cX1_lawPlace 29 = .ok (.iload_n 3, 1) := by decide +kernel
theorem dX1_lawPlace_30 : decode cX1_lawPlace 30 = .ok (.invokevirtual 75, 3) := by decide +kernel
theorem dX1_lawPlace_33 : decode cX1_lawPlace 33 = .ok (.ifCond .eq 15, 3) := by decide +kernel
theorem dX1_lawPlace_36 : decode cX1_lawPlace 36 = .ok (.aload 7, 2) := by decide +kernel
theorem dX1_lawPlace_38 : decode cX1_lawPlace 38 = .ok (.getfield 64, 3) := by decide +kernel
theorem dX1_lawPlace_41 : decode cX1_lawPlace 41 = .ok (.ifCond .ne 7, 3) := by decide +kernel
theorem dX1_lawPlace_44 : decode cX1_lawPlace 44 = .ok (.iconst 1, 1) := by decide +kernel
theorem dX1_lawPlace_45 : decode cX1_lawPlace 45 = .ok (.goto 4, 3) := by decide +kernel
theorem dX1_lawPlace_48 : decode cX1_lawPlace 48 = .ok (.iconst 0, 1) := by decide +kernel
theorem dX1_lawPlace_49 : decode cX1_lawPlace 49 = .ok (.istore 8, 2) := by decide +kernel
theorem dX1_lawPlace_51 : decode cX1_lawPlace 51 = .ok (.iconst 0, 1) := by decide +kernel
theorem dX1_lawPlace_52 : decode cX1_lawPlace 52 = .ok (.istore 9, 2) := by decide +kernel
theorem dX1_lawPlace_54 : decode cX1_lawPlace 54 = .ok (.iload 8, 2) := by decide +kernel
theorem dX1_lawPlace_56 : decode cX1_lawPlace 56 = .ok (.ifCond .eq 75, 3) := by decide +kernel
theorem dX1_lawPlace_59 : decode cX1_lawPlace 59 = .ok (.iload 9, 2) := by decide +kernel
theorem dX1_lawPlace_61 : decode cX1_lawPlace 61 = .ok (.aload 7, 2) := by decide +kernel
theorem dX1_lawPlace_63 : decode cX1_lawPlace 63 = .ok (.getfield 79, 3) := by decide +kernel
theorem dX1_lawPlace_66 : decode cX1_lawPlace 66 = .ok (.if_icmp .ge 65, 3) := by decide +kernel
theorem dX1_lawPlace_69 : decode cX1_lawPlace 69 = .ok (.aload 7, 2) := by decide +kernel
theorem dX1_lawPlace_71 : decode cX1_lawPlace 71 = .ok (.getfield 82, 3) := by decide +kernel
theorem dX1_lawPlace_74 : decode cX1_lawPlace 74 = .ok (.iload 9, 2) := by decide +kernel
theorem dX1_lawPlace_76 : decode cX1_lawPlace 76 = .ok (.iaload, 1) := by decide +kernel
theorem dX1_lawPlace_77 : decode cX1_lawPlace 77 = .ok (.iload_n 1, 1) := by decide +kernel
theorem dX1_lawPlace_78 : decode cX1_lawPlace 78 = .ok (.if_icmp .ne 47, 3) := by decide +kernel
theorem dX1_lawPlace_81 : decode cX1_lawPlace 81 = .ok (.aload 7, 2) := by decide +kernel
theorem dX1_lawPlace_83 : decode cX1_lawPlace 83 = .ok (.getfield 85, 3) := by decide +kernel
theorem dX1_lawPlace_86 : decode cX1_lawPlace 86 = .ok (.iload 9, 2) := by decide +kernel
theorem dX1_lawPlace_88 : decode cX1_lawPlace 88 = .ok (.iaload, 1) := by decide +kernel
theorem dX1_lawPlace_89 : decode cX1_lawPlace 89 = .ok (.iload_n 2, 1) := by decide +kernel
theorem dX1_lawPlace_90 : decode cX1_lawPlace 90 = .ok (.if_icmp .gt 35, 3) := by decide +kernel
theorem dX1_lawPlace_93 : decode cX1_lawPlace 93 = .ok (.aload 7, 2) := by decide +kernel
theorem dX1_lawPlace_95 : decode cX1_lawPlace 95 = .ok (.getfield 85, 3) := by decide +kernel
theorem dX1_lawPlace_98 : decode cX1_lawPlace 98 = .ok (.iload 9, 2) := by decide +kernel
theorem dX1_lawPlace_100 : decode cX1_lawPlace 100 = .ok (.iaload, 1) := by decide +kernel
theorem dX1_lawPlace_101 : decode cX1_lawPlace 101 = .ok (.iload 5, 2) := by decide +kernel
theorem dX1_lawPlace_103 : decode cX1_lawPlace 103 = .ok (.if_icmp .lt 22, 3) := by decide +kernel
theorem dX1_lawPlace_106 : decode cX1_lawPlace 106 = .ok (.aload 7, 2) := by decide +kernel
theorem dX1_lawPlace_108 : decode cX1_lawPlace 108 = .ok (.getfield 85, 3) := by decide +kernel
theorem dX1_lawPlace_111 : decode cX1_lawPlace 111 = .ok (.iload 9, 2) := by decide +kernel
theorem dX1_lawPlace_113 : decode cX1_lawPlace 113 = .ok (.iaload, 1) := by decide +kernel
theorem dX1_lawPlace_114 : decode cX1_lawPlace 114 = .ok (.istore 5, 2) := by decide +kernel
theorem dX1_lawPlace_116 : decode cX1_lawPlace 116 = .ok (.iload 6, 2) := by decide +kernel
theorem dX1_lawPlace_118 : decode cX1_lawPlace 118 = .ok (.iconst 4, 1) := by decide +kernel
theorem dX1_lawPlace_119 : decode cX1_lawPlace 119 = .ok (.imul, 1) := by decide +kernel
theorem dX1_lawPlace_120 : decode cX1_lawPlace 120 = .ok (.iload 9, 2) := by decide +kernel
theorem dX1_lawPlace_122 : decode cX1_lawPlace 122 = .ok (.iadd, 1) := by decide +kernel
theorem dX1_lawPlace_123 : decode cX1_lawPlace 123 = .ok (.istore 4, 2) := by decide +kernel
theorem dX1_lawPlace_125 : decode cX1_lawPlace 125 = .ok (.iinc 9 1, 3) := by decide +kernel
theorem dX1_lawPlace_128 : decode cX1_lawPlace 128 = .ok (.goto (-74), 3) := by decide +kernel
theorem dX1_lawPlace_131 : decode cX1_lawPlace 131 = .ok (.iinc 6 1, 3) := by decide +kernel
theorem dX1_lawPlace_134 : decode cX1_lawPlace 134 = .ok (.goto (-125), 3) := by decide +kernel
theorem dX1_lawPlace_137 : decode cX1_lawPlace 137 = .ok (.iload 4, 2) := by decide +kernel
theorem dX1_lawPlace_139 : decode cX1_lawPlace 139 = .ok (.ireturn, 1) := by decide +kernel
theorem dX1_lawValue_0 : decode cX1_lawValue 0 = .ok (.iload_n 1, 1) := by decide +kernel
theorem dX1_lawValue_1 : decode cX1_lawValue 1 = .ok (.ifCond .ge 7, 3) := by decide +kernel
theorem dX1_lawValue_4 : decode cX1_lawValue 4 = .ok (.aconst_null, 1) := by decide +kernel
theorem dX1_lawValue_5 : decode cX1_lawValue 5 = .ok (.goto 10, 3) := by decide +kernel
theorem dX1_lawValue_8 : decode cX1_lawValue 8 = .ok (.aload_n 0, 1) := by decide +kernel
theorem dX1_lawValue_9 : decode cX1_lawValue 9 = .ok (.iload_n 1, 1) := by decide +kernel
theorem dX1_lawValue_10 : decode cX1_lawValue 10 = .ok (.iconst 4, 1) := by decide +kernel
theorem dX1_lawValue_11 : decode cX1_lawValue 11 = .ok (.idiv, 1) := by decide +kernel
theorem dX1_lawValue_12 : decode cX1_lawValue 12 = .ok (.invokevirtual 71, 3) := by decide +kernel
theorem dX1_lawValue_15 : decode cX1_lawValue 15 = .ok (.astore_n 2, 1) := by decide +kernel
theorem dX1_lawValue_16 : decode cX1_lawValue 16 = .ok (.aload_n 2, 1) := by decide +kernel
theorem dX1_lawValue_17 : decode cX1_lawValue 17 = .ok (.ifnonnull 8, 3) := by decide +kernel
theorem dX1_lawValue_20 : decode cX1_lawValue 20 = .ok (.ldc 88, 2) := by decide +kernel
theorem dX1_lawValue_22 : decode cX1_lawValue 22 = .ok (.goto 11, 3) := by decide +kernel
theorem dX1_lawValue_25 : decode cX1_lawValue 25 = .ok (.aload_n 2, 1) := by decide +kernel
theorem dX1_lawValue_26 : decode cX1_lawValue 26 = .ok (.getfield 89, 3) := by decide +kernel
theorem dX1_lawValue_29 : decode cX1_lawValue 29 = .ok (.iload_n 1, 1) := by decide +kernel
theorem dX1_lawValue_30 : decode cX1_lawValue 30 = .ok (.iconst 4, 1) := by decide +kernel
theorem dX1_lawValue_31 : decode cX1_lawValue 31 = .ok (.irem, 1) := by decide +kernel
theorem dX1_lawValue_32 : decode cX1_lawValue 32 = .ok (.iaload, 1) := by decide +kernel
theorem dX1_lawValue_33 : decode cX1_lawValue 33 = .ok (.ireturn, 1) := by decide +kernel
theorem dX1_lawDay_0 : decode cX1_lawDay 0 = .ok (.iload_n 1, 1) := by decide +kernel
theorem dX1_lawDay_1 : decode cX1_lawDay 1 = .ok (.ifCond .ge 7, 3) := by decide +kernel
theorem dX1_lawDay_4 : decode cX1_lawDay 4 = .ok (.aconst_null, 1) := by decide +kernel
theorem dX1_lawDay_5 : decode cX1_lawDay 5 = .ok (.goto 10, 3) := by decide +kernel
theorem dX1_lawDay_8 : decode cX1_lawDay 8 = .ok (.aload_n 0, 1) := by decide +kernel
theorem dX1_lawDay_9 : decode cX1_lawDay 9 = .ok (.iload_n 1, 1) := by decide +kernel
theorem dX1_lawDay_10 : decode cX1_lawDay 10 = .ok (.iconst 4, 1) := by decide +kernel
theorem dX1_lawDay_11 : decode cX1_lawDay 11 = .ok (.idiv, 1) := by decide +kernel
theorem dX1_lawDay_12 : decode cX1_lawDay 12 = .ok (.invokevirtual 71, 3) := by decide +kernel
theorem dX1_lawDay_15 : decode cX1_lawDay 15 = .ok (.astore_n 2, 1) := by decide +kernel
theorem dX1_lawDay_16 : decode cX1_lawDay 16 = .ok (.aload_n 2, 1) := by decide +kernel
theorem dX1_lawDay_17 : decode cX1_lawDay 17 = .ok (.ifnonnull 7, 3) := by decide +kernel
theorem dX1_lawDay_20 : decode cX1_lawDay 20 = .ok (.iconst (-1), 1) := by decide +kernel
theorem dX1_lawDay_21 : decode cX1_lawDay 21 = .ok (.goto 11, 3) := by decide +kernel
theorem dX1_lawDay_24 : decode cX1_lawDay 24 = .ok (.aload_n 2, 1) := by decide +kernel
theorem dX1_lawDay_25 : decode cX1_lawDay 25 = .ok (.getfield 85, 3) := by decide +kernel
theorem dX1_lawDay_28 : decode cX1_lawDay 28 = .ok (.iload_n 1, 1) := by decide +kernel
theorem dX1_lawDay_29 : decode cX1_lawDay 29 = .ok (.iconst 4, 1) := by decide +kernel
theorem dX1_lawDay_30 : decode cX1_lawDay 30 = .ok (.irem, 1) := by decide +kernel
theorem dX1_lawDay_31 : decode cX1_lawDay 31 = .ok (.iaload, 1) := by decide +kernel
theorem dX1_lawDay_32 : decode cX1_lawDay 32 = .ok (.ireturn, 1) := by decide +kernel
theorem dX1_countChanges_0 : decode cX1_countChanges 0 = .ok (.iconst 0, 1) := by decide +kernel
theorem dX1_countChanges_1 : decode cX1_countChanges 1 = .ok (.istore_n 3, 1) := by decide +kernel
theorem dX1_countChanges_2 : decode cX1_countChanges 2 = .ok (.aload_n 0, 1) := by decide +kernel
theorem dX1_countChanges_3 : decode cX1_countChanges 3 = .ok (.iload_n 1, 1) := by decide +kernel
theorem dX1_countChanges_4 : decode cX1_countChanges 4 = .ok (.sipush 9999, 3) := by decide +kernel
theorem dX1_countChanges_7 : decode cX1_countChanges 7 = .ok (.iload_n 2, 1) := by decide +kernel
theorem dX1_countChanges_8 : decode cX1_countChanges 8 = .ok (.invokevirtual 92, 3) := by decide +kernel
theorem dX1_countChanges_11 : decode cX1_countChanges 11 = .ok (.istore 4, 2) := by decide +kernel
theorem dX1_countChanges_13 : decode cX1_countChanges 13 = .ok (.iconst 0, 1) := by decide +kernel
theorem dX1_countChanges_14 : decode cX1_countChanges 14 = .ok (.istore 5, 2) := by decide +kernel
theorem dX1_countChanges_16 : decode cX1_countChanges 16 = .ok (.iload 5, 2) := by decide +kernel
theorem dX1_countChanges_18 : decode cX1_countChanges 18 = .ok (.sipush 240, 3) := by decide +kernel
theorem dX1_countChanges_21 : decode cX1_countChanges 21 = .ok (.if_icmp .ge 58, 3) := by decide +kernel
theorem dX1_countChanges_24 : decode cX1_countChanges 24 = .ok (.iload 4, 2) := by decide +kernel
theorem dX1_countChanges_26 : decode cX1_countChanges 26 = .ok (.iconst (-1), 1) := by decide +kernel
theorem dX1_countChanges_27 : decode cX1_countChanges 27 = .ok (.if_icmp .eq 52, 3) := by decide +kernel
theorem dX1_countChanges_30 : decode cX1_countChanges 30 = .ok (.aload_n 0, 1) := by decide +kernel
theorem dX1_countChanges_31 : decode cX1_countChanges 31 = .ok (.iload_n 1, 1) := by decide +kernel
theorem dX1_countChanges_32 : decode cX1_countChanges 32 = .ok (.aload_n 0, 1) := by decide +kernel
theorem dX1_countChanges_33 : decode cX1_countChanges 33 = .ok (.iload 4, 2) := by decide +kernel
theorem dX1_countChanges_35 : decode cX1_countChanges 35 = .ok (.invokevirtual 96, 3) := by decide +kernel
theorem dX1_countChanges_38 : decode cX1_countChanges 38 = .ok (.iconst 1, 1) := by decide +kernel
theorem dX1_countChanges_39 : decode cX1_countChanges 39 = .ok (.isub, 1) := by decide +kernel
theorem dX1_countChanges_40 : decode cX1_countChanges 40 = .ok (.iload_n 2, 1) := by decide +kernel
theorem dX1_countChanges_41 : decode cX1_countChanges 41 = .ok (.invokevirtual 92, 3) := by decide +kernel
theorem dX1_countChanges_44 : decode cX1_countChanges 44 = .ok (.istore 6, 2) := by decide +kernel
theorem dX1_countChanges_46 : decode cX1_countChanges 46 = .ok (.iload_n 3, 1) := by decide +kernel
theorem dX1_countChanges_47 : decode cX1_countChanges 47 = .ok (.aload_n 0, 1) := by decide +kernel
theorem dX1_countChanges_48 : decode cX1_countChanges 48 = .ok (.iload 6, 2) := by decide +kernel
theorem dX1_countChanges_50 : decode cX1_countChanges 50 = .ok (.invokevirtual 100, 3) := by decide +kernel
theorem dX1_countChanges_53 : decode cX1_countChanges 53 = .ok (.aload_n 0, 1) := by decide +kernel
theorem dX1_countChanges_54 : decode cX1_countChanges 54 = .ok (.iload 4, 2) := by decide +kernel
theorem dX1_countChanges_56 : decode cX1_countChanges 56 = .ok (.invokevirtual 100, 3) := by decide +kernel
theorem dX1_countChanges_59 : decode cX1_countChanges 59 = .ok (.if_icmp .eq 7, 3) := by decide +kernel
theorem dX1_countChanges_62 : decode cX1_countChanges 62 = .ok (.iconst 1, 1) := by decide +kernel
theorem dX1_countChanges_63 : decode cX1_countChanges 63 = .ok (.goto 4, 3) := by decide +kernel
theorem dX1_countChanges_66 : decode cX1_countChanges 66 = .ok (.iconst 0, 1) := by decide +kernel
theorem dX1_countChanges_67 : decode cX1_countChanges 67 = .ok (.iadd, 1) := by decide +kernel
theorem dX1_countChanges_68 : decode cX1_countChanges 68 = .ok (.istore_n 3, 1) := by decide +kernel
theorem dX1_countChanges_69 : decode cX1_countChanges 69 = .ok (.iload 6, 2) := by decide +kernel
theorem dX1_countChanges_71 : decode cX1_countChanges 71 = .ok (.istore 4, 2) := by decide +kernel
theorem dX1_countChanges_73 : decode cX1_countChanges 73 = .ok (.iinc 5 1, 3) := by decide +kernel
theorem dX1_countChanges_76 : decode cX1_countChanges 76 = .ok (.goto (-60), 3) := by decide +kernel
theorem dX1_countChanges_79 : decode cX1_countChanges 79 = .ok (.iload_n 3, 1) := by decide +kernel
theorem dX1_countChanges_80 : decode cX1_countChanges 80 = .ok (.ireturn, 1) := by decide +kernel
theorem dX1_gatherNames_0 : decode cX1_gatherNames 0 = .ok (.aload_n 0, 1) := by decide +kernel
theorem dX1_gatherNames_1 : decode cX1_gatherNames 1 = .ok (.getfield 17, 3) := by decide +kernel
theorem dX1_gatherNames_4 : decode cX1_gatherNames 4 = .ok (.iconst 0, 1) := by decide +kernel
theorem dX1_gatherNames_5 : decode cX1_gatherNames 5 = .ok (.lload_n 1, 1) := by decide +kernel
theorem dX1_gatherNames_6 : decode cX1_gatherNames 6 = .ok (.lastore, 1) := by decide +kernel
theorem dX1_gatherNames_7 : decode cX1_gatherNames 7 = .ok (.aload_n 0, 1) := by decide +kernel
theorem dX1_gatherNames_8 : decode cX1_gatherNames 8 = .ok (.iconst 1, 1) := by decide +kernel
theorem dX1_gatherNames_9 : decode cX1_gatherNames 9 = .ok (.putfield 103, 3) := by decide +kernel
theorem dX1_gatherNames_12 : decode cX1_gatherNames 12 = .ok (.iconst 1, 1) := by decide +kernel
theorem dX1_gatherNames_13 : decode cX1_gatherNames 13 = .ok (.istore 4, 2) := by decide +kernel
theorem dX1_gatherNames_15 : decode cX1_gatherNames 15 = .ok (.iconst 0, 1) := by decide +kernel
theorem dX1_gatherNames_16 : decode cX1_gatherNames 16 = .ok (.istore 5, 2) := by decide +kernel
theorem dX1_gatherNames_18 : decode cX1_gatherNames 18 = .ok (.iload 5, 2) := by decide +kernel
theorem dX1_gatherNames_20 : decode cX1_gatherNames 20 = .ok (.bipush 60, 2) := by decide +kernel
theorem dX1_gatherNames_22 : decode cX1_gatherNames 22 = .ok (.if_icmp .gt 21, 3) := by decide +kernel
theorem dX1_gatherNames_25 : decode cX1_gatherNames 25 = .ok (.iload 4, 2) := by decide +kernel
theorem dX1_gatherNames_27 : decode cX1_gatherNames 27 = .ok (.ifCond .eq 16, 3) := by decide +kernel
theorem dX1_gatherNames_30 : decode cX1_gatherNames 30 = .ok (.aload_n 0, 1) := by decide +kernel
theorem dX1_gatherNames_31 : decode cX1_gatherNames 31 = .ok (.iload_n 3, 1) := by decide +kernel
theorem dX1_gatherNames_32 : decode cX1_gatherNames 32 = .ok (.invokevirtual 106, 3) := by decide +kernel
theorem dX1_gatherNames_35 : decode cX1_gatherNames 35 = .ok (.istore 4, 2) := by decide +kernel
theorem dX1_gatherNames_37 : decode cX1_gatherNames 37 = .ok (.iinc 5 1, 3) := by decide +kernel
theorem dX1_gatherNames_40 : decode cX1_gatherNames 40 = .ok (.goto (-22), 3) := by decide +kernel
theorem dX1_gatherNames_43 : decode cX1_gatherNames 43 = .ok (.return_, 1) := by decide +kernel
theorem dX1_addOlderNames_0 : decode cX1_addOlderNames 0 = .ok (.aload_n 0, 1) := by decide +kernel
theorem dX1_addOlderNames_1 : decode cX1_addOlderNames 1 = .ok (.getfield 103, 3) := by decide +kernel
theorem dX1_addOlderNames_4 : decode cX1_addOlderNames 4 = .ok (.istore_n 2, 1) := by decide +kernel
theorem dX1_addOlderNames_5 : decode cX1_addOlderNames 5 = .ok (.iconst 0, 1) := by decide +kernel
theorem dX1_addOlderNames_6 : decode cX1_addOlderNames 6 = .ok (.istore_n 3, 1) := by decide +kernel
theorem dX1_addOlderNames_7 : decode cX1_addOlderNames 7 = .ok (.iload_n 3, 1) := by decide +kernel
theorem dX1_addOlderNames_8 : decode cX1_addOlderNames 8 = .ok (.aload_n 0, 1) := by decide +kernel
theorem dX1_addOlderNames_9 : decode cX1_addOlderNames 9 = .ok (.getfield 26, 3) := by decide +kernel
theorem dX1_addOlderNames_12 : decode cX1_addOlderNames 12 = .ok (.if_icmp .ge 96, 3) := by decide +kernel
theorem dX1_addOlderNames_15 : decode cX1_addOlderNames 15 = .ok (.aload_n 0, 1) := by decide +kernel
theorem dX1_addOlderNames_16 : decode cX1_addOlderNames 16 = .ok (.getfield 103, 3) := by decide +kernel
theorem dX1_addOlderNames_19 : decode cX1_addOlderNames 19 = .ok (.aload_n 0, 1) := by decide +kernel
theorem dX1_addOlderNames_20 : decode cX1_addOlderNames 20 = .ok (.getfield 17, 3) := by decide +kernel
theorem dX1_addOlderNames_23 : decode cX1_addOlderNames 23 = .ok (.arraylength, 1) := by decide +kernel
theorem dX1_addOlderNames_24 : decode cX1_addOlderNames 24 = .ok (.if_icmp .ge 84, 3) := by decide +kernel
theorem dX1_addOlderNames_27 : decode cX1_addOlderNames 27 = .ok (.aload_n 0, 1) := by decide +kernel
theorem dX1_addOlderNames_28 : decode cX1_addOlderNames 28 = .ok (.getfield 11, 3) := by decide +kernel
theorem dX1_addOlderNames_31 : decode cX1_addOlderNames 31 = .ok (.iload_n 3, 1) := by decide +kernel
theorem dX1_addOlderNames_32 : decode cX1_addOlderNames 32 = .ok (.aaload, 1) := by decide +kernel
theorem dX1_addOlderNames_33 : decode cX1_addOlderNames 33 = .ok (.astore 4, 2) := by decide +kernel
theorem dX1_addOlderNames_35 : decode cX1_addOlderNames 35 = .ok (.aload 4, 2) := by decide +kernel
theorem dX1_addOlderNames_37 : decode cX1_addOlderNames 37 = .ok (.getfield 109, 3) := by decide +kernel
theorem dX1_addOlderNames_40 : decode cX1_addOlderNames 40 = .ok (.lconst 0, 1) := by decide +kernel
theorem dX1_addOlderNames_41 : decode cX1_addOlderNames 41 = .ok (.lcmp, 1) := by decide +kernel
theorem dX1_addOlderNames_42 : decode cX1_addOlderNames 42 = .ok (.ifCond .eq 60, 3) := by decide +kernel
theorem dX1_addOlderNames_45 : decode cX1_addOlderNames 45 = .ok (.aload 4, 2) := by decide +kernel
theorem dX1_addOlderNames_47 : decode cX1_addOlderNames 47 = .ok (.iload_n 1, 1) := by decide +kernel
theorem dX1_addOlderNames_48 : decode cX1_addOlderNames 48 = .ok (.invokevirtual 75, 3) := by decide +kernel
theorem dX1_addOlderNames_51 : decode cX1_addOlderNames 51 = .ok (.ifCond .eq 51, 3) := by decide +kernel
theorem dX1_addOlderNames_54 : decode cX1_addOlderNames 54 = .ok (.aload_n 0, 1) := by decide +kernel
theorem dX1_addOlderNames_55 : decode cX1_addOlderNames 55 = .ok (.aload 4, 2) := by decide +kernel
theorem dX1_addOlderNames_57 : decode cX1_addOlderNames 57 = .ok (.getfield 109, 3) := by decide +kernel
theorem dX1_addOlderNames_60 : decode cX1_addOlderNames 60 = .ok (.invokevirtual 113, 3) := by decide +kernel
theorem dX1_addOlderNames_63 : decode cX1_addOlderNames 63 = .ok (.ifCond .eq 39, 3) := by decide +kernel
theorem dX1_addOlderNames_66 : decode cX1_addOlderNames 66 = .ok (.aload_n 0, 1) := by decide +kernel
theorem dX1_addOlderNames_67 : decode cX1_addOlderNames 67 = .ok (.aload 4, 2) := by decide +kernel
theorem dX1_addOlderNames_69 : decode cX1_addOlderNames 69 = .ok (.getfield 117, 3) := by decide +kernel
theorem dX1_addOlderNames_72 : decode cX1_addOlderNames 72 = .ok (.invokevirtual 113, 3) := by decide +kernel
theorem dX1_addOlderNames_75 : decode cX1_addOlderNames 75 = .ok (.ifCond .ne 27, 3) := by decide +kernel
theorem dX1_addOlderNames_78 : decode cX1_addOlderNames 78 = .ok (.aload_n 0, 1) := by decide +kernel
theorem dX1_addOlderNames_79 : decode cX1_addOlderNames 79 = .ok (.getfield 17, 3) := by decide +kernel
theorem dX1_addOlderNames_82 : decode cX1_addOlderNames 82 = .ok (.aload_n 0, 1) := by decide +kernel
theorem dX1_addOlderNames_83 : decode cX1_addOlderNames 83 = .ok (.getfield 103, 3) := by decide +kernel
theorem dX1_addOlderNames_86 : decode cX1_addOlderNames 86 = .ok (.aload 4, 2) := by decide +kernel
theorem dX1_addOlderNames_88 : decode cX1_addOlderNames 88 = .ok (.getfield 117, 3) := by decide +kernel
theorem dX1_addOlderNames_91 : decode cX1_addOlderNames 91 = .ok (.lastore, 1) := by decide +kernel
theorem dX1_addOlderNames_92 : decode cX1_addOlderNames 92 = .ok (.aload_n 0, 1) := by decide +kernel
theorem dX1_addOlderNames_93 : decode cX1_addOlderNames 93 = .ok (.dup, 1) := by decide +kernel
theorem dX1_addOlderNames_94 : decode cX1_addOlderNames 94 = .ok (.getfield 103, 3) := by decide +kernel
theorem dX1_addOlderNames_97 : decode cX1_addOlderNames 97 = .ok (.iconst 1, 1) := by decide +kernel
theorem dX1_addOlderNames_98 : decode cX1_addOlderNames 98 = .ok (.iadd, 1) := by decide +kernel
theorem dX1_addOlderNames_99 : decode cX1_addOlderNames 99 = .ok (.putfield 103, 3) := by decide +kernel
theorem dX1_addOlderNames_102 : decode cX1_addOlderNames 102 = .ok (.iinc 3 1, 3) := by decide +kernel
theorem dX1_addOlderNames_105 : decode cX1_addOlderNames 105 = .ok (.goto (-98), 3) := by decide +kernel
theorem dX1_addOlderNames_108 : decode cX1_addOlderNames 108 = .ok (.aload_n 0, 1) := by decide +kernel
theorem dX1_addOlderNames_109 : decode cX1_addOlderNames 109 = .ok (.getfield 103, 3) := by decide +kernel
theorem dX1_addOlderNames_112 : decode cX1_addOlderNames 112 = .ok (.iload_n 2, 1) := by decide +kernel
theorem dX1_addOlderNames_113 : decode cX1_addOlderNames 113 = .ok (.if_icmp .le 7, 3) := by decide +kernel
theorem dX1_addOlderNames_116 : decode cX1_addOlderNames 116 = .ok (.iconst 1, 1) := by decide +kernel
theorem dX1_addOlderNames_117 : decode cX1_addOlderNames 117 = .ok (.goto 4, 3) := by decide +kernel
theorem dX1_addOlderNames_120 : decode cX1_addOlderNames 120 = .ok (.iconst 0, 1) := by decide +kernel
theorem dX1_addOlderNames_121 : decode cX1_addOlderNames 121 = .ok (.ireturn, 1) := by decide +kernel
theorem dX1_isName_0 : decode cX1_isName 0 = .ok (.iconst 0, 1) := by decide +kernel
theorem dX1_isName_1 : decode cX1_isName 1 = .ok (.istore_n 3, 1) := by decide +kernel
theorem dX1_isName_2 : decode cX1_isName 2 = .ok (.iload_n 3, 1) := by decide +kernel
theorem dX1_isName_3 : decode cX1_isName 3 = .ok (.aload_n 0, 1) := by decide +kernel
theorem dX1_isName_4 : decode cX1_isName 4 = .ok (.getfield 103, 3) := by decide +kernel
theorem dX1_isName_7 : decode cX1_isName 7 = .ok (.if_icmp .ge 22, 3) := by decide +kernel
theorem dX1_isName_10 : decode cX1_isName 10 = .ok (.aload_n 0, 1) := by decide +kernel
theorem dX1_isName_11 : decode cX1_isName 11 = .ok (.getfield 17, 3) := by decide +kernel
theorem dX1_isName_14 : decode cX1_isName 14 = .ok (.iload_n 3, 1) := by decide +kernel
theorem dX1_isName_15 : decode cX1_isName 15 = .ok (.laload, 1) := by decide +kernel
theorem dX1_isName_16 : decode cX1_isName 16 = .ok (.lload_n 1, 1) := by decide +kernel
theorem dX1_isName_17 : decode cX1_isName 17 = .ok (.lcmp, 1) := by decide +kernel
theorem dX1_isName_18 : decode cX1_isName 18 = .ok (.ifCond .ne 5, 3) := by decide +kernel
theorem dX1_isName_21 : decode cX1_isName 21 = .ok (.iconst 1, 1) := by decide +kernel
theorem dX1_isName_22 : decode cX1_isName 22 = .ok (.ireturn, 1) := by decide +kernel
theorem dX1_isName_23 : decode cX1_isName 23 = .ok (.iinc 3 1, 3) := by decide +kernel
theorem dX1_isName_26 : decode cX1_isName 26 = .ok (.goto (-24), 3) := by decide +kernel
theorem dX1_isName_29 : decode cX1_isName 29 = .ok (.iconst 0, 1) := by decide +kernel
theorem dX1_isName_30 : decode cX1_isName 30 = .ok (.ireturn, 1) := by decide +kernel
theorem dX1_search_0 : decode cX1_search 0 = .ok (.aload_n 0, 1) := by decide +kernel
theorem dX1_search_1 : decode cX1_search 1 = .ok (.iconst 0, 1) := by decide +kernel
theorem dX1_search_2 : decode cX1_search 2 = .ok (.putfield 120, 3) := by decide +kernel
theorem dX1_search_5 : decode cX1_search 5 = .ok (.iconst 0, 1) := by decide +kernel
theorem dX1_search_6 : decode cX1_search 6 = .ok (.istore_n 3, 1) := by decide +kernel
theorem dX1_search_7 : decode cX1_search 7 = .ok (.iload_n 3, 1) := by decide +kernel
theorem dX1_search_8 : decode cX1_search 8 = .ok (.aload_n 0, 1) := by decide +kernel
theorem dX1_search_9 : decode cX1_search 9 = .ok (.getfield 26, 3) := by decide +kernel
theorem dX1_search_12 : decode cX1_search 12 = .ok (.if_icmp .ge 84, 3) := by decide +kernel
theorem dX1_search_15 : decode cX1_search 15 = .ok (.aload_n 0, 1) := by decide +kernel
theorem dX1_search_16 : decode cX1_search 16 = .ok (.getfield 120, 3) := by decide +kernel
theorem dX1_search_19 : decode cX1_search 19 = .ok (.aload_n 0, 1) := by decide +kernel
theorem dX1_search_20 : decode cX1_search 20 = .ok (.getfield 21, 3) := by decide +kernel
theorem dX1_search_23 : decode cX1_search 23 = .ok (.arraylength, 1) := by decide +kernel
theorem dX1_search_24 : decode cX1_search 24 = .ok (.if_icmp .ge 72, 3) := by decide +kernel
theorem dX1_search_27 : decode cX1_search 27 = .ok (.aload_n 0, 1) := by decide +kernel
theorem dX1_search_28 : decode cX1_search 28 = .ok (.getfield 11, 3) := by decide +kernel
theorem dX1_search_31 : decode cX1_search 31 = .ok (.iload_n 3, 1) := by decide +kernel
theorem dX1_search_32 : decode cX1_search 32 = .ok (.aaload, 1) := by decide +kernel
theorem dX1_search_33 : decode cX1_search 33 = .ok (.astore 4, 2) := by decide +kernel
theorem dX1_search_35 : decode cX1_search 35 = .ok (.aload 4, 2) := by decide +kernel
theorem dX1_search_37 : decode cX1_search 37 = .ok (.iload_n 2, 1) := by decide +kernel
theorem dX1_search_38 : decode cX1_search 38 = .ok (.invokevirtual 75, 3) := by decide +kernel
theorem dX1_search_41 : decode cX1_search 41 = .ok (.ifCond .eq 49, 3) := by decide +kernel
theorem dX1_search_44 : decode cX1_search 44 = .ok (.aload 4, 2) := by decide +kernel
theorem dX1_search_46 : decode cX1_search 46 = .ok (.getfield 123, 3) := by decide +kernel
theorem dX1_search_49 : decode cX1_search 49 = .ok (.aload_n 1, 1) := by decide +kernel
theorem dX1_search_50 : decode cX1_search 50 = .ok (.arraylength, 1) := by decide +kernel
theorem dX1_search_51 : decode cX1_search 51 = .ok (.if_icmp .ge 39, 3) := by decide +kernel
theorem dX1_search_54 : decode cX1_search 54 = .ok (.aload_n 0, 1) := by decide +kernel
theorem dX1_search_55 : decode cX1_search 55 = .ok (.aload 4, 2) := by decide +kernel
theorem dX1_search_57 : decode cX1_search 57 = .ok (.aload_n 1, 1) := by decide +kernel
theorem dX1_search_58 : decode cX1_search 58 = .ok (.aload 4, 2) := by decide +kernel
theorem dX1_search_60 : decode cX1_search 60 = .ok (.getfield 123, 3) := by decide +kernel
theorem dX1_search_63 : decode cX1_search 63 = .ok (.aaload, 1) := by decide +kernel
theorem dX1_search_64 : decode cX1_search 64 = .ok (.invokevirtual 126, 3) := by decide +kernel
theorem dX1_search_67 : decode cX1_search 67 = .ok (.ifCond .eq 23, 3) := by decide +kernel
theorem dX1_search_70 : decode cX1_search 70 = .ok (.aload_n 0, 1) := by decide +kernel
theorem dX1_search_71 : decode cX1_search 71 = .ok (.getfield 21, 3) := by decide +kernel
theorem dX1_search_74 : decode cX1_search 74 = .ok (.aload_n 0, 1) := by decide +kernel
theorem dX1_search_75 : decode cX1_search 75 = .ok (.getfield 120, 3) := by decide +kernel
theorem dX1_search_78 : decode cX1_search 78 = .ok (.iload_n 3, 1) := by decide +kernel
theorem dX1_search_79 : decode cX1_search 79 = .ok (.iastore, 1) := by decide +kernel
theorem dX1_search_80 : decode cX1_search 80 = .ok (.aload_n 0, 1) := by decide +kernel
theorem dX1_search_81 : decode cX1_search 81 = .ok (.dup, 1) := by decide +kernel
theorem dX1_search_82 : decode cX1_search 82 = .ok (.getfield 120, 3) := by decide +kernel
theorem dX1_search_85 : decode cX1_search 85 = .ok (.iconst 1, 1) := by decide +kernel
theorem dX1_search_86 : decode cX1_search 86 = .ok (.iadd, 1) := by decide +kernel
theorem dX1_search_87 : decode cX1_search 87 = .ok (.putfield 120, 3) := by decide +kernel
theorem dX1_search_90 : decode cX1_search 90 = .ok (.iinc 3 1, 3) := by decide +kernel
theorem dX1_search_93 : decode cX1_search 93 = .ok (.goto (-86), 3) := by decide +kernel
theorem dX1_search_96 : decode cX1_search 96 = .ok (.return_, 1) := by decide +kernel
theorem dX1_hasName_0 : decode cX1_hasName 0 = .ok (.iconst 0, 1) := by decide +kernel
theorem dX1_hasName_1 : decode cX1_hasName 1 = .ok (.istore_n 3, 1) := by decide +kernel
theorem dX1_hasName_2 : decode cX1_hasName 2 = .ok (.iload_n 3, 1) := by decide +kernel
theorem dX1_hasName_3 : decode cX1_hasName 3 = .ok (.aload_n 2, 1) := by decide +kernel
theorem dX1_hasName_4 : decode cX1_hasName 4 = .ok (.getfield 130, 3) := by decide +kernel
theorem dX1_hasName_7 : decode cX1_hasName 7 = .ok (.if_icmp .ge 37, 3) := by decide +kernel
theorem dX1_hasName_10 : decode cX1_hasName 10 = .ok (.aload_n 2, 1) := by decide +kernel
theorem dX1_hasName_11 : decode cX1_hasName 11 = .ok (.getfield 133, 3) := by decide +kernel
theorem dX1_hasName_14 : decode cX1_hasName 14 = .ok (.iload_n 3, 1) := by decide +kernel
theorem dX1_hasName_15 : decode cX1_hasName 15 = .ok (.aaload, 1) := by decide +kernel
theorem dX1_hasName_16 : decode cX1_hasName 16 = .ok (.getfield 137, 3) := by decide +kernel
theorem dX1_hasName_19 : decode cX1_hasName 19 = .ok (.iconst 2, 1) := by decide +kernel
theorem dX1_hasName_20 : decode cX1_hasName 20 = .ok (.if_icmp .ne 18, 3) := by decide +kernel
theorem dX1_hasName_23 : decode cX1_hasName 23 = .ok (.aload_n 0, 1) := by decide +kernel
theorem dX1_hasName_24 : decode cX1_hasName 24 = .ok (.aload_n 1, 1) := by decide +kernel
theorem dX1_hasName_25 : decode cX1_hasName 25 = .ok (.getfield 142, 3) := by decide +kernel
theorem dX1_hasName_28 : decode cX1_hasName 28 = .ok (.iload_n 3, 1) := by decide +kernel
theorem dX1_hasName_29 : decode cX1_hasName 29 = .ok (.laload, 1) := by decide +kernel
theorem dX1_hasName_30 : decode cX1_hasName 30 = .ok (.invokevirtual 113, 3) := by decide +kernel
theorem dX1_hasName_33 : decode cX1_hasName 33 = .ok (.ifCond .eq 5, 3) := by decide +kernel
theorem dX1_hasName_36 : decode cX1_hasName 36 = .ok (.iconst 1, 1) := by decide +kernel
theorem dX1_hasName_37 : decode cX1_hasName 37 = .ok (.ireturn, 1) := by decide +kernel
theorem dX1_hasName_38 : decode cX1_hasName 38 = .ok (.iinc 3 1, 3) := by decide +kernel
theorem dX1_hasName_41 : decode cX1_hasName 41 = .ok (.goto (-39), 3) := by decide +kernel
theorem dX1_hasName_44 : decode cX1_hasName 44 = .ok (.iconst 0, 1) := by decide +kernel
theorem dX1_hasName_45 : decode cX1_hasName 45 = .ok (.ireturn, 1) := by decide +kernel
theorem dX1_isStruck_0 : decode cX1_isStruck 0 = .ok (.iconst 0, 1) := by decide +kernel
theorem dX1_isStruck_1 : decode cX1_isStruck 1 = .ok (.istore 4, 2) := by decide +kernel
theorem dX1_isStruck_3 : decode cX1_isStruck 3 = .ok (.iload 4, 2) := by decide +kernel
theorem dX1_isStruck_5 : decode cX1_isStruck 5 = .ok (.aload_n 0, 1) := by decide +kernel
theorem dX1_isStruck_6 : decode cX1_isStruck 6 = .ok (.getfield 26, 3) := by decide +kernel
theorem dX1_isStruck_9 : decode cX1_isStruck 9 = .ok (.if_icmp .ge 40, 3) := by decide +kernel
theorem dX1_isStruck_12 : decode cX1_isStruck 12 = .ok (.aload_n 0, 1) := by decide +kernel
theorem dX1_isStruck_13 : decode cX1_isStruck 13 = .ok (.getfield 11, 3) := by decide +kernel
theorem dX1_isStruck_16 : decode cX1_isStruck 16 = .ok (.iload 4, 2) := by decide +kernel
theorem dX1_isStruck_18 : decode cX1_isStruck 18 = .ok (.aaload, 1) := by decide +kernel
theorem dX1_isStruck_19 : decode cX1_isStruck 19 = .ok (.getfield 145, 3) := by decide +kernel
theorem dX1_isStruck_22 : decode cX1_isStruck 22 = .ok (.lload_n 1, 1) := by decide +kernel
theorem dX1_isStruck_23 : decode cX1_isStruck 23 = .ok (.lcmp, 1) := by decide +kernel
theorem dX1_isStruck_24 : decode cX1_isStruck 24 = .ok (.ifCond .ne 19, 3) := by decide +kernel
theorem dX1_isStruck_27 : decode cX1_isStruck 27 = .ok (.aload_n 0, 1) := by decide +kernel
theorem dX1_isStruck_28 : decode cX1_isStruck 28 = .ok (.getfield 11, 3) := by decide +kernel
theorem dX1_isStruck_31 : decode cX1_isStruck 31 = .ok (.iload 4, 2) := by decide +kernel
theorem dX1_isStruck_33 : decode cX1_isStruck 33 = .ok (.aaload, 1) := by decide +kernel
theorem dX1_isStruck_34 : decode cX1_isStruck 34 = .ok (.iload_n 3, 1) := by decide +kernel
theorem dX1_isStruck_35 : decode cX1_isStruck 35 = .ok (.invokevirtual 75, 3) := by decide +kernel
theorem dX1_isStruck_38 : decode cX1_isStruck 38 = .ok (.ifCond .eq 5, 3) := by decide +kernel
theorem dX1_isStruck_41 : decode cX1_isStruck 41 = .ok (.iconst 1, 1) := by decide +kernel
theorem dX1_isStruck_42 : decode cX1_isStruck 42 = .ok (.ireturn, 1) := by decide +kernel
theorem dX1_isStruck_43 : decode cX1_isStruck 43 = .ok (.iinc 4 1, 3) := by decide +kernel
theorem dX1_isStruck_46 : decode cX1_isStruck 46 = .ok (.goto (-43), 3) := by decide +kernel
theorem dX1_isStruck_49 : decode cX1_isStruck 49 = .ok (.iconst 0, 1) := by decide +kernel
theorem dX1_isStruck_50 : decode cX1_isStruck 50 = .ok (.ireturn, 1) := by decide +kernel
theorem dX2_init_0 : decode cX2_init 0 = .ok (.aload_n 0, 1) := by decide +kernel
theorem dX2_init_1 : decode cX2_init 1 = .ok (.invokespecial 3, 3) := by decide +kernel
theorem dX2_init_4 : decode cX2_init 4 = .ok (.aload_n 0, 1) := by decide +kernel
theorem dX2_init_5 : decode cX2_init 5 = .ok (.sipush 157, 3) := by decide +kernel
theorem dX2_init_8 : decode cX2_init 8 = .ok (.newarray .long, 2) := by decide +kernel
theorem dX2_init_10 : decode cX2_init 10 = .ok (.putfield 9, 3) := by decide +kernel
theorem dX2_init_13 : decode cX2_init 13 = .ok (.return_, 1) := by decide +kernel
theorem dX2_isFeast_0 : decode cX2_isFeast 0 = .ok (.iload_n 1, 1) := by decide +kernel
theorem dX2_isFeast_1 : decode cX2_isFeast 1 = .ok (.bipush 6, 2) := by decide +kernel
theorem dX2_isFeast_3 : decode cX2_isFeast 3 = .ok (.ishr, 1) := by decide +kernel
theorem dX2_isFeast_4 : decode cX2_isFeast 4 = .ok (.istore_n 2, 1) := by decide +kernel
theorem dX2_isFeast_5 : decode cX2_isFeast 5 = .ok (.iload_n 2, 1) := by decide +kernel
theorem dX2_isFeast_6 : decode cX2_isFeast 6 = .ok (.ifCond .lt 34, 3) := by decide +kernel
theorem dX2_isFeast_9 : decode cX2_isFeast 9 = .ok (.iload_n 2, 1) := by decide +kernel
theorem dX2_isFeast_10 : decode cX2_isFeast 10 = .ok (.aload_n 0, 1) := by decide +kernel
theorem dX2_isFeast_11 : decode cX2_isFeast 11 = .ok (.getfield 9, 3) := by decide +kernel
theorem dX2_isFeast_14 : decode cX2_isFeast 14 = .ok (.arraylength, 1) := by decide +kernel
theorem dX2_isFeast_15 : decode cX2_isFeast 15 = .ok (.if_icmp .ge 25, 3) := by decide +kernel
theorem dX2_isFeast_18 : decode cX2_isFeast 18 = .ok (.aload_n 0, 1) := by decide +kernel
theorem dX2_isFeast_19 : decode cX2_isFeast 19 = .ok (.getfield 9, 3) := by decide +kernel
theorem dX2_isFeast_22 : decode cX2_isFeast 22 = .ok (.iload_n 2, 1) := by decide +kernel
theorem dX2_isFeast_23 : decode cX2_isFeast 23 = .ok (.laload, 1) := by decide +kernel
theorem dX2_isFeast_24 : decode cX2_isFeast 24 = .ok (.iload_n 1, 1) := by decide +kernel
theorem dX2_isFeast_25 : decode cX2_isFeast 25 = .ok (.bipush 63, 2) := by decide +kernel
theorem dX2_isFeast_27 : decode cX2_isFeast 27 = .ok (.iand, 1) := by decide +kernel
theorem dX2_isFeast_28 : decode cX2_isFeast 28 = .ok (.lushr, 1) := by decide +kernel
theorem dX2_isFeast_29 : decode cX2_isFeast 29 = .ok (.lconst 1, 1) := by decide +kernel
theorem dX2_isFeast_30 : decode cX2_isFeast 30 = .ok (.land, 1) := by decide +kernel
theorem dX2_isFeast_31 : decode cX2_isFeast 31 = .ok (.lconst 0, 1) := by decide +kernel
theorem dX2_isFeast_32 : decode cX2_isFeast 32 = .ok (.lcmp, 1) := by decide +kernel
theorem dX2_isFeast_33 : decode cX2_isFeast 33 = .ok (.ifCond .eq 7, 3) := by decide +kernel
theorem dX2_isFeast_36 : decode cX2_isFeast 36 = .ok (.iconst 1, 1) := by decide +kernel
theorem dX2_isFeast_37 : decode cX2_isFeast 37 = .ok (.goto 4, 3) := by decide +kernel
theorem dX2_isFeast_40 : decode cX2_isFeast 40 = .ok (.iconst 0, 1) := by decide +kernel
theorem dX2_isFeast_41 : decode cX2_isFeast 41 = .ok (.ireturn, 1) := by decide +kernel
theorem dX2_setFeast_0 : decode cX2_setFeast 0 = .ok (.iload_n 1, 1) := by decide +kernel
theorem dX2_setFeast_1 : decode cX2_setFeast 1 = .ok (.invokestatic 15, 3) := by decide +kernel
theorem dX2_setFeast_4 : decode cX2_setFeast 4 = .ok (.ifCond .eq 12, 3) := by decide +kernel
theorem dX2_setFeast_7 : decode cX2_setFeast 7 = .ok (.aload_n 0, 1) := by decide +kernel
theorem dX2_setFeast_8 : decode cX2_setFeast 8 = .ok (.iload_n 1, 1) := by decide +kernel
theorem dX2_setFeast_9 : decode cX2_setFeast 9 = .ok (.invokevirtual 19, 3) := by decide +kernel
theorem dX2_setFeast_12 : decode cX2_setFeast 12 = .ok (.iload_n 2, 1) := by decide +kernel
theorem dX2_setFeast_13 : decode cX2_setFeast 13 = .ok (.if_icmp .ne 4, 3) := by decide +kernel
theorem dX2_setFeast_16 : decode cX2_setFeast 16 = .ok (.return_, 1) := by decide +kernel
theorem dX2_setFeast_17 : decode cX2_setFeast 17 = .ok (.aload_n 0, 1) := by decide +kernel
theorem dX2_setFeast_18 : decode cX2_setFeast 18 = .ok (.getfield 9, 3) := by decide +kernel
theorem dX2_setFeast_21 : decode cX2_setFeast 21 = .ok (.iload_n 1, 1) := by decide +kernel
theorem dX2_setFeast_22 : decode cX2_setFeast 22 = .ok (.bipush 6, 2) := by decide +kernel
theorem dX2_setFeast_24 : decode cX2_setFeast 24 = .ok (.ishr, 1) := by decide +kernel
theorem dX2_setFeast_25 : decode cX2_setFeast 25 = .ok (.dup2, 1) := by decide +kernel
theorem dX2_setFeast_26 : decode cX2_setFeast 26 = .ok (.laload, 1) := by decide +kernel
theorem dX2_setFeast_27 : decode cX2_setFeast 27 = .ok (.lconst 1, 1) := by decide +kernel
theorem dX2_setFeast_28 : decode cX2_setFeast 28 = .ok (.iload_n 1, 1) := by decide +kernel
theorem dX2_setFeast_29 : decode cX2_setFeast 29 = .ok (.bipush 63, 2) := by decide +kernel
theorem dX2_setFeast_31 : decode cX2_setFeast 31 = .ok (.iand, 1) := by decide +kernel
theorem dX2_setFeast_32 : decode cX2_setFeast 32 = .ok (.lshl, 1) := by decide +kernel
theorem dX2_setFeast_33 : decode cX2_setFeast 33 = .ok (.lxor, 1) := by decide +kernel
theorem dX2_setFeast_34 : decode cX2_setFeast 34 = .ok (.lastore, 1) := by decide +kernel
theorem dX2_setFeast_35 : decode cX2_setFeast 35 = .ok (.aload_n 0, 1) := by decide +kernel
theorem dX2_setFeast_36 : decode cX2_setFeast 36 = .ok (.dup, 1) := by decide +kernel
theorem dX2_setFeast_37 : decode cX2_setFeast 37 = .ok (.getfield 22, 3) := by decide +kernel
theorem dX2_setFeast_40 : decode cX2_setFeast 40 = .ok (.iload_n 2, 1) := by decide +kernel
theorem dX2_setFeast_41 : decode cX2_setFeast 41 = .ok (.ifCond .eq 7, 3) := by decide +kernel
theorem dX2_setFeast_44 : decode cX2_setFeast 44 = .ok (.iconst 1, 1) := by decide +kernel
theorem dX2_setFeast_45 : decode cX2_setFeast 45 = .ok (.goto 4, 3) := by decide +kernel
theorem dX2_setFeast_48 : decode cX2_setFeast 48 = .ok (.iconst (-1), 1) := by decide +kernel
theorem dX2_setFeast_49 : decode cX2_setFeast 49 = .ok (.iadd, 1) := by decide +kernel
theorem dX2_setFeast_50 : decode cX2_setFeast 50 = .ok (.putfield 22, 3) := by decide +kernel
theorem dX2_setFeast_53 : decode cX2_setFeast 53 = .ok (.return_, 1) := by decide +kernel
theorem dX2_isWorking_0 : decode cX2_isWorking 0 = .ok (.iload_n 1, 1) := by decide +kernel
theorem dX2_isWorking_1 : decode cX2_isWorking 1 = .ok (.bipush 7, 2) := by decide +kernel
theorem dX2_isWorking_3 : decode cX2_isWorking 3 = .ok (.irem, 1) := by decide +kernel
theorem dX2_isWorking_4 : decode cX2_isWorking 4 = .ok (.iconst 5, 1) := by decide +kernel
theorem dX2_isWorking_5 : decode cX2_isWorking 5 = .ok (.if_icmp .ge 15, 3) := by decide +kernel
theorem dX2_isWorking_8 : decode cX2_isWorking 8 = .ok (.aload_n 0, 1) := by decide +kernel
theorem dX2_isWorking_9 : decode cX2_isWorking 9 = .ok (.iload_n 1, 1) := by decide +kernel
theorem dX2_isWorking_10 : decode cX2_isWorking 10 = .ok (.invokevirtual 19, 3) := by decide +kernel
theorem dX2_isWorking_13 : decode cX2_isWorking 13 = .ok (.ifCond .ne 7, 3) := by decide +kernel
theorem dX2_isWorking_16 : decode cX2_isWorking 16 = .ok (.iconst 1, 1) := by decide +kernel
theorem dX2_isWorking_17 : decode cX2_isWorking 17 = .ok (.goto 4, 3) := by decide +kernel
theorem dX2_isWorking_20 : decode cX2_isWorking 20 = .ok (.iconst 0, 1) := by decide +kernel
theorem dX2_isWorking_21 : decode cX2_isWorking 21 = .ok (.ireturn, 1) := by decide +kernel
theorem dX2_behind_0 : decode cX2_behind 0 = .ok (.iload_n 3, 1) := by decide +kernel
theorem dX2_behind_1 : decode cX2_behind 1 = .ok (.ifCond .ne 17, 3) := by decide +kernel
theorem dX2_behind_4 : decode cX2_behind 4 = .ok (.aload_n 0, 1) := by decide +kernel
theorem dX2_behind_5 : decode cX2_behind 5 = .ok (.iload_n 1, 1) := by decide +kernel
theorem dX2_behind_6 : decode cX2_behind 6 = .ok (.iload_n 2, 1) := by decide +kernel
theorem dX2_behind_7 : decode cX2_behind 7 = .ok (.iadd, 1) := by decide +kernel
theorem dX2_behind_8 : decode cX2_behind 8 = .ok (.sipush 10000, 3) := by decide +kernel
theorem dX2_behind_11 : decode cX2_behind 11 = .ok (.invokestatic 26, 3) := by decide +kernel
theorem dX2_behind_14 : decode cX2_behind 14 = .ok (.invokevirtual 32, 3) := by decide +kernel
theorem dX2_behind_17 : decode cX2_behind 17 = .ok (.ireturn, 1) := by decide +kernel
theorem dX2_behind_18 : decode cX2_behind 18 = .ok (.iload_n 1, 1) := by decide +kernel
theorem dX2_behind_19 : decode cX2_behind 19 = .ok (.istore 4, 2) := by decide +kernel
theorem dX2_behind_21 : decode cX2_behind 21 = .ok (.iload_n 2, 1) := by decide +kernel
theorem dX2_behind_22 : decode cX2_behind 22 = .ok (.istore 5, 2) := by decide +kernel
theorem dX2_behind_24 : decode cX2_behind 24 = .ok (.iload 5, 2) := by decide +kernel
theorem dX2_behind_26 : decode cX2_behind 26 = .ok (.ifCond .le 27, 3) := by decide +kernel
theorem dX2_behind_29 : decode cX2_behind 29 = .ok (.iload 4, 2) := by decide +kernel
theorem dX2_behind_31 : decode cX2_behind 31 = .ok (.sipush 10000, 3) := by decide +kernel
theorem dX2_behind_34 : decode cX2_behind 34 = .ok (.if_icmp .ge 19, 3) := by decide +kernel
theorem dX2_behind_37 : decode cX2_behind 37 = .ok (.aload_n 0, 1) := by decide +kernel
theorem dX2_behind_38 : decode cX2_behind 38 = .ok (.iload 4, 2) := by decide +kernel
theorem dX2_behind_40 : decode cX2_behind 40 = .ok (.iconst 1, 1) := by decide +kernel
theorem dX2_behind_41 : decode cX2_behind 41 = .ok (.iadd, 1) := by decide +kernel
theorem dX2_behind_42 : decode cX2_behind 42 = .ok (.invokevirtual 32, 3) := by decide +kernel
theorem dX2_behind_45 : decode cX2_behind 45 = .ok (.istore 4, 2) := by decide +kernel
theorem dX2_behind_47 : decode cX2_behind 47 = .ok (.iinc 5 (-1), 3) := by decide +kernel
theorem dX2_behind_50 : decode cX2_behind 50 = .ok (.goto (-26), 3) := by decide +kernel
theorem dX2_behind_53 : decode cX2_behind 53 = .ok (.iload 4, 2) := by decide +kernel
theorem dX2_behind_55 : decode cX2_behind 55 = .ok (.ireturn, 1) := by decide +kernel
theorem dX2_workingFrom_0 : decode cX2_workingFrom 0 = .ok (.iload_n 1, 1) := by decide +kernel
theorem dX2_workingFrom_1 : decode cX2_workingFrom 1 = .ok (.istore_n 2, 1) := by decide +kernel
theorem dX2_workingFrom_2 : decode cX2_workingFrom 2 = .ok (.iload_n 2, 1) := by decide +kernel
theorem dX2_workingFrom_3 : decode cX2_workingFrom 3 = .ok (.sipush 10000, 3) := by decide +kernel
theorem dX2_workingFrom_6 : decode cX2_workingFrom 6 = .ok (.if_icmp .ge 17, 3) := by decide +kernel
theorem dX2_workingFrom_9 : decode cX2_workingFrom 9 = .ok (.aload_n 0, 1) := by decide +kernel
theorem dX2_workingFrom_10 : decode cX2_workingFrom 10 = .ok (.iload_n 2, 1) := by decide +kernel
theorem dX2_workingFrom_11 : decode cX2_workingFrom 11 = .ok (.invokevirtual 36, 3) := by decide +kernel
theorem dX2_workingFrom_14 : decode cX2_workingFrom 14 = .ok (.ifCond .ne 9, 3) := by decide +kernel
theorem dX2_workingFrom_17 : decode cX2_workingFrom 17 = .ok (.iinc 2 1, 3) := by decide +kernel
theorem dX2_workingFrom_20 : decode cX2_workingFrom 20 = .ok (.goto (-18), 3) := by decide +kernel
theorem dX2_workingFrom_23 : decode cX2_workingFrom 23 = .ok (.iload_n 2, 1) := by decide +kernel
theorem dX2_workingFrom_24 : decode cX2_workingFrom 24 = .ok (.ireturn, 1) := by decide +kernel
theorem dX3_init_0 : decode cX3_init 0 = .ok (.aload_n 0, 1) := by decide +kernel
theorem dX3_init_1 : decode cX3_init 1 = .ok (.invokespecial 3, 3) := by decide +kernel
theorem dX3_init_4 : decode cX3_init 4 = .ok (.aload_n 0, 1) := by decide +kernel
theorem dX3_init_5 : decode cX3_init 5 = .ok (.iconst 4, 1) := by decide +kernel
theorem dX3_init_6 : decode cX3_init 6 = .ok (.newarray .long, 2) := by decide +kernel
theorem dX3_init_8 : decode cX3_init 8 = .ok (.putfield 9, 3) := by decide +kernel
theorem dX3_init_11 : decode cX3_init 11 = .ok (.return_, 1) := by decide +kernel
theorem dX3_begin_0 : decode cX3_begin 0 = .ok (.aload_n 0, 1) := by decide +kernel
theorem dX3_begin_1 : decode cX3_begin 1 = .ok (.lload_n 1, 1) := by decide +kernel
theorem dX3_begin_2 : decode cX3_begin 2 = .ok (.putfield 15, 3) := by decide +kernel
theorem dX3_begin_5 : decode cX3_begin 5 = .ok (.aload_n 0, 1) := by decide +kernel
theorem dX3_begin_6 : decode cX3_begin 6 = .ok (.iconst 0, 1) := by decide +kernel
theorem dX3_begin_7 : decode cX3_begin 7 = .ok (.putfield 19, 3) := by decide +kernel
theorem dX3_begin_10 : decode cX3_begin 10 = .ok (.aload_n 0, 1) := by decide +kernel
theorem dX3_begin_11 : decode cX3_begin 11 = .ok (.iconst 0, 1) := by decide +kernel
theorem dX3_begin_12 : decode cX3_begin 12 = .ok (.putfield 23, 3) := by decide +kernel
theorem dX3_begin_15 : decode cX3_begin 15 = .ok (.aload_n 0, 1) := by decide +kernel
theorem dX3_begin_16 : decode cX3_begin 16 = .ok (.iconst 0, 1) := by decide +kernel
theorem dX3_begin_17 : decode cX3_begin 17 = .ok (.putfield 27, 3) := by decide +kernel
theorem dX3_begin_20 : decode cX3_begin 20 = .ok (.aload_n 0, 1) := by decide +kernel
theorem dX3_begin_21 : decode cX3_begin 21 = .ok (.iconst 0, 1) := by decide +kernel
theorem dX3_begin_22 : decode cX3_begin 22 = .ok (.putfield 30, 3) := by decide +kernel
theorem dX3_begin_25 : decode cX3_begin 25 = .ok (.aload_n 0, 1) := by decide +kernel
theorem dX3_begin_26 : decode cX3_begin 26 = .ok (.iconst 0, 1) := by decide +kernel
theorem dX3_begin_27 : decode cX3_begin 27 = .ok (.putfield 33, 3) := by decide +kernel
theorem dX3_begin_30 : decode cX3_begin 30 = .ok (.return_, 1) := by decide +kernel
theorem dX3_isSpan_0 : decode cX3_isSpan 0 = .ok (.aload_n 0, 1) := by decide +kernel
theorem dX3_isSpan_1 : decode cX3_isSpan 1 = .ok (.getfield 19, 3) := by decide +kernel
theorem dX3_isSpan_4 : decode cX3_isSpan 4 = .ok (.iconst 4, 1) := by decide +kernel
theorem dX3_isSpan_5 : decode cX3_isSpan 5 = .ok (.if_icmp .eq 11, 3) := by decide +kernel
theorem dX3_isSpan_8 : decode cX3_isSpan 8 = .ok (.aload_n 0, 1) := by decide +kernel
theorem dX3_isSpan_9 : decode cX3_isSpan 9 = .ok (.getfield 19, 3) := by decide +kernel
theorem dX3_isSpan_12 : decode cX3_isSpan 12 = .ok (.iconst 5, 1) := by decide +kernel
theorem dX3_isSpan_13 : decode cX3_isSpan 13 = .ok (.if_icmp .ne 7, 3) := by decide +kernel
theorem dX3_isSpan_16 : decode cX3_isSpan 16 = .ok (.iconst 1, 1) := by decide +kernel
theorem dX3_isSpan_17 : decode cX3_isSpan 17 = .ok (.goto 4, 3) := by decide +kernel
theorem dX3_isSpan_20 : decode cX3_isSpan 20 = .ok (.iconst 0, 1) := by decide +kernel
theorem dX3_isSpan_21 : decode cX3_isSpan 21 = .ok (.ireturn, 1) := by decide +kernel
theorem dX3_hasDay_0 : decode cX3_hasDay 0 = .ok (.aload_n 0, 1) := by decide +kernel
theorem dX3_hasDay_1 : decode cX3_hasDay 1 = .ok (.getfield 19, 3) := by decide +kernel
theorem dX3_hasDay_4 : decode cX3_hasDay 4 = .ok (.iconst 1, 1) := by decide +kernel
theorem dX3_hasDay_5 : decode cX3_hasDay 5 = .ok (.if_icmp .eq 10, 3) := by decide +kernel
theorem dX3_hasDay_8 : decode cX3_hasDay 8 = .ok (.aload_n 0, 1) := by decide +kernel
theorem dX3_hasDay_9 : decode cX3_hasDay 9 = .ok (.invokevirtual 36, 3) := by decide +kernel
theorem dX3_hasDay_12 : decode cX3_hasDay 12 = .ok (.ifCond .eq 7, 3) := by decide +kernel
theorem dX3_hasDay_15 : decode cX3_hasDay 15 = .ok (.iconst 1, 1) := by decide +kernel
theorem dX3_hasDay_16 : decode cX3_hasDay 16 = .ok (.goto 4, 3) := by decide +kernel
theorem dX3_hasDay_19 : decode cX3_hasDay 19 = .ok (.iconst 0, 1) := by decide +kernel
theorem dX3_hasDay_20 : decode cX3_hasDay 20 = .ok (.ireturn, 1) := by decide +kernel
theorem dX3_placeOf_0 : decode cX3_placeOf 0 = .ok (.iconst 0, 1) := by decide +kernel
theorem dX3_placeOf_1 : decode cX3_placeOf 1 = .ok (.istore_n 3, 1) := by decide +kernel
theorem dX3_placeOf_2 : decode cX3_placeOf 2 = .ok (.iload_n 3, 1) := by decide +kernel
theorem dX3_placeOf_3 : decode cX3_placeOf 3 = .ok (.aload_n 0, 1) := by decide +kernel
theorem dX3_placeOf_4 : decode cX3_placeOf 4 = .ok (.getfield 33, 3) := by decide +kernel
theorem dX3_placeOf_7 : decode cX3_placeOf 7 = .ok (.if_icmp .ge 22, 3) := by decide +kernel
theorem dX3_placeOf_10 : decode cX3_placeOf 10 = .ok (.aload_n 0, 1) := by decide +kernel
theorem dX3_placeOf_11 : decode cX3_placeOf 11 = .ok (.getfield 9, 3) := by decide +kernel
theorem dX3_placeOf_14 : decode cX3_placeOf 14 = .ok (.iload_n 3, 1) := by decide +kernel
theorem dX3_placeOf_15 : decode cX3_placeOf 15 = .ok (.laload, 1) := by decide +kernel
theorem dX3_placeOf_16 : decode cX3_placeOf 16 = .ok (.lload_n 1, 1) := by decide +kernel
theorem dX3_placeOf_17 : decode cX3_placeOf 17 = .ok (.lcmp, 1) := by decide +kernel
theorem dX3_placeOf_18 : decode cX3_placeOf 18 = .ok (.ifCond .ne 5, 3) := by decide +kernel
theorem dX3_placeOf_21 : decode cX3_placeOf 21 = .ok (.iload_n 3, 1) := by decide +kernel
theorem dX3_placeOf_22 : decode cX3_placeOf 22 = .ok (.ireturn, 1) := by decide +kernel
theorem dX3_placeOf_23 : decode cX3_placeOf 23 = .ok (.iinc 3 1, 3) := by decide +kernel
theorem dX3_placeOf_26 : decode cX3_placeOf 26 = .ok (.goto (-24), 3) := by decide +kernel
theorem dX3_placeOf_29 : decode cX3_placeOf 29 = .ok (.iconst (-1), 1) := by decide +kernel
theorem dX3_placeOf_30 : decode cX3_placeOf 30 = .ok (.ireturn, 1) := by decide +kernel
theorem dX3_readLimits_0 : decode cX3_readLimits 0 = .ok (.aload_n 0, 1) := by decide +kernel
theorem dX3_readLimits_1 : decode cX3_readLimits 1 = .ok (.aload_n 1, 1) := by decide +kernel
theorem dX3_readLimits_2 : decode cX3_readLimits 2 = .ok (.getfield 40, 3) := by decide +kernel
theorem dX3_readLimits_5 : decode cX3_readLimits 5 = .ok (.putfield 27, 3) := by decide +kernel
theorem dX3_readLimits_8 : decode cX3_readLimits 8 = .ok (.aload_n 1, 1) := by decide +kernel
theorem dX3_readLimits_9 : decode cX3_readLimits 9 = .ok (.iconst 2, 1) := by decide +kernel
theorem dX3_readLimits_10 : decode cX3_readLimits 10 = .ok (.invokevirtual 45, 3) := by decide +kernel
theorem dX3_readLimits_13 : decode cX3_readLimits 13 = .ok (.ifCond .eq 11, 3) := by decide +kernel
theorem dX3_readLimits_16 : decode cX3_readLimits 16 = .ok (.aload_n 1, 1) := by decide +kernel
theorem dX3_readLimits_17 : decode cX3_readLimits 17 = .ok (.iconst 3, 1) := by decide +kernel
theorem dX3_readLimits_18 : decode cX3_readLimits 18 = .ok (.invokevirtual 45, 3) := by decide +kernel
theorem dX3_readLimits_21 : decode cX3_readLimits 21 = .ok (.ifCond .ne 5, 3) := by decide +kernel
theorem dX3_readLimits_24 : decode cX3_readLimits 24 = .ok (.iconst 0, 1) := by decide +kernel
theorem dX3_readLimits_25 : decode cX3_readLimits 25 = .ok (.ireturn, 1) := by decide +kernel
theorem dX3_readLimits_26 : decode cX3_readLimits 26 = .ok (.aload_n 0, 1) := by decide +kernel
theorem dX3_readLimits_27 : decode cX3_readLimits 27 = .ok (.aload_n 1, 1) := by decide +kernel
theorem dX3_readLimits_28 : decode cX3_readLimits 28 = .ok (.getfield 40, 3) := by decide +kernel
theorem dX3_readLimits_31 : decode cX3_readLimits 31 = .ok (.putfield 30, 3) := by decide +kernel
theorem dX3_readLimits_34 : decode cX3_readLimits 34 = .ok (.aload_n 1, 1) := by decide +kernel
theorem dX3_readLimits_35 : decode cX3_readLimits 35 = .ok (.getfield 49, 3) := by decide +kernel
theorem dX3_readLimits_38 : decode cX3_readLimits 38 = .ok (.iconst 2, 1) := by decide +kernel
theorem dX3_readLimits_39 : decode cX3_readLimits 39 = .ok (.if_icmp .ne 20, 3) := by decide +kernel
theorem dX3_readLimits_42 : decode cX3_readLimits 42 = .ok (.aload_n 0, 1) := by decide +kernel
theorem dX3_readLimits_43 : decode cX3_readLimits 43 = .ok (.getfield 30, 3) := by decide +kernel
theorem dX3_readLimits_46 : decode cX3_readLimits 46 = .ok (.aload_n 0, 1) := by decide +kernel
theorem dX3_readLimits_47 : decode cX3_readLimits 47 = .ok (.getfield 27, 3) := by decide +kernel
theorem dX3_readLimits_50 : decode cX3_readLimits 50 = .ok (.if_icmp .ge 9, 3) := by decide +kernel
theorem dX3_readLimits_53 : decode cX3_readLimits 53 = .ok (.aload_n 1, 1) := by decide +kernel
theorem dX3_readLimits_54 : decode cX3_readLimits 54 = .ok (.iconst 4, 1) := by decide +kernel
theorem dX3_readLimits_55 : decode cX3_readLimits 55 = .ok (.invokevirtual 50, 3) := by decide +kernel
theorem dX3_readLimits_58 : decode cX3_readLimits 58 = .ok (.ireturn, 1) := by decide +kernel
theorem dX3_readLimits_59 : decode cX3_readLimits 59 = .ok (.aload_n 1, 1) := by decide +kernel
theorem dX3_readLimits_60 : decode cX3_readLimits 60 = .ok (.iconst 2, 1) := by decide +kernel
theorem dX3_readLimits_61 : decode cX3_readLimits 61 = .ok (.invokevirtual 45, 3) := by decide +kernel
theorem dX3_readLimits_64 : decode cX3_readLimits 64 = .ok (.ireturn, 1) := by decide +kernel
theorem dX3_readWords_0 : decode cX3_readWords 0 = .ok (.iconst 0, 1) := by decide +kernel
theorem dX3_readWords_1 : decode cX3_readWords 1 = .ok (.istore_n 2, 1) := by decide +kernel
theorem dX3_readWords_2 : decode cX3_readWords 2 = .ok (.iload_n 2, 1) := by decide +kernel
theorem dX3_readWords_3 : decode cX3_readWords 3 = .ok (.iconst 4, 1) := by decide +kernel
theorem dX3_readWords_4 : decode cX3_readWords 4 = .ok (.if_icmp .gt 34, 3) := by decide +kernel
theorem dX3_readWords_7 : decode cX3_readWords 7 = .ok (.aload_n 0, 1) := by decide +kernel
theorem dX3_readWords_8 : decode cX3_readWords 8 = .ok (.aload_n 1, 1) := by decide +kernel
theorem dX3_readWords_9 : decode cX3_readWords 9 = .ok (.invokevirtual 53, 3) := by decide +kernel
theorem dX3_readWords_12 : decode cX3_readWords 12 = .ok (.ifCond .ne 5, 3) := by decide +kernel
theorem dX3_readWords_15 : decode cX3_readWords 15 = .ok (.iconst 0, 1) := by decide +kernel
theorem dX3_readWords_16 : decode cX3_readWords 16 = .ok (.ireturn, 1) := by decide +kernel
theorem dX3_readWords_17 : decode cX3_readWords 17 = .ok (.aload_n 1, 1) := by decide +kernel
theorem dX3_readWords_18 : decode cX3_readWords 18 = .ok (.getfield 49, 3) := by decide +kernel
theorem dX3_readWords_21 : decode cX3_readWords 21 = .ok (.bipush 47, 2) := by decide +kernel
theorem dX3_readWords_23 : decode cX3_readWords 23 = .ok (.if_icmp .eq 5, 3) := by decide +kernel
theorem dX3_readWords_26 : decode cX3_readWords 26 = .ok (.iconst 1, 1) := by decide +kernel
theorem dX3_readWords_27 : decode cX3_readWords 27 = .ok (.ireturn, 1) := by decide +kernel
theorem dX3_readWords_28 : decode cX3_readWords 28 = .ok (.aload_n 1, 1) := by decide +kernel
theorem dX3_readWords_29 : decode cX3_readWords 29 = .ok (.invokevirtual 57, 3) := by decide +kernel
theorem dX3_readWords_32 : decode cX3_readWords 32 = .ok (.iinc 2 1, 3) := by decide +kernel
theorem dX3_readWords_35 : decode cX3_readWords 35 = .ok (.goto (-33), 3) := by decide +kernel
theorem dX3_readWords_38 : decode cX3_readWords 38 = .ok (.iconst 0, 1) := by decide +kernel
theorem dX3_readWords_39 : decode cX3_readWords 39 = .ok (.ireturn, 1) := by decide +kernel
theorem dX3_readOneWord_0 : decode cX3_readOneWord 0 = .ok (.aload_n 1, 1) := by decide +kernel
theorem dX3_readOneWord_1 : decode cX3_readOneWord 1 = .ok (.getfield 49, 3) := by decide +kernel
theorem dX3_readOneWord_4 : decode cX3_readOneWord 4 = .ok (.iconst 1, 1) := by decide +kernel
theorem dX3_readOneWord_5 : decode cX3_readOneWord 5 = .ok (.if_icmp .eq 9, 3) := by decide +kernel
theorem dX3_readOneWord_8 : decode cX3_readOneWord 8 = .ok (.aload_n 1, 1) := by decide +kernel
theorem dX3_readOneWord_9 : decode cX3_readOneWord 9 = .ok (.iconst 1, 1) := by decide +kernel
theorem dX3_readOneWord_10 : decode cX3_readOneWord 10 = .ok (.invokevirtual 50, 3) := by decide +kernel
theorem dX3_readOneWord_13 : decode cX3_readOneWord 13 = .ok (.ireturn, 1) := by decide +kernel
theorem dX3_readOneWord_14 : decode cX3_readOneWord 14 = .ok (.aload_n 0, 1) := by decide +kernel
theorem dX3_readOneWord_15 : decode cX3_readOneWord 15 = .ok (.aload_n 1, 1) := by decide +kernel
theorem dX3_readOneWord_16 : decode cX3_readOneWord 16 = .ok (.getfield 60, 3) := by decide +kernel
theorem dX3_readOneWord_19 : decode cX3_readOneWord 19 = .ok (.invokevirtual 63, 3) := by decide +kernel
theorem dX3_readOneWord_22 : decode cX3_readOneWord 22 = .ok (.iconst (-1), 1) := by decide +kernel
theorem dX3_readOneWord_23 : decode cX3_readOneWord 23 = .ok (.if_icmp .eq 9, 3) := by decide +kernel
theorem dX3_readOneWord_26 : decode cX3_readOneWord 26 = .ok (.aload_n 1, 1) := by decide +kernel
theorem dX3_readOneWord_27 : decode cX3_readOneWord 27 = .ok (.iconst 3, 1) := by decide +kernel
theorem dX3_readOneWord_28 : decode cX3_readOneWord 28 = .ok (.invokevirtual 50, 3) := by decide +kernel
theorem dX3_readOneWord_31 : decode cX3_readOneWord 31 = .ok (.ireturn, 1) := by decide +kernel
theorem dX3_readOneWord_32 : decode cX3_readOneWord 32 = .ok (.aload_n 0, 1) := by decide +kernel
theorem dX3_readOneWord_33 : decode cX3_readOneWord 33 = .ok (.getfield 33, 3) := by decide +kernel
theorem dX3_readOneWord_36 : decode cX3_readOneWord 36 = .ok (.iconst 4, 1) := by decide +kernel
theorem dX3_readOneWord_37 : decode cX3_readOneWord 37 = .ok (.if_icmp .lt 9, 3) := by decide +kernel
theorem dX3_readOneWord_40 : decode cX3_readOneWord 40 = .ok (.aload_n 1, 1) := by decide +kernel
theorem dX3_readOneWord_41 : decode cX3_readOneWord 41 = .ok (.iconst 5, 1) := by decide +kernel
theorem dX3_readOneWord_42 : decode cX3_readOneWord 42 = .ok (.invokevirtual 50, 3) := by decide +kernel
theorem dX3_readOneWord_45 : decode cX3_readOneWord 45 = .ok (.ireturn, 1) := by decide +kernel
theorem dX3_readOneWord_46 : decode cX3_readOneWord 46 = .ok (.aload_n 0, 1) := by decide +kernel
theorem dX3_readOneWord_47 : decode cX3_readOneWord 47 = .ok (.getfield 9, 3) := by decide +kernel
theorem dX3_readOneWord_50 : decode cX3_readOneWord 50 = .ok (.aload_n 0, 1) := by decide +kernel
theorem dX3_readOneWord_51 : decode cX3_readOneWord 51 = .ok (.getfield 33, 3) := by decide +kernel
theorem dX3_readOneWord_54 : decode cX3_readOneWord 54 = .ok (.aload_n 1, 1) := by decide +kernel
theorem dX3_readOneWord_55 : decode cX3_readOneWord 55 = .ok (.getfield 60, 3) := by decide +kernel
theorem dX3_readOneWord_58 : decode cX3_readOneWord 58 = .ok (.lastore, 1) := by decide +kernel
theorem dX3_readOneWord_59 : decode cX3_readOneWord 59 = .ok (.aload_n 0, 1) := by decide +kernel
theorem dX3_readOneWord_60 : decode cX3_readOneWord 60 = .ok (.dup, 1) := by decide +kernel
theorem dX3_readOneWord_61 : decode cX3_readOneWord 61 = .ok (.getfield 33, 3) := by decide +kernel
theorem dX3_readOneWord_64 : decode cX3_readOneWord 64 = .ok (.iconst 1, 1) := by decide +kernel
theorem dX3_readOneWord_65 : decode cX3_readOneWord 65 = .ok (.iadd, 1) := by decide +kernel
theorem dX3_readOneWord_66 : decode cX3_readOneWord 66 = .ok (.putfield 33, 3) := by decide +kernel
theorem dX3_readOneWord_69 : decode cX3_readOneWord 69 = .ok (.aload_n 1, 1) := by decide +kernel
theorem dX3_readOneWord_70 : decode cX3_readOneWord 70 = .ok (.invokevirtual 57, 3) := by decide +kernel
theorem dX3_readOneWord_73 : decode cX3_readOneWord 73 = .ok (.iconst 1, 1) := by decide +kernel
theorem dX3_readOneWord_74 : decode cX3_readOneWord 74 = .ok (.ireturn, 1) := by decide +kernel
theorem dX3_valueOf_0 : decode cX3_valueOf 0 = .ok (.aload_n 0, 1) := by decide +kernel
theorem dX3_valueOf_1 : decode cX3_valueOf 1 = .ok (.getfield 19, 3) := by decide +kernel
theorem dX3_valueOf_4 : decode cX3_valueOf 4 = .ok (.ifCond .ne 45, 3) := by decide +kernel
theorem dX3_valueOf_7 : decode cX3_valueOf 7 = .ok (.aload_n 1, 1) := by decide +kernel
theorem dX3_valueOf_8 : decode cX3_valueOf 8 = .ok (.getfield 49, 3) := by decide +kernel
theorem dX3_valueOf_11 : decode cX3_valueOf 11 = .ok (.iconst 2, 1) := by decide +kernel
theorem dX3_valueOf_12 : decode cX3_valueOf 12 = .ok (.if_icmp .ne 33, 3) := by decide +kernel
theorem dX3_valueOf_15 : decode cX3_valueOf 15 = .ok (.aload_n 1, 1) := by decide +kernel
theorem dX3_valueOf_16 : decode cX3_valueOf 16 = .ok (.getfield 40, 3) := by decide +kernel
theorem dX3_valueOf_19 : decode cX3_valueOf 19 = .ok (.aload_n 0, 1) := by decide +kernel
theorem dX3_valueOf_20 : decode cX3_valueOf 20 = .ok (.getfield 27, 3) := by decide +kernel
theorem dX3_valueOf_23 : decode cX3_valueOf 23 = .ok (.if_icmp .lt 22, 3) := by decide +kernel
theorem dX3_valueOf_26 : decode cX3_valueOf 26 = .ok (.aload_n 1, 1) := by decide +kernel
theorem dX3_valueOf_27 : decode cX3_valueOf 27 = .ok (.getfield 40, 3) := by decide +kernel
theorem dX3_valueOf_30 : decode cX3_valueOf 30 = .ok (.aload_n 0, 1) := by decide +kernel
theorem dX3_valueOf_31 : decode cX3_valueOf 31 = .ok (.getfield 30, 3) := by decide +kernel
theorem dX3_valueOf_34 : decode cX3_valueOf 34 = .ok (.if_icmp .gt 11, 3) := by decide +kernel
theorem dX3_valueOf_37 : decode cX3_valueOf 37 = .ok (.aload_n 1, 1) := by decide +kernel
theorem dX3_valueOf_38 : decode cX3_valueOf 38 = .ok (.getfield 40, 3) := by decide +kernel
theorem dX3_valueOf_41 : decode cX3_valueOf 41 = .ok (.i2l, 1) := by decide +kernel
theorem dX3_valueOf_42 : decode cX3_valueOf 42 = .ok (.goto 6, 3) := by decide +kernel
theorem dX3_valueOf_45 : decode cX3_valueOf 45 = .ok (.ldc2_w 67, 3) := by decide +kernel
theorem dX3_valueOf_48 : decode cX3_valueOf 48 = .ok (.lreturn, 1) := by decide +kernel
theorem dX3_valueOf_49 : decode cX3_valueOf 49 = .ok (.aload_n 0, 1) := by decide +kernel
theorem dX3_valueOf_50 : decode cX3_valueOf 50 = .ok (.getfield 19, 3) := by decide +kernel
theorem dX3_valueOf_53 : decode cX3_valueOf 53 = .ok (.iconst 1, 1) := by decide +kernel
theorem dX3_valueOf_54 : decode cX3_valueOf 54 = .ok (.if_icmp .ne 23, 3) := by decide +kernel
theorem dX3_valueOf_57 : decode cX3_valueOf 57 = .ok (.aload_n 1, 1) := by decide +kernel
theorem dX3_valueOf_58 : decode cX3_valueOf 58 = .ok (.getfield 49, 3) := by decide +kernel
theorem dX3_valueOf_61 : decode cX3_valueOf 61 = .ok (.iconst 2, 1) := by decide +kernel
theorem dX3_valueOf_62 : decode cX3_valueOf 62 = .ok (.if_icmp .ne 11, 3) := by decide +kernel
theorem dX3_valueOf_65 : decode cX3_valueOf 65 = .ok (.aload_n 1, 1) := by decide +kernel
theorem dX3_valueOf_66 : decode cX3_valueOf 66 = .ok (.getfield 40, 3) := by decide +kernel
theorem dX3_valueOf_69 : decode cX3_valueOf 69 = .ok (.i2l, 1) := by decide +kernel
theorem dX3_valueOf_70 : decode cX3_valueOf 70 = .ok (.goto 6, 3) := by decide +kernel
theorem dX3_valueOf_73 : decode cX3_valueOf 73 = .ok (.ldc2_w 67, 3) := by decide +kernel
theorem dX3_valueOf_76 : decode cX3_valueOf 76 = .ok (.lreturn, 1) := by decide +kernel
theorem dX3_valueOf_77 : decode cX3_valueOf 77 = .ok (.aload_n 1, 1) := by decide +kernel
theorem dX3_valueOf_78 : decode cX3_valueOf 78 = .ok (.getfield 49, 3) := by decide +kernel
theorem dX3_valueOf_81 : decode cX3_valueOf 81 = .ok (.iconst 1, 1) := by decide +kernel
theorem dX3_valueOf_82 : decode cX3_valueOf 82 = .ok (.if_icmp .eq 7, 3) := by decide +kernel
theorem dX3_valueOf_85 : decode cX3_valueOf 85 = .ok (.ldc2_w 67, 3) := by decide +kernel
theorem dX3_valueOf_88 : decode cX3_valueOf 88 = .ok (.lreturn, 1) := by decide +kernel
theorem dX3_valueOf_89 : decode cX3_valueOf 89 = .ok (.aload_n 0, 1) := by decide +kernel
theorem dX3_valueOf_90 : decode cX3_valueOf 90 = .ok (.getfield 19, 3) := by decide +kernel
theorem dX3_valueOf_93 : decode cX3_valueOf 93 = .ok (.iconst 2, 1) := by decide +kernel
theorem dX3_valueOf_94 : decode cX3_valueOf 94 = .ok (.if_icmp .ne 8, 3) := by decide +kernel
theorem dX3_valueOf_97 : decode cX3_valueOf 97 = .ok (.aload_n 1, 1) := by decide +kernel
theorem dX3_valueOf_98 : decode cX3_valueOf 98 = .ok (.getfield 60, 3) := by decide +kernel
theorem dX3_valueOf_101 : decode cX3_valueOf 101 = .ok (.lreturn, 1) := by decide +kernel
theorem dX3_valueOf_102 : decode cX3_valueOf 102 = .ok (.aload_n 0, 1) := by decide +kernel
theorem dX3_valueOf_103 : decode cX3_valueOf 103 = .ok (.getfield 19, 3) := by decide +kernel
theorem dX3_valueOf_106 : decode cX3_valueOf 106 = .ok (.iconst 3, 1) := by decide +kernel
theorem dX3_valueOf_107 : decode cX3_valueOf 107 = .ok (.if_icmp .ne 15, 3) := by decide +kernel
theorem dX3_valueOf_110 : decode cX3_valueOf 110 = .ok (.aload_n 0, 1) := by decide +kernel
theorem dX3_valueOf_111 : decode cX3_valueOf 111 = .ok (.aload_n 1, 1) := by decide +kernel
theorem dX3_valueOf_112 : decode cX3_valueOf 112 = .ok (.getfield 60, 3) := by decide +kernel
theorem dX3_valueOf_115 : decode cX3_valueOf 115 = .ok (.invokevirtual 63, 3) := by decide +kernel
theorem dX3_valueOf_118 : decode cX3_valueOf 118 = .ok (.i2l, 1) := by decide +kernel
theorem dX3_valueOf_119 : decode cX3_valueOf 119 = .ok (.goto 6, 3) := by decide +kernel
theorem dX3_valueOf_122 : decode cX3_valueOf 122 = .ok (.ldc2_w 67, 3) := by decide +kernel
theorem dX3_valueOf_125 : decode cX3_valueOf 125 = .ok (.lreturn, 1) := by decide +kernel
theorem dX4_init_0 : decode cX4_init 0 = .ok (.aload_n 0, 1) := by decide +kernel
theorem dX4_init_1 : decode cX4_init 1 = .ok (.invokespecial 3, 3) := by decide +kernel
theorem dX4_init_4 : decode cX4_init 4 = .ok (.aload_n 0, 1) := by decide +kernel
theorem dX4_init_5 : decode cX4_init 5 = .ok (.bipush 8, 2) := by decide +kernel
theorem dX4_init_7 : decode cX4_init 7 = .ok (.anewarray 9, 3) := by decide +kernel
theorem dX4_init_10 : decode cX4_init 10 = .ok (.putfield 11, 3) := by decide +kernel
theorem dX4_init_13 : decode cX4_init 13 = .ok (.iconst 0, 1) := by decide +kernel
theorem dX4_init_14 : decode cX4_init 14 = .ok (.istore_n 1, 1) := by decide +kernel
theorem dX4_init_15 : decode cX4_init 15 = .ok (.iload_n 1, 1) := by decide +kernel
theorem dX4_init_16 : decode cX4_init 16 = .ok (.aload_n 0, 1) := by decide +kernel
theorem dX4_init_17 : decode cX4_init 17 = .ok (.getfield 11, 3) := by decide +kernel
theorem dX4_init_20 : decode cX4_init 20 = .ok (.arraylength, 1) := by decide +kernel
theorem dX4_init_21 : decode cX4_init 21 = .ok (.if_icmp .ge 22, 3) := by decide +kernel
theorem dX4_init_24 : decode cX4_init 24 = .ok (.aload_n 0, 1) := by decide +kernel
theorem dX4_init_25 : decode cX4_init 25 = .ok (.getfield 11, 3) := by decide +kernel
theorem dX4_init_28 : decode cX4_init 28 = .ok (.iload_n 1, 1) := by decide +kernel
theorem dX4_init_29 : decode cX4_init 29 = .ok (.new 9, 3) := by decide +kernel
theorem dX4_init_32 : decode cX4_init 32 = .ok (.dup, 1) := by decide +kernel
theorem dX4_init_33 : decode cX4_init 33 = .ok (.invokespecial 17, 3) := by decide +kernel
theorem dX4_init_36 : decode cX4_init 36 = .ok (.aastore, 1) := by decide +kernel
theorem dX4_init_37 : decode cX4_init 37 = .ok (.iinc 1 1, 3) := by decide +kernel
theorem dX4_init_40 : decode cX4_init 40 = .ok (.goto (-25), 3) := by decide +kernel
theorem dX4_init_43 : decode cX4_init 43 = .ok (.return_, 1) := by decide +kernel
theorem dX4_placeOf_0 : decode cX4_placeOf 0 = .ok (.iconst 0, 1) := by decide +kernel
theorem dX4_placeOf_1 : decode cX4_placeOf 1 = .ok (.istore_n 3, 1) := by decide +kernel
theorem dX4_placeOf_2 : decode cX4_placeOf 2 = .ok (.iload_n 3, 1) := by decide +kernel
theorem dX4_placeOf_3 : decode cX4_placeOf 3 = .ok (.aload_n 0, 1) := by decide +kernel
theorem dX4_placeOf_4 : decode cX4_placeOf 4 = .ok (.getfield 18, 3) := by decide +kernel
theorem dX4_placeOf_7 : decode cX4_placeOf 7 = .ok (.if_icmp .ge 25, 3) := by decide +kernel
theorem dX4_placeOf_10 : decode cX4_placeOf 10 = .ok (.aload_n 0, 1) := by decide +kernel
theorem dX4_placeOf_11 : decode cX4_placeOf 11 = .ok (.getfield 11, 3) := by decide +kernel
theorem dX4_placeOf_14 : decode cX4_placeOf 14 = .ok (.iload_n 3, 1) := by decide +kernel
theorem dX4_placeOf_15 : decode cX4_placeOf 15 = .ok (.aaload, 1) := by decide +kernel
theorem dX4_placeOf_16 : decode cX4_placeOf 16 = .ok (.getfield 22, 3) := by decide +kernel
theorem dX4_placeOf_19 : decode cX4_placeOf 19 = .ok (.lload_n 1, 1) := by decide +kernel
theorem dX4_placeOf_20 : decode cX4_placeOf 20 = .ok (.lcmp, 1) := by decide +kernel
theorem dX4_placeOf_21 : decode cX4_placeOf 21 = .ok (.ifCond .ne 5, 3) := by decide +kernel
theorem dX4_placeOf_24 : decode cX4_placeOf 24 = .ok (.iload_n 3, 1) := by decide +kernel
theorem dX4_placeOf_25 : decode cX4_placeOf 25 = .ok (.ireturn, 1) := by decide +kernel
theorem dX4_placeOf_26 : decode cX4_placeOf 26 = .ok (.iinc 3 1, 3) := by decide +kernel
theorem dX4_placeOf_29 : decode cX4_placeOf 29 = .ok (.goto (-27), 3) := by decide +kernel
theorem dX4_placeOf_32 : decode cX4_placeOf 32 = .ok (.iconst (-1), 1) := by decide +kernel
theorem dX4_placeOf_33 : decode cX4_placeOf 33 = .ok (.ireturn, 1) := by decide +kernel
theorem dX4_readAll_0 : decode cX4_readAll 0 = .ok (.aload_n 0, 1) := by decide +kernel
theorem dX4_readAll_1 : decode cX4_readAll 1 = .ok (.iconst 0, 1) := by decide +kernel
theorem dX4_readAll_2 : decode cX4_readAll 2 = .ok (.putfield 18, 3) := by decide +kernel
theorem dX4_readAll_5 : decode cX4_readAll 5 = .ok (.iconst 0, 1) := by decide +kernel
theorem dX4_readAll_6 : decode cX4_readAll 6 = .ok (.istore_n 2, 1) := by decide +kernel
theorem dX4_readAll_7 : decode cX4_readAll 7 = .ok (.iload_n 2, 1) := by decide +kernel
theorem dX4_readAll_8 : decode cX4_readAll 8 = .ok (.bipush 8, 2) := by decide +kernel
theorem dX4_readAll_10 : decode cX4_readAll 10 = .ok (.if_icmp .gt 66, 3) := by decide +kernel
theorem dX4_readAll_13 : decode cX4_readAll 13 = .ok (.aload_n 0, 1) := by decide +kernel
theorem dX4_readAll_14 : decode cX4_readAll 14 = .ok (.aload_n 1, 1) := by decide +kernel
theorem dX4_readAll_15 : decode cX4_readAll 15 = .ok (.invokevirtual 26, 3) := by decide +kernel
theorem dX4_readAll_18 : decode cX4_readAll 18 = .ok (.ifCond .eq 20, 3) := by decide +kernel
theorem dX4_readAll_21 : decode cX4_readAll 21 = .ok (.aload_n 0, 1) := by decide +kernel
theorem dX4_readAll_22 : decode cX4_readAll 22 = .ok (.aload_n 1, 1) := by decide +kernel
theorem dX4_readAll_23 : decode cX4_readAll 23 = .ok (.aload_n 0, 1) := by decide +kernel
theorem dX4_readAll_24 : decode cX4_readAll 24 = .ok (.getfield 11, 3) := by decide +kernel
theorem dX4_readAll_27 : decode cX4_readAll 27 = .ok (.aload_n 0, 1) := by decide +kernel
theorem dX4_readAll_28 : decode cX4_readAll 28 = .ok (.getfield 18, 3) := by decide +kernel
theorem dX4_readAll_31 : decode cX4_readAll 31 = .ok (.aaload, 1) := by decide +kernel
theorem dX4_readAll_32 : decode cX4_readAll 32 = .ok (.invokevirtual 30, 3) := by decide +kernel
theorem dX4_readAll_35 : decode cX4_readAll 35 = .ok (.ifCond .ne 5, 3) := by decide +kernel
theorem dX4_readAll_38 : decode cX4_readAll 38 = .ok (.iconst 0, 1) := by decide +kernel
theorem dX4_readAll_39 : decode cX4_readAll 39 = .ok (.ireturn, 1) := by decide +kernel
theorem dX4_readAll_40 : decode cX4_readAll 40 = .ok (.aload_n 0, 1) := by decide +kernel
theorem dX4_readAll_41 : decode cX4_readAll 41 = .ok (.dup, 1) := by decide +kernel
theorem dX4_readAll_42 : decode cX4_readAll 42 = .ok (.getfield 18, 3) := by decide +kernel
theorem dX4_readAll_45 : decode cX4_readAll 45 = .ok (.iconst 1, 1) := by decide +kernel
theorem dX4_readAll_46 : decode cX4_readAll 46 = .ok (.iadd, 1) := by decide +kernel
theorem dX4_readAll_47 : decode cX4_readAll 47 = .ok (.putfield 18, 3) := by decide +kernel
theorem dX4_readAll_50 : decode cX4_readAll 50 = .ok (.aload_n 1, 1) := by decide +kernel
theorem dX4_readAll_51 : decode cX4_readAll 51 = .ok (.getfield 34, 3) := by decide +kernel
theorem dX4_readAll_54 : decode cX4_readAll 54 = .ok (.ifCond .ne 5, 3) := by decide +kernel
theorem dX4_readAll_57 : decode cX4_readAll 57 = .ok (.iconst 1, 1) := by decide +kernel
theorem dX4_readAll_58 : decode cX4_readAll 58 = .ok (.ireturn, 1) := by decide +kernel
theorem dX4_readAll_59 : decode cX4_readAll 59 = .ok (.aload_n 1, 1) := by decide +kernel
theorem dX4_readAll_60 : decode cX4_readAll 60 = .ok (.bipush 59, 2) := by decide +kernel
theorem dX4_readAll_62 : decode cX4_readAll 62 = .ok (.invokevirtual 39, 3) := by decide +kernel
theorem dX4_readAll_65 : decode cX4_readAll 65 = .ok (.ifCond .ne 5, 3) := by decide +kernel
theorem dX4_readAll_68 : decode cX4_readAll 68 = .ok (.iconst 0, 1) := by decide +kernel
theorem dX4_readAll_69 : decode cX4_readAll 69 = .ok (.ireturn, 1) := by decide +kernel
theorem dX4_readAll_70 : decode cX4_readAll 70 = .ok (.iinc 2 1, 3) := by decide +kernel
theorem dX4_readAll_73 : decode cX4_readAll 73 = .ok (.goto (-66), 3) := by decide +kernel
theorem dX4_readAll_76 : decode cX4_readAll 76 = .ok (.iconst 0, 1) := by decide +kernel
theorem dX4_readAll_77 : decode cX4_readAll 77 = .ok (.ireturn, 1) := by decide +kernel
theorem dX4_readName_0 : decode cX4_readName 0 = .ok (.aload_n 1, 1) := by decide +kernel
theorem dX4_readName_1 : decode cX4_readName 1 = .ok (.getfield 34, 3) := by decide +kernel
theorem dX4_readName_4 : decode cX4_readName 4 = .ok (.iconst 1, 1) := by decide +kernel
theorem dX4_readName_5 : decode cX4_readName 5 = .ok (.if_icmp .eq 9, 3) := by decide +kernel
theorem dX4_readName_8 : decode cX4_readName 8 = .ok (.aload_n 1, 1) := by decide +kernel
theorem dX4_readName_9 : decode cX4_readName 9 = .ok (.iconst 1, 1) := by decide +kernel
theorem dX4_readName_10 : decode cX4_readName 10 = .ok (.invokevirtual 43, 3) := by decide +kernel
theorem dX4_readName_13 : decode cX4_readName 13 = .ok (.ireturn, 1) := by decide +kernel
theorem dX4_readName_14 : decode cX4_readName 14 = .ok (.aload_n 0, 1) := by decide +kernel
theorem dX4_readName_15 : decode cX4_readName 15 = .ok (.aload_n 1, 1) := by decide +kernel
theorem dX4_readName_16 : decode cX4_readName 16 = .ok (.getfield 46, 3) := by decide +kernel
theorem dX4_readName_19 : decode cX4_readName 19 = .ok (.invokevirtual 49, 3) := by decide +kernel
theorem dX4_readName_22 : decode cX4_readName 22 = .ok (.iconst (-1), 1) := by decide +kernel
theorem dX4_readName_23 : decode cX4_readName 23 = .ok (.if_icmp .eq 9, 3) := by decide +kernel
theorem dX4_readName_26 : decode cX4_readName 26 = .ok (.aload_n 1, 1) := by decide +kernel
theorem dX4_readName_27 : decode cX4_readName 27 = .ok (.iconst 3, 1) := by decide +kernel
theorem dX4_readName_28 : decode cX4_readName 28 = .ok (.invokevirtual 43, 3) := by decide +kernel
theorem dX4_readName_31 : decode cX4_readName 31 = .ok (.ireturn, 1) := by decide +kernel
theorem dX4_readName_32 : decode cX4_readName 32 = .ok (.aload_n 0, 1) := by decide +kernel
theorem dX4_readName_33 : decode cX4_readName 33 = .ok (.getfield 18, 3) := by decide +kernel
theorem dX4_readName_36 : decode cX4_readName 36 = .ok (.bipush 8, 2) := by decide +kernel
theorem dX4_readName_38 : decode cX4_readName 38 = .ok (.if_icmp .lt 9, 3) := by decide +kernel
theorem dX4_readName_41 : decode cX4_readName 41 = .ok (.aload_n 1, 1) := by decide +kernel
theorem dX4_readName_42 : decode cX4_readName 42 = .ok (.iconst 5, 1) := by decide +kernel
theorem dX4_readName_43 : decode cX4_readName 43 = .ok (.invokevirtual 43, 3) := by decide +kernel
theorem dX4_readName_46 : decode cX4_readName 46 = .ok (.ireturn, 1) := by decide +kernel
theorem dX4_readName_47 : decode cX4_readName 47 = .ok (.aload_n 0, 1) := by decide +kernel
theorem dX4_readName_48 : decode cX4_readName 48 = .ok (.getfield 11, 3) := by decide +kernel
theorem dX4_readName_51 : decode cX4_readName 51 = .ok (.aload_n 0, 1) := by decide +kernel
theorem dX4_readName_52 : decode cX4_readName 52 = .ok (.getfield 18, 3) := by decide +kernel
theorem dX4_readName_55 : decode cX4_readName 55 = .ok (.aaload, 1) := by decide +kernel
theorem dX4_readName_56 : decode cX4_readName 56 = .ok (.aload_n 1, 1) := by decide +kernel
theorem dX4_readName_57 : decode cX4_readName 57 = .ok (.getfield 46, 3) := by decide +kernel
theorem dX4_readName_60 : decode cX4_readName 60 = .ok (.invokevirtual 53, 3) := by decide +kernel
theorem dX4_readName_63 : decode cX4_readName 63 = .ok (.aload_n 1, 1) := by decide +kernel
theorem dX4_readName_64 : decode cX4_readName 64 = .ok (.invokevirtual 57, 3) := by decide +kernel
theorem dX4_readName_67 : decode cX4_readName 67 = .ok (.aload_n 1, 1) := by decide +kernel
theorem dX4_readName_68 : decode cX4_readName 68 = .ok (.bipush 58, 2) := by decide +kernel
theorem dX4_readName_70 : decode cX4_readName 70 = .ok (.invokevirtual 39, 3) := by decide +kernel
theorem dX4_readName_73 : decode cX4_readName 73 = .ok (.ireturn, 1) := by decide +kernel
theorem dX4_readKind_0 : decode cX4_readKind 0 = .ok (.aload_n 1, 1) := by decide +kernel
theorem dX4_readKind_1 : decode cX4_readKind 1 = .ok (.getfield 46, 3) := by decide +kernel
theorem dX4_readKind_4 : decode cX4_readKind 4 = .ok (.lstore_n 3, 1) := by decide +kernel
theorem dX4_readKind_5 : decode cX4_readKind 5 = .ok (.aload_n 1, 1) := by decide +kernel
theorem dX4_readKind_6 : decode cX4_readKind 6 = .ok (.getfield 34, 3) := by decide +kernel
theorem dX4_readKind_9 : decode cX4_readKind 9 = .ok (.iconst 1, 1) := by decide +kernel
theorem dX4_readKind_10 : decode cX4_readKind 10 = .ok (.if_icmp .ne 10, 3) := by decide +kernel
theorem dX4_readKind_13 : decode cX4_readKind 13 = .ok (.lload_n 3, 1) := by decide +kernel
theorem dX4_readKind_14 : decode cX4_readKind 14 = .ok (.invokestatic 60, 3) := by decide +kernel
theorem dX4_readKind_17 : decode cX4_readKind 17 = .ok (.ifCond .ne 9, 3) := by decide +kernel
theorem dX4_readKind_20 : decode cX4_readKind 20 = .ok (.aload_n 1, 1) := by decide +kernel
theorem dX4_readKind_21 : decode cX4_readKind 21 = .ok (.iconst 1, 1) := by decide +kernel
theorem dX4_readKind_22 : decode cX4_readKind 22 = .ok (.invokevirtual 43, 3) := by decide +kernel
theorem dX4_readKind_25 : decode cX4_readKind 25 = .ok (.ireturn, 1) := by decide +kernel
theorem dX4_readKind_26 : decode cX4_readKind 26 = .ok (.aload_n 1, 1) := by decide +kernel
theorem dX4_readKind_27 : decode cX4_readKind 27 = .ok (.invokevirtual 57, 3) := by decide +kernel
theorem dX4_readKind_30 : decode cX4_readKind 30 = .ok (.lload_n 3, 1) := by decide +kernel
theorem dX4_readKind_31 : decode cX4_readKind 31 = .ok (.ldc2_w 64, 3) := by decide +kernel
theorem dX4_readKind_34 : decode cX4_readKind 34 = .ok (.lcmp, 1) := by decide +kernel
theorem dX4_readKind_35 : decode cX4_readKind 35 = .ok (.ifCond .ne 10, 3) := by decide +kernel
theorem dX4_readKind_38 : decode cX4_readKind 38 = .ok (.aload_n 0, 1) := by decide +kernel
theorem dX4_readKind_39 : decode cX4_readKind 39 = .ok (.aload_n 1, 1) := by decide +kernel
theorem dX4_readKind_40 : decode cX4_readKind 40 = .ok (.aload_n 2, 1) := by decide +kernel
theorem dX4_readKind_41 : decode cX4_readKind 41 = .ok (.invokevirtual 66, 3) := by decide +kernel
theorem dX4_readKind_44 : decode cX4_readKind 44 = .ok (.ireturn, 1) := by decide +kernel
theorem dX4_readKind_45 : decode cX4_readKind 45 = .ok (.aload_n 2, 1) := by decide +kernel
theorem dX4_readKind_46 : decode cX4_readKind 46 = .ok (.lload_n 3, 1) := by decide +kernel
theorem dX4_readKind_47 : decode cX4_readKind 47 = .ok (.ldc2_w 69, 3) := by decide +kernel
theorem dX4_readKind_50 : decode cX4_readKind 50 = .ok (.lcmp, 1) := by decide +kernel
theorem dX4_readKind_51 : decode cX4_readKind 51 = .ok (.ifCond .ne 7, 3) := by decide +kernel
theorem dX4_readKind_54 : decode cX4_readKind 54 = .ok (.iconst 0, 1) := by decide +kernel
theorem dX4_readKind_55 : decode cX4_readKind 55 = .ok (.goto 28, 3) := by decide +kernel
theorem dX4_readKind_58 : decode cX4_readKind 58 = .ok (.lload_n 3, 1) := by decide +kernel
theorem dX4_readKind_59 : decode cX4_readKind 59 = .ok (.ldc2_w 71, 3) := by decide +kernel
theorem dX4_readKind_62 : decode cX4_readKind 62 = .ok (.lcmp, 1) := by decide +kernel
theorem dX4_readKind_63 : decode cX4_readKind 63 = .ok (.ifCond .ne 7, 3) := by decide +kernel
theorem dX4_readKind_66 : decode cX4_readKind 66 = .ok (.iconst 1, 1) := by decide +kernel
theorem dX4_readKind_67 : decode cX4_readKind 67 = .ok (.goto 16, 3) := by decide +kernel
theorem dX4_readKind_70 : decode cX4_readKind 70 = .ok (.lload_n 3, 1) := by decide +kernel
theorem dX4_readKind_71 : decode cX4_readKind 71 = .ok (.ldc2_w 73, 3) := by decide +kernel
theorem dX4_readKind_74 : decode cX4_readKind 74 = .ok (.lcmp, 1) := by decide +kernel
theorem dX4_readKind_75 : decode cX4_readKind 75 = .ok (.ifCond .ne 7, 3) := by decide +kernel
theorem dX4_readKind_78 : decode cX4_readKind 78 = .ok (.iconst 2, 1) := by decide +kernel
theorem dX4_readKind_79 : decode cX4_readKind 79 = .ok (.goto 4, 3) := by decide +kernel
theorem dX4_readKind_82 : decode cX4_readKind 82 = .ok (.iconst 3, 1) := by decide +kernel
theorem dX4_readKind_83 : decode cX4_readKind 83 = .ok (.putfield 75, 3) := by decide +kernel
theorem dX4_readKind_86 : decode cX4_readKind 86 = .ok (.aload_n 2, 1) := by decide +kernel
theorem dX4_readKind_87 : decode cX4_readKind 87 = .ok (.getfield 75, 3) := by decide +kernel
theorem dX4_readKind_90 : decode cX4_readKind 90 = .ok (.ifCond .ne 11, 3) := by decide +kernel
theorem dX4_readKind_93 : decode cX4_readKind 93 = .ok (.aload_n 2, 1) := by decide +kernel
theorem dX4_readKind_94 : decode cX4_readKind 94 = .ok (.aload_n 1, 1) := by decide +kernel
theorem dX4_readKind_95 : decode cX4_readKind 95 = .ok (.invokevirtual 76, 3) := by decide +kernel
theorem dX4_readKind_98 : decode cX4_readKind 98 = .ok (.ifCond .eq 19, 3) := by decide +kernel
theorem dX4_readKind_101 : decode cX4_readKind 101 = .ok (.aload_n 2, 1) := by decide +kernel
theorem dX4_readKind_102 : decode cX4_readKind 102 = .ok (.getfield 75, 3) := by decide +kernel
theorem dX4_readKind_105 : decode cX4_readKind 105 = .ok (.iconst 3, 1) := by decide +kernel
theorem dX4_readKind_106 : decode cX4_readKind 106 = .ok (.if_icmp .ne 13, 3) := by decide +kernel
theorem dX4_readKind_109 : decode cX4_readKind 109 = .ok (.aload_n 2, 1) := by decide +kernel
theorem dX4_readKind_110 : decode cX4_readKind 110 = .ok (.aload_n 1, 1) := by decide +kernel
theorem dX4_readKind_111 : decode cX4_readKind 111 = .ok (.invokevirtual 79, 3) := by decide +kernel
theorem dX4_readKind_114 : decode cX4_readKind 114 = .ok (.ifCond .ne 5, 3) := by decide +kernel
theorem dX4_readKind_117 : decode cX4_readKind 117 = .ok (.iconst 0, 1) := by decide +kernel
theorem dX4_readKind_118 : decode cX4_readKind 118 = .ok (.ireturn, 1) := by decide +kernel
theorem dX4_readKind_119 : decode cX4_readKind 119 = .ok (.aload_n 1, 1) := by decide +kernel
theorem dX4_readKind_120 : decode cX4_readKind 120 = .ok (.getfield 34, 3) := by decide +kernel
theorem dX4_readKind_123 : decode cX4_readKind 123 = .ok (.bipush 63, 2) := by decide +kernel
theorem dX4_readKind_125 : decode cX4_readKind 125 = .ok (.if_icmp .ne 12, 3) := by decide +kernel
theorem dX4_readKind_128 : decode cX4_readKind 128 = .ok (.aload_n 2, 1) := by decide +kernel
theorem dX4_readKind_129 : decode cX4_readKind 129 = .ok (.iconst 1, 1) := by decide +kernel
theorem dX4_readKind_130 : decode cX4_readKind 130 = .ok (.putfield 82, 3) := by decide +kernel
theorem dX4_readKind_133 : decode cX4_readKind 133 = .ok (.aload_n 1, 1) := by decide +kernel
theorem dX4_readKind_134 : decode cX4_readKind 134 = .ok (.invokevirtual 57, 3) := by decide +kernel
theorem dX4_readKind_137 : decode cX4_readKind 137 = .ok (.iconst 1, 1) := by decide +kernel
theorem dX4_readKind_138 : decode cX4_readKind 138 = .ok (.ireturn, 1) := by decide +kernel
theorem dX4_isKind_0 : decode cX4_isKind 0 = .ok (.lload_n 0, 1) := by decide +kernel
theorem dX4_isKind_1 : decode cX4_isKind 1 = .ok (.ldc2_w 69, 3) := by decide +kernel
theorem dX4_isKind_4 : decode cX4_isKind 4 = .ok (.lcmp, 1) := by decide +kernel
theorem dX4_isKind_5 : decode cX4_isKind 5 = .ok (.ifCond .eq 35, 3) := by decide +kernel
theorem dX4_isKind_8 : decode cX4_isKind 8 = .ok (.lload_n 0, 1) := by decide +kernel
theorem dX4_isKind_9 : decode cX4_isKind 9 = .ok (.ldc2_w 71, 3) := by decide +kernel
theorem dX4_isKind_12 : decode cX4_isKind 12 = .ok (.lcmp, 1) := by decide +kernel
theorem dX4_isKind_13 : decode cX4_isKind 13 = .ok (.ifCond .eq 27, 3) := by decide +kernel
theorem dX4_isKind_16 : decode cX4_isKind 16 = .ok (.lload_n 0, 1) := by decide +kernel
theorem dX4_isKind_17 : decode cX4_isKind 17 = .ok (.ldc2_w 73, 3) := by decide +kernel
theorem dX4_isKind_20 : decode cX4_isKind 20 = .ok (.lcmp, 1) := by decide +kernel
theorem dX4_isKind_21 : decode cX4_isKind 21 = .ok (.ifCond .eq 19, 3) := by decide +kernel
theorem dX4_isKind_24 : decode cX4_isKind 24 = .ok (.lload_n 0, 1) := by decide +kernel
theorem dX4_isKind_25 : decode cX4_isKind 25 = .ok (.ldc2_w 86, 3) := by decide +kernel
theorem dX4_isKind_28 : decode cX4_isKind 28 = .ok (.lcmp, 1) := by decide +kernel
theorem dX4_isKind_29 : decode cX4_isKind 29 = .ok (.ifCond .eq 11, 3) := by decide +kernel
theorem dX4_isKind_32 : decode cX4_isKind 32 = .ok (.lload_n 0, 1) := by decide +kernel
theorem dX4_isKind_33 : decode cX4_isKind 33 = .ok (.ldc2_w 64, 3) := by decide +kernel
theorem dX4_isKind_36 : decode cX4_isKind 36 = .ok (.lcmp, 1) := by decide +kernel
theorem dX4_isKind_37 : decode cX4_isKind 37 = .ok (.ifCond .ne 7, 3) := by decide +kernel
theorem dX4_isKind_40 : decode cX4_isKind 40 = .ok (.iconst 1, 1) := by decide +kernel
theorem dX4_isKind_41 : decode cX4_isKind 41 = .ok (.goto 4, 3) := by decide +kernel
theorem dX4_isKind_44 : decode cX4_isKind 44 = .ok (.iconst 0, 1) := by decide +kernel
theorem dX4_isKind_45 : decode cX4_isKind 45 = .ok (.ireturn, 1) := by decide +kernel
theorem dX4_readSpan_0 : decode cX4_readSpan 0 = .ok (.aload_n 2, 1) := by decide +kernel
theorem dX4_readSpan_1 : decode cX4_readSpan 1 = .ok (.aload_n 1, 1) := by decide +kernel
theorem dX4_readSpan_2 : decode cX4_readSpan 2 = .ok (.getfield 88, 3) := by decide +kernel
theorem dX4_readSpan_5 : decode cX4_readSpan 5 = .ok (.putfield 91, 3) := by decide +kernel
theorem dX4_readSpan_8 : decode cX4_readSpan 8 = .ok (.aload_n 1, 1) := by decide +kernel
theorem dX4_readSpan_9 : decode cX4_readSpan 9 = .ok (.iconst 2, 1) := by decide +kernel
theorem dX4_readSpan_10 : decode cX4_readSpan 10 = .ok (.invokevirtual 39, 3) := by decide +kernel
theorem dX4_readSpan_13 : decode cX4_readSpan 13 = .ok (.ifCond .ne 5, 3) := by decide +kernel
theorem dX4_readSpan_16 : decode cX4_readSpan 16 = .ok (.iconst 0, 1) := by decide +kernel
theorem dX4_readSpan_17 : decode cX4_readSpan 17 = .ok (.ireturn, 1) := by decide +kernel
theorem dX4_readSpan_18 : decode cX4_readSpan 18 = .ok (.aload_n 1, 1) := by decide +kernel
theorem dX4_readSpan_19 : decode cX4_readSpan 19 = .ok (.getfield 34, 3) := by decide +kernel
theorem dX4_readSpan_22 : decode cX4_readSpan 22 = .ok (.iconst 1, 1) := by decide +kernel
theorem dX4_readSpan_23 : decode cX4_readSpan 23 = .ok (.if_icmp .ne 25, 3) := by decide +kernel
theorem dX4_readSpan_26 : decode cX4_readSpan 26 = .ok (.aload_n 1, 1) := by decide +kernel
theorem dX4_readSpan_27 : decode cX4_readSpan 27 = .ok (.getfield 46, 3) := by decide +kernel
theorem dX4_readSpan_30 : decode cX4_readSpan 30 = .ok (.ldc2_w 94, 3) := by decide +kernel
theorem dX4_readSpan_33 : decode cX4_readSpan 33 = .ok (.lcmp, 1) := by decide +kernel
theorem dX4_readSpan_34 : decode cX4_readSpan 34 = .ok (.ifCond .eq 20, 3) := by decide +kernel
theorem dX4_readSpan_37 : decode cX4_readSpan 37 = .ok (.aload_n 1, 1) := by decide +kernel
theorem dX4_readSpan_38 : decode cX4_readSpan 38 = .ok (.getfield 46, 3) := by decide +kernel
theorem dX4_readSpan_41 : decode cX4_readSpan 41 = .ok (.ldc2_w 96, 3) := by decide +kernel
theorem dX4_readSpan_44 : decode cX4_readSpan 44 = .ok (.lcmp, 1) := by decide +kernel
theorem dX4_readSpan_45 : decode cX4_readSpan 45 = .ok (.ifCond .eq 9, 3) := by decide +kernel
theorem dX4_readSpan_48 : decode cX4_readSpan 48 = .ok (.aload_n 1, 1) := by decide +kernel
theorem dX4_readSpan_49 : decode cX4_readSpan 49 = .ok (.iconst 1, 1) := by decide +kernel
theorem dX4_readSpan_50 : decode cX4_readSpan 50 = .ok (.invokevirtual 43, 3) := by decide +kernel
theorem dX4_readSpan_53 : decode cX4_readSpan 53 = .ok (.ireturn, 1) := by decide +kernel
theorem dX4_readSpan_54 : decode cX4_readSpan 54 = .ok (.aload_n 2, 1) := by decide +kernel
theorem dX4_readSpan_55 : decode cX4_readSpan 55 = .ok (.aload_n 1, 1) := by decide +kernel
theorem dX4_readSpan_56 : decode cX4_readSpan 56 = .ok (.getfield 46, 3) := by decide +kernel
theorem dX4_readSpan_59 : decode cX4_readSpan 59 = .ok (.ldc2_w 94, 3) := by decide +kernel
theorem dX4_readSpan_62 : decode cX4_readSpan 62 = .ok (.lcmp, 1) := by decide +kernel
theorem dX4_readSpan_63 : decode cX4_readSpan 63 = .ok (.ifCond .ne 7, 3) := by decide +kernel
theorem dX4_readSpan_66 : decode cX4_readSpan 66 = .ok (.iconst 4, 1) := by decide +kernel
theorem dX4_readSpan_67 : decode cX4_readSpan 67 = .ok (.goto 4, 3) := by decide +kernel
theorem dX4_readSpan_70 : decode cX4_readSpan 70 = .ok (.iconst 5, 1) := by decide +kernel
theorem dX4_readSpan_71 : decode cX4_readSpan 71 = .ok (.putfield 75, 3) := by decide +kernel
theorem dX4_readSpan_74 : decode cX4_readSpan 74 = .ok (.aload_n 1, 1) := by decide +kernel
theorem dX4_readSpan_75 : decode cX4_readSpan 75 = .ok (.invokevirtual 57, 3) := by decide +kernel
theorem dX4_readSpan_78 : decode cX4_readSpan 78 = .ok (.aload_n 1, 1) := by decide +kernel
theorem dX4_readSpan_79 : decode cX4_readSpan 79 = .ok (.getfield 34, 3) := by decide +kernel
theorem dX4_readSpan_82 : decode cX4_readSpan 82 = .ok (.iconst 1, 1) := by decide +kernel
theorem dX4_readSpan_83 : decode cX4_readSpan 83 = .ok (.if_icmp .eq 9, 3) := by decide +kernel
theorem dX4_readSpan_86 : decode cX4_readSpan 86 = .ok (.aload_n 1, 1) := by decide +kernel
theorem dX4_readSpan_87 : decode cX4_readSpan 87 = .ok (.iconst 1, 1) := by decide +kernel
theorem dX4_readSpan_88 : decode cX4_readSpan 88 = .ok (.invokevirtual 43, 3) := by decide +kernel
theorem dX4_readSpan_91 : decode cX4_readSpan 91 = .ok (.ireturn, 1) := by decide +kernel
theorem dX4_readSpan_92 : decode cX4_readSpan 92 = .ok (.aload_n 0, 1) := by decide +kernel
theorem dX4_readSpan_93 : decode cX4_readSpan 93 = .ok (.aload_n 1, 1) := by decide +kernel
theorem dX4_readSpan_94 : decode cX4_readSpan 94 = .ok (.getfield 46, 3) := by decide +kernel
theorem dX4_readSpan_97 : decode cX4_readSpan 97 = .ok (.invokevirtual 49, 3) := by decide +kernel
theorem dX4_readSpan_100 : decode cX4_readSpan 100 = .ok (.istore_n 3, 1) := by decide +kernel
theorem dX4_readSpan_101 : decode cX4_readSpan 101 = .ok (.iload_n 3, 1) := by decide +kernel
theorem dX4_readSpan_102 : decode cX4_readSpan 102 = .ok (.iconst (-1), 1) := by decide +kernel
theorem dX4_readSpan_103 : decode cX4_readSpan 103 = .ok (.if_icmp .eq 15, 3) := by decide +kernel
theorem dX4_readSpan_106 : decode cX4_readSpan 106 = .ok (.aload_n 0, 1) := by decide +kernel
theorem dX4_readSpan_107 : decode cX4_readSpan 107 = .ok (.getfield 11, 3) := by decide +kernel
theorem dX4_readSpan_110 : decode cX4_readSpan 110 = .ok (.iload_n 3, 1) := by decide +kernel
theorem dX4_readSpan_111 : decode cX4_readSpan 111 = .ok (.aaload, 1) := by decide +kernel
theorem dX4_readSpan_112 : decode cX4_readSpan 112 = .ok (.invokevirtual 98, 3) := by decide +kernel
theorem dX4_readSpan_115 : decode cX4_readSpan 115 = .ok (.ifCond .ne 9, 3) := by decide +kernel
theorem dX4_readSpan_118 : decode cX4_readSpan 118 = .ok (.aload_n 1, 1) := by decide +kernel
theorem dX4_readSpan_119 : decode cX4_readSpan 119 = .ok (.iconst 2, 1) := by decide +kernel
theorem dX4_readSpan_120 : decode cX4_readSpan 120 = .ok (.invokevirtual 43, 3) := by decide +kernel
theorem dX4_readSpan_123 : decode cX4_readSpan 123 = .ok (.ireturn, 1) := by decide +kernel
theorem dX4_readSpan_124 : decode cX4_readSpan 124 = .ok (.aload_n 2, 1) := by decide +kernel
theorem dX4_readSpan_125 : decode cX4_readSpan 125 = .ok (.iload_n 3, 1) := by decide +kernel
theorem dX4_readSpan_126 : decode cX4_readSpan 126 = .ok (.putfield 102, 3) := by decide +kernel
theorem dX4_readSpan_129 : decode cX4_readSpan 129 = .ok (.aload_n 1, 1) := by decide +kernel
theorem dX4_readSpan_130 : decode cX4_readSpan 130 = .ok (.invokevirtual 57, 3) := by decide +kernel
theorem dX4_readSpan_133 : decode cX4_readSpan 133 = .ok (.iconst 1, 1) := by decide +kernel
theorem dX4_readSpan_134 : decode cX4_readSpan 134 = .ok (.ireturn, 1) := by decide +kernel
theorem dX4_readNotice_0 : decode cX4_readNotice 0 = .ok (.iconst 0, 1) := by decide +kernel
theorem dX4_readNotice_1 : decode cX4_readNotice 1 = .ok (.istore_n 3, 1) := by decide +kernel
theorem dX4_readNotice_2 : decode cX4_readNotice 2 = .ok (.iload_n 3, 1) := by decide +kernel
theorem dX4_readNotice_3 : decode cX4_readNotice 3 = .ok (.bipush 8, 2) := by decide +kernel
theorem dX4_readNotice_5 : decode cX4_readNotice 5 = .ok (.if_icmp .gt 45, 3) := by decide +kernel
theorem dX4_readNotice_8 : decode cX4_readNotice 8 = .ok (.aload_n 0, 1) := by decide +kernel
theorem dX4_readNotice_9 : decode cX4_readNotice 9 = .ok (.aload_n 1, 1) := by decide +kernel
theorem dX4_readNotice_10 : decode cX4_readNotice 10 = .ok (.aload_n 2, 1) := by decide +kernel
theorem dX4_readNotice_11 : decode cX4_readNotice 11 = .ok (.invokevirtual 105, 3) := by decide +kernel
theorem dX4_readNotice_14 : decode cX4_readNotice 14 = .ok (.ifCond .ne 5, 3) := by decide +kernel
theorem dX4_readNotice_17 : decode cX4_readNotice 17 = .ok (.iconst 0, 1) := by decide +kernel
theorem dX4_readNotice_18 : decode cX4_readNotice 18 = .ok (.ireturn, 1) := by decide +kernel
theorem dX4_readNotice_19 : decode cX4_readNotice 19 = .ok (.aload_n 1, 1) := by decide +kernel
theorem dX4_readNotice_20 : decode cX4_readNotice 20 = .ok (.getfield 34, 3) := by decide +kernel
theorem dX4_readNotice_23 : decode cX4_readNotice 23 = .ok (.ifCond .ne 10, 3) := by decide +kernel
theorem dX4_readNotice_26 : decode cX4_readNotice 26 = .ok (.aload_n 0, 1) := by decide +kernel
theorem dX4_readNotice_27 : decode cX4_readNotice 27 = .ok (.aload_n 1, 1) := by decide +kernel
theorem dX4_readNotice_28 : decode cX4_readNotice 28 = .ok (.aload_n 2, 1) := by decide +kernel
theorem dX4_readNotice_29 : decode cX4_readNotice 29 = .ok (.invokevirtual 109, 3) := by decide +kernel
theorem dX4_readNotice_32 : decode cX4_readNotice 32 = .ok (.ireturn, 1) := by decide +kernel
theorem dX4_readNotice_33 : decode cX4_readNotice 33 = .ok (.aload_n 1, 1) := by decide +kernel
theorem dX4_readNotice_34 : decode cX4_readNotice 34 = .ok (.bipush 59, 2) := by decide +kernel
theorem dX4_readNotice_36 : decode cX4_readNotice 36 = .ok (.invokevirtual 39, 3) := by decide +kernel
theorem dX4_readNotice_39 : decode cX4_readNotice 39 = .ok (.ifCond .ne 5, 3) := by decide +kernel
theorem dX4_readNotice_42 : decode cX4_readNotice 42 = .ok (.iconst 0, 1) := by decide +kernel
theorem dX4_readNotice_43 : decode cX4_readNotice 43 = .ok (.ireturn, 1) := by decide +kernel
theorem dX4_readNotice_44 : decode cX4_readNotice 44 = .ok (.iinc 3 1, 3) := by decide +kernel
theorem dX4_readNotice_47 : decode cX4_readNotice 47 = .ok (.goto (-45), 3) := by decide +kernel
theorem dX4_readNotice_50 : decode cX4_readNotice 50 = .ok (.iconst 0, 1) := by decide +kernel
theorem dX4_readNotice_51 : decode cX4_readNotice 51 = .ok (.ireturn, 1) := by decide +kernel
theorem dX4_readEntry_0 : decode cX4_readEntry 0 = .ok (.aload_n 1, 1) := by decide +kernel
theorem dX4_readEntry_1 : decode cX4_readEntry 1 = .ok (.getfield 34, 3) := by decide +kernel
theorem dX4_readEntry_4 : decode cX4_readEntry 4 = .ok (.iconst 1, 1) := by decide +kernel
theorem dX4_readEntry_5 : decode cX4_readEntry 5 = .ok (.if_icmp .eq 9, 3) := by decide +kernel
theorem dX4_readEntry_8 : decode cX4_readEntry 8 = .ok (.aload_n 1, 1) := by decide +kernel
theorem dX4_readEntry_9 : decode cX4_readEntry 9 = .ok (.iconst 1, 1) := by decide +kernel
theorem dX4_readEntry_10 : decode cX4_readEntry 10 = .ok (.invokevirtual 43, 3) := by decide +kernel
theorem dX4_readEntry_13 : decode cX4_readEntry 13 = .ok (.ireturn, 1) := by decide +kernel
theorem dX4_readEntry_14 : decode cX4_readEntry 14 = .ok (.aload_n 0, 1) := by decide +kernel
theorem dX4_readEntry_15 : decode cX4_readEntry 15 = .ok (.aload_n 1, 1) := by decide +kernel
theorem dX4_readEntry_16 : decode cX4_readEntry 16 = .ok (.getfield 46, 3) := by decide +kernel
theorem dX4_readEntry_19 : decode cX4_readEntry 19 = .ok (.invokevirtual 49, 3) := by decide +kernel
theorem dX4_readEntry_22 : decode cX4_readEntry 22 = .ok (.istore_n 3, 1) := by decide +kernel
theorem dX4_readEntry_23 : decode cX4_readEntry 23 = .ok (.iload_n 3, 1) := by decide +kernel
theorem dX4_readEntry_24 : decode cX4_readEntry 24 = .ok (.iconst (-1), 1) := by decide +kernel
theorem dX4_readEntry_25 : decode cX4_readEntry 25 = .ok (.if_icmp .eq 15, 3) := by decide +kernel
theorem dX4_readEntry_28 : decode cX4_readEntry 28 = .ok (.aload_n 0, 1) := by decide +kernel
theorem dX4_readEntry_29 : decode cX4_readEntry 29 = .ok (.getfield 11, 3) := by decide +kernel
theorem dX4_readEntry_32 : decode cX4_readEntry 32 = .ok (.iload_n 3, 1) := by decide +kernel
theorem dX4_readEntry_33 : decode cX4_readEntry 33 = .ok (.aaload, 1) := by decide +kernel
theorem dX4_readEntry_34 : decode cX4_readEntry 34 = .ok (.invokevirtual 112, 3) := by decide +kernel
theorem dX4_readEntry_37 : decode cX4_readEntry 37 = .ok (.ifCond .eq 9, 3) := by decide +kernel
theorem dX4_readEntry_40 : decode cX4_readEntry 40 = .ok (.aload_n 1, 1) := by decide +kernel
theorem dX4_readEntry_41 : decode cX4_readEntry 41 = .ok (.iconst 2, 1) := by decide +kernel
theorem dX4_readEntry_42 : decode cX4_readEntry 42 = .ok (.invokevirtual 43, 3) := by decide +kernel
theorem dX4_readEntry_45 : decode cX4_readEntry 45 = .ok (.ireturn, 1) := by decide +kernel
theorem dX4_readEntry_46 : decode cX4_readEntry 46 = .ok (.aload_n 2, 1) := by decide +kernel
theorem dX4_readEntry_47 : decode cX4_readEntry 47 = .ok (.iload_n 3, 1) := by decide +kernel
theorem dX4_readEntry_48 : decode cX4_readEntry 48 = .ok (.laload, 1) := by decide +kernel
theorem dX4_readEntry_49 : decode cX4_readEntry 49 = .ok (.ldc2_w 115, 3) := by decide +kernel
theorem dX4_readEntry_52 : decode cX4_readEntry 52 = .ok (.lcmp, 1) := by decide +kernel
theorem dX4_readEntry_53 : decode cX4_readEntry 53 = .ok (.ifCond .eq 9, 3) := by decide +kernel
theorem dX4_readEntry_56 : decode cX4_readEntry 56 = .ok (.aload_n 1, 1) := by decide +kernel
theorem dX4_readEntry_57 : decode cX4_readEntry 57 = .ok (.iconst 3, 1) := by decide +kernel
theorem dX4_readEntry_58 : decode cX4_readEntry 58 = .ok (.invokevirtual 43, 3) := by decide +kernel
theorem dX4_readEntry_61 : decode cX4_readEntry 61 = .ok (.ireturn, 1) := by decide +kernel
theorem dX4_readEntry_62 : decode cX4_readEntry 62 = .ok (.aload_n 1, 1) := by decide +kernel
theorem dX4_readEntry_63 : decode cX4_readEntry 63 = .ok (.invokevirtual 57, 3) := by decide +kernel
theorem dX4_readEntry_66 : decode cX4_readEntry 66 = .ok (.aload_n 1, 1) := by decide +kernel
theorem dX4_readEntry_67 : decode cX4_readEntry 67 = .ok (.bipush 61, 2) := by decide +kernel
theorem dX4_readEntry_69 : decode cX4_readEntry 69 = .ok (.invokevirtual 39, 3) := by decide +kernel
theorem dX4_readEntry_72 : decode cX4_readEntry 72 = .ok (.ifCond .ne 5, 3) := by decide +kernel
theorem dX4_readEntry_75 : decode cX4_readEntry 75 = .ok (.iconst 0, 1) := by decide +kernel
theorem dX4_readEntry_76 : decode cX4_readEntry 76 = .ok (.ireturn, 1) := by decide +kernel
theorem dX4_readEntry_77 : decode cX4_readEntry 77 = .ok (.aload_n 1, 1) := by decide +kernel
theorem dX4_readEntry_78 : decode cX4_readEntry 78 = .ok (.getfield 34, 3) := by decide +kernel
theorem dX4_readEntry_81 : decode cX4_readEntry 81 = .ok (.iconst 1, 1) := by decide +kernel
theorem dX4_readEntry_82 : decode cX4_readEntry 82 = .ok (.if_icmp .eq 17, 3) := by decide +kernel
theorem dX4_readEntry_85 : decode cX4_readEntry 85 = .ok (.aload_n 1, 1) := by decide +kernel
theorem dX4_readEntry_86 : decode cX4_readEntry 86 = .ok (.getfield 34, 3) := by decide +kernel
theorem dX4_readEntry_89 : decode cX4_readEntry 89 = .ok (.iconst 2, 1) := by decide +kernel
theorem dX4_readEntry_90 : decode cX4_readEntry 90 = .ok (.if_icmp .eq 9, 3) := by decide +kernel
theorem dX4_readEntry_93 : decode cX4_readEntry 93 = .ok (.aload_n 1, 1) := by decide +kernel
theorem dX4_readEntry_94 : decode cX4_readEntry 94 = .ok (.iconst 1, 1) := by decide +kernel
theorem dX4_readEntry_95 : decode cX4_readEntry 95 = .ok (.invokevirtual 43, 3) := by decide +kernel
theorem dX4_readEntry_98 : decode cX4_readEntry 98 = .ok (.ireturn, 1) := by decide +kernel
theorem dX4_readEntry_99 : decode cX4_readEntry 99 = .ok (.aload_n 2, 1) := by decide +kernel
theorem dX4_readEntry_100 : decode cX4_readEntry 100 = .ok (.iload_n 3, 1) := by decide +kernel
theorem dX4_readEntry_101 : decode cX4_readEntry 101 = .ok (.aload_n 0, 1) := by decide +kernel
theorem dX4_readEntry_102 : decode cX4_readEntry 102 = .ok (.getfield 11, 3) := by decide +kernel
theorem dX4_readEntry_105 : decode cX4_readEntry 105 = .ok (.iload_n 3, 1) := by decide +kernel
theorem dX4_readEntry_106 : decode cX4_readEntry 106 = .ok (.aaload, 1) := by decide +kernel
theorem dX4_readEntry_107 : decode cX4_readEntry 107 = .ok (.aload_n 1, 1) := by decide +kernel
theorem dX4_readEntry_108 : decode cX4_readEntry 108 = .ok (.invokevirtual 117, 3) := by decide +kernel
theorem dX4_readEntry_111 : decode cX4_readEntry 111 = .ok (.lastore, 1) := by decide +kernel
theorem dX4_readEntry_112 : decode cX4_readEntry 112 = .ok (.aload_n 2, 1) := by decide +kernel
theorem dX4_readEntry_113 : decode cX4_readEntry 113 = .ok (.iload_n 3, 1) := by decide +kernel
theorem dX4_readEntry_114 : decode cX4_readEntry 114 = .ok (.laload, 1) := by decide +kernel
theorem dX4_readEntry_115 : decode cX4_readEntry 115 = .ok (.ldc2_w 115, 3) := by decide +kernel
theorem dX4_readEntry_118 : decode cX4_readEntry 118 = .ok (.lcmp, 1) := by decide +kernel
theorem dX4_readEntry_119 : decode cX4_readEntry 119 = .ok (.ifCond .ne 9, 3) := by decide +kernel
theorem dX4_readEntry_122 : decode cX4_readEntry 122 = .ok (.aload_n 1, 1) := by decide +kernel
theorem dX4_readEntry_123 : decode cX4_readEntry 123 = .ok (.iconst 4, 1) := by decide +kernel
theorem dX4_readEntry_124 : decode cX4_readEntry 124 = .ok (.invokevirtual 43, 3) := by decide +kernel
theorem dX4_readEntry_127 : decode cX4_readEntry 127 = .ok (.ireturn, 1) := by decide +kernel
theorem dX4_readEntry_128 : decode cX4_readEntry 128 = .ok (.aload_n 1, 1) := by decide +kernel
theorem dX4_readEntry_129 : decode cX4_readEntry 129 = .ok (.invokevirtual 57, 3) := by decide +kernel
theorem dX4_readEntry_132 : decode cX4_readEntry 132 = .ok (.iconst 1, 1) := by decide +kernel
theorem dX4_readEntry_133 : decode cX4_readEntry 133 = .ok (.ireturn, 1) := by decide +kernel
theorem dX4_isWhole_0 : decode cX4_isWhole 0 = .ok (.iconst 0, 1) := by decide +kernel
theorem dX4_isWhole_1 : decode cX4_isWhole 1 = .ok (.istore_n 3, 1) := by decide +kernel
theorem dX4_isWhole_2 : decode cX4_isWhole 2 = .ok (.iload_n 3, 1) := by decide +kernel
theorem dX4_isWhole_3 : decode cX4_isWhole 3 = .ok (.aload_n 0, 1) := by decide +kernel
theorem dX4_isWhole_4 : decode cX4_isWhole 4 = .ok (.getfield 18, 3) := by decide +kernel
theorem dX4_isWhole_7 : decode cX4_isWhole 7 = .ok (.if_icmp .ge 55, 3) := by decide +kernel
theorem dX4_isWhole_10 : decode cX4_isWhole 10 = .ok (.aload_n 2, 1) := by decide +kernel
theorem dX4_isWhole_11 : decode cX4_isWhole 11 = .ok (.iload_n 3, 1) := by decide +kernel
theorem dX4_isWhole_12 : decode cX4_isWhole 12 = .ok (.laload, 1) := by decide +kernel
theorem dX4_isWhole_13 : decode cX4_isWhole 13 = .ok (.ldc2_w 115, 3) := by decide +kernel
theorem dX4_isWhole_16 : decode cX4_isWhole 16 = .ok (.lcmp, 1) := by decide +kernel
theorem dX4_isWhole_17 : decode cX4_isWhole 17 = .ok (.ifCond .ne 39, 3) := by decide +kernel
theorem dX4_isWhole_20 : decode cX4_isWhole 20 = .ok (.aload_n 0, 1) := by decide +kernel
theorem dX4_isWhole_21 : decode cX4_isWhole 21 = .ok (.getfield 11, 3) := by decide +kernel
theorem dX4_isWhole_24 : decode cX4_isWhole 24 = .ok (.iload_n 3, 1) := by decide +kernel
theorem dX4_isWhole_25 : decode cX4_isWhole 25 = .ok (.aaload, 1) := by decide +kernel
theorem dX4_isWhole_26 : decode cX4_isWhole 26 = .ok (.getfield 82, 3) := by decide +kernel
theorem dX4_isWhole_29 : decode cX4_isWhole 29 = .ok (.ifCond .ne 27, 3) := by decide +kernel
theorem dX4_isWhole_32 : decode cX4_isWhole 32 = .ok (.aload_n 0, 1) := by decide +kernel
theorem dX4_isWhole_33 : decode cX4_isWhole 33 = .ok (.getfield 11, 3) := by decide +kernel
theorem dX4_isWhole_36 : decode cX4_isWhole 36 = .ok (.iload_n 3, 1) := by decide +kernel
theorem dX4_isWhole_37 : decode cX4_isWhole 37 = .ok (.aaload, 1) := by decide +kernel
theorem dX4_isWhole_38 : decode cX4_isWhole 38 = .ok (.invokevirtual 112, 3) := by decide +kernel
theorem dX4_isWhole_41 : decode cX4_isWhole 41 = .ok (.ifCond .ne 15, 3) := by decide +kernel
theorem dX4_isWhole_44 : decode cX4_isWhole 44 = .ok (.aload_n 1, 1) := by decide +kernel
theorem dX4_isWhole_45 : decode cX4_isWhole 45 = .ok (.iload_n 3, 1) := by decide +kernel
theorem dX4_isWhole_46 : decode cX4_isWhole 46 = .ok (.putfield 121, 3) := by decide +kernel
theorem dX4_isWhole_49 : decode cX4_isWhole 49 = .ok (.aload_n 1, 1) := by decide +kernel
theorem dX4_isWhole_50 : decode cX4_isWhole 50 = .ok (.bipush 6, 2) := by decide +kernel
theorem dX4_isWhole_52 : decode cX4_isWhole 52 = .ok (.invokevirtual 43, 3) := by decide +kernel
theorem dX4_isWhole_55 : decode cX4_isWhole 55 = .ok (.ireturn, 1) := by decide +kernel
theorem dX4_isWhole_56 : decode cX4_isWhole 56 = .ok (.iinc 3 1, 3) := by decide +kernel
theorem dX4_isWhole_59 : decode cX4_isWhole 59 = .ok (.goto (-57), 3) := by decide +kernel
theorem dX4_isWhole_62 : decode cX4_isWhole 62 = .ok (.iconst 1, 1) := by decide +kernel
theorem dX4_isWhole_63 : decode cX4_isWhole 63 = .ok (.ireturn, 1) := by decide +kernel
theorem dX4_reckon_0 : decode cX4_reckon 0 = .ok (.iconst 0, 1) := by decide +kernel
theorem dX4_reckon_1 : decode cX4_reckon 1 = .ok (.istore_n 3, 1) := by decide +kernel
theorem dX4_reckon_2 : decode cX4_reckon 2 = .ok (.iload_n 3, 1) := by decide +kernel
theorem dX4_reckon_3 : decode cX4_reckon 3 = .ok (.aload_n 0, 1) := by decide +kernel
theorem dX4_reckon_4 : decode cX4_reckon 4 = .ok (.getfield 18, 3) := by decide +kernel
theorem dX4_reckon_7 : decode cX4_reckon 7 = .ok (.if_icmp .ge 76, 3) := by decide +kernel
theorem dX4_reckon_10 : decode cX4_reckon 10 = .ok (.aload_n 0, 1) := by decide +kernel
theorem dX4_reckon_11 : decode cX4_reckon 11 = .ok (.getfield 11, 3) := by decide +kernel
theorem dX4_reckon_14 : decode cX4_reckon 14 = .ok (.iload_n 3, 1) := by decide +kernel
theorem dX4_reckon_15 : decode cX4_reckon 15 = .ok (.aaload, 1) := by decide +kernel
theorem dX4_reckon_16 : decode cX4_reckon 16 = .ok (.astore 4, 2) := by decide +kernel
theorem dX4_reckon_18 : decode cX4_reckon 18 = .ok (.aload 4, 2) := by decide +kernel
theorem dX4_reckon_20 : decode cX4_reckon 20 = .ok (.invokevirtual 112, 3) := by decide +kernel
theorem dX4_reckon_23 : decode cX4_reckon 23 = .ok (.ifCond .eq 54, 3) := by decide +kernel
theorem dX4_reckon_26 : decode cX4_reckon 26 = .ok (.aload_n 1, 1) := by decide +kernel
theorem dX4_reckon_27 : decode cX4_reckon 27 = .ok (.aload 4, 2) := by decide +kernel
theorem dX4_reckon_29 : decode cX4_reckon 29 = .ok (.getfield 102, 3) := by decide +kernel
theorem dX4_reckon_32 : decode cX4_reckon 32 = .ok (.laload, 1) := by decide +kernel
theorem dX4_reckon_33 : decode cX4_reckon 33 = .ok (.l2i, 1) := by decide +kernel
theorem dX4_reckon_34 : decode cX4_reckon 34 = .ok (.istore 5, 2) := by decide +kernel
theorem dX4_reckon_36 : decode cX4_reckon 36 = .ok (.aload_n 1, 1) := by decide +kernel
theorem dX4_reckon_37 : decode cX4_reckon 37 = .ok (.iload_n 3, 1) := by decide +kernel
theorem dX4_reckon_38 : decode cX4_reckon 38 = .ok (.iload 5, 2) := by decide +kernel
theorem dX4_reckon_40 : decode cX4_reckon 40 = .ok (.iconst (-1), 1) := by decide +kernel
theorem dX4_reckon_41 : decode cX4_reckon 41 = .ok (.if_icmp .ne 9, 3) := by decide +kernel
theorem dX4_reckon_44 : decode cX4_reckon 44 = .ok (.ldc2_w 115, 3) := by decide +kernel
theorem dX4_reckon_47 : decode cX4_reckon 47 = .ok (.goto 29, 3) := by decide +kernel
theorem dX4_reckon_50 : decode cX4_reckon 50 = .ok (.aload_n 2, 1) := by decide +kernel
theorem dX4_reckon_51 : decode cX4_reckon 51 = .ok (.iload 5, 2) := by decide +kernel
theorem dX4_reckon_53 : decode cX4_reckon 53 = .ok (.aload 4, 2) := by decide +kernel
theorem dX4_reckon_55 : decode cX4_reckon 55 = .ok (.getfield 91, 3) := by decide +kernel
theorem dX4_reckon_58 : decode cX4_reckon 58 = .ok (.aload 4, 2) := by decide +kernel
theorem dX4_reckon_60 : decode cX4_reckon 60 = .ok (.getfield 75, 3) := by decide +kernel
theorem dX4_reckon_63 : decode cX4_reckon 63 = .ok (.iconst 5, 1) := by decide +kernel
theorem dX4_reckon_64 : decode cX4_reckon 64 = .ok (.if_icmp .ne 7, 3) := by decide +kernel
theorem dX4_reckon_67 : decode cX4_reckon 67 = .ok (.iconst 1, 1) := by decide +kernel
theorem dX4_reckon_68 : decode cX4_reckon 68 = .ok (.goto 4, 3) := by decide +kernel
theorem dX4_reckon_71 : decode cX4_reckon 71 = .ok (.iconst 0, 1) := by decide +kernel
theorem dX4_reckon_72 : decode cX4_reckon 72 = .ok (.invokevirtual 124, 3) := by decide +kernel
theorem dX4_reckon_75 : decode cX4_reckon 75 = .ok (.i2l, 1) := by decide +kernel
theorem dX4_reckon_76 : decode cX4_reckon 76 = .ok (.lastore, 1) := by decide +kernel
theorem dX4_reckon_77 : decode cX4_reckon 77 = .ok (.iinc 3 1, 3) := by decide +kernel
theorem dX4_reckon_80 : decode cX4_reckon 80 = .ok (.goto (-78), 3) := by decide +kernel
theorem dX4_reckon_83 : decode cX4_reckon 83 = .ok (.return_, 1) := by decide +kernel
theorem dX5_init_0 : decode cX5_init 0 = .ok (.aload_n 0, 1) := by decide +kernel
theorem dX5_init_1 : decode cX5_init 1 = .ok (.invokespecial 3, 3) := by decide +kernel
theorem dX5_init_4 : decode cX5_init 4 = .ok (.aload_n 0, 1) := by decide +kernel
theorem dX5_init_5 : decode cX5_init 5 = .ok (.bipush 12, 2) := by decide +kernel
theorem dX5_init_7 : decode cX5_init 7 = .ok (.newarray .int, 2) := by decide +kernel
theorem dX5_init_9 : decode cX5_init 9 = .ok (.putfield 9, 3) := by decide +kernel
theorem dX5_init_12 : decode cX5_init 12 = .ok (.return_, 1) := by decide +kernel
theorem dX5_begin_0 : decode cX5_begin 0 = .ok (.aload_n 0, 1) := by decide +kernel
theorem dX5_begin_1 : decode cX5_begin 1 = .ok (.iload_n 1, 1) := by decide +kernel
theorem dX5_begin_2 : decode cX5_begin 2 = .ok (.putfield 15, 3) := by decide +kernel
theorem dX5_begin_5 : decode cX5_begin 5 = .ok (.aload_n 0, 1) := by decide +kernel
theorem dX5_begin_6 : decode cX5_begin 6 = .ok (.iload_n 2, 1) := by decide +kernel
theorem dX5_begin_7 : decode cX5_begin 7 = .ok (.putfield 19, 3) := by decide +kernel
theorem dX5_begin_10 : decode cX5_begin 10 = .ok (.aload_n 0, 1) := by decide +kernel
theorem dX5_begin_11 : decode cX5_begin 11 = .ok (.iconst 0, 1) := by decide +kernel
theorem dX5_begin_12 : decode cX5_begin 12 = .ok (.putfield 22, 3) := by decide +kernel
theorem dX5_begin_15 : decode cX5_begin 15 = .ok (.aload_n 0, 1) := by decide +kernel
theorem dX5_begin_16 : decode cX5_begin 16 = .ok (.iconst 0, 1) := by decide +kernel
theorem dX5_begin_17 : decode cX5_begin 17 = .ok (.putfield 25, 3) := by decide +kernel
theorem dX5_begin_20 : decode cX5_begin 20 = .ok (.aload_n 0, 1) := by decide +kernel
theorem dX5_begin_21 : decode cX5_begin 21 = .ok (.iconst 0, 1) := by decide +kernel
theorem dX5_begin_22 : decode cX5_begin 22 = .ok (.putfield 28, 3) := by decide +kernel
theorem dX5_begin_25 : decode cX5_begin 25 = .ok (.return_, 1) := by decide +kernel
theorem dX5_addNotice_0 : decode cX5_addNotice 0 = .ok (.aload_n 0, 1) := by decide +kernel
theorem dX5_addNotice_1 : decode cX5_addNotice 1 = .ok (.getfield 28, 3) := by decide +kernel
theorem dX5_addNotice_4 : decode cX5_addNotice 4 = .ok (.bipush 12, 2) := by decide +kernel
theorem dX5_addNotice_6 : decode cX5_addNotice 6 = .ok (.if_icmp .ge 45, 3) := by decide +kernel
theorem dX5_addNotice_9 : decode cX5_addNotice 9 = .ok (.aload_n 0, 1) := by decide +kernel
theorem dX5_addNotice_10 : decode cX5_addNotice 10 = .ok (.getfield 9, 3) := by decide +kernel
theorem dX5_addNotice_13 : decode cX5_addNotice 13 = .ok (.aload_n 0, 1) := by decide +kernel
theorem dX5_addNotice_14 : decode cX5_addNotice 14 = .ok (.getfield 28, 3) := by decide +kernel
theorem dX5_addNotice_17 : decode cX5_addNotice 17 = .ok (.iload_n 1, 1) := by decide +kernel
theorem dX5_addNotice_18 : decode cX5_addNotice 18 = .ok (.iastore, 1) := by decide +kernel
theorem dX5_addNotice_19 : decode cX5_addNotice 19 = .ok (.aload_n 0, 1) := by decide +kernel
theorem dX5_addNotice_20 : decode cX5_addNotice 20 = .ok (.dup, 1) := by decide +kernel
theorem dX5_addNotice_21 : decode cX5_addNotice 21 = .ok (.getfield 28, 3) := by decide +kernel
theorem dX5_addNotice_24 : decode cX5_addNotice 24 = .ok (.iconst 1, 1) := by decide +kernel
theorem dX5_addNotice_25 : decode cX5_addNotice 25 = .ok (.iadd, 1) := by decide +kernel
theorem dX5_addNotice_26 : decode cX5_addNotice 26 = .ok (.putfield 28, 3) := by decide +kernel
theorem dX5_addNotice_29 : decode cX5_addNotice 29 = .ok (.aload_n 0, 1) := by decide +kernel
theorem dX5_addNotice_30 : decode cX5_addNotice 30 = .ok (.dup, 1) := by decide +kernel
theorem dX5_addNotice_31 : decode cX5_addNotice 31 = .ok (.getfield 22, 3) := by decide +kernel
theorem dX5_addNotice_34 : decode cX5_addNotice 34 = .ok (.iload_n 2, 1) := by decide +kernel
theorem dX5_addNotice_35 : decode cX5_addNotice 35 = .ok (.aload_n 0, 1) := by decide +kernel
theorem dX5_addNotice_36 : decode cX5_addNotice 36 = .ok (.getfield 15, 3) := by decide +kernel
theorem dX5_addNotice_39 : decode cX5_addNotice 39 = .ok (.if_icmp .ge 7, 3) := by decide +kernel
theorem dX5_addNotice_42 : decode cX5_addNotice 42 = .ok (.iconst 1, 1) := by decide +kernel
theorem dX5_addNotice_43 : decode cX5_addNotice 43 = .ok (.goto 4, 3) := by decide +kernel
theorem dX5_addNotice_46 : decode cX5_addNotice 46 = .ok (.iconst 0, 1) := by decide +kernel
theorem dX5_addNotice_47 : decode cX5_addNotice 47 = .ok (.iadd, 1) := by decide +kernel
theorem dX5_addNotice_48 : decode cX5_addNotice 48 = .ok (.putfield 22, 3) := by decide +kernel
theorem dX5_addNotice_51 : decode cX5_addNotice 51 = .ok (.return_, 1) := by decide +kernel
theorem dX6_init_0 : decode cX6_init 0 = .ok (.aload_n 0, 1) := by decide +kernel
theorem dX6_init_1 : decode cX6_init 1 = .ok (.invokespecial 3, 3) := by decide +kernel
theorem dX6_init_4 : decode cX6_init 4 = .ok (.aload_n 0, 1) := by decide +kernel
theorem dX6_init_5 : decode cX6_init 5 = .ok (.bipush 8, 2) := by decide +kernel
theorem dX6_init_7 : decode cX6_init 7 = .ok (.newarray .long, 2) := by decide +kernel
theorem dX6_init_9 : decode cX6_init 9 = .ok (.putfield 9, 3) := by decide +kernel
theorem dX6_init_12 : decode cX6_init 12 = .ok (.aload_n 0, 1) := by decide +kernel
theorem dX6_init_13 : decode cX6_init 13 = .ok (.iconst 4, 1) := by decide +kernel
theorem dX6_init_14 : decode cX6_init 14 = .ok (.newarray .int, 2) := by decide +kernel
theorem dX6_init_16 : decode cX6_init 16 = .ok (.putfield 15, 3) := by decide +kernel
theorem dX6_init_19 : decode cX6_init 19 = .ok (.aload_n 0, 1) := by decide +kernel
theorem dX6_init_20 : decode cX6_init 20 = .ok (.iconst 4, 1) := by decide +kernel
theorem dX6_init_21 : decode cX6_init 21 = .ok (.newarray .int, 2) := by decide +kernel
theorem dX6_init_23 : decode cX6_init 23 = .ok (.putfield 19, 3) := by decide +kernel
theorem dX6_init_26 : decode cX6_init 26 = .ok (.aload_n 0, 1) := by decide +kernel
theorem dX6_init_27 : decode cX6_init 27 = .ok (.iconst 4, 1) := by decide +kernel
theorem dX6_init_28 : decode cX6_init 28 = .ok (.newarray .int, 2) := by decide +kernel
theorem dX6_init_30 : decode cX6_init 30 = .ok (.putfield 22, 3) := by decide +kernel
theorem dX6_init_33 : decode cX6_init 33 = .ok (.return_, 1) := by decide +kernel
theorem dX6_begin_0 : decode cX6_begin 0 = .ok (.aload_n 0, 1) := by decide +kernel
theorem dX6_begin_1 : decode cX6_begin 1 = .ok (.iload_n 1, 1) := by decide +kernel
theorem dX6_begin_2 : decode cX6_begin 2 = .ok (.putfield 25, 3) := by decide +kernel
theorem dX6_begin_5 : decode cX6_begin 5 = .ok (.aload_n 0, 1) := by decide +kernel
theorem dX6_begin_6 : decode cX6_begin 6 = .ok (.iload_n 2, 1) := by decide +kernel
theorem dX6_begin_7 : decode cX6_begin 7 = .ok (.putfield 29, 3) := by decide +kernel
theorem dX6_begin_10 : decode cX6_begin 10 = .ok (.aload_n 0, 1) := by decide +kernel
theorem dX6_begin_11 : decode cX6_begin 11 = .ok (.iload_n 3, 1) := by decide +kernel
theorem dX6_begin_12 : decode cX6_begin 12 = .ok (.putfield 32, 3) := by decide +kernel
theorem dX6_begin_15 : decode cX6_begin 15 = .ok (.aload_n 0, 1) := by decide +kernel
theorem dX6_begin_16 : decode cX6_begin 16 = .ok (.iconst (-1), 1) := by decide +kernel
theorem dX6_begin_17 : decode cX6_begin 17 = .ok (.putfield 35, 3) := by decide +kernel
theorem dX6_begin_20 : decode cX6_begin 20 = .ok (.aload_n 0, 1) := by decide +kernel
theorem dX6_begin_21 : decode cX6_begin 21 = .ok (.iconst (-1), 1) := by decide +kernel
theorem dX6_begin_22 : decode cX6_begin 22 = .ok (.putfield 38, 3) := by decide +kernel
theorem dX6_begin_25 : decode cX6_begin 25 = .ok (.aload_n 0, 1) := by decide +kernel
theorem dX6_begin_26 : decode cX6_begin 26 = .ok (.getfield 9, 3) := by decide +kernel
theorem dX6_begin_29 : decode cX6_begin 29 = .ok (.ldc2_w 41, 3) := by decide +kernel
theorem dX6_begin_32 : decode cX6_begin 32 = .ok (.invokestatic 43, 3) := by decide +kernel
theorem dX6_begin_35 : decode cX6_begin 35 = .ok (.aload_n 0, 1) := by decide +kernel
theorem dX6_begin_36 : decode cX6_begin 36 = .ok (.iconst 0, 1) := by decide +kernel
theorem dX6_begin_37 : decode cX6_begin 37 = .ok (.putfield 49, 3) := by decide +kernel
theorem dX6_begin_40 : decode cX6_begin 40 = .ok (.aload_n 0, 1) := by decide +kernel
theorem dX6_begin_41 : decode cX6_begin 41 = .ok (.iconst (-1), 1) := by decide +kernel
theorem dX6_begin_42 : decode cX6_begin 42 = .ok (.putfield 52, 3) := by decide +kernel
theorem dX6_begin_45 : decode cX6_begin 45 = .ok (.aload_n 0, 1) := by decide +kernel
theorem dX6_begin_46 : decode cX6_begin 46 = .ok (.lconst 0, 1) := by decide +kernel
theorem dX6_begin_47 : decode cX6_begin 47 = .ok (.putfield 55, 3) := by decide +kernel
theorem dX6_begin_50 : decode cX6_begin 50 = .ok (.aload_n 0, 1) := by decide +kernel
theorem dX6_begin_51 : decode cX6_begin 51 = .ok (.lconst 0, 1) := by decide +kernel
theorem dX6_begin_52 : decode cX6_begin 52 = .ok (.putfield 59, 3) := by decide +kernel
theorem dX6_begin_55 : decode cX6_begin 55 = .ok (.aload_n 0, 1) := by decide +kernel
theorem dX6_begin_56 : decode cX6_begin 56 = .ok (.lconst 0, 1) := by decide +kernel
theorem dX6_begin_57 : decode cX6_begin 57 = .ok (.putfield 62, 3) := by decide +kernel
theorem dX6_begin_60 : decode cX6_begin 60 = .ok (.aload_n 0, 1) := by decide +kernel
theorem dX6_begin_61 : decode cX6_begin 61 = .ok (.iconst 0, 1) := by decide +kernel
theorem dX6_begin_62 : decode cX6_begin 62 = .ok (.putfield 65, 3) := by decide +kernel
theorem dX6_begin_65 : decode cX6_begin 65 = .ok (.return_, 1) := by decide +kernel
theorem dX6_waits_0 : decode cX6_waits 0 = .ok (.aload_n 0, 1) := by decide +kernel
theorem dX6_waits_1 : decode cX6_waits 1 = .ok (.getfield 35, 3) := by decide +kernel
theorem dX6_waits_4 : decode cX6_waits 4 = .ok (.iconst (-1), 1) := by decide +kernel
theorem dX6_waits_5 : decode cX6_waits 5 = .ok (.if_icmp .ne 7, 3) := by decide +kernel
theorem dX6_waits_8 : decode cX6_waits 8 = .ok (.iconst 1, 1) := by decide +kernel
theorem dX6_waits_9 : decode cX6_waits 9 = .ok (.goto 4, 3) := by decide +kernel
theorem dX6_waits_12 : decode cX6_waits 12 = .ok (.iconst 0, 1) := by decide +kernel
theorem dX6_waits_13 : decode cX6_waits 13 = .ok (.ireturn, 1) := by decide +kernel
theorem dX6_isKnown_0 : decode cX6_isKnown 0 = .ok (.aload_n 0, 1) := by decide +kernel
theorem dX6_isKnown_1 : decode cX6_isKnown 1 = .ok (.getfield 35, 3) := by decide +kernel
theorem dX6_isKnown_4 : decode cX6_isKnown 4 = .ok (.iconst (-1), 1) := by decide +kernel
theorem dX6_isKnown_5 : decode cX6_isKnown 5 = .ok (.if_icmp .eq 15, 3) := by decide +kernel
theorem dX6_isKnown_8 : decode cX6_isKnown 8 = .ok (.aload_n 0, 1) := by decide +kernel
theorem dX6_isKnown_9 : decode cX6_isKnown 9 = .ok (.getfield 38, 3) := by decide +kernel
theorem dX6_isKnown_12 : decode cX6_isKnown 12 = .ok (.iload_n 1, 1) := by decide +kernel
theorem dX6_isKnown_13 : decode cX6_isKnown 13 = .ok (.if_icmp .gt 7, 3) := by decide +kernel
theorem dX6_isKnown_16 : decode cX6_isKnown 16 = .ok (.iconst 1, 1) := by decide +kernel
theorem dX6_isKnown_17 : decode cX6_isKnown 17 = .ok (.goto 4, 3) := by decide +kernel
theorem dX6_isKnown_20 : decode cX6_isKnown 20 = .ok (.iconst 0, 1) := by decide +kernel
theorem dX6_isKnown_21 : decode cX6_isKnown 21 = .ok (.ireturn, 1) := by decide +kernel
theorem dX6_addLaw_0 : decode cX6_addLaw 0 = .ok (.aload_n 0, 1) := by decide +kernel
theorem dX6_addLaw_1 : decode cX6_addLaw 1 = .ok (.getfield 49, 3) := by decide +kernel
theorem dX6_addLaw_4 : decode cX6_addLaw 4 = .ok (.iconst 4, 1) := by decide +kernel
theorem dX6_addLaw_5 : decode cX6_addLaw 5 = .ok (.if_icmp .ge 43, 3) := by decide +kernel
theorem dX6_addLaw_8 : decode cX6_addLaw 8 = .ok (.aload_n 0, 1) := by decide +kernel
theorem dX6_addLaw_9 : decode cX6_addLaw 9 = .ok (.getfield 15, 3) := by decide +kernel
theorem dX6_addLaw_12 : decode cX6_addLaw 12 = .ok (.aload_n 0, 1) := by decide +kernel
theorem dX6_addLaw_13 : decode cX6_addLaw 13 = .ok (.getfield 49, 3) := by decide +kernel
theorem dX6_addLaw_16 : decode cX6_addLaw 16 = .ok (.iload_n 1, 1) := by decide +kernel
theorem dX6_addLaw_17 : decode cX6_addLaw 17 = .ok (.iastore, 1) := by decide +kernel
theorem dX6_addLaw_18 : decode cX6_addLaw 18 = .ok (.aload_n 0, 1) := by decide +kernel
theorem dX6_addLaw_19 : decode cX6_addLaw 19 = .ok (.getfield 19, 3) := by decide +kernel
theorem dX6_addLaw_22 : decode cX6_addLaw 22 = .ok (.aload_n 0, 1) := by decide +kernel
theorem dX6_addLaw_23 : decode cX6_addLaw 23 = .ok (.getfield 49, 3) := by decide +kernel
theorem dX6_addLaw_26 : decode cX6_addLaw 26 = .ok (.iload_n 2, 1) := by decide +kernel
theorem dX6_addLaw_27 : decode cX6_addLaw 27 = .ok (.iastore, 1) := by decide +kernel
theorem dX6_addLaw_28 : decode cX6_addLaw 28 = .ok (.aload_n 0, 1) := by decide +kernel
theorem dX6_addLaw_29 : decode cX6_addLaw 29 = .ok (.getfield 22, 3) := by decide +kernel
theorem dX6_addLaw_32 : decode cX6_addLaw 32 = .ok (.aload_n 0, 1) := by decide +kernel
theorem dX6_addLaw_33 : decode cX6_addLaw 33 = .ok (.getfield 49, 3) := by decide +kernel
theorem dX6_addLaw_36 : decode cX6_addLaw 36 = .ok (.iload_n 3, 1) := by decide +kernel
theorem dX6_addLaw_37 : decode cX6_addLaw 37 = .ok (.iastore, 1) := by decide +kernel
theorem dX6_addLaw_38 : decode cX6_addLaw 38 = .ok (.aload_n 0, 1) := by decide +kernel
theorem dX6_addLaw_39 : decode cX6_addLaw 39 = .ok (.dup, 1) := by decide +kernel
theorem dX6_addLaw_40 : decode cX6_addLaw 40 = .ok (.getfield 49, 3) := by decide +kernel
theorem dX6_addLaw_43 : decode cX6_addLaw 43 = .ok (.iconst 1, 1) := by decide +kernel
theorem dX6_addLaw_44 : decode cX6_addLaw 44 = .ok (.iadd, 1) := by decide +kernel
theorem dX6_addLaw_45 : decode cX6_addLaw 45 = .ok (.putfield 49, 3) := by decide +kernel
theorem dX6_addLaw_48 : decode cX6_addLaw 48 = .ok (.return_, 1) := by decide +kernel
theorem dX6_print_0 : decode cX6_print 0 = .ok (.aload_n 0, 1) := by decide +kernel
theorem dX6_print_1 : decode cX6_print 1 = .ok (.iload_n 1, 1) := by decide +kernel
theorem dX6_print_2 : decode cX6_print 2 = .ok (.putfield 35, 3) := by decide +kernel
theorem dX6_print_5 : decode cX6_print 5 = .ok (.aload_n 0, 1) := by decide +kernel
theorem dX6_print_6 : decode cX6_print 6 = .ok (.iload_n 2, 1) := by decide +kernel
theorem dX6_print_7 : decode cX6_print 7 = .ok (.putfield 38, 3) := by decide +kernel
theorem dX6_print_10 : decode cX6_print 10 = .ok (.return_, 1) := by decide +kernel
theorem dX7_init_0 : decode cX7_init 0 = .ok (.aload_n 0, 1) := by decide +kernel
theorem dX7_init_1 : decode cX7_init 1 = .ok (.invokespecial 5, 3) := by decide +kernel
theorem dX7_init_4 : decode cX7_init 4 = .ok (.aload_n 0, 1) := by decide +kernel
theorem dX7_init_5 : decode cX7_init 5 = .ok (.sipush 4096, 3) := by decide +kernel
theorem dX7_init_8 : decode cX7_init 8 = .ok (.newarray .int, 2) := by decide +kernel
theorem dX7_init_10 : decode cX7_init 10 = .ok (.putfield 11, 3) := by decide +kernel
theorem dX7_init_13 : decode cX7_init 13 = .ok (.aload_n 0, 1) := by decide +kernel
theorem dX7_init_14 : decode cX7_init 14 = .ok (.bipush 12, 2) := by decide +kernel
theorem dX7_init_16 : decode cX7_init 16 = .ok (.newarray .int, 2) := by decide +kernel
theorem dX7_init_18 : decode cX7_init 18 = .ok (.putfield 15, 3) := by decide +kernel
theorem dX7_init_21 : decode cX7_init 21 = .ok (.aload_n 0, 1) := by decide +kernel
theorem dX7_init_22 : decode cX7_init 22 = .ok (.bipush 12, 2) := by decide +kernel
theorem dX7_init_24 : decode cX7_init 24 = .ok (.newarray .int, 2) := by decide +kernel
theorem dX7_init_26 : decode cX7_init 26 = .ok (.putfield 18, 3) := by decide +kernel
theorem dX7_init_29 : decode cX7_init 29 = .ok (.return_, 1) := by decide +kernel
theorem dX7_start_0 : decode cX7_start 0 = .ok (.aload_n 0, 1) := by decide +kernel
theorem dX7_start_1 : decode cX7_start 1 = .ok (.iload_n 1, 1) := by decide +kernel
theorem dX7_start_2 : decode cX7_start 2 = .ok (.putfield 21, 3) := by decide +kernel
theorem dX7_start_5 : decode cX7_start 5 = .ok (.aload_n 0, 1) := by decide +kernel
theorem dX7_start_6 : decode cX7_start 6 = .ok (.iload_n 2, 1) := by decide +kernel
theorem dX7_start_7 : decode cX7_start 7 = .ok (.putfield 25, 3) := by decide +kernel
theorem dX7_start_10 : decode cX7_start 10 = .ok (.aload_n 0, 1) := by decide +kernel
theorem dX7_start_11 : decode cX7_start 11 = .ok (.iconst 0, 1) := by decide +kernel
theorem dX7_start_12 : decode cX7_start 12 = .ok (.putfield 28, 3) := by decide +kernel
theorem dX7_start_15 : decode cX7_start 15 = .ok (.aload_n 0, 1) := by decide +kernel
theorem dX7_start_16 : decode cX7_start 16 = .ok (.iconst 0, 1) := by decide +kernel
theorem dX7_start_17 : decode cX7_start 17 = .ok (.putfield 31, 3) := by decide +kernel
theorem dX7_start_20 : decode cX7_start 20 = .ok (.aload_n 0, 1) := by decide +kernel
theorem dX7_start_21 : decode cX7_start 21 = .ok (.getfield 11, 3) := by decide +kernel
theorem dX7_start_24 : decode cX7_start 24 = .ok (.iconst 0, 1) := by decide +kernel
theorem dX7_start_25 : decode cX7_start 25 = .ok (.iload_n 2, 1) := by decide +kernel
theorem dX7_start_26 : decode cX7_start 26 = .ok (.iastore, 1) := by decide +kernel
theorem dX7_start_27 : decode cX7_start 27 = .ok (.return_, 1) := by decide +kernel
theorem dX7_take_0 : decode cX7_take 0 = .ok (.aload_n 0, 1) := by decide +kernel
theorem dX7_take_1 : decode cX7_take 1 = .ok (.getfield 28, 3) := by decide +kernel
theorem dX7_take_4 : decode cX7_take 4 = .ok (.bipush 12, 2) := by decide +kernel
theorem dX7_take_6 : decode cX7_take 6 = .ok (.if_icmp .ge 29, 3) := by decide +kernel
theorem dX7_take_9 : decode cX7_take 9 = .ok (.iload_n 2, 1) := by decide +kernel
theorem dX7_take_10 : decode cX7_take 10 = .ok (.aload_n 0, 1) := by decide +kernel
theorem dX7_take_11 : decode cX7_take 11 = .ok (.getfield 25, 3) := by decide +kernel
theorem dX7_take_14 : decode cX7_take 14 = .ok (.if_icmp .gt 21, 3) := by decide +kernel
theorem dX7_take_17 : decode cX7_take 17 = .ok (.aload_n 0, 1) := by decide +kernel
theorem dX7_take_18 : decode cX7_take 18 = .ok (.getfield 31, 3) := by decide +kernel
theorem dX7_take_21 : decode cX7_take 21 = .ok (.iload_n 2, 1) := by decide +kernel
theorem dX7_take_22 : decode cX7_take 22 = .ok (.iadd, 1) := by decide +kernel
theorem dX7_take_23 : decode cX7_take 23 = .ok (.aload_n 0, 1) := by decide +kernel
theorem dX7_take_24 : decode cX7_take 24 = .ok (.getfield 21, 3) := by decide +kernel
theorem dX7_take_27 : decode cX7_take 27 = .ok (.aload_n 0, 1) := by decide +kernel
theorem dX7_take_28 : decode cX7_take 28 = .ok (.getfield 25, 3) := by decide +kernel
theorem dX7_take_31 : decode cX7_take 31 = .ok (.imul, 1) := by decide +kernel
theorem dX7_take_32 : decode cX7_take 32 = .ok (.if_icmp .le 5, 3) := by decide +kernel
theorem dX7_take_35 : decode cX7_take 35 = .ok (.iconst 0, 1) := by decide +kernel
theorem dX7_take_36 : decode cX7_take 36 = .ok (.ireturn, 1) := by decide +kernel
theorem dX7_take_37 : decode cX7_take 37 = .ok (.aload_n 0, 1) := by decide +kernel
theorem dX7_take_38 : decode cX7_take 38 = .ok (.getfield 18, 3) := by decide +kernel
theorem dX7_take_41 : decode cX7_take 41 = .ok (.aload_n 0, 1) := by decide +kernel
theorem dX7_take_42 : decode cX7_take 42 = .ok (.getfield 28, 3) := by decide +kernel
theorem dX7_take_45 : decode cX7_take 45 = .ok (.iload_n 2, 1) := by decide +kernel
theorem dX7_take_46 : decode cX7_take 46 = .ok (.iastore, 1) := by decide +kernel
theorem dX7_take_47 : decode cX7_take 47 = .ok (.iconst 1, 1) := by decide +kernel
theorem dX7_take_48 : decode cX7_take 48 = .ok (.aload_n 0, 1) := by decide +kernel
theorem dX7_take_49 : decode cX7_take 49 = .ok (.getfield 28, 3) := by decide +kernel
theorem dX7_take_52 : decode cX7_take 52 = .ok (.ishl, 1) := by decide +kernel
theorem dX7_take_53 : decode cX7_take 53 = .ok (.istore_n 3, 1) := by decide +kernel
theorem dX7_take_54 : decode cX7_take 54 = .ok (.iload_n 3, 1) := by decide +kernel
theorem dX7_take_55 : decode cX7_take 55 = .ok (.istore 4, 2) := by decide +kernel
theorem dX7_take_57 : decode cX7_take 57 = .ok (.iload 4, 2) := by decide +kernel
theorem dX7_take_59 : decode cX7_take 59 = .ok (.iconst 2, 1) := by decide +kernel
theorem dX7_take_60 : decode cX7_take 60 = .ok (.iload_n 3, 1) := by decide +kernel
theorem dX7_take_61 : decode cX7_take 61 = .ok (.imul, 1) := by decide +kernel
theorem dX7_take_62 : decode cX7_take 62 = .ok (.if_icmp .ge 22, 3) := by decide +kernel
theorem dX7_take_65 : decode cX7_take 65 = .ok (.aload_n 0, 1) := by decide +kernel
theorem dX7_take_66 : decode cX7_take 66 = .ok (.getfield 11, 3) := by decide +kernel
theorem dX7_take_69 : decode cX7_take 69 = .ok (.iload 4, 2) := by decide +kernel
theorem dX7_take_71 : decode cX7_take 71 = .ok (.aload_n 0, 1) := by decide +kernel
theorem dX7_take_72 : decode cX7_take 72 = .ok (.iload 4, 2) := by decide +kernel
theorem dX7_take_74 : decode cX7_take 74 = .ok (.invokevirtual 34, 3) := by decide +kernel
theorem dX7_take_77 : decode cX7_take 77 = .ok (.iastore, 1) := by decide +kernel
theorem dX7_take_78 : decode cX7_take 78 = .ok (.iinc 4 1, 3) := by decide +kernel
theorem dX7_take_81 : decode cX7_take 81 = .ok (.goto (-24), 3) := by decide +kernel
theorem dX7_take_84 : decode cX7_take 84 = .ok (.aload_n 0, 1) := by decide +kernel
theorem dX7_take_85 : decode cX7_take 85 = .ok (.getfield 11, 3) := by decide +kernel
theorem dX7_take_88 : decode cX7_take 88 = .ok (.iconst 2, 1) := by decide +kernel
theorem dX7_take_89 : decode cX7_take 89 = .ok (.iload_n 3, 1) := by decide +kernel
theorem dX7_take_90 : decode cX7_take 90 = .ok (.imul, 1) := by decide +kernel
theorem dX7_take_91 : decode cX7_take 91 = .ok (.iconst 1, 1) := by decide +kernel
theorem dX7_take_92 : decode cX7_take 92 = .ok (.isub, 1) := by decide +kernel
theorem dX7_take_93 : decode cX7_take 93 = .ok (.iaload, 1) := by decide +kernel
theorem dX7_take_94 : decode cX7_take 94 = .ok (.bipush 6, 2) := by decide +kernel
theorem dX7_take_96 : decode cX7_take 96 = .ok (.ishr, 1) := by decide +kernel
theorem dX7_take_97 : decode cX7_take 97 = .ok (.aload_n 0, 1) := by decide +kernel
theorem dX7_take_98 : decode cX7_take 98 = .ok (.getfield 21, 3) := by decide +kernel
theorem dX7_take_101 : decode cX7_take 101 = .ok (.if_icmp .le 5, 3) := by decide +kernel
theorem dX7_take_104 : decode cX7_take 104 = .ok (.iconst 0, 1) := by decide +kernel
theorem dX7_take_105 : decode cX7_take 105 = .ok (.ireturn, 1) := by decide +kernel
theorem dX7_take_106 : decode cX7_take 106 = .ok (.aload_n 0, 1) := by decide +kernel
theorem dX7_take_107 : decode cX7_take 107 = .ok (.getfield 15, 3) := by decide +kernel
theorem dX7_take_110 : decode cX7_take 110 = .ok (.aload_n 0, 1) := by decide +kernel
theorem dX7_take_111 : decode cX7_take 111 = .ok (.getfield 28, 3) := by decide +kernel
theorem dX7_take_114 : decode cX7_take 114 = .ok (.iload_n 1, 1) := by decide +kernel
theorem dX7_take_115 : decode cX7_take 115 = .ok (.iastore, 1) := by decide +kernel
theorem dX7_take_116 : decode cX7_take 116 = .ok (.aload_n 0, 1) := by decide +kernel
theorem dX7_take_117 : decode cX7_take 117 = .ok (.dup, 1) := by decide +kernel
theorem dX7_take_118 : decode cX7_take 118 = .ok (.getfield 31, 3) := by decide +kernel
theorem dX7_take_121 : decode cX7_take 121 = .ok (.iload_n 2, 1) := by decide +kernel
theorem dX7_take_122 : decode cX7_take 122 = .ok (.iadd, 1) := by decide +kernel
theorem dX7_take_123 : decode cX7_take 123 = .ok (.putfield 31, 3) := by decide +kernel
theorem dX7_take_126 : decode cX7_take 126 = .ok (.aload_n 0, 1) := by decide +kernel
theorem dX7_take_127 : decode cX7_take 127 = .ok (.dup, 1) := by decide +kernel
theorem dX7_take_128 : decode cX7_take 128 = .ok (.getfield 28, 3) := by decide +kernel
theorem dX7_take_131 : decode cX7_take 131 = .ok (.iconst 1, 1) := by decide +kernel
theorem dX7_take_132 : decode cX7_take 132 = .ok (.iadd, 1) := by decide +kernel
theorem dX7_take_133 : decode cX7_take 133 = .ok (.putfield 28, 3) := by decide +kernel
theorem dX7_take_136 : decode cX7_take 136 = .ok (.iconst 1, 1) := by decide +kernel
theorem dX7_take_137 : decode cX7_take 137 = .ok (.ireturn, 1) := by decide +kernel
theorem dX7_pagesNeeded_0 : decode cX7_pagesNeeded 0 = .ok (.aload_n 0, 1) := by decide +kernel
theorem dX7_pagesNeeded_1 : decode cX7_pagesNeeded 1 = .ok (.getfield 11, 3) := by decide +kernel
theorem dX7_pagesNeeded_4 : decode cX7_pagesNeeded 4 = .ok (.iconst 1, 1) := by decide +kernel
theorem dX7_pagesNeeded_5 : decode cX7_pagesNeeded 5 = .ok (.aload_n 0, 1) := by decide +kernel
theorem dX7_pagesNeeded_6 : decode cX7_pagesNeeded 6 = .ok (.getfield 28, 3) := by decide +kernel
theorem dX7_pagesNeeded_9 : decode cX7_pagesNeeded 9 = .ok (.ishl, 1) := by decide +kernel
theorem dX7_pagesNeeded_10 : decode cX7_pagesNeeded 10 = .ok (.iconst 1, 1) := by decide +kernel
theorem dX7_pagesNeeded_11 : decode cX7_pagesNeeded 11 = .ok (.isub, 1) := by decide +kernel
theorem dX7_pagesNeeded_12 : decode cX7_pagesNeeded 12 = .ok (.iaload, 1) := by decide +kernel
theorem dX7_pagesNeeded_13 : decode cX7_pagesNeeded 13 = .ok (.bipush 6, 2) := by decide +kernel
theorem dX7_pagesNeeded_15 : decode cX7_pagesNeeded 15 = .ok (.ishr, 1) := by decide +kernel
theorem dX7_pagesNeeded_16 : decode cX7_pagesNeeded 16 = .ok (.ireturn, 1) := by decide +kernel
theorem dX7_bestOf_0 : decode cX7_bestOf 0 = .ok (.ldc 40, 2) := by decide +kernel
theorem dX7_bestOf_2 : decode cX7_bestOf 2 = .ok (.istore_n 2, 1) := by decide +kernel
theorem dX7_bestOf_3 : decode cX7_bestOf 3 = .ok (.iconst 0, 1) := by decide +kernel
theorem dX7_bestOf_4 : decode cX7_bestOf 4 = .ok (.istore_n 3, 1) := by decide +kernel
theorem dX7_bestOf_5 : decode cX7_bestOf 5 = .ok (.iload_n 3, 1) := by decide +kernel
theorem dX7_bestOf_6 : decode cX7_bestOf 6 = .ok (.aload_n 0, 1) := by decide +kernel
theorem dX7_bestOf_7 : decode cX7_bestOf 7 = .ok (.getfield 28, 3) := by decide +kernel
theorem dX7_bestOf_10 : decode cX7_bestOf 10 = .ok (.if_icmp .gt 48, 3) := by decide +kernel
theorem dX7_bestOf_13 : decode cX7_bestOf 13 = .ok (.iload_n 3, 1) := by decide +kernel
theorem dX7_bestOf_14 : decode cX7_bestOf 14 = .ok (.bipush 12, 2) := by decide +kernel
theorem dX7_bestOf_16 : decode cX7_bestOf 16 = .ok (.if_icmp .ge 42, 3) := by decide +kernel
theorem dX7_bestOf_19 : decode cX7_bestOf 19 = .ok (.iload_n 1, 1) := by decide +kernel
theorem dX7_bestOf_20 : decode cX7_bestOf 20 = .ok (.iload_n 3, 1) := by decide +kernel
theorem dX7_bestOf_21 : decode cX7_bestOf 21 = .ok (.ishr, 1) := by decide +kernel
theorem dX7_bestOf_22 : decode cX7_bestOf 22 = .ok (.iconst 1, 1) := by decide +kernel
theorem dX7_bestOf_23 : decode cX7_bestOf 23 = .ok (.iand, 1) := by decide +kernel
theorem dX7_bestOf_24 : decode cX7_bestOf 24 = .ok (.ifCond .eq 28, 3) := by decide +kernel
theorem dX7_bestOf_27 : decode cX7_bestOf 27 = .ok (.iload_n 2, 1) := by decide +kernel
theorem dX7_bestOf_28 : decode cX7_bestOf 28 = .ok (.aload_n 0, 1) := by decide +kernel
theorem dX7_bestOf_29 : decode cX7_bestOf 29 = .ok (.aload_n 0, 1) := by decide +kernel
theorem dX7_bestOf_30 : decode cX7_bestOf 30 = .ok (.getfield 11, 3) := by decide +kernel
theorem dX7_bestOf_33 : decode cX7_bestOf 33 = .ok (.iload_n 1, 1) := by decide +kernel
theorem dX7_bestOf_34 : decode cX7_bestOf 34 = .ok (.iconst 1, 1) := by decide +kernel
theorem dX7_bestOf_35 : decode cX7_bestOf 35 = .ok (.iload_n 3, 1) := by decide +kernel
theorem dX7_bestOf_36 : decode cX7_bestOf 36 = .ok (.ishl, 1) := by decide +kernel
theorem dX7_bestOf_37 : decode cX7_bestOf 37 = .ok (.ixor, 1) := by decide +kernel
theorem dX7_bestOf_38 : decode cX7_bestOf 38 = .ok (.iaload, 1) := by decide +kernel
theorem dX7_bestOf_39 : decode cX7_bestOf 39 = .ok (.aload_n 0, 1) := by decide +kernel
theorem dX7_bestOf_40 : decode cX7_bestOf 40 = .ok (.getfield 18, 3) := by decide +kernel
theorem dX7_bestOf_43 : decode cX7_bestOf 43 = .ok (.iload_n 3, 1) := by decide +kernel
theorem dX7_bestOf_44 : decode cX7_bestOf 44 = .ok (.iaload, 1) := by decide +kernel
theorem dX7_bestOf_45 : decode cX7_bestOf 45 = .ok (.invokevirtual 41, 3) := by decide +kernel
theorem dX7_bestOf_48 : decode cX7_bestOf 48 = .ok (.invokestatic 45, 3) := by decide +kernel
theorem dX7_bestOf_51 : decode cX7_bestOf 51 = .ok (.istore_n 2, 1) := by decide +kernel
theorem dX7_bestOf_52 : decode cX7_bestOf 52 = .ok (.iinc 3 1, 3) := by decide +kernel
theorem dX7_bestOf_55 : decode cX7_bestOf 55 = .ok (.goto (-50), 3) := by decide +kernel
theorem dX7_bestOf_58 : decode cX7_bestOf 58 = .ok (.iload_n 2, 1) := by decide +kernel
theorem dX7_bestOf_59 : decode cX7_bestOf 59 = .ok (.ireturn, 1) := by decide +kernel
theorem dX7_laidOn_0 : decode cX7_laidOn 0 = .ok (.iload_n 1, 1) := by decide +kernel
theorem dX7_laidOn_1 : decode cX7_laidOn 1 = .ok (.bipush 63, 2) := by decide +kernel
theorem dX7_laidOn_3 : decode cX7_laidOn 3 = .ok (.iand, 1) := by decide +kernel
theorem dX7_laidOn_4 : decode cX7_laidOn 4 = .ok (.iload_n 2, 1) := by decide +kernel
theorem dX7_laidOn_5 : decode cX7_laidOn 5 = .ok (.iadd, 1) := by decide +kernel
theorem dX7_laidOn_6 : decode cX7_laidOn 6 = .ok (.aload_n 0, 1) := by decide +kernel
theorem dX7_laidOn_7 : decode cX7_laidOn 7 = .ok (.getfield 25, 3) := by decide +kernel
theorem dX7_laidOn_10 : decode cX7_laidOn 10 = .ok (.if_icmp .gt 7, 3) := by decide +kernel
theorem dX7_laidOn_13 : decode cX7_laidOn 13 = .ok (.iload_n 1, 1) := by decide +kernel
theorem dX7_laidOn_14 : decode cX7_laidOn 14 = .ok (.iload_n 2, 1) := by decide +kernel
theorem dX7_laidOn_15 : decode cX7_laidOn 15 = .ok (.iadd, 1) := by decide +kernel
theorem dX7_laidOn_16 : decode cX7_laidOn 16 = .ok (.ireturn, 1) := by decide +kernel
theorem dX7_laidOn_17 : decode cX7_laidOn 17 = .ok (.iload_n 1, 1) := by decide +kernel
theorem dX7_laidOn_18 : decode cX7_laidOn 18 = .ok (.bipush 6, 2) := by decide +kernel
theorem dX7_laidOn_20 : decode cX7_laidOn 20 = .ok (.ishr, 1) := by decide +kernel
theorem dX7_laidOn_21 : decode cX7_laidOn 21 = .ok (.iconst 1, 1) := by decide +kernel
theorem dX7_laidOn_22 : decode cX7_laidOn 22 = .ok (.iadd, 1) := by decide +kernel
theorem dX7_laidOn_23 : decode cX7_laidOn 23 = .ok (.bipush 6, 2) := by decide +kernel
theorem dX7_laidOn_25 : decode cX7_laidOn 25 = .ok (.ishl, 1) := by decide +kernel
theorem dX7_laidOn_26 : decode cX7_laidOn 26 = .ok (.iload_n 2, 1) := by decide +kernel
theorem dX7_laidOn_27 : decode cX7_laidOn 27 = .ok (.iadd, 1) := by decide +kernel
theorem dX7_laidOn_28 : decode cX7_laidOn 28 = .ok (.ireturn, 1) := by decide +kernel
theorem dX8_init_0 : decode cX8_init 0 = .ok (.aload_n 0, 1) := by decide +kernel
theorem dX8_init_1 : decode cX8_init 1 = .ok (.invokespecial 3, 3) := by decide +kernel
theorem dX8_init_4 : decode cX8_init 4 = .ok (.aload_n 0, 1) := by decide +kernel
theorem dX8_init_5 : decode cX8_init 5 = .ok (.sipush 400, 3) := by decide +kernel
theorem dX8_init_8 : decode cX8_init 8 = .ok (.newarray .byte, 2) := by decide +kernel
theorem dX8_init_10 : decode cX8_init 10 = .ok (.putfield 9, 3) := by decide +kernel
theorem dX8_init_13 : decode cX8_init 13 = .ok (.return_, 1) := by decide +kernel
theorem dX8_put_0 : decode cX8_put 0 = .ok (.bipush 24, 2) := by decide +kernel
theorem dX8_put_2 : decode cX8_put 2 = .ok (.istore_n 2, 1) := by decide +kernel
theorem dX8_put_3 : decode cX8_put 3 = .ok (.iload_n 2, 1) := by decide +kernel
theorem dX8_put_4 : decode cX8_put 4 = .ok (.ifCond .lt 42, 3) := by decide +kernel
theorem dX8_put_7 : decode cX8_put 7 = .ok (.aload_n 0, 1) := by decide +kernel
theorem dX8_put_8 : decode cX8_put 8 = .ok (.getfield 15, 3) := by decide +kernel
theorem dX8_put_11 : decode cX8_put 11 = .ok (.sipush 400, 3) := by decide +kernel
theorem dX8_put_14 : decode cX8_put 14 = .ok (.if_icmp .ge 32, 3) := by decide +kernel
theorem dX8_put_17 : decode cX8_put 17 = .ok (.aload_n 0, 1) := by decide +kernel
theorem dX8_put_18 : decode cX8_put 18 = .ok (.getfield 9, 3) := by decide +kernel
theorem dX8_put_21 : decode cX8_put 21 = .ok (.aload_n 0, 1) := by decide +kernel
theorem dX8_put_22 : decode cX8_put 22 = .ok (.getfield 15, 3) := by decide +kernel
theorem dX8_put_25 : decode cX8_put 25 = .ok (.iload_n 1, 1) := by decide +kernel
theorem dX8_put_26 : decode cX8_put 26 = .ok (.iload_n 2, 1) := by decide +kernel
theorem dX8_put_27 : decode cX8_put 27 = .ok (.ishr, 1) := by decide +kernel
theorem dX8_put_28 : decode cX8_put 28 = .ok (.i2b, 1) := by decide +kernel
theorem dX8_put_29 : decode cX8_put 29 = .ok (.bastore, 1) := by decide +kernel
theorem dX8_put_30 : decode cX8_put 30 = .ok (.aload_n 0, 1) := by decide +kernel
theorem dX8_put_31 : decode cX8_put 31 = .ok (.dup, 1) := by decide +kernel
theorem dX8_put_32 : decode cX8_put 32 = .ok (.getfield 15, 3) := by decide +kernel
theorem dX8_put_35 : decode cX8_put 35 = .ok (.iconst 1, 1) := by decide +kernel
theorem dX8_put_36 : decode cX8_put 36 = .ok (.iadd, 1) := by decide +kernel
theorem dX8_put_37 : decode cX8_put 37 = .ok (.putfield 15, 3) := by decide +kernel
theorem dX8_put_40 : decode cX8_put 40 = .ok (.iinc 2 (-8), 3) := by decide +kernel
theorem dX8_put_43 : decode cX8_put 43 = .ok (.goto (-40), 3) := by decide +kernel
theorem dX8_put_46 : decode cX8_put 46 = .ok (.return_, 1) := by decide +kernel
theorem dX8_holds_0 : decode cX8_holds 0 = .ok (.iload_n 1, 1) := by decide +kernel
theorem dX8_holds_1 : decode cX8_holds 1 = .ok (.ifCond .lt 15, 3) := by decide +kernel
theorem dX8_holds_4 : decode cX8_holds 4 = .ok (.iload_n 1, 1) := by decide +kernel
theorem dX8_holds_5 : decode cX8_holds 5 = .ok (.aload_n 0, 1) := by decide +kernel
theorem dX8_holds_6 : decode cX8_holds 6 = .ok (.getfield 15, 3) := by decide +kernel
theorem dX8_holds_9 : decode cX8_holds 9 = .ok (.if_icmp .gt 7, 3) := by decide +kernel
theorem dX8_holds_12 : decode cX8_holds 12 = .ok (.iconst 1, 1) := by decide +kernel
theorem dX8_holds_13 : decode cX8_holds 13 = .ok (.goto 4, 3) := by decide +kernel
theorem dX8_holds_16 : decode cX8_holds 16 = .ok (.iconst 0, 1) := by decide +kernel
theorem dX8_holds_17 : decode cX8_holds 17 = .ok (.ireturn, 1) := by decide +kernel
theorem dX8_start_0 : decode cX8_start 0 = .ok (.aload_n 0, 1) := by decide +kernel
theorem dX8_start_1 : decode cX8_start 1 = .ok (.iconst 0, 1) := by decide +kernel
theorem dX8_start_2 : decode cX8_start 2 = .ok (.iload_n 1, 1) := by decide +kernel
theorem dX8_start_3 : decode cX8_start 3 = .ok (.aload_n 0, 1) := by decide +kernel
theorem dX8_start_4 : decode cX8_start 4 = .ok (.getfield 15, 3) := by decide +kernel
theorem dX8_start_7 : decode cX8_start 7 = .ok (.invokestatic 19, 3) := by decide +kernel
theorem dX8_start_10 : decode cX8_start 10 = .ok (.invokestatic 25, 3) := by decide +kernel
theorem dX8_start_13 : decode cX8_start 13 = .ok (.putfield 28, 3) := by decide +kernel
theorem dX8_start_16 : decode cX8_start 16 = .ok (.aload_n 0, 1) := by decide +kernel
theorem dX8_start_17 : decode cX8_start 17 = .ok (.iconst 0, 1) := by decide +kernel
theorem dX8_start_18 : decode cX8_start 18 = .ok (.putfield 31, 3) := by decide +kernel
theorem dX8_start_21 : decode cX8_start 21 = .ok (.aload_n 0, 1) := by decide +kernel
theorem dX8_start_22 : decode cX8_start 22 = .ok (.iconst 0, 1) := by decide +kernel
theorem dX8_start_23 : decode cX8_start 23 = .ok (.putfield 34, 3) := by decide +kernel
theorem dX8_start_26 : decode cX8_start 26 = .ok (.aload_n 0, 1) := by decide +kernel
theorem dX8_start_27 : decode cX8_start 27 = .ok (.invokevirtual 37, 3) := by decide +kernel
theorem dX8_start_30 : decode cX8_start 30 = .ok (.return_, 1) := by decide +kernel
theorem dX8_fail_0 : decode cX8_fail 0 = .ok (.aload_n 0, 1) := by decide +kernel
theorem dX8_fail_1 : decode cX8_fail 1 = .ok (.iload_n 1, 1) := by decide +kernel
theorem dX8_fail_2 : decode cX8_fail 2 = .ok (.putfield 34, 3) := by decide +kernel
theorem dX8_fail_5 : decode cX8_fail 5 = .ok (.aload_n 0, 1) := by decide +kernel
theorem dX8_fail_6 : decode cX8_fail 6 = .ok (.aload_n 0, 1) := by decide +kernel
theorem dX8_fail_7 : decode cX8_fail 7 = .ok (.getfield 40, 3) := by decide +kernel
theorem dX8_fail_10 : decode cX8_fail 10 = .ok (.putfield 43, 3) := by decide +kernel
theorem dX8_fail_13 : decode cX8_fail 13 = .ok (.iconst 0, 1) := by decide +kernel
theorem dX8_fail_14 : decode cX8_fail 14 = .ok (.ireturn, 1) := by decide +kernel
theorem dX8_take_0 : decode cX8_take 0 = .ok (.aload_n 0, 1) := by decide +kernel
theorem dX8_take_1 : decode cX8_take 1 = .ok (.getfield 46, 3) := by decide +kernel
theorem dX8_take_4 : decode cX8_take 4 = .ok (.iload_n 1, 1) := by decide +kernel
theorem dX8_take_5 : decode cX8_take 5 = .ok (.if_icmp .eq 9, 3) := by decide +kernel
theorem dX8_take_8 : decode cX8_take 8 = .ok (.aload_n 0, 1) := by decide +kernel
theorem dX8_take_9 : decode cX8_take 9 = .ok (.iconst 1, 1) := by decide +kernel
theorem dX8_take_10 : decode cX8_take 10 = .ok (.invokevirtual 49, 3) := by decide +kernel
theorem dX8_take_13 : decode cX8_take 13 = .ok (.ireturn, 1) := by decide +kernel
theorem dX8_take_14 : decode cX8_take 14 = .ok (.aload_n 0, 1) := by decide +kernel
theorem dX8_take_15 : decode cX8_take 15 = .ok (.invokevirtual 37, 3) := by decide +kernel
theorem dX8_take_18 : decode cX8_take 18 = .ok (.iconst 1, 1) := by decide +kernel
theorem dX8_take_19 : decode cX8_take 19 = .ok (.ireturn, 1) := by decide +kernel
theorem dX8_step_0 : decode cX8_step 0 = .ok (.aload_n 0, 1) := by decide +kernel
theorem dX8_step_1 : decode cX8_step 1 = .ok (.getfield 31, 3) := by decide +kernel
theorem dX8_step_4 : decode cX8_step 4 = .ok (.aload_n 0, 1) := by decide +kernel
theorem dX8_step_5 : decode cX8_step 5 = .ok (.getfield 28, 3) := by decide +kernel
theorem dX8_step_8 : decode cX8_step 8 = .ok (.if_icmp .ge 44, 3) := by decide +kernel
theorem dX8_step_11 : decode cX8_step 11 = .ok (.aload_n 0, 1) := by decide +kernel
theorem dX8_step_12 : decode cX8_step 12 = .ok (.getfield 9, 3) := by decide +kernel
theorem dX8_step_15 : decode cX8_step 15 = .ok (.aload_n 0, 1) := by decide +kernel
theorem dX8_step_16 : decode cX8_step 16 = .ok (.getfield 31, 3) := by decide +kernel
theorem dX8_step_19 : decode cX8_step 19 = .ok (.baload, 1) := by decide +kernel
theorem dX8_step_20 : decode cX8_step 20 = .ok (.bipush 32, 2) := by decide +kernel
theorem dX8_step_22 : decode cX8_step 22 = .ok (.if_icmp .eq 17, 3) := by decide +kernel
theorem dX8_step_25 : decode cX8_step 25 = .ok (.aload_n 0, 1) := by decide +kernel
theorem dX8_step_26 : decode cX8_step 26 = .ok (.getfield 9, 3) := by decide +kernel
theorem dX8_step_29 : decode cX8_step 29 = .ok (.aload_n 0, 1) := by decide +kernel
theorem dX8_step_30 : decode cX8_step 30 = .ok (.getfield 31, 3) := by decide +kernel
theorem dX8_step_33 : decode cX8_step 33 = .ok (.baload, 1) := by decide +kernel
theorem dX8_step_34 : decode cX8_step 34 = .ok (.bipush 10, 2) := by decide +kernel
theorem dX8_step_36 : decode cX8_step 36 = .ok (.if_icmp .ne 16, 3) := by decide +kernel
theorem dX8_step_39 : decode cX8_step 39 = .ok (.aload_n 0, 1) := by decide +kernel
theorem dX8_step_40 : decode cX8_step 40 = .ok (.dup, 1) := by decide +kernel
theorem dX8_step_41 : decode cX8_step 41 = .ok (.getfield 31, 3) := by decide +kernel
theorem dX8_step_44 : decode cX8_step 44 = .ok (.iconst 1, 1) := by decide +kernel
theorem dX8_step_45 : decode cX8_step 45 = .ok (.iadd, 1) := by decide +kernel
theorem dX8_step_46 : decode cX8_step 46 = .ok (.putfield 31, 3) := by decide +kernel
theorem dX8_step_49 : decode cX8_step 49 = .ok (.goto (-49), 3) := by decide +kernel
theorem dX8_step_52 : decode cX8_step 52 = .ok (.aload_n 0, 1) := by decide +kernel
theorem dX8_step_53 : decode cX8_step 53 = .ok (.aload_n 0, 1) := by decide +kernel
theorem dX8_step_54 : decode cX8_step 54 = .ok (.getfield 31, 3) := by decide +kernel
theorem dX8_step_57 : decode cX8_step 57 = .ok (.putfield 40, 3) := by decide +kernel
theorem dX8_step_60 : decode cX8_step 60 = .ok (.aload_n 0, 1) := by decide +kernel
theorem dX8_step_61 : decode cX8_step 61 = .ok (.aload_n 0, 1) := by decide +kernel
theorem dX8_step_62 : decode cX8_step 62 = .ok (.bipush 97, 2) := by decide +kernel
theorem dX8_step_64 : decode cX8_step 64 = .ok (.bipush 122, 2) := by decide +kernel
theorem dX8_step_66 : decode cX8_step 66 = .ok (.bipush 32, 2) := by decide +kernel
theorem dX8_step_68 : decode cX8_step 68 = .ok (.bipush 96, 2) := by decide +kernel
theorem dX8_step_70 : decode cX8_step 70 = .ok (.invokevirtual 53, 3) := by decide +kernel
theorem dX8_step_73 : decode cX8_step 73 = .ok (.putfield 57, 3) := by decide +kernel
theorem dX8_step_76 : decode cX8_step 76 = .ok (.aload_n 0, 1) := by decide +kernel
theorem dX8_step_77 : decode cX8_step 77 = .ok (.getfield 31, 3) := by decide +kernel
theorem dX8_step_80 : decode cX8_step 80 = .ok (.aload_n 0, 1) := by decide +kernel
theorem dX8_step_81 : decode cX8_step 81 = .ok (.getfield 40, 3) := by decide +kernel
theorem dX8_step_84 : decode cX8_step 84 = .ok (.if_icmp .le 27, 3) := by decide +kernel
theorem dX8_step_87 : decode cX8_step 87 = .ok (.aload_n 0, 1) := by decide +kernel
theorem dX8_step_88 : decode cX8_step 88 = .ok (.aload_n 0, 1) := by decide +kernel
theorem dX8_step_89 : decode cX8_step 89 = .ok (.getfield 31, 3) := by decide +kernel
theorem dX8_step_92 : decode cX8_step 92 = .ok (.aload_n 0, 1) := by decide +kernel
theorem dX8_step_93 : decode cX8_step 93 = .ok (.getfield 40, 3) := by decide +kernel
theorem dX8_step_96 : decode cX8_step 96 = .ok (.isub, 1) := by decide +kernel
theorem dX8_step_97 : decode cX8_step 97 = .ok (.bipush 8, 2) := by decide +kernel
theorem dX8_step_99 : decode cX8_step 99 = .ok (.if_icmp .gt 7, 3) := by decide +kernel
theorem dX8_step_102 : decode cX8_step 102 = .ok (.iconst 1, 1) := by decide +kernel
theorem dX8_step_103 : decode cX8_step 103 = .ok (.goto 4, 3) := by decide +kernel
theorem dX8_step_106 : decode cX8_step 106 = .ok (.iconst 4, 1) := by decide +kernel
theorem dX8_step_107 : decode cX8_step 107 = .ok (.putfield 46, 3) := by decide +kernel
theorem dX8_step_110 : decode cX8_step 110 = .ok (.return_, 1) := by decide +kernel
theorem dX8_step_111 : decode cX8_step 111 = .ok (.aload_n 0, 1) := by decide +kernel
theorem dX8_step_112 : decode cX8_step 112 = .ok (.aload_n 0, 1) := by decide +kernel
theorem dX8_step_113 : decode cX8_step 113 = .ok (.bipush 48, 2) := by decide +kernel
theorem dX8_step_115 : decode cX8_step 115 = .ok (.bipush 57, 2) := by decide +kernel
theorem dX8_step_117 : decode cX8_step 117 = .ok (.bipush 10, 2) := by decide +kernel
theorem dX8_step_119 : decode cX8_step 119 = .ok (.bipush 48, 2) := by decide +kernel
theorem dX8_step_121 : decode cX8_step 121 = .ok (.invokevirtual 53, 3) := by decide +kernel
theorem dX8_step_124 : decode cX8_step 124 = .ok (.l2i, 1) := by decide +kernel
theorem dX8_step_125 : decode cX8_step 125 = .ok (.putfield 61, 3) := by decide +kernel
theorem dX8_step_128 : decode cX8_step 128 = .ok (.aload_n 0, 1) := by decide +kernel
theorem dX8_step_129 : decode cX8_step 129 = .ok (.getfield 31, 3) := by decide +kernel
theorem dX8_step_132 : decode cX8_step 132 = .ok (.aload_n 0, 1) := by decide +kernel
theorem dX8_step_133 : decode cX8_step 133 = .ok (.getfield 40, 3) := by decide +kernel
theorem dX8_step_136 : decode cX8_step 136 = .ok (.if_icmp .le 26, 3) := by decide +kernel
theorem dX8_step_139 : decode cX8_step 139 = .ok (.aload_n 0, 1) := by decide +kernel
theorem dX8_step_140 : decode cX8_step 140 = .ok (.aload_n 0, 1) := by decide +kernel
theorem dX8_step_141 : decode cX8_step 141 = .ok (.getfield 31, 3) := by decide +kernel
theorem dX8_step_144 : decode cX8_step 144 = .ok (.aload_n 0, 1) := by decide +kernel
theorem dX8_step_145 : decode cX8_step 145 = .ok (.getfield 40, 3) := by decide +kernel
theorem dX8_step_148 : decode cX8_step 148 = .ok (.isub, 1) := by decide +kernel
theorem dX8_step_149 : decode cX8_step 149 = .ok (.iconst 4, 1) := by decide +kernel
theorem dX8_step_150 : decode cX8_step 150 = .ok (.if_icmp .gt 7, 3) := by decide +kernel
theorem dX8_step_153 : decode cX8_step 153 = .ok (.iconst 2, 1) := by decide +kernel
theorem dX8_step_154 : decode cX8_step 154 = .ok (.goto 4, 3) := by decide +kernel
theorem dX8_step_157 : decode cX8_step 157 = .ok (.iconst 4, 1) := by decide +kernel
theorem dX8_step_158 : decode cX8_step 158 = .ok (.putfield 46, 3) := by decide +kernel
theorem dX8_step_161 : decode cX8_step 161 = .ok (.return_, 1) := by decide +kernel
theorem dX8_step_162 : decode cX8_step 162 = .ok (.aload_n 0, 1) := by decide +kernel
theorem dX8_step_163 : decode cX8_step 163 = .ok (.aload_n 0, 1) := by decide +kernel
theorem dX8_step_164 : decode cX8_step 164 = .ok (.invokevirtual 64, 3) := by decide +kernel
theorem dX8_step_167 : decode cX8_step 167 = .ok (.putfield 46, 3) := by decide +kernel
theorem dX8_step_170 : decode cX8_step 170 = .ok (.return_, 1) := by decide +kernel
theorem dX8_readRun_0 : decode cX8_readRun 0 = .ok (.lconst 0, 1) := by decide +kernel
theorem dX8_readRun_1 : decode cX8_readRun 1 = .ok (.lstore 5, 2) := by decide +kernel
theorem dX8_readRun_3 : decode cX8_readRun 3 = .ok (.aload_n 0, 1) := by decide +kernel
theorem dX8_readRun_4 : decode cX8_readRun 4 = .ok (.getfield 31, 3) := by decide +kernel
theorem dX8_readRun_7 : decode cX8_readRun 7 = .ok (.aload_n 0, 1) := by decide +kernel
theorem dX8_readRun_8 : decode cX8_readRun 8 = .ok (.getfield 28, 3) := by decide +kernel
theorem dX8_readRun_11 : decode cX8_readRun 11 = .ok (.if_icmp .ge 64, 3) := by decide +kernel
theorem dX8_readRun_14 : decode cX8_readRun 14 = .ok (.aload_n 0, 1) := by decide +kernel
theorem dX8_readRun_15 : decode cX8_readRun 15 = .ok (.getfield 9, 3) := by decide +kernel
theorem dX8_readRun_18 : decode cX8_readRun 18 = .ok (.aload_n 0, 1) := by decide +kernel
theorem dX8_readRun_19 : decode cX8_readRun 19 = .ok (.getfield 31, 3) := by decide +kernel
theorem dX8_readRun_22 : decode cX8_readRun 22 = .ok (.baload, 1) := by decide +kernel
theorem dX8_readRun_23 : decode cX8_readRun 23 = .ok (.iload_n 1, 1) := by decide +kernel
theorem dX8_readRun_24 : decode cX8_readRun 24 = .ok (.if_icmp .lt 51, 3) := by decide +kernel
theorem dX8_readRun_27 : decode cX8_readRun 27 = .ok (.aload_n 0, 1) := by decide +kernel
theorem dX8_readRun_28 : decode cX8_readRun 28 = .ok (.getfield 9, 3) := by decide +kernel
theorem dX8_readRun_31 : decode cX8_readRun 31 = .ok (.aload_n 0, 1) := by decide +kernel
theorem dX8_readRun_32 : decode cX8_readRun 32 = .ok (.getfield 31, 3) := by decide +kernel
theorem dX8_readRun_35 : decode cX8_readRun 35 = .ok (.baload, 1) := by decide +kernel
theorem dX8_readRun_36 : decode cX8_readRun 36 = .ok (.iload_n 2, 1) := by decide +kernel
theorem dX8_readRun_37 : decode cX8_readRun 37 = .ok (.if_icmp .gt 38, 3) := by decide +kernel
theorem dX8_readRun_40 : decode cX8_readRun 40 = .ok (.lload 5, 2) := by decide +kernel
theorem dX8_readRun_42 : decode cX8_readRun 42 = .ok (.iload_n 3, 1) := by decide +kernel
theorem dX8_readRun_43 : decode cX8_readRun 43 = .ok (.i2l, 1) := by decide +kernel
theorem dX8_readRun_44 : decode cX8_readRun 44 = .ok (.lmul, 1) := by decide +kernel
theorem dX8_readRun_45 : decode cX8_readRun 45 = .ok (.aload_n 0, 1) := by decide +kernel
theorem dX8_readRun_46 : decode cX8_readRun 46 = .ok (.getfield 9, 3) := by decide +kernel
theorem dX8_readRun_49 : decode cX8_readRun 49 = .ok (.aload_n 0, 1) := by decide +kernel
theorem dX8_readRun_50 : decode cX8_readRun 50 = .ok (.getfield 31, 3) := by decide +kernel
theorem dX8_readRun_53 : decode cX8_readRun 53 = .ok (.baload, 1) := by decide +kernel
theorem dX8_readRun_54 : decode cX8_readRun 54 = .ok (.i2l, 1) := by decide +kernel
theorem dX8_readRun_55 : decode cX8_readRun 55 = .ok (.ladd, 1) := by decide +kernel
theorem dX8_readRun_56 : decode cX8_readRun 56 = .ok (.iload 4, 2) := by decide +kernel
theorem dX8_readRun_58 : decode cX8_readRun 58 = .ok (.i2l, 1) := by decide +kernel
theorem dX8_readRun_59 : decode cX8_readRun 59 = .ok (.lsub, 1) := by decide +kernel
theorem dX8_readRun_60 : decode cX8_readRun 60 = .ok (.lstore 5, 2) := by decide +kernel
theorem dX8_readRun_62 : decode cX8_readRun 62 = .ok (.aload_n 0, 1) := by decide +kernel
theorem dX8_readRun_63 : decode cX8_readRun 63 = .ok (.dup, 1) := by decide +kernel
theorem dX8_readRun_64 : decode cX8_readRun 64 = .ok (.getfield 31, 3) := by decide +kernel
theorem dX8_readRun_67 : decode cX8_readRun 67 = .ok (.iconst 1, 1) := by decide +kernel
theorem dX8_readRun_68 : decode cX8_readRun 68 = .ok (.iadd, 1) := by decide +kernel
theorem dX8_readRun_69 : decode cX8_readRun 69 = .ok (.putfield 31, 3) := by decide +kernel
theorem dX8_readRun_72 : decode cX8_readRun 72 = .ok (.goto (-69), 3) := by decide +kernel
theorem dX8_readRun_75 : decode cX8_readRun 75 = .ok (.lload 5, 2) := by decide +kernel
theorem dX8_readRun_77 : decode cX8_readRun 77 = .ok (.lreturn, 1) := by decide +kernel
theorem dX8_readSign_0 : decode cX8_readSign 0 = .ok (.aload_n 0, 1) := by decide +kernel
theorem dX8_readSign_1 : decode cX8_readSign 1 = .ok (.getfield 31, 3) := by decide +kernel
theorem dX8_readSign_4 : decode cX8_readSign 4 = .ok (.aload_n 0, 1) := by decide +kernel
theorem dX8_readSign_5 : decode cX8_readSign 5 = .ok (.getfield 28, 3) := by decide +kernel
theorem dX8_readSign_8 : decode cX8_readSign 8 = .ok (.if_icmp .lt 5, 3) := by decide +kernel
theorem dX8_readSign_11 : decode cX8_readSign 11 = .ok (.iconst 0, 1) := by decide +kernel
theorem dX8_readSign_12 : decode cX8_readSign 12 = .ok (.ireturn, 1) := by decide +kernel
theorem dX8_readSign_13 : decode cX8_readSign 13 = .ok (.aload_n 0, 1) := by decide +kernel
theorem dX8_readSign_14 : decode cX8_readSign 14 = .ok (.getfield 9, 3) := by decide +kernel
theorem dX8_readSign_17 : decode cX8_readSign 17 = .ok (.aload_n 0, 1) := by decide +kernel
theorem dX8_readSign_18 : decode cX8_readSign 18 = .ok (.getfield 31, 3) := by decide +kernel
theorem dX8_readSign_21 : decode cX8_readSign 21 = .ok (.baload, 1) := by decide +kernel
theorem dX8_readSign_22 : decode cX8_readSign 22 = .ok (.istore_n 1, 1) := by decide +kernel
theorem dX8_readSign_23 : decode cX8_readSign 23 = .ok (.aload_n 0, 1) := by decide +kernel
theorem dX8_readSign_24 : decode cX8_readSign 24 = .ok (.dup, 1) := by decide +kernel
theorem dX8_readSign_25 : decode cX8_readSign 25 = .ok (.getfield 31, 3) := by decide +kernel
theorem dX8_readSign_28 : decode cX8_readSign 28 = .ok (.iconst 1, 1) := by decide +kernel
theorem dX8_readSign_29 : decode cX8_readSign 29 = .ok (.iadd, 1) := by decide +kernel
theorem dX8_readSign_30 : decode cX8_readSign 30 = .ok (.putfield 31, 3) := by decide +kernel
theorem dX8_readSign_33 : decode cX8_readSign 33 = .ok (.iload_n 1, 1) := by decide +kernel
theorem dX8_readSign_34 : decode cX8_readSign 34 = .ok (.bipush 58, 2) := by decide +kernel
theorem dX8_readSign_36 : decode cX8_readSign 36 = .ok (.if_icmp .eq 27, 3) := by decide +kernel
theorem dX8_readSign_39 : decode cX8_readSign 39 = .ok (.iload_n 1, 1) := by decide +kernel
theorem dX8_readSign_40 : decode cX8_readSign 40 = .ok (.bipush 59, 2) := by decide +kernel
theorem dX8_readSign_42 : decode cX8_readSign 42 = .ok (.if_icmp .eq 21, 3) := by decide +kernel
theorem dX8_readSign_45 : decode cX8_readSign 45 = .ok (.iload_n 1, 1) := by decide +kernel
theorem dX8_readSign_46 : decode cX8_readSign 46 = .ok (.bipush 63, 2) := by decide +kernel
theorem dX8_readSign_48 : decode cX8_readSign 48 = .ok (.if_icmp .eq 15, 3) := by decide +kernel
theorem dX8_readSign_51 : decode cX8_readSign 51 = .ok (.iload_n 1, 1) := by decide +kernel
theorem dX8_readSign_52 : decode cX8_readSign 52 = .ok (.bipush 47, 2) := by decide +kernel
theorem dX8_readSign_54 : decode cX8_readSign 54 = .ok (.if_icmp .eq 9, 3) := by decide +kernel
theorem dX8_readSign_57 : decode cX8_readSign 57 = .ok (.iload_n 1, 1) := by decide +kernel
theorem dX8_readSign_58 : decode cX8_readSign 58 = .ok (.bipush 61, 2) := by decide +kernel
theorem dX8_readSign_60 : decode cX8_readSign 60 = .ok (.if_icmp .ne 5, 3) := by decide +kernel
theorem dX8_readSign_63 : decode cX8_readSign 63 = .ok (.iload_n 1, 1) := by decide +kernel
theorem dX8_readSign_64 : decode cX8_readSign 64 = .ok (.ireturn, 1) := by decide +kernel
theorem dX8_readSign_65 : decode cX8_readSign 65 = .ok (.iload_n 1, 1) := by decide +kernel
theorem dX8_readSign_66 : decode cX8_readSign 66 = .ok (.bipush 46, 2) := by decide +kernel
theorem dX8_readSign_68 : decode cX8_readSign 68 = .ok (.if_icmp .ne 40, 3) := by decide +kernel
theorem dX8_readSign_71 : decode cX8_readSign 71 = .ok (.aload_n 0, 1) := by decide +kernel
theorem dX8_readSign_72 : decode cX8_readSign 72 = .ok (.getfield 31, 3) := by decide +kernel
theorem dX8_readSign_75 : decode cX8_readSign 75 = .ok (.aload_n 0, 1) := by decide +kernel
theorem dX8_readSign_76 : decode cX8_readSign 76 = .ok (.getfield 28, 3) := by decide +kernel
theorem dX8_readSign_79 : decode cX8_readSign 79 = .ok (.if_icmp .ge 29, 3) := by decide +kernel
theorem dX8_readSign_82 : decode cX8_readSign 82 = .ok (.aload_n 0, 1) := by decide +kernel
theorem dX8_readSign_83 : decode cX8_readSign 83 = .ok (.getfield 9, 3) := by decide +kernel
theorem dX8_readSign_86 : decode cX8_readSign 86 = .ok (.aload_n 0, 1) := by decide +kernel
theorem dX8_readSign_87 : decode cX8_readSign 87 = .ok (.getfield 31, 3) := by decide +kernel
theorem dX8_readSign_90 : decode cX8_readSign 90 = .ok (.baload, 1) := by decide +kernel
theorem dX8_readSign_91 : decode cX8_readSign 91 = .ok (.bipush 46, 2) := by decide +kernel
theorem dX8_readSign_93 : decode cX8_readSign 93 = .ok (.if_icmp .ne 15, 3) := by decide +kernel
theorem dX8_readSign_96 : decode cX8_readSign 96 = .ok (.aload_n 0, 1) := by decide +kernel
theorem dX8_readSign_97 : decode cX8_readSign 97 = .ok (.dup, 1) := by decide +kernel
theorem dX8_readSign_98 : decode cX8_readSign 98 = .ok (.getfield 31, 3) := by decide +kernel
theorem dX8_readSign_101 : decode cX8_readSign 101 = .ok (.iconst 1, 1) := by decide +kernel
theorem dX8_readSign_102 : decode cX8_readSign 102 = .ok (.iadd, 1) := by decide +kernel
theorem dX8_readSign_103 : decode cX8_readSign 103 = .ok (.putfield 31, 3) := by decide +kernel
theorem dX8_readSign_106 : decode cX8_readSign 106 = .ok (.iconst 3, 1) := by decide +kernel
theorem dX8_readSign_107 : decode cX8_readSign 107 = .ok (.ireturn, 1) := by decide +kernel
theorem dX8_readSign_108 : decode cX8_readSign 108 = .ok (.iconst 4, 1) := by decide +kernel
theorem dX8_readSign_109 : decode cX8_readSign 109 = .ok (.ireturn, 1) := by decide +kernel
theorem dX9_init_0 : decode cX9_init 0 = .ok (.aload_n 0, 1) := by decide +kernel
theorem dX9_init_1 : decode cX9_init 1 = .ok (.invokespecial 3, 3) := by decide +kernel
theorem dX9_init_4 : decode cX9_init 4 = .ok (.aload_n 0, 1) := by decide +kernel
theorem dX9_init_5 : decode cX9_init 5 = .ok (.new 9, 3) := by decide +kernel
theorem dX9_init_8 : decode cX9_init 8 = .ok (.dup, 1) := by decide +kernel
theorem dX9_init_9 : decode cX9_init 9 = .ok (.invokespecial 11, 3) := by decide +kernel
theorem dX9_init_12 : decode cX9_init 12 = .ok (.putfield 12, 3) := by decide +kernel
theorem dX9_init_15 : decode cX9_init 15 = .ok (.aload_n 0, 1) := by decide +kernel
theorem dX9_init_16 : decode cX9_init 16 = .ok (.new 18, 3) := by decide +kernel
theorem dX9_init_19 : decode cX9_init 19 = .ok (.dup, 1) := by decide +kernel
theorem dX9_init_20 : decode cX9_init 20 = .ok (.invokespecial 20, 3) := by decide +kernel
theorem dX9_init_23 : decode cX9_init 23 = .ok (.putfield 21, 3) := by decide +kernel
theorem dX9_init_26 : decode cX9_init 26 = .ok (.aload_n 0, 1) := by decide +kernel
theorem dX9_init_27 : decode cX9_init 27 = .ok (.bipush 13, 2) := by decide +kernel
theorem dX9_init_29 : decode cX9_init 29 = .ok (.anewarray 25, 3) := by decide +kernel
theorem dX9_init_32 : decode cX9_init 32 = .ok (.putfield 27, 3) := by decide +kernel
theorem dX9_init_35 : decode cX9_init 35 = .ok (.iconst 0, 1) := by decide +kernel
theorem dX9_init_36 : decode cX9_init 36 = .ok (.istore_n 1, 1) := by decide +kernel
theorem dX9_init_37 : decode cX9_init 37 = .ok (.iload_n 1, 1) := by decide +kernel
theorem dX9_init_38 : decode cX9_init 38 = .ok (.aload_n 0, 1) := by decide +kernel
theorem dX9_init_39 : decode cX9_init 39 = .ok (.getfield 27, 3) := by decide +kernel
theorem dX9_init_42 : decode cX9_init 42 = .ok (.arraylength, 1) := by decide +kernel
theorem dX9_init_43 : decode cX9_init 43 = .ok (.if_icmp .ge 22, 3) := by decide +kernel
theorem dX9_init_46 : decode cX9_init 46 = .ok (.aload_n 0, 1) := by decide +kernel
theorem dX9_init_47 : decode cX9_init 47 = .ok (.getfield 27, 3) := by decide +kernel
theorem dX9_init_50 : decode cX9_init 50 = .ok (.iload_n 1, 1) := by decide +kernel
theorem dX9_init_51 : decode cX9_init 51 = .ok (.new 25, 3) := by decide +kernel
theorem dX9_init_54 : decode cX9_init 54 = .ok (.dup, 1) := by decide +kernel
theorem dX9_init_55 : decode cX9_init 55 = .ok (.invokespecial 31, 3) := by decide +kernel
theorem dX9_init_58 : decode cX9_init 58 = .ok (.aastore, 1) := by decide +kernel
theorem dX9_init_59 : decode cX9_init 59 = .ok (.iinc 1 1, 3) := by decide +kernel
theorem dX9_init_62 : decode cX9_init 62 = .ok (.goto (-25), 3) := by decide +kernel
theorem dX9_init_65 : decode cX9_init 65 = .ok (.aload_n 0, 1) := by decide +kernel
theorem dX9_init_66 : decode cX9_init 66 = .ok (.new 32, 3) := by decide +kernel
theorem dX9_init_69 : decode cX9_init 69 = .ok (.dup, 1) := by decide +kernel
theorem dX9_init_70 : decode cX9_init 70 = .ok (.invokespecial 34, 3) := by decide +kernel
theorem dX9_init_73 : decode cX9_init 73 = .ok (.putfield 35, 3) := by decide +kernel
theorem dX9_init_76 : decode cX9_init 76 = .ok (.aload_n 0, 1) := by decide +kernel
theorem dX9_init_77 : decode cX9_init 77 = .ok (.bipush 40, 2) := by decide +kernel
theorem dX9_init_79 : decode cX9_init 79 = .ok (.anewarray 39, 3) := by decide +kernel
theorem dX9_init_82 : decode cX9_init 82 = .ok (.putfield 41, 3) := by decide +kernel
theorem dX9_init_85 : decode cX9_init 85 = .ok (.iconst 0, 1) := by decide +kernel
theorem dX9_init_86 : decode cX9_init 86 = .ok (.istore_n 1, 1) := by decide +kernel
theorem dX9_init_87 : decode cX9_init 87 = .ok (.iload_n 1, 1) := by decide +kernel
theorem dX9_init_88 : decode cX9_init 88 = .ok (.aload_n 0, 1) := by decide +kernel
theorem dX9_init_89 : decode cX9_init 89 = .ok (.getfield 41, 3) := by decide +kernel
theorem dX9_init_92 : decode cX9_init 92 = .ok (.arraylength, 1) := by decide +kernel
theorem dX9_init_93 : decode cX9_init 93 = .ok (.if_icmp .ge 22, 3) := by decide +kernel
theorem dX9_init_96 : decode cX9_init 96 = .ok (.aload_n 0, 1) := by decide +kernel
theorem dX9_init_97 : decode cX9_init 97 = .ok (.getfield 41, 3) := by decide +kernel
theorem dX9_init_100 : decode cX9_init 100 = .ok (.iload_n 1, 1) := by decide +kernel
theorem dX9_init_101 : decode cX9_init 101 = .ok (.new 39, 3) := by decide +kernel
theorem dX9_init_104 : decode cX9_init 104 = .ok (.dup, 1) := by decide +kernel
theorem dX9_init_105 : decode cX9_init 105 = .ok (.invokespecial 45, 3) := by decide +kernel
theorem dX9_init_108 : decode cX9_init 108 = .ok (.aastore, 1) := by decide +kernel
theorem dX9_init_109 : decode cX9_init 109 = .ok (.iinc 1 1, 3) := by decide +kernel
theorem dX9_init_112 : decode cX9_init 112 = .ok (.goto (-25), 3) := by decide +kernel
theorem dX9_init_115 : decode cX9_init 115 = .ok (.aload_n 0, 1) := by decide +kernel
theorem dX9_init_116 : decode cX9_init 116 = .ok (.iconst (-1), 1) := by decide +kernel
theorem dX9_init_117 : decode cX9_init 117 = .ok (.putfield 46, 3) := by decide +kernel
theorem dX9_init_120 : decode cX9_init 120 = .ok (.aload_n 0, 1) := by decide +kernel
theorem dX9_init_121 : decode cX9_init 121 = .ok (.new 50, 3) := by decide +kernel
theorem dX9_init_124 : decode cX9_init 124 = .ok (.dup, 1) := by decide +kernel
theorem dX9_init_125 : decode cX9_init 125 = .ok (.invokespecial 52, 3) := by decide +kernel
theorem dX9_init_128 : decode cX9_init 128 = .ok (.putfield 53, 3) := by decide +kernel
theorem dX9_init_131 : decode cX9_init 131 = .ok (.aload_n 0, 1) := by decide +kernel
theorem dX9_init_132 : decode cX9_init 132 = .ok (.new 57, 3) := by decide +kernel
theorem dX9_init_135 : decode cX9_init 135 = .ok (.dup, 1) := by decide +kernel
theorem dX9_init_136 : decode cX9_init 136 = .ok (.invokespecial 59, 3) := by decide +kernel
theorem dX9_init_139 : decode cX9_init 139 = .ok (.putfield 60, 3) := by decide +kernel
theorem dX9_init_142 : decode cX9_init 142 = .ok (.return_, 1) := by decide +kernel
theorem dX9_feast_0 : decode cX9_feast 0 = .ok (.iload_n 1, 1) := by decide +kernel
theorem dX9_feast_1 : decode cX9_feast 1 = .ok (.invokestatic 64, 3) := by decide +kernel
theorem dX9_feast_4 : decode cX9_feast 4 = .ok (.ifCond .ne 9, 3) := by decide +kernel
theorem dX9_feast_7 : decode cX9_feast 7 = .ok (.aload_n 0, 1) := by decide +kernel
theorem dX9_feast_8 : decode cX9_feast 8 = .ok (.iconst 2, 1) := by decide +kernel
theorem dX9_feast_9 : decode cX9_feast 9 = .ok (.invokevirtual 68, 3) := by decide +kernel
theorem dX9_feast_12 : decode cX9_feast 12 = .ok (.ireturn, 1) := by decide +kernel
theorem dX9_feast_13 : decode cX9_feast 13 = .ok (.aload_n 0, 1) := by decide +kernel
theorem dX9_feast_14 : decode cX9_feast 14 = .ok (.getfield 12, 3) := by decide +kernel
theorem dX9_feast_17 : decode cX9_feast 17 = .ok (.iload_n 1, 1) := by decide +kernel
theorem dX9_feast_18 : decode cX9_feast 18 = .ok (.invokevirtual 71, 3) := by decide +kernel
theorem dX9_feast_21 : decode cX9_feast 21 = .ok (.iload_n 2, 1) := by decide +kernel
theorem dX9_feast_22 : decode cX9_feast 22 = .ok (.if_icmp .ne 8, 3) := by decide +kernel
theorem dX9_feast_25 : decode cX9_feast 25 = .ok (.aload_n 0, 1) := by decide +kernel
theorem dX9_feast_26 : decode cX9_feast 26 = .ok (.invokevirtual 74, 3) := by decide +kernel
theorem dX9_feast_29 : decode cX9_feast 29 = .ok (.ireturn, 1) := by decide +kernel
theorem dX9_feast_30 : decode cX9_feast 30 = .ok (.iload_n 2, 1) := by decide +kernel
theorem dX9_feast_31 : decode cX9_feast 31 = .ok (.ifCond .eq 21, 3) := by decide +kernel
theorem dX9_feast_34 : decode cX9_feast 34 = .ok (.aload_n 0, 1) := by decide +kernel
theorem dX9_feast_35 : decode cX9_feast 35 = .ok (.getfield 12, 3) := by decide +kernel
theorem dX9_feast_38 : decode cX9_feast 38 = .ok (.getfield 78, 3) := by decide +kernel
theorem dX9_feast_41 : decode cX9_feast 41 = .ok (.bipush 60, 2) := by decide +kernel
theorem dX9_feast_43 : decode cX9_feast 43 = .ok (.if_icmp .lt 9, 3) := by decide +kernel
theorem dX9_feast_46 : decode cX9_feast 46 = .ok (.aload_n 0, 1) := by decide +kernel
theorem dX9_feast_47 : decode cX9_feast 47 = .ok (.iconst 3, 1) := by decide +kernel
theorem dX9_feast_48 : decode cX9_feast 48 = .ok (.invokevirtual 68, 3) := by decide +kernel
theorem dX9_feast_51 : decode cX9_feast 51 = .ok (.ireturn, 1) := by decide +kernel
theorem dX9_feast_52 : decode cX9_feast 52 = .ok (.aload_n 0, 1) := by decide +kernel
theorem dX9_feast_53 : decode cX9_feast 53 = .ok (.getfield 12, 3) := by decide +kernel
theorem dX9_feast_56 : decode cX9_feast 56 = .ok (.iload_n 1, 1) := by decide +kernel
theorem dX9_feast_57 : decode cX9_feast 57 = .ok (.iload_n 2, 1) := by decide +kernel
theorem dX9_feast_58 : decode cX9_feast 58 = .ok (.invokevirtual 81, 3) := by decide +kernel
theorem dX9_feast_61 : decode cX9_feast 61 = .ok (.aload_n 0, 1) := by decide +kernel
theorem dX9_feast_62 : decode cX9_feast 62 = .ok (.getfield 60, 3) := by decide +kernel
theorem dX9_feast_65 : decode cX9_feast 65 = .ok (.iconst 0, 1) := by decide +kernel
theorem dX9_feast_66 : decode cX9_feast 66 = .ok (.iload_n 1, 1) := by decide +kernel
theorem dX9_feast_67 : decode cX9_feast 67 = .ok (.iload_n 2, 1) := by decide +kernel
theorem dX9_feast_68 : decode cX9_feast 68 = .ok (.ifCond .eq 7, 3) := by decide +kernel
theorem dX9_feast_71 : decode cX9_feast 71 = .ok (.lconst 1, 1) := by decide +kernel
theorem dX9_feast_72 : decode cX9_feast 72 = .ok (.goto 4, 3) := by decide +kernel
theorem dX9_feast_75 : decode cX9_feast 75 = .ok (.lconst 0, 1) := by decide +kernel
theorem dX9_feast_76 : decode cX9_feast 76 = .ok (.lconst 0, 1) := by decide +kernel
theorem dX9_feast_77 : decode cX9_feast 77 = .ok (.invokevirtual 85, 3) := by decide +kernel
theorem dX9_feast_80 : decode cX9_feast 80 = .ok (.aload_n 0, 1) := by decide +kernel
theorem dX9_feast_81 : decode cX9_feast 81 = .ok (.invokevirtual 74, 3) := by decide +kernel
theorem dX9_feast_84 : decode cX9_feast 84 = .ok (.ireturn, 1) := by decide +kernel
theorem dX9_working_0 : decode cX9_working 0 = .ok (.iload_n 1, 1) := by decide +kernel
theorem dX9_working_1 : decode cX9_working 1 = .ok (.invokestatic 64, 3) := by decide +kernel
theorem dX9_working_4 : decode cX9_working 4 = .ok (.ifCond .ne 9, 3) := by decide +kernel
theorem dX9_working_7 : decode cX9_working 7 = .ok (.aload_n 0, 1) := by decide +kernel
theorem dX9_working_8 : decode cX9_working 8 = .ok (.iconst 2, 1) := by decide +kernel
theorem dX9_working_9 : decode cX9_working 9 = .ok (.invokevirtual 89, 3) := by decide +kernel
theorem dX9_working_12 : decode cX9_working 12 = .ok (.ireturn, 1) := by decide +kernel
theorem dX9_working_13 : decode cX9_working 13 = .ok (.aload_n 0, 1) := by decide +kernel
theorem dX9_working_14 : decode cX9_working 14 = .ok (.aload_n 0, 1) := by decide +kernel
theorem dX9_working_15 : decode cX9_working 15 = .ok (.getfield 12, 3) := by decide +kernel
theorem dX9_working_18 : decode cX9_working 18 = .ok (.iload_n 1, 1) := by decide +kernel
theorem dX9_working_19 : decode cX9_working 19 = .ok (.invokevirtual 93, 3) := by decide +kernel
theorem dX9_working_22 : decode cX9_working 22 = .ok (.ifCond .eq 7, 3) := by decide +kernel
theorem dX9_working_25 : decode cX9_working 25 = .ok (.iconst 1, 1) := by decide +kernel
theorem dX9_working_26 : decode cX9_working 26 = .ok (.goto 4, 3) := by decide +kernel
theorem dX9_working_29 : decode cX9_working 29 = .ok (.iconst 0, 1) := by decide +kernel
theorem dX9_working_30 : decode cX9_working 30 = .ok (.invokevirtual 96, 3) := by decide +kernel
theorem dX9_working_33 : decode cX9_working 33 = .ok (.ireturn, 1) := by decide +kernel
theorem dX9_after_0 : decode cX9_after 0 = .ok (.iload_n 1, 1) := by decide +kernel
theorem dX9_after_1 : decode cX9_after 1 = .ok (.invokestatic 64, 3) := by decide +kernel
theorem dX9_after_4 : decode cX9_after 4 = .ok (.ifCond .eq 14, 3) := by decide +kernel
theorem dX9_after_7 : decode cX9_after 7 = .ok (.iload_n 2, 1) := by decide +kernel
theorem dX9_after_8 : decode cX9_after 8 = .ok (.ifCond .lt 10, 3) := by decide +kernel
theorem dX9_after_11 : decode cX9_after 11 = .ok (.iload_n 2, 1) := by decide +kernel
theorem dX9_after_12 : decode cX9_after 12 = .ok (.sipush 9999, 3) := by decide +kernel
theorem dX9_after_15 : decode cX9_after 15 = .ok (.if_icmp .le 9, 3) := by decide +kernel
theorem dX9_after_18 : decode cX9_after 18 = .ok (.aload_n 0, 1) := by decide +kernel
theorem dX9_after_19 : decode cX9_after 19 = .ok (.iconst 2, 1) := by decide +kernel
theorem dX9_after_20 : decode cX9_after 20 = .ok (.invokevirtual 89, 3) := by decide +kernel
theorem dX9_after_23 : decode cX9_after 23 = .ok (.ireturn, 1) := by decide +kernel
theorem dX9_after_24 : decode cX9_after 24 = .ok (.aload_n 0, 1) := by decide +kernel
theorem dX9_after_25 : decode cX9_after 25 = .ok (.aload_n 0, 1) := by decide +kernel
theorem dX9_after_26 : decode cX9_after 26 = .ok (.getfield 12, 3) := by decide +kernel
theorem dX9_after_29 : decode cX9_after 29 = .ok (.iload_n 1, 1) := by decide +kernel
theorem dX9_after_30 : decode cX9_after 30 = .ok (.iload_n 2, 1) := by decide +kernel
theorem dX9_after_31 : decode cX9_after 31 = .ok (.iload_n 3, 1) := by decide +kernel
theorem dX9_after_32 : decode cX9_after 32 = .ok (.invokevirtual 99, 3) := by decide +kernel
theorem dX9_after_35 : decode cX9_after 35 = .ok (.invokevirtual 96, 3) := by decide +kernel
theorem dX9_after_38 : decode cX9_after 38 = .ok (.ireturn, 1) := by decide +kernel
theorem dX9_feed_0 : decode cX9_feed 0 = .ok (.aload_n 0, 1) := by decide +kernel
theorem dX9_feed_1 : decode cX9_feed 1 = .ok (.getfield 21, 3) := by decide +kernel
theorem dX9_feed_4 : decode cX9_feed 4 = .ok (.getfield 103, 3) := by decide +kernel
theorem dX9_feed_7 : decode cX9_feed 7 = .ok (.bipush 20, 2) := by decide +kernel
theorem dX9_feed_9 : decode cX9_feed 9 = .ok (.iadd, 1) := by decide +kernel
theorem dX9_feed_10 : decode cX9_feed 10 = .ok (.sipush 400, 3) := by decide +kernel
theorem dX9_feed_13 : decode cX9_feed 13 = .ok (.if_icmp .le 5, 3) := by decide +kernel
theorem dX9_feed_16 : decode cX9_feed 16 = .ok (.iconst (-1), 1) := by decide +kernel
theorem dX9_feed_17 : decode cX9_feed 17 = .ok (.ireturn, 1) := by decide +kernel
theorem dX9_feed_18 : decode cX9_feed 18 = .ok (.aload_n 0, 1) := by decide +kernel
theorem dX9_feed_19 : decode cX9_feed 19 = .ok (.getfield 21, 3) := by decide +kernel
theorem dX9_feed_22 : decode cX9_feed 22 = .ok (.iload_n 1, 1) := by decide +kernel
theorem dX9_feed_23 : decode cX9_feed 23 = .ok (.invokevirtual 106, 3) := by decide +kernel
theorem dX9_feed_26 : decode cX9_feed 26 = .ok (.aload_n 0, 1) := by decide +kernel
theorem dX9_feed_27 : decode cX9_feed 27 = .ok (.getfield 21, 3) := by decide +kernel
theorem dX9_feed_30 : decode cX9_feed 30 = .ok (.iload_n 2, 1) := by decide +kernel
theorem dX9_feed_31 : decode cX9_feed 31 = .ok (.invokevirtual 106, 3) := by decide +kernel
theorem dX9_feed_34 : decode cX9_feed 34 = .ok (.aload_n 0, 1) := by decide +kernel
theorem dX9_feed_35 : decode cX9_feed 35 = .ok (.getfield 21, 3) := by decide +kernel
theorem dX9_feed_38 : decode cX9_feed 38 = .ok (.iload_n 3, 1) := by decide +kernel
theorem dX9_feed_39 : decode cX9_feed 39 = .ok (.invokevirtual 106, 3) := by decide +kernel
theorem dX9_feed_42 : decode cX9_feed 42 = .ok (.aload_n 0, 1) := by decide +kernel
theorem dX9_feed_43 : decode cX9_feed 43 = .ok (.getfield 21, 3) := by decide +kernel
theorem dX9_feed_46 : decode cX9_feed 46 = .ok (.iload 4, 2) := by decide +kernel
theorem dX9_feed_48 : decode cX9_feed 48 = .ok (.invokevirtual 106, 3) := by decide +kernel
theorem dX9_feed_51 : decode cX9_feed 51 = .ok (.aload_n 0, 1) := by decide +kernel
theorem dX9_feed_52 : decode cX9_feed 52 = .ok (.getfield 21, 3) := by decide +kernel
theorem dX9_feed_55 : decode cX9_feed 55 = .ok (.iload 5, 2) := by decide +kernel
theorem dX9_feed_57 : decode cX9_feed 57 = .ok (.invokevirtual 106, 3) := by decide +kernel
theorem dX9_feed_60 : decode cX9_feed 60 = .ok (.aload_n 0, 1) := by decide +kernel
theorem dX9_feed_61 : decode cX9_feed 61 = .ok (.getfield 21, 3) := by decide +kernel
theorem dX9_feed_64 : decode cX9_feed 64 = .ok (.getfield 103, 3) := by decide +kernel
theorem dX9_feed_67 : decode cX9_feed 67 = .ok (.ireturn, 1) := by decide +kernel
theorem dX9_form_0 : decode cX9_form 0 = .ok (.aload_n 0, 1) := by decide +kernel
theorem dX9_form_1 : decode cX9_form 1 = .ok (.getfield 21, 3) := by decide +kernel
theorem dX9_form_4 : decode cX9_form 4 = .ok (.iload_n 1, 1) := by decide +kernel
theorem dX9_form_5 : decode cX9_form 5 = .ok (.invokevirtual 110, 3) := by decide +kernel
theorem dX9_form_8 : decode cX9_form 8 = .ok (.ifCond .ne 9, 3) := by decide +kernel
theorem dX9_form_11 : decode cX9_form 11 = .ok (.aload_n 0, 1) := by decide +kernel
theorem dX9_form_12 : decode cX9_form 12 = .ok (.iconst 2, 1) := by decide +kernel
theorem dX9_form_13 : decode cX9_form 13 = .ok (.invokevirtual 89, 3) := by decide +kernel
theorem dX9_form_16 : decode cX9_form 16 = .ok (.ireturn, 1) := by decide +kernel
theorem dX9_form_17 : decode cX9_form 17 = .ok (.aload_n 0, 1) := by decide +kernel
theorem dX9_form_18 : decode cX9_form 18 = .ok (.getfield 21, 3) := by decide +kernel
theorem dX9_form_21 : decode cX9_form 21 = .ok (.iload_n 1, 1) := by decide +kernel
theorem dX9_form_22 : decode cX9_form 22 = .ok (.invokevirtual 113, 3) := by decide +kernel
theorem dX9_form_25 : decode cX9_form 25 = .ok (.aload_n 0, 1) := by decide +kernel
theorem dX9_form_26 : decode cX9_form 26 = .ok (.getfield 27, 3) := by decide +kernel
theorem dX9_form_29 : decode cX9_form 29 = .ok (.aload_n 0, 1) := by decide +kernel
theorem dX9_form_30 : decode cX9_form 30 = .ok (.getfield 116, 3) := by decide +kernel
theorem dX9_form_33 : decode cX9_form 33 = .ok (.aaload, 1) := by decide +kernel
theorem dX9_form_34 : decode cX9_form 34 = .ok (.aload_n 0, 1) := by decide +kernel
theorem dX9_form_35 : decode cX9_form 35 = .ok (.getfield 21, 3) := by decide +kernel
theorem dX9_form_38 : decode cX9_form 38 = .ok (.invokevirtual 119, 3) := by decide +kernel
theorem dX9_form_41 : decode cX9_form 41 = .ok (.istore_n 2, 1) := by decide +kernel
theorem dX9_form_42 : decode cX9_form 42 = .ok (.aload_n 0, 1) := by decide +kernel
theorem dX9_form_43 : decode cX9_form 43 = .ok (.getfield 21, 3) := by decide +kernel
theorem dX9_form_46 : decode cX9_form 46 = .ok (.iconst 0, 1) := by decide +kernel
theorem dX9_form_47 : decode cX9_form 47 = .ok (.putfield 103, 3) := by decide +kernel
theorem dX9_form_50 : decode cX9_form 50 = .ok (.iload_n 2, 1) := by decide +kernel
theorem dX9_form_51 : decode cX9_form 51 = .ok (.ifCond .ne 9, 3) := by decide +kernel
theorem dX9_form_54 : decode cX9_form 54 = .ok (.aload_n 0, 1) := by decide +kernel
theorem dX9_form_55 : decode cX9_form 55 = .ok (.iconst 4, 1) := by decide +kernel
theorem dX9_form_56 : decode cX9_form 56 = .ok (.invokevirtual 89, 3) := by decide +kernel
theorem dX9_form_59 : decode cX9_form 59 = .ok (.ireturn, 1) := by decide +kernel
theorem dX9_form_60 : decode cX9_form 60 = .ok (.aload_n 0, 1) := by decide +kernel
theorem dX9_form_61 : decode cX9_form 61 = .ok (.getfield 116, 3) := by decide +kernel
theorem dX9_form_64 : decode cX9_form 64 = .ok (.bipush 12, 2) := by decide +kernel
theorem dX9_form_66 : decode cX9_form 66 = .ok (.if_icmp .lt 9, 3) := by decide +kernel
theorem dX9_form_69 : decode cX9_form 69 = .ok (.aload_n 0, 1) := by decide +kernel
theorem dX9_form_70 : decode cX9_form 70 = .ok (.iconst 3, 1) := by decide +kernel
theorem dX9_form_71 : decode cX9_form 71 = .ok (.invokevirtual 89, 3) := by decide +kernel
theorem dX9_form_74 : decode cX9_form 74 = .ok (.ireturn, 1) := by decide +kernel
theorem dX9_form_75 : decode cX9_form 75 = .ok (.aload_n 0, 1) := by decide +kernel
theorem dX9_form_76 : decode cX9_form 76 = .ok (.getfield 60, 3) := by decide +kernel
theorem dX9_form_79 : decode cX9_form 79 = .ok (.iconst 1, 1) := by decide +kernel
theorem dX9_form_80 : decode cX9_form 80 = .ok (.aload_n 0, 1) := by decide +kernel
theorem dX9_form_81 : decode cX9_form 81 = .ok (.getfield 116, 3) := by decide +kernel
theorem dX9_form_84 : decode cX9_form 84 = .ok (.lconst 0, 1) := by decide +kernel
theorem dX9_form_85 : decode cX9_form 85 = .ok (.lconst 0, 1) := by decide +kernel
theorem dX9_form_86 : decode cX9_form 86 = .ok (.invokevirtual 85, 3) := by decide +kernel
theorem dX9_form_89 : decode cX9_form 89 = .ok (.aload_n 0, 1) := by decide +kernel
theorem dX9_form_90 : decode cX9_form 90 = .ok (.dup, 1) := by decide +kernel
theorem dX9_form_91 : decode cX9_form 91 = .ok (.getfield 116, 3) := by decide +kernel
theorem dX9_form_94 : decode cX9_form 94 = .ok (.iconst 1, 1) := by decide +kernel
theorem dX9_form_95 : decode cX9_form 95 = .ok (.iadd, 1) := by decide +kernel
theorem dX9_form_96 : decode cX9_form 96 = .ok (.putfield 116, 3) := by decide +kernel
theorem dX9_form_99 : decode cX9_form 99 = .ok (.aload_n 0, 1) := by decide +kernel
theorem dX9_form_100 : decode cX9_form 100 = .ok (.aload_n 0, 1) := by decide +kernel
theorem dX9_form_101 : decode cX9_form 101 = .ok (.getfield 116, 3) := by decide +kernel
theorem dX9_form_104 : decode cX9_form 104 = .ok (.iconst 1, 1) := by decide +kernel
theorem dX9_form_105 : decode cX9_form 105 = .ok (.isub, 1) := by decide +kernel
theorem dX9_form_106 : decode cX9_form 106 = .ok (.invokevirtual 96, 3) := by decide +kernel
theorem dX9_form_109 : decode cX9_form 109 = .ok (.ireturn, 1) := by decide +kernel
theorem dX9_notice_0 : decode cX9_notice 0 = .ok (.aload_n 0, 1) := by decide +kernel
theorem dX9_notice_1 : decode cX9_notice 1 = .ok (.iload_n 1, 1) := by decide +kernel
theorem dX9_notice_2 : decode cX9_notice 2 = .ok (.invokevirtual 123, 3) := by decide +kernel
theorem dX9_notice_5 : decode cX9_notice 5 = .ok (.astore 5, 2) := by decide +kernel
theorem dX9_notice_7 : decode cX9_notice 7 = .ok (.aload 5, 2) := by decide +kernel
theorem dX9_notice_9 : decode cX9_notice 9 = .ok (.ifnonnull 9, 3) := by decide +kernel
theorem dX9_notice_12 : decode cX9_notice 12 = .ok (.aload_n 0, 1) := by decide +kernel
theorem dX9_notice_13 : decode cX9_notice 13 = .ok (.iconst 1, 1) := by decide +kernel
theorem dX9_notice_14 : decode cX9_notice 14 = .ok (.invokevirtual 89, 3) := by decide +kernel
theorem dX9_notice_17 : decode cX9_notice 17 = .ok (.ireturn, 1) := by decide +kernel
theorem dX9_notice_18 : decode cX9_notice 18 = .ok (.aload_n 0, 1) := by decide +kernel
theorem dX9_notice_19 : decode cX9_notice 19 = .ok (.getfield 21, 3) := by decide +kernel
theorem dX9_notice_22 : decode cX9_notice 22 = .ok (.iload_n 2, 1) := by decide +kernel
theorem dX9_notice_23 : decode cX9_notice 23 = .ok (.invokevirtual 110, 3) := by decide +kernel
theorem dX9_notice_26 : decode cX9_notice 26 = .ok (.ifCond .eq 22, 3) := by decide +kernel
theorem dX9_notice_29 : decode cX9_notice 29 = .ok (.iload_n 3, 1) := by decide +kernel
theorem dX9_notice_30 : decode cX9_notice 30 = .ok (.iconst 1, 1) := by decide +kernel
theorem dX9_notice_31 : decode cX9_notice 31 = .ok (.if_icmp .lt 17, 3) := by decide +kernel
theorem dX9_notice_34 : decode cX9_notice 34 = .ok (.iload_n 3, 1) := by decide +kernel
theorem dX9_notice_35 : decode cX9_notice 35 = .ok (.bipush 60, 2) := by decide +kernel
theorem dX9_notice_37 : decode cX9_notice 37 = .ok (.if_icmp .gt 11, 3) := by decide +kernel
theorem dX9_notice_40 : decode cX9_notice 40 = .ok (.iload 4, 2) := by decide +kernel
theorem dX9_notice_42 : decode cX9_notice 42 = .ok (.invokestatic 64, 3) := by decide +kernel
theorem dX9_notice_45 : decode cX9_notice 45 = .ok (.ifCond .ne 9, 3) := by decide +kernel
theorem dX9_notice_48 : decode cX9_notice 48 = .ok (.aload_n 0, 1) := by decide +kernel
theorem dX9_notice_49 : decode cX9_notice 49 = .ok (.iconst 2, 1) := by decide +kernel
theorem dX9_notice_50 : decode cX9_notice 50 = .ok (.invokevirtual 89, 3) := by decide +kernel
theorem dX9_notice_53 : decode cX9_notice 53 = .ok (.ireturn, 1) := by decide +kernel
theorem dX9_notice_54 : decode cX9_notice 54 = .ok (.aload_n 0, 1) := by decide +kernel
theorem dX9_notice_55 : decode cX9_notice 55 = .ok (.getfield 35, 3) := by decide +kernel
theorem dX9_notice_58 : decode cX9_notice 58 = .ok (.invokevirtual 127, 3) := by decide +kernel
theorem dX9_notice_61 : decode cX9_notice 61 = .ok (.astore 6, 2) := by decide +kernel
theorem dX9_notice_63 : decode cX9_notice 63 = .ok (.aload 6, 2) := by decide +kernel
theorem dX9_notice_65 : decode cX9_notice 65 = .ok (.iload_n 1, 1) := by decide +kernel
theorem dX9_notice_66 : decode cX9_notice 66 = .ok (.iload_n 3, 1) := by decide +kernel
theorem dX9_notice_67 : decode cX9_notice 67 = .ok (.iload 4, 2) := by decide +kernel
theorem dX9_notice_69 : decode cX9_notice 69 = .ok (.invokevirtual 131, 3) := by decide +kernel
theorem dX9_notice_72 : decode cX9_notice 72 = .ok (.aload_n 0, 1) := by decide +kernel
theorem dX9_notice_73 : decode cX9_notice 73 = .ok (.getfield 21, 3) := by decide +kernel
theorem dX9_notice_76 : decode cX9_notice 76 = .ok (.iload_n 2, 1) := by decide +kernel
theorem dX9_notice_77 : decode cX9_notice 77 = .ok (.invokevirtual 113, 3) := by decide +kernel
theorem dX9_notice_80 : decode cX9_notice 80 = .ok (.aload 5, 2) := by decide +kernel
theorem dX9_notice_82 : decode cX9_notice 82 = .ok (.aload_n 0, 1) := by decide +kernel
theorem dX9_notice_83 : decode cX9_notice 83 = .ok (.getfield 21, 3) := by decide +kernel
theorem dX9_notice_86 : decode cX9_notice 86 = .ok (.aload 6, 2) := by decide +kernel
theorem dX9_notice_88 : decode cX9_notice 88 = .ok (.getfield 137, 3) := by decide +kernel
theorem dX9_notice_91 : decode cX9_notice 91 = .ok (.invokevirtual 141, 3) := by decide +kernel
theorem dX9_notice_94 : decode cX9_notice 94 = .ok (.istore 7, 2) := by decide +kernel
theorem dX9_notice_96 : decode cX9_notice 96 = .ok (.aload_n 0, 1) := by decide +kernel
theorem dX9_notice_97 : decode cX9_notice 97 = .ok (.getfield 21, 3) := by decide +kernel
theorem dX9_notice_100 : decode cX9_notice 100 = .ok (.iconst 0, 1) := by decide +kernel
theorem dX9_notice_101 : decode cX9_notice 101 = .ok (.putfield 103, 3) := by decide +kernel
theorem dX9_notice_104 : decode cX9_notice 104 = .ok (.iload 7, 2) := by decide +kernel
theorem dX9_notice_106 : decode cX9_notice 106 = .ok (.ifCond .ne 9, 3) := by decide +kernel
theorem dX9_notice_109 : decode cX9_notice 109 = .ok (.aload_n 0, 1) := by decide +kernel
theorem dX9_notice_110 : decode cX9_notice 110 = .ok (.iconst 4, 1) := by decide +kernel
theorem dX9_notice_111 : decode cX9_notice 111 = .ok (.invokevirtual 89, 3) := by decide +kernel
theorem dX9_notice_114 : decode cX9_notice 114 = .ok (.ireturn, 1) := by decide +kernel
theorem dX9_notice_115 : decode cX9_notice 115 = .ok (.aload_n 0, 1) := by decide +kernel
theorem dX9_notice_116 : decode cX9_notice 116 = .ok (.getfield 35, 3) := by decide +kernel
theorem dX9_notice_119 : decode cX9_notice 119 = .ok (.getfield 145, 3) := by decide +kernel
theorem dX9_notice_122 : decode cX9_notice 122 = .ok (.bipush 60, 2) := by decide +kernel
theorem dX9_notice_124 : decode cX9_notice 124 = .ok (.if_icmp .lt 9, 3) := by decide +kernel
theorem dX9_notice_127 : decode cX9_notice 127 = .ok (.aload_n 0, 1) := by decide +kernel
theorem dX9_notice_128 : decode cX9_notice 128 = .ok (.iconst 3, 1) := by decide +kernel
theorem dX9_notice_129 : decode cX9_notice 129 = .ok (.invokevirtual 89, 3) := by decide +kernel
theorem dX9_notice_132 : decode cX9_notice 132 = .ok (.ireturn, 1) := by decide +kernel
theorem dX9_notice_133 : decode cX9_notice 133 = .ok (.aload_n 0, 1) := by decide +kernel
theorem dX9_notice_134 : decode cX9_notice 134 = .ok (.getfield 60, 3) := by decide +kernel
theorem dX9_notice_137 : decode cX9_notice 137 = .ok (.iconst 2, 1) := by decide +kernel
theorem dX9_notice_138 : decode cX9_notice 138 = .ok (.aload_n 0, 1) := by decide +kernel
theorem dX9_notice_139 : decode cX9_notice 139 = .ok (.getfield 35, 3) := by decide +kernel
theorem dX9_notice_142 : decode cX9_notice 142 = .ok (.getfield 145, 3) := by decide +kernel
theorem dX9_notice_145 : decode cX9_notice 145 = .ok (.lconst 0, 1) := by decide +kernel
theorem dX9_notice_146 : decode cX9_notice 146 = .ok (.lconst 0, 1) := by decide +kernel
theorem dX9_notice_147 : decode cX9_notice 147 = .ok (.invokevirtual 85, 3) := by decide +kernel
theorem dX9_notice_150 : decode cX9_notice 150 = .ok (.aload_n 0, 1) := by decide +kernel
theorem dX9_notice_151 : decode cX9_notice 151 = .ok (.getfield 35, 3) := by decide +kernel
theorem dX9_notice_154 : decode cX9_notice 154 = .ok (.dup, 1) := by decide +kernel
theorem dX9_notice_155 : decode cX9_notice 155 = .ok (.getfield 145, 3) := by decide +kernel
theorem dX9_notice_158 : decode cX9_notice 158 = .ok (.iconst 1, 1) := by decide +kernel
theorem dX9_notice_159 : decode cX9_notice 159 = .ok (.iadd, 1) := by decide +kernel
theorem dX9_notice_160 : decode cX9_notice 160 = .ok (.putfield 145, 3) := by decide +kernel
theorem dX9_notice_163 : decode cX9_notice 163 = .ok (.aload_n 0, 1) := by decide +kernel
theorem dX9_notice_164 : decode cX9_notice 164 = .ok (.aload_n 0, 1) := by decide +kernel
theorem dX9_notice_165 : decode cX9_notice 165 = .ok (.getfield 35, 3) := by decide +kernel
theorem dX9_notice_168 : decode cX9_notice 168 = .ok (.getfield 145, 3) := by decide +kernel
theorem dX9_notice_171 : decode cX9_notice 171 = .ok (.iconst 1, 1) := by decide +kernel
theorem dX9_notice_172 : decode cX9_notice 172 = .ok (.isub, 1) := by decide +kernel
theorem dX9_notice_173 : decode cX9_notice 173 = .ok (.invokevirtual 96, 3) := by decide +kernel
theorem dX9_notice_176 : decode cX9_notice 176 = .ok (.ireturn, 1) := by decide +kernel
theorem dX9_fault_0 : decode cX9_fault 0 = .ok (.aload_n 0, 1) := by decide +kernel
theorem dX9_fault_1 : decode cX9_fault 1 = .ok (.getfield 21, 3) := by decide +kernel
theorem dX9_fault_4 : decode cX9_fault 4 = .ok (.getfield 148, 3) := by decide +kernel
theorem dX9_fault_7 : decode cX9_fault 7 = .ok (.ireturn, 1) := by decide +kernel
theorem dX9_where_0 : decode cX9_where 0 = .ok (.aload_n 0, 1) := by decide +kernel
theorem dX9_where_1 : decode cX9_where 1 = .ok (.getfield 151, 3) := by decide +kernel
theorem dX9_where_4 : decode cX9_where 4 = .ok (.iconst 4, 1) := by decide +kernel
theorem dX9_where_5 : decode cX9_where 5 = .ok (.if_icmp .ne 13, 3) := by decide +kernel
theorem dX9_where_8 : decode cX9_where 8 = .ok (.aload_n 0, 1) := by decide +kernel
theorem dX9_where_9 : decode cX9_where 9 = .ok (.getfield 21, 3) := by decide +kernel
theorem dX9_where_12 : decode cX9_where 12 = .ok (.getfield 154, 3) := by decide +kernel
theorem dX9_where_15 : decode cX9_where 15 = .ok (.goto 4, 3) := by decide +kernel
theorem dX9_where_18 : decode cX9_where 18 = .ok (.iconst (-1), 1) := by decide +kernel
theorem dX9_where_19 : decode cX9_where 19 = .ok (.ireturn, 1) := by decide +kernel
theorem dX9_lacks_0 : decode cX9_lacks 0 = .ok (.aload_n 0, 1) := by decide +kernel
theorem dX9_lacks_1 : decode cX9_lacks 1 = .ok (.getfield 21, 3) := by decide +kernel
theorem dX9_lacks_4 : decode cX9_lacks 4 = .ok (.getfield 148, 3) := by decide +kernel
theorem dX9_lacks_7 : decode cX9_lacks 7 = .ok (.bipush 6, 2) := by decide +kernel
theorem dX9_lacks_9 : decode cX9_lacks 9 = .ok (.if_icmp .ne 13, 3) := by decide +kernel
theorem dX9_lacks_12 : decode cX9_lacks 12 = .ok (.aload_n 0, 1) := by decide +kernel
theorem dX9_lacks_13 : decode cX9_lacks 13 = .ok (.getfield 21, 3) := by decide +kernel
theorem dX9_lacks_16 : decode cX9_lacks 16 = .ok (.getfield 157, 3) := by decide +kernel
theorem dX9_lacks_19 : decode cX9_lacks 19 = .ok (.goto 4, 3) := by decide +kernel
theorem dX9_lacks_22 : decode cX9_lacks 22 = .ok (.iconst (-1), 1) := by decide +kernel
theorem dX9_lacks_23 : decode cX9_lacks 23 = .ok (.ireturn, 1) := by decide +kernel
theorem dX9_field_0 : decode cX9_field 0 = .ok (.aload_n 0, 1) := by decide +kernel
theorem dX9_field_1 : decode cX9_field 1 = .ok (.iload_n 1, 1) := by decide +kernel
theorem dX9_field_2 : decode cX9_field 2 = .ok (.invokevirtual 123, 3) := by decide +kernel
theorem dX9_field_5 : decode cX9_field 5 = .ok (.astore 4, 2) := by decide +kernel
theorem dX9_field_7 : decode cX9_field 7 = .ok (.aload 4, 2) := by decide +kernel
theorem dX9_field_9 : decode cX9_field 9 = .ok (.ifnull 16, 3) := by decide +kernel
theorem dX9_field_12 : decode cX9_field 12 = .ok (.iload_n 2, 1) := by decide +kernel
theorem dX9_field_13 : decode cX9_field 13 = .ok (.ifCond .lt 12, 3) := by decide +kernel
theorem dX9_field_16 : decode cX9_field 16 = .ok (.iload_n 2, 1) := by decide +kernel
theorem dX9_field_17 : decode cX9_field 17 = .ok (.aload 4, 2) := by decide +kernel
theorem dX9_field_19 : decode cX9_field 19 = .ok (.getfield 160, 3) := by decide +kernel
theorem dX9_field_22 : decode cX9_field 22 = .ok (.if_icmp .lt 5, 3) := by decide +kernel
theorem dX9_field_25 : decode cX9_field 25 = .ok (.iconst (-1), 1) := by decide +kernel
theorem dX9_field_26 : decode cX9_field 26 = .ok (.ireturn, 1) := by decide +kernel
theorem dX9_field_27 : decode cX9_field 27 = .ok (.aload 4, 2) := by decide +kernel
theorem dX9_field_29 : decode cX9_field 29 = .ok (.getfield 161, 3) := by decide +kernel
theorem dX9_field_32 : decode cX9_field 32 = .ok (.iload_n 2, 1) := by decide +kernel
theorem dX9_field_33 : decode cX9_field 33 = .ok (.aaload, 1) := by decide +kernel
theorem dX9_field_34 : decode cX9_field 34 = .ok (.astore 5, 2) := by decide +kernel
theorem dX9_field_36 : decode cX9_field 36 = .ok (.iload_n 3, 1) := by decide +kernel
theorem dX9_field_37 : decode cX9_field 37 = .ok (.tableswitch 80 0 3 #[31, 37, 51, 74], 31) := by decide +kernel
theorem dX9_field_68 : decode cX9_field 68 = .ok (.aload 5, 2) := by decide +kernel
theorem dX9_field_70 : decode cX9_field 70 = .ok (.getfield 165, 3) := by decide +kernel
theorem dX9_field_73 : decode cX9_field 73 = .ok (.ireturn, 1) := by decide +kernel
theorem dX9_field_74 : decode cX9_field 74 = .ok (.aload 5, 2) := by decide +kernel
theorem dX9_field_76 : decode cX9_field 76 = .ok (.getfield 170, 3) := by decide +kernel
theorem dX9_field_79 : decode cX9_field 79 = .ok (.ifCond .eq 7, 3) := by decide +kernel
theorem dX9_field_82 : decode cX9_field 82 = .ok (.iconst 1, 1) := by decide +kernel
theorem dX9_field_83 : decode cX9_field 83 = .ok (.goto 4, 3) := by decide +kernel
theorem dX9_field_86 : decode cX9_field 86 = .ok (.iconst 0, 1) := by decide +kernel
theorem dX9_field_87 : decode cX9_field 87 = .ok (.ireturn, 1) := by decide +kernel
theorem dX9_field_88 : decode cX9_field 88 = .ok (.aload 5, 2) := by decide +kernel
theorem dX9_field_90 : decode cX9_field 90 = .ok (.getfield 165, 3) := by decide +kernel
theorem dX9_field_93 : decode cX9_field 93 = .ok (.iconst 3, 1) := by decide +kernel
theorem dX9_field_94 : decode cX9_field 94 = .ok (.if_icmp .ne 11, 3) := by decide +kernel
theorem dX9_field_97 : decode cX9_field 97 = .ok (.aload 5, 2) := by decide +kernel
theorem dX9_field_99 : decode cX9_field 99 = .ok (.getfield 174, 3) := by decide +kernel
theorem dX9_field_102 : decode cX9_field 102 = .ok (.goto 8, 3) := by decide +kernel
theorem dX9_field_105 : decode cX9_field 105 = .ok (.aload 5, 2) := by decide +kernel
theorem dX9_field_107 : decode cX9_field 107 = .ok (.getfield 177, 3) := by decide +kernel
theorem dX9_field_110 : decode cX9_field 110 = .ok (.ireturn, 1) := by decide +kernel
theorem dX9_field_111 : decode cX9_field 111 = .ok (.aload 5, 2) := by decide +kernel
theorem dX9_field_113 : decode cX9_field 113 = .ok (.getfield 180, 3) := by decide +kernel
theorem dX9_field_116 : decode cX9_field 116 = .ok (.ireturn, 1) := by decide +kernel
theorem dX9_field_117 : decode cX9_field 117 = .ok (.iconst (-1), 1) := by decide +kernel
theorem dX9_field_118 : decode cX9_field 118 = .ok (.ireturn, 1) := by decide +kernel
theorem dX9_fields_0 : decode cX9_fields 0 = .ok (.aload_n 0, 1) := by decide +kernel
theorem dX9_fields_1 : decode cX9_fields 1 = .ok (.iload_n 1, 1) := by decide +kernel
theorem dX9_fields_2 : decode cX9_fields 2 = .ok (.invokevirtual 123, 3) := by decide +kernel
theorem dX9_fields_5 : decode cX9_fields 5 = .ok (.astore_n 2, 1) := by decide +kernel
theorem dX9_fields_6 : decode cX9_fields 6 = .ok (.aload_n 2, 1) := by decide +kernel
theorem dX9_fields_7 : decode cX9_fields 7 = .ok (.ifnonnull 7, 3) := by decide +kernel
theorem dX9_fields_10 : decode cX9_fields 10 = .ok (.iconst (-1), 1) := by decide +kernel
theorem dX9_fields_11 : decode cX9_fields 11 = .ok (.goto 7, 3) := by decide +kernel
theorem dX9_fields_14 : decode cX9_fields 14 = .ok (.aload_n 2, 1) := by decide +kernel
theorem dX9_fields_15 : decode cX9_fields 15 = .ok (.getfield 160, 3) := by decide +kernel
theorem dX9_fields_18 : decode cX9_fields 18 = .ok (.ireturn, 1) := by decide +kernel
theorem dX9_value_0 : decode cX9_value 0 = .ok (.aload_n 0, 1) := by decide +kernel
theorem dX9_value_1 : decode cX9_value 1 = .ok (.getfield 35, 3) := by decide +kernel
theorem dX9_value_4 : decode cX9_value 4 = .ok (.iload_n 1, 1) := by decide +kernel
theorem dX9_value_5 : decode cX9_value 5 = .ok (.invokevirtual 183, 3) := by decide +kernel
theorem dX9_value_8 : decode cX9_value 8 = .ok (.astore_n 3, 1) := by decide +kernel
theorem dX9_value_9 : decode cX9_value 9 = .ok (.aload_n 3, 1) := by decide +kernel
theorem dX9_value_10 : decode cX9_value 10 = .ok (.ifnonnull 7, 3) := by decide +kernel
theorem dX9_value_13 : decode cX9_value 13 = .ok (.ldc2_w 187, 3) := by decide +kernel
theorem dX9_value_16 : decode cX9_value 16 = .ok (.lreturn, 1) := by decide +kernel
theorem dX9_value_17 : decode cX9_value 17 = .ok (.aload_n 0, 1) := by decide +kernel
theorem dX9_value_18 : decode cX9_value 18 = .ok (.aload_n 3, 1) := by decide +kernel
theorem dX9_value_19 : decode cX9_value 19 = .ok (.getfield 189, 3) := by decide +kernel
theorem dX9_value_22 : decode cX9_value 22 = .ok (.invokevirtual 123, 3) := by decide +kernel
theorem dX9_value_25 : decode cX9_value 25 = .ok (.astore 4, 2) := by decide +kernel
theorem dX9_value_27 : decode cX9_value 27 = .ok (.aload 4, 2) := by decide +kernel
theorem dX9_value_29 : decode cX9_value 29 = .ok (.ifnull 16, 3) := by decide +kernel
theorem dX9_value_32 : decode cX9_value 32 = .ok (.iload_n 2, 1) := by decide +kernel
theorem dX9_value_33 : decode cX9_value 33 = .ok (.ifCond .lt 12, 3) := by decide +kernel
theorem dX9_value_36 : decode cX9_value 36 = .ok (.iload_n 2, 1) := by decide +kernel
theorem dX9_value_37 : decode cX9_value 37 = .ok (.aload 4, 2) := by decide +kernel
theorem dX9_value_39 : decode cX9_value 39 = .ok (.getfield 160, 3) := by decide +kernel
theorem dX9_value_42 : decode cX9_value 42 = .ok (.if_icmp .lt 7, 3) := by decide +kernel
theorem dX9_value_45 : decode cX9_value 45 = .ok (.ldc2_w 187, 3) := by decide +kernel
theorem dX9_value_48 : decode cX9_value 48 = .ok (.lreturn, 1) := by decide +kernel
theorem dX9_value_49 : decode cX9_value 49 = .ok (.aload_n 3, 1) := by decide +kernel
theorem dX9_value_50 : decode cX9_value 50 = .ok (.invokevirtual 192, 3) := by decide +kernel
theorem dX9_value_53 : decode cX9_value 53 = .ok (.ifCond .eq 16, 3) := by decide +kernel
theorem dX9_value_56 : decode cX9_value 56 = .ok (.aload 4, 2) := by decide +kernel
theorem dX9_value_58 : decode cX9_value 58 = .ok (.aload_n 3, 1) := by decide +kernel
theorem dX9_value_59 : decode cX9_value 59 = .ok (.getfield 137, 3) := by decide +kernel
theorem dX9_value_62 : decode cX9_value 62 = .ok (.aload_n 0, 1) := by decide +kernel
theorem dX9_value_63 : decode cX9_value 63 = .ok (.getfield 12, 3) := by decide +kernel
theorem dX9_value_66 : decode cX9_value 66 = .ok (.invokevirtual 195, 3) := by decide +kernel
theorem dX9_value_69 : decode cX9_value 69 = .ok (.aload_n 3, 1) := by decide +kernel
theorem dX9_value_70 : decode cX9_value 70 = .ok (.getfield 137, 3) := by decide +kernel
theorem dX9_value_73 : decode cX9_value 73 = .ok (.iload_n 2, 1) := by decide +kernel
theorem dX9_value_74 : decode cX9_value 74 = .ok (.laload, 1) := by decide +kernel
theorem dX9_value_75 : decode cX9_value 75 = .ok (.lreturn, 1) := by decide +kernel
theorem dX9_about_0 : decode cX9_about 0 = .ok (.aload_n 0, 1) := by decide +kernel
theorem dX9_about_1 : decode cX9_about 1 = .ok (.getfield 35, 3) := by decide +kernel
theorem dX9_about_4 : decode cX9_about 4 = .ok (.iload_n 1, 1) := by decide +kernel
theorem dX9_about_5 : decode cX9_about 5 = .ok (.invokevirtual 183, 3) := by decide +kernel
theorem dX9_about_8 : decode cX9_about 8 = .ok (.astore_n 3, 1) := by decide +kernel
theorem dX9_about_9 : decode cX9_about 9 = .ok (.aload_n 3, 1) := by decide +kernel
theorem dX9_about_10 : decode cX9_about 10 = .ok (.ifnonnull 5, 3) := by decide +kernel
theorem dX9_about_13 : decode cX9_about 13 = .ok (.iconst (-1), 1) := by decide +kernel
theorem dX9_about_14 : decode cX9_about 14 = .ok (.ireturn, 1) := by decide +kernel
theorem dX9_about_15 : decode cX9_about 15 = .ok (.iload_n 2, 1) := by decide +kernel
theorem dX9_about_16 : decode cX9_about 16 = .ok (.tableswitch 108 0 7 #[48, 53, 58, 63, 68, 73, 78, 93], 48) := by decide +kernel
theorem dX9_about_64 : decode cX9_about 64 = .ok (.aload_n 3, 1) := by decide +kernel
theorem dX9_about_65 : decode cX9_about 65 = .ok (.getfield 189, 3) := by decide +kernel
theorem dX9_about_68 : decode cX9_about 68 = .ok (.ireturn, 1) := by decide +kernel
theorem dX9_about_69 : decode cX9_about 69 = .ok (.aload_n 3, 1) := by decide +kernel
theorem dX9_about_70 : decode cX9_about 70 = .ok (.getfield 199, 3) := by decide +kernel
theorem dX9_about_73 : decode cX9_about 73 = .ok (.ireturn, 1) := by decide +kernel
theorem dX9_about_74 : decode cX9_about 74 = .ok (.aload_n 3, 1) := by decide +kernel
theorem dX9_about_75 : decode cX9_about 75 = .ok (.getfield 202, 3) := by decide +kernel
theorem dX9_about_78 : decode cX9_about 78 = .ok (.ireturn, 1) := by decide +kernel
theorem dX9_about_79 : decode cX9_about 79 = .ok (.aload_n 3, 1) := by decide +kernel
theorem dX9_about_80 : decode cX9_about 80 = .ok (.getfield 205, 3) := by decide +kernel
theorem dX9_about_83 : decode cX9_about 83 = .ok (.ireturn, 1) := by decide +kernel
theorem dX9_about_84 : decode cX9_about 84 = .ok (.aload_n 3, 1) := by decide +kernel
theorem dX9_about_85 : decode cX9_about 85 = .ok (.getfield 208, 3) := by decide +kernel
theorem dX9_about_88 : decode cX9_about 88 = .ok (.ireturn, 1) := by decide +kernel
theorem dX9_about_89 : decode cX9_about 89 = .ok (.aload_n 3, 1) := by decide +kernel
theorem dX9_about_90 : decode cX9_about 90 = .ok (.getfield 211, 3) := by decide +kernel
theorem dX9_about_93 : decode cX9_about 93 = .ok (.ireturn, 1) := by decide +kernel
theorem dX9_about_94 : decode cX9_about 94 = .ok (.aload_n 3, 1) := by decide +kernel
theorem dX9_about_95 : decode cX9_about 95 = .ok (.getfield 214, 3) := by decide +kernel
theorem dX9_about_98 : decode cX9_about 98 = .ok (.lconst 0, 1) := by decide +kernel
theorem dX9_about_99 : decode cX9_about 99 = .ok (.lcmp, 1) := by decide +kernel
theorem dX9_about_100 : decode cX9_about 100 = .ok (.ifCond .eq 7, 3) := by decide +kernel
theorem dX9_about_103 : decode cX9_about 103 = .ok (.iconst 1, 1) := by decide +kernel
theorem dX9_about_104 : decode cX9_about 104 = .ok (.goto 4, 3) := by decide +kernel
theorem dX9_about_107 : decode cX9_about 107 = .ok (.iconst 0, 1) := by decide +kernel
theorem dX9_about_108 : decode cX9_about 108 = .ok (.ireturn, 1) := by decide +kernel
theorem dX9_about_109 : decode cX9_about 109 = .ok (.aload_n 3, 1) := by decide +kernel
theorem dX9_about_110 : decode cX9_about 110 = .ok (.getfield 218, 3) := by decide +kernel
theorem dX9_about_113 : decode cX9_about 113 = .ok (.lconst 0, 1) := by decide +kernel
theorem dX9_about_114 : decode cX9_about 114 = .ok (.lcmp, 1) := by decide +kernel
theorem dX9_about_115 : decode cX9_about 115 = .ok (.ifCond .eq 7, 3) := by decide +kernel
theorem dX9_about_118 : decode cX9_about 118 = .ok (.iconst 1, 1) := by decide +kernel
theorem dX9_about_119 : decode cX9_about 119 = .ok (.goto 4, 3) := by decide +kernel
theorem dX9_about_122 : decode cX9_about 122 = .ok (.iconst 0, 1) := by decide +kernel
theorem dX9_about_123 : decode cX9_about 123 = .ok (.ireturn, 1) := by decide +kernel
theorem dX9_about_124 : decode cX9_about 124 = .ok (.iconst (-1), 1) := by decide +kernel
theorem dX9_about_125 : decode cX9_about 125 = .ok (.ireturn, 1) := by decide +kernel
theorem dX9_says_0 : decode cX9_says 0 = .ok (.aload_n 0, 1) := by decide +kernel
theorem dX9_says_1 : decode cX9_says 1 = .ok (.getfield 35, 3) := by decide +kernel
theorem dX9_says_4 : decode cX9_says 4 = .ok (.iload_n 1, 1) := by decide +kernel
theorem dX9_says_5 : decode cX9_says 5 = .ok (.invokevirtual 183, 3) := by decide +kernel
theorem dX9_says_8 : decode cX9_says 8 = .ok (.astore 5, 2) := by decide +kernel
theorem dX9_says_10 : decode cX9_says 10 = .ok (.aload 5, 2) := by decide +kernel
theorem dX9_says_12 : decode cX9_says 12 = .ok (.ifnonnull 9, 3) := by decide +kernel
theorem dX9_says_15 : decode cX9_says 15 = .ok (.aload_n 0, 1) := by decide +kernel
theorem dX9_says_16 : decode cX9_says 16 = .ok (.iconst 1, 1) := by decide +kernel
theorem dX9_says_17 : decode cX9_says 17 = .ok (.invokevirtual 89, 3) := by decide +kernel
theorem dX9_says_20 : decode cX9_says 20 = .ok (.ireturn, 1) := by decide +kernel
theorem dX9_says_21 : decode cX9_says 21 = .ok (.aload 5, 2) := by decide +kernel
theorem dX9_says_23 : decode cX9_says 23 = .ok (.invokevirtual 192, 3) := by decide +kernel
theorem dX9_says_26 : decode cX9_says 26 = .ok (.ifCond .ne 10, 3) := by decide +kernel
theorem dX9_says_29 : decode cX9_says 29 = .ok (.aload_n 0, 1) := by decide +kernel
theorem dX9_says_30 : decode cX9_says 30 = .ok (.bipush 6, 2) := by decide +kernel
theorem dX9_says_32 : decode cX9_says 32 = .ok (.invokevirtual 89, 3) := by decide +kernel
theorem dX9_says_35 : decode cX9_says 35 = .ok (.ireturn, 1) := by decide +kernel
theorem dX9_says_36 : decode cX9_says 36 = .ok (.iload_n 2, 1) := by decide +kernel
theorem dX9_says_37 : decode cX9_says 37 = .ok (.invokestatic 221, 3) := by decide +kernel
theorem dX9_says_40 : decode cX9_says 40 = .ok (.ifCond .eq 17, 3) := by decide +kernel
theorem dX9_says_43 : decode cX9_says 43 = .ok (.iload_n 3, 1) := by decide +kernel
theorem dX9_says_44 : decode cX9_says 44 = .ok (.ldc 224, 2) := by decide +kernel
theorem dX9_says_46 : decode cX9_says 46 = .ok (.if_icmp .eq 11, 3) := by decide +kernel
theorem dX9_says_49 : decode cX9_says 49 = .ok (.iload 4, 2) := by decide +kernel
theorem dX9_says_51 : decode cX9_says 51 = .ok (.invokestatic 64, 3) := by decide +kernel
theorem dX9_says_54 : decode cX9_says 54 = .ok (.ifCond .ne 9, 3) := by decide +kernel
theorem dX9_says_57 : decode cX9_says 57 = .ok (.aload_n 0, 1) := by decide +kernel
theorem dX9_says_58 : decode cX9_says 58 = .ok (.iconst 2, 1) := by decide +kernel
theorem dX9_says_59 : decode cX9_says 59 = .ok (.invokevirtual 89, 3) := by decide +kernel
theorem dX9_says_62 : decode cX9_says 62 = .ok (.ireturn, 1) := by decide +kernel
theorem dX9_says_63 : decode cX9_says 63 = .ok (.aload 5, 2) := by decide +kernel
theorem dX9_says_65 : decode cX9_says 65 = .ok (.getfield 208, 3) := by decide +kernel
theorem dX9_says_68 : decode cX9_says 68 = .ok (.iconst 4, 1) := by decide +kernel
theorem dX9_says_69 : decode cX9_says 69 = .ok (.if_icmp .lt 9, 3) := by decide +kernel
theorem dX9_says_72 : decode cX9_says 72 = .ok (.aload_n 0, 1) := by decide +kernel
theorem dX9_says_73 : decode cX9_says 73 = .ok (.iconst 3, 1) := by decide +kernel
theorem dX9_says_74 : decode cX9_says 74 = .ok (.invokevirtual 89, 3) := by decide +kernel
theorem dX9_says_77 : decode cX9_says 77 = .ok (.ireturn, 1) := by decide +kernel
theorem dX9_says_78 : decode cX9_says 78 = .ok (.aload 5, 2) := by decide +kernel
theorem dX9_says_80 : decode cX9_says 80 = .ok (.iload_n 2, 1) := by decide +kernel
theorem dX9_says_81 : decode cX9_says 81 = .ok (.iload_n 3, 1) := by decide +kernel
theorem dX9_says_82 : decode cX9_says 82 = .ok (.iload 4, 2) := by decide +kernel
theorem dX9_says_84 : decode cX9_says 84 = .ok (.invokevirtual 225, 3) := by decide +kernel
theorem dX9_says_87 : decode cX9_says 87 = .ok (.aload_n 0, 1) := by decide +kernel
theorem dX9_says_88 : decode cX9_says 88 = .ok (.getfield 60, 3) := by decide +kernel
theorem dX9_says_91 : decode cX9_says 91 = .ok (.iconst 3, 1) := by decide +kernel
theorem dX9_says_92 : decode cX9_says 92 = .ok (.iload_n 1, 1) := by decide +kernel
theorem dX9_says_93 : decode cX9_says 93 = .ok (.lconst 0, 1) := by decide +kernel
theorem dX9_says_94 : decode cX9_says 94 = .ok (.lconst 0, 1) := by decide +kernel
theorem dX9_says_95 : decode cX9_says 95 = .ok (.invokevirtual 85, 3) := by decide +kernel
theorem dX9_says_98 : decode cX9_says 98 = .ok (.aload_n 0, 1) := by decide +kernel
theorem dX9_says_99 : decode cX9_says 99 = .ok (.aload 5, 2) := by decide +kernel
theorem dX9_says_101 : decode cX9_says 101 = .ok (.getfield 208, 3) := by decide +kernel
theorem dX9_says_104 : decode cX9_says 104 = .ok (.invokevirtual 96, 3) := by decide +kernel
theorem dX9_says_107 : decode cX9_says 107 = .ok (.ireturn, 1) := by decide +kernel
theorem dX9_corrects_0 : decode cX9_corrects 0 = .ok (.aload_n 0, 1) := by decide +kernel
theorem dX9_corrects_1 : decode cX9_corrects 1 = .ok (.getfield 35, 3) := by decide +kernel
theorem dX9_corrects_4 : decode cX9_corrects 4 = .ok (.iload_n 1, 1) := by decide +kernel
theorem dX9_corrects_5 : decode cX9_corrects 5 = .ok (.invokevirtual 183, 3) := by decide +kernel
theorem dX9_corrects_8 : decode cX9_corrects 8 = .ok (.astore_n 3, 1) := by decide +kernel
theorem dX9_corrects_9 : decode cX9_corrects 9 = .ok (.aload_n 3, 1) := by decide +kernel
theorem dX9_corrects_10 : decode cX9_corrects 10 = .ok (.ifnull 14, 3) := by decide +kernel
theorem dX9_corrects_13 : decode cX9_corrects 13 = .ok (.aload_n 0, 1) := by decide +kernel
theorem dX9_corrects_14 : decode cX9_corrects 14 = .ok (.getfield 35, 3) := by decide +kernel
theorem dX9_corrects_17 : decode cX9_corrects 17 = .ok (.iload_n 2, 1) := by decide +kernel
theorem dX9_corrects_18 : decode cX9_corrects 18 = .ok (.invokevirtual 183, 3) := by decide +kernel
theorem dX9_corrects_21 : decode cX9_corrects 21 = .ok (.ifnonnull 9, 3) := by decide +kernel
theorem dX9_corrects_24 : decode cX9_corrects 24 = .ok (.aload_n 0, 1) := by decide +kernel
theorem dX9_corrects_25 : decode cX9_corrects 25 = .ok (.iconst 1, 1) := by decide +kernel
theorem dX9_corrects_26 : decode cX9_corrects 26 = .ok (.invokevirtual 68, 3) := by decide +kernel
theorem dX9_corrects_29 : decode cX9_corrects 29 = .ok (.ireturn, 1) := by decide +kernel
theorem dX9_corrects_30 : decode cX9_corrects 30 = .ok (.aload_n 3, 1) := by decide +kernel
theorem dX9_corrects_31 : decode cX9_corrects 31 = .ok (.invokevirtual 192, 3) := by decide +kernel
theorem dX9_corrects_34 : decode cX9_corrects 34 = .ok (.ifCond .ne 10, 3) := by decide +kernel
theorem dX9_corrects_37 : decode cX9_corrects 37 = .ok (.aload_n 0, 1) := by decide +kernel
theorem dX9_corrects_38 : decode cX9_corrects 38 = .ok (.bipush 6, 2) := by decide +kernel
theorem dX9_corrects_40 : decode cX9_corrects 40 = .ok (.invokevirtual 68, 3) := by decide +kernel
theorem dX9_corrects_43 : decode cX9_corrects 43 = .ok (.ireturn, 1) := by decide +kernel
theorem dX9_corrects_44 : decode cX9_corrects 44 = .ok (.iload_n 2, 1) := by decide +kernel
theorem dX9_corrects_45 : decode cX9_corrects 45 = .ok (.iload_n 1, 1) := by decide +kernel
theorem dX9_corrects_46 : decode cX9_corrects 46 = .ok (.if_icmp .lt 9, 3) := by decide +kernel
theorem dX9_corrects_49 : decode cX9_corrects 49 = .ok (.aload_n 0, 1) := by decide +kernel
theorem dX9_corrects_50 : decode cX9_corrects 50 = .ok (.iconst 2, 1) := by decide +kernel
theorem dX9_corrects_51 : decode cX9_corrects 51 = .ok (.invokevirtual 68, 3) := by decide +kernel
theorem dX9_corrects_54 : decode cX9_corrects 54 = .ok (.ireturn, 1) := by decide +kernel
theorem dX9_corrects_55 : decode cX9_corrects 55 = .ok (.aload_n 0, 1) := by decide +kernel
theorem dX9_corrects_56 : decode cX9_corrects 56 = .ok (.getfield 60, 3) := by decide +kernel
theorem dX9_corrects_59 : decode cX9_corrects 59 = .ok (.iconst 4, 1) := by decide +kernel
theorem dX9_corrects_60 : decode cX9_corrects 60 = .ok (.iload_n 1, 1) := by decide +kernel
theorem dX9_corrects_61 : decode cX9_corrects 61 = .ok (.aload_n 3, 1) := by decide +kernel
theorem dX9_corrects_62 : decode cX9_corrects 62 = .ok (.getfield 211, 3) := by decide +kernel
theorem dX9_corrects_65 : decode cX9_corrects 65 = .ok (.i2l, 1) := by decide +kernel
theorem dX9_corrects_66 : decode cX9_corrects 66 = .ok (.lconst 0, 1) := by decide +kernel
theorem dX9_corrects_67 : decode cX9_corrects 67 = .ok (.invokevirtual 85, 3) := by decide +kernel
theorem dX9_corrects_70 : decode cX9_corrects 70 = .ok (.aload_n 3, 1) := by decide +kernel
theorem dX9_corrects_71 : decode cX9_corrects 71 = .ok (.iload_n 2, 1) := by decide +kernel
theorem dX9_corrects_72 : decode cX9_corrects 72 = .ok (.putfield 211, 3) := by decide +kernel
theorem dX9_corrects_75 : decode cX9_corrects 75 = .ok (.aload_n 0, 1) := by decide +kernel
theorem dX9_corrects_76 : decode cX9_corrects 76 = .ok (.invokevirtual 74, 3) := by decide +kernel
theorem dX9_corrects_79 : decode cX9_corrects 79 = .ok (.ireturn, 1) := by decide +kernel
theorem dX9_renames_0 : decode cX9_renames 0 = .ok (.aload_n 0, 1) := by decide +kernel
theorem dX9_renames_1 : decode cX9_renames 1 = .ok (.getfield 35, 3) := by decide +kernel
theorem dX9_renames_4 : decode cX9_renames 4 = .ok (.iload_n 1, 1) := by decide +kernel
theorem dX9_renames_5 : decode cX9_renames 5 = .ok (.invokevirtual 183, 3) := by decide +kernel
theorem dX9_renames_8 : decode cX9_renames 8 = .ok (.astore 6, 2) := by decide +kernel
theorem dX9_renames_10 : decode cX9_renames 10 = .ok (.aload 6, 2) := by decide +kernel
theorem dX9_renames_12 : decode cX9_renames 12 = .ok (.ifnonnull 9, 3) := by decide +kernel
theorem dX9_renames_15 : decode cX9_renames 15 = .ok (.aload_n 0, 1) := by decide +kernel
theorem dX9_renames_16 : decode cX9_renames 16 = .ok (.iconst 1, 1) := by decide +kernel
theorem dX9_renames_17 : decode cX9_renames 17 = .ok (.invokevirtual 68, 3) := by decide +kernel
theorem dX9_renames_20 : decode cX9_renames 20 = .ok (.ireturn, 1) := by decide +kernel
theorem dX9_renames_21 : decode cX9_renames 21 = .ok (.aload 6, 2) := by decide +kernel
theorem dX9_renames_23 : decode cX9_renames 23 = .ok (.invokevirtual 192, 3) := by decide +kernel
theorem dX9_renames_26 : decode cX9_renames 26 = .ok (.ifCond .ne 10, 3) := by decide +kernel
theorem dX9_renames_29 : decode cX9_renames 29 = .ok (.aload_n 0, 1) := by decide +kernel
theorem dX9_renames_30 : decode cX9_renames 30 = .ok (.bipush 6, 2) := by decide +kernel
theorem dX9_renames_32 : decode cX9_renames 32 = .ok (.invokevirtual 68, 3) := by decide +kernel
theorem dX9_renames_35 : decode cX9_renames 35 = .ok (.ireturn, 1) := by decide +kernel
theorem dX9_renames_36 : decode cX9_renames 36 = .ok (.lload_n 2, 1) := by decide +kernel
theorem dX9_renames_37 : decode cX9_renames 37 = .ok (.invokestatic 228, 3) := by decide +kernel
theorem dX9_renames_40 : decode cX9_renames 40 = .ok (.ifCond .eq 18, 3) := by decide +kernel
theorem dX9_renames_43 : decode cX9_renames 43 = .ok (.lload 4, 2) := by decide +kernel
theorem dX9_renames_45 : decode cX9_renames 45 = .ok (.invokestatic 228, 3) := by decide +kernel
theorem dX9_renames_48 : decode cX9_renames 48 = .ok (.ifCond .eq 10, 3) := by decide +kernel
theorem dX9_renames_51 : decode cX9_renames 51 = .ok (.lload_n 2, 1) := by decide +kernel
theorem dX9_renames_52 : decode cX9_renames 52 = .ok (.lload 4, 2) := by decide +kernel
theorem dX9_renames_54 : decode cX9_renames 54 = .ok (.lcmp, 1) := by decide +kernel
theorem dX9_renames_55 : decode cX9_renames 55 = .ok (.ifCond .ne 9, 3) := by decide +kernel
theorem dX9_renames_58 : decode cX9_renames 58 = .ok (.aload_n 0, 1) := by decide +kernel
theorem dX9_renames_59 : decode cX9_renames 59 = .ok (.iconst 2, 1) := by decide +kernel
theorem dX9_renames_60 : decode cX9_renames 60 = .ok (.invokevirtual 68, 3) := by decide +kernel
theorem dX9_renames_63 : decode cX9_renames 63 = .ok (.ireturn, 1) := by decide +kernel
theorem dX9_renames_64 : decode cX9_renames 64 = .ok (.aload_n 0, 1) := by decide +kernel
theorem dX9_renames_65 : decode cX9_renames 65 = .ok (.getfield 60, 3) := by decide +kernel
theorem dX9_renames_68 : decode cX9_renames 68 = .ok (.iconst 5, 1) := by decide +kernel
theorem dX9_renames_69 : decode cX9_renames 69 = .ok (.iload_n 1, 1) := by decide +kernel
theorem dX9_renames_70 : decode cX9_renames 70 = .ok (.aload 6, 2) := by decide +kernel
theorem dX9_renames_72 : decode cX9_renames 72 = .ok (.getfield 232, 3) := by decide +kernel
theorem dX9_renames_75 : decode cX9_renames 75 = .ok (.aload 6, 2) := by decide +kernel
theorem dX9_renames_77 : decode cX9_renames 77 = .ok (.getfield 214, 3) := by decide +kernel
theorem dX9_renames_80 : decode cX9_renames 80 = .ok (.invokevirtual 85, 3) := by decide +kernel
theorem dX9_renames_83 : decode cX9_renames 83 = .ok (.aload 6, 2) := by decide +kernel
theorem dX9_renames_85 : decode cX9_renames 85 = .ok (.lload_n 2, 1) := by decide +kernel
theorem dX9_renames_86 : decode cX9_renames 86 = .ok (.putfield 232, 3) := by decide +kernel
theorem dX9_renames_89 : decode cX9_renames 89 = .ok (.aload 6, 2) := by decide +kernel
theorem dX9_renames_91 : decode cX9_renames 91 = .ok (.lload 4, 2) := by decide +kernel
theorem dX9_renames_93 : decode cX9_renames 93 = .ok (.putfield 214, 3) := by decide +kernel
theorem dX9_renames_96 : decode cX9_renames 96 = .ok (.aload_n 0, 1) := by decide +kernel
theorem dX9_renames_97 : decode cX9_renames 97 = .ok (.invokevirtual 74, 3) := by decide +kernel
theorem dX9_renames_100 : decode cX9_renames 100 = .ok (.ireturn, 1) := by decide +kernel
theorem dX9_strikes_0 : decode cX9_strikes 0 = .ok (.aload_n 0, 1) := by decide +kernel
theorem dX9_strikes_1 : decode cX9_strikes 1 = .ok (.getfield 35, 3) := by decide +kernel
theorem dX9_strikes_4 : decode cX9_strikes 4 = .ok (.iload_n 1, 1) := by decide +kernel
theorem dX9_strikes_5 : decode cX9_strikes 5 = .ok (.invokevirtual 183, 3) := by decide +kernel
theorem dX9_strikes_8 : decode cX9_strikes 8 = .ok (.astore 4, 2) := by decide +kernel
theorem dX9_strikes_10 : decode cX9_strikes 10 = .ok (.aload 4, 2) := by decide +kernel
theorem dX9_strikes_12 : decode cX9_strikes 12 = .ok (.ifnonnull 9, 3) := by decide +kernel
theorem dX9_strikes_15 : decode cX9_strikes 15 = .ok (.aload_n 0, 1) := by decide +kernel
theorem dX9_strikes_16 : decode cX9_strikes 16 = .ok (.iconst 1, 1) := by decide +kernel
theorem dX9_strikes_17 : decode cX9_strikes 17 = .ok (.invokevirtual 68, 3) := by decide +kernel
theorem dX9_strikes_20 : decode cX9_strikes 20 = .ok (.ireturn, 1) := by decide +kernel
theorem dX9_strikes_21 : decode cX9_strikes 21 = .ok (.aload 4, 2) := by decide +kernel
theorem dX9_strikes_23 : decode cX9_strikes 23 = .ok (.invokevirtual 192, 3) := by decide +kernel
theorem dX9_strikes_26 : decode cX9_strikes 26 = .ok (.ifCond .ne 10, 3) := by decide +kernel
theorem dX9_strikes_29 : decode cX9_strikes 29 = .ok (.aload_n 0, 1) := by decide +kernel
theorem dX9_strikes_30 : decode cX9_strikes 30 = .ok (.bipush 6, 2) := by decide +kernel
theorem dX9_strikes_32 : decode cX9_strikes 32 = .ok (.invokevirtual 68, 3) := by decide +kernel
theorem dX9_strikes_35 : decode cX9_strikes 35 = .ok (.ireturn, 1) := by decide +kernel
theorem dX9_strikes_36 : decode cX9_strikes 36 = .ok (.lload_n 2, 1) := by decide +kernel
theorem dX9_strikes_37 : decode cX9_strikes 37 = .ok (.invokestatic 228, 3) := by decide +kernel
theorem dX9_strikes_40 : decode cX9_strikes 40 = .ok (.ifCond .ne 9, 3) := by decide +kernel
theorem dX9_strikes_43 : decode cX9_strikes 43 = .ok (.aload_n 0, 1) := by decide +kernel
theorem dX9_strikes_44 : decode cX9_strikes 44 = .ok (.iconst 2, 1) := by decide +kernel
theorem dX9_strikes_45 : decode cX9_strikes 45 = .ok (.invokevirtual 68, 3) := by decide +kernel
theorem dX9_strikes_48 : decode cX9_strikes 48 = .ok (.ireturn, 1) := by decide +kernel
theorem dX9_strikes_49 : decode cX9_strikes 49 = .ok (.aload_n 0, 1) := by decide +kernel
theorem dX9_strikes_50 : decode cX9_strikes 50 = .ok (.getfield 60, 3) := by decide +kernel
theorem dX9_strikes_53 : decode cX9_strikes 53 = .ok (.bipush 6, 2) := by decide +kernel
theorem dX9_strikes_55 : decode cX9_strikes 55 = .ok (.iload_n 1, 1) := by decide +kernel
theorem dX9_strikes_56 : decode cX9_strikes 56 = .ok (.aload 4, 2) := by decide +kernel
theorem dX9_strikes_58 : decode cX9_strikes 58 = .ok (.getfield 218, 3) := by decide +kernel
theorem dX9_strikes_61 : decode cX9_strikes 61 = .ok (.lconst 0, 1) := by decide +kernel
theorem dX9_strikes_62 : decode cX9_strikes 62 = .ok (.invokevirtual 85, 3) := by decide +kernel
theorem dX9_strikes_65 : decode cX9_strikes 65 = .ok (.aload 4, 2) := by decide +kernel
theorem dX9_strikes_67 : decode cX9_strikes 67 = .ok (.lload_n 2, 1) := by decide +kernel
theorem dX9_strikes_68 : decode cX9_strikes 68 = .ok (.putfield 218, 3) := by decide +kernel
theorem dX9_strikes_71 : decode cX9_strikes 71 = .ok (.aload_n 0, 1) := by decide +kernel
theorem dX9_strikes_72 : decode cX9_strikes 72 = .ok (.invokevirtual 74, 3) := by decide +kernel
theorem dX9_strikes_75 : decode cX9_strikes 75 = .ok (.ireturn, 1) := by decide +kernel
theorem dX9_issue_0 : decode cX9_issue 0 = .ok (.iload_n 1, 1) := by decide +kernel
theorem dX9_issue_1 : decode cX9_issue 1 = .ok (.invokestatic 64, 3) := by decide +kernel
theorem dX9_issue_4 : decode cX9_issue 4 = .ok (.ifCond .eq 23, 3) := by decide +kernel
theorem dX9_issue_7 : decode cX9_issue 7 = .ok (.iload_n 1, 1) := by decide +kernel
theorem dX9_issue_8 : decode cX9_issue 8 = .ok (.aload_n 0, 1) := by decide +kernel
theorem dX9_issue_9 : decode cX9_issue 9 = .ok (.getfield 46, 3) := by decide +kernel
theorem dX9_issue_12 : decode cX9_issue 12 = .ok (.if_icmp .le 15, 3) := by decide +kernel
theorem dX9_issue_15 : decode cX9_issue 15 = .ok (.iload_n 2, 1) := by decide +kernel
theorem dX9_issue_16 : decode cX9_issue 16 = .ok (.iload_n 1, 1) := by decide +kernel
theorem dX9_issue_17 : decode cX9_issue 17 = .ok (.if_icmp .le 10, 3) := by decide +kernel
theorem dX9_issue_20 : decode cX9_issue 20 = .ok (.iload_n 2, 1) := by decide +kernel
theorem dX9_issue_21 : decode cX9_issue 21 = .ok (.sipush 10000, 3) := by decide +kernel
theorem dX9_issue_24 : decode cX9_issue 24 = .ok (.if_icmp .le 9, 3) := by decide +kernel
theorem dX9_issue_27 : decode cX9_issue 27 = .ok (.aload_n 0, 1) := by decide +kernel
theorem dX9_issue_28 : decode cX9_issue 28 = .ok (.iconst 2, 1) := by decide +kernel
theorem dX9_issue_29 : decode cX9_issue 29 = .ok (.invokevirtual 89, 3) := by decide +kernel
theorem dX9_issue_32 : decode cX9_issue 32 = .ok (.ireturn, 1) := by decide +kernel
theorem dX9_issue_33 : decode cX9_issue 33 = .ok (.iload_n 3, 1) := by decide +kernel
theorem dX9_issue_34 : decode cX9_issue 34 = .ok (.iconst 1, 1) := by decide +kernel
theorem dX9_issue_35 : decode cX9_issue 35 = .ok (.if_icmp .lt 23, 3) := by decide +kernel
theorem dX9_issue_38 : decode cX9_issue 38 = .ok (.iload_n 3, 1) := by decide +kernel
theorem dX9_issue_39 : decode cX9_issue 39 = .ok (.bipush 8, 2) := by decide +kernel
theorem dX9_issue_41 : decode cX9_issue 41 = .ok (.if_icmp .gt 17, 3) := by decide +kernel
theorem dX9_issue_44 : decode cX9_issue 44 = .ok (.iload 4, 2) := by decide +kernel
theorem dX9_issue_46 : decode cX9_issue 46 = .ok (.bipush 10, 2) := by decide +kernel
theorem dX9_issue_48 : decode cX9_issue 48 = .ok (.if_icmp .lt 10, 3) := by decide +kernel
theorem dX9_issue_51 : decode cX9_issue 51 = .ok (.iload 4, 2) := by decide +kernel
theorem dX9_issue_53 : decode cX9_issue 53 = .ok (.bipush 60, 2) := by decide +kernel
theorem dX9_issue_55 : decode cX9_issue 55 = .ok (.if_icmp .le 9, 3) := by decide +kernel
theorem dX9_issue_58 : decode cX9_issue 58 = .ok (.aload_n 0, 1) := by decide +kernel
theorem dX9_issue_59 : decode cX9_issue 59 = .ok (.iconst 2, 1) := by decide +kernel
theorem dX9_issue_60 : decode cX9_issue 60 = .ok (.invokevirtual 89, 3) := by decide +kernel
theorem dX9_issue_63 : decode cX9_issue 63 = .ok (.ireturn, 1) := by decide +kernel
theorem dX9_issue_64 : decode cX9_issue 64 = .ok (.aload_n 0, 1) := by decide +kernel
theorem dX9_issue_65 : decode cX9_issue 65 = .ok (.getfield 235, 3) := by decide +kernel
theorem dX9_issue_68 : decode cX9_issue 68 = .ok (.bipush 40, 2) := by decide +kernel
theorem dX9_issue_70 : decode cX9_issue 70 = .ok (.if_icmp .lt 9, 3) := by decide +kernel
theorem dX9_issue_73 : decode cX9_issue 73 = .ok (.aload_n 0, 1) := by decide +kernel
theorem dX9_issue_74 : decode cX9_issue 74 = .ok (.iconst 3, 1) := by decide +kernel
theorem dX9_issue_75 : decode cX9_issue 75 = .ok (.invokevirtual 89, 3) := by decide +kernel
theorem dX9_issue_78 : decode cX9_issue 78 = .ok (.ireturn, 1) := by decide +kernel
theorem dX9_issue_79 : decode cX9_issue 79 = .ok (.aload_n 0, 1) := by decide +kernel
theorem dX9_issue_80 : decode cX9_issue 80 = .ok (.getfield 53, 3) := by decide +kernel
theorem dX9_issue_83 : decode cX9_issue 83 = .ok (.iload_n 3, 1) := by decide +kernel
theorem dX9_issue_84 : decode cX9_issue 84 = .ok (.iload 4, 2) := by decide +kernel
theorem dX9_issue_86 : decode cX9_issue 86 = .ok (.invokevirtual 238, 3) := by decide +kernel
theorem dX9_issue_89 : decode cX9_issue 89 = .ok (.aload_n 0, 1) := by decide +kernel
theorem dX9_issue_90 : decode cX9_issue 90 = .ok (.getfield 35, 3) := by decide +kernel
theorem dX9_issue_93 : decode cX9_issue 93 = .ok (.aload_n 0, 1) := by decide +kernel
theorem dX9_issue_94 : decode cX9_issue 94 = .ok (.getfield 53, 3) := by decide +kernel
theorem dX9_issue_97 : decode cX9_issue 97 = .ok (.iload_n 2, 1) := by decide +kernel
theorem dX9_issue_98 : decode cX9_issue 98 = .ok (.invokevirtual 241, 3) := by decide +kernel
theorem dX9_issue_101 : decode cX9_issue 101 = .ok (.ifCond .ne 9, 3) := by decide +kernel
theorem dX9_issue_104 : decode cX9_issue 104 = .ok (.aload_n 0, 1) := by decide +kernel
theorem dX9_issue_105 : decode cX9_issue 105 = .ok (.iconst 5, 1) := by decide +kernel
theorem dX9_issue_106 : decode cX9_issue 106 = .ok (.invokevirtual 89, 3) := by decide +kernel
theorem dX9_issue_109 : decode cX9_issue 109 = .ok (.ireturn, 1) := by decide +kernel
theorem dX9_issue_110 : decode cX9_issue 110 = .ok (.aload_n 0, 1) := by decide +kernel
theorem dX9_issue_111 : decode cX9_issue 111 = .ok (.getfield 35, 3) := by decide +kernel
theorem dX9_issue_114 : decode cX9_issue 114 = .ok (.aload_n 0, 1) := by decide +kernel
theorem dX9_issue_115 : decode cX9_issue 115 = .ok (.getfield 53, 3) := by decide +kernel
theorem dX9_issue_118 : decode cX9_issue 118 = .ok (.iload_n 2, 1) := by decide +kernel
theorem dX9_issue_119 : decode cX9_issue 119 = .ok (.invokevirtual 245, 3) := by decide +kernel
theorem dX9_issue_122 : decode cX9_issue 122 = .ok (.aload_n 0, 1) := by decide +kernel
theorem dX9_issue_123 : decode cX9_issue 123 = .ok (.iload_n 1, 1) := by decide +kernel
theorem dX9_issue_124 : decode cX9_issue 124 = .ok (.invokevirtual 249, 3) := by decide +kernel
theorem dX9_issue_127 : decode cX9_issue 127 = .ok (.aload_n 0, 1) := by decide +kernel
theorem dX9_issue_128 : decode cX9_issue 128 = .ok (.aload_n 0, 1) := by decide +kernel
theorem dX9_issue_129 : decode cX9_issue 129 = .ok (.getfield 235, 3) := by decide +kernel
theorem dX9_issue_132 : decode cX9_issue 132 = .ok (.iconst 1, 1) := by decide +kernel
theorem dX9_issue_133 : decode cX9_issue 133 = .ok (.isub, 1) := by decide +kernel
theorem dX9_issue_134 : decode cX9_issue 134 = .ok (.invokevirtual 96, 3) := by decide +kernel
theorem dX9_issue_137 : decode cX9_issue 137 = .ok (.ireturn, 1) := by decide +kernel
theorem dX9_issued_0 : decode cX9_issued 0 = .ok (.iload_n 1, 1) := by decide +kernel
theorem dX9_issued_1 : decode cX9_issued 1 = .ok (.ifCond .lt 11, 3) := by decide +kernel
theorem dX9_issued_4 : decode cX9_issued 4 = .ok (.iload_n 1, 1) := by decide +kernel
theorem dX9_issued_5 : decode cX9_issued 5 = .ok (.aload_n 0, 1) := by decide +kernel
theorem dX9_issued_6 : decode cX9_issued 6 = .ok (.getfield 235, 3) := by decide +kernel
theorem dX9_issued_9 : decode cX9_issued 9 = .ok (.if_icmp .lt 5, 3) := by decide +kernel
theorem dX9_issued_12 : decode cX9_issued 12 = .ok (.iconst (-1), 1) := by decide +kernel
theorem dX9_issued_13 : decode cX9_issued 13 = .ok (.ireturn, 1) := by decide +kernel
theorem dX9_issued_14 : decode cX9_issued 14 = .ok (.aload_n 0, 1) := by decide +kernel
theorem dX9_issued_15 : decode cX9_issued 15 = .ok (.getfield 41, 3) := by decide +kernel
theorem dX9_issued_18 : decode cX9_issued 18 = .ok (.iload_n 1, 1) := by decide +kernel
theorem dX9_issued_19 : decode cX9_issued 19 = .ok (.aaload, 1) := by decide +kernel
theorem dX9_issued_20 : decode cX9_issued 20 = .ok (.astore_n 3, 1) := by decide +kernel
theorem dX9_issued_21 : decode cX9_issued 21 = .ok (.iload_n 2, 1) := by decide +kernel
theorem dX9_issued_22 : decode cX9_issued 22 = .ok (.tableswitch 59 0 4 #[34, 39, 44, 49, 54], 34) := by decide +kernel
theorem dX9_issued_56 : decode cX9_issued 56 = .ok (.aload_n 3, 1) := by decide +kernel
theorem dX9_issued_57 : decode cX9_issued 57 = .ok (.getfield 252, 3) := by decide +kernel
theorem dX9_issued_60 : decode cX9_issued 60 = .ok (.ireturn, 1) := by decide +kernel
theorem dX9_issued_61 : decode cX9_issued 61 = .ok (.aload_n 3, 1) := by decide +kernel
theorem dX9_issued_62 : decode cX9_issued 62 = .ok (.getfield 255, 3) := by decide +kernel
theorem dX9_issued_65 : decode cX9_issued 65 = .ok (.ireturn, 1) := by decide +kernel
theorem dX9_issued_66 : decode cX9_issued 66 = .ok (.aload_n 3, 1) := by decide +kernel
theorem dX9_issued_67 : decode cX9_issued 67 = .ok (.getfield 256, 3) := by decide +kernel
theorem dX9_issued_70 : decode cX9_issued 70 = .ok (.ireturn, 1) := by decide +kernel
theorem dX9_issued_71 : decode cX9_issued 71 = .ok (.aload_n 3, 1) := by decide +kernel
theorem dX9_issued_72 : decode cX9_issued 72 = .ok (.getfield 259, 3) := by decide +kernel
theorem dX9_issued_75 : decode cX9_issued 75 = .ok (.ireturn, 1) := by decide +kernel
theorem dX9_issued_76 : decode cX9_issued 76 = .ok (.aload_n 3, 1) := by decide +kernel
theorem dX9_issued_77 : decode cX9_issued 77 = .ok (.getfield 262, 3) := by decide +kernel
theorem dX9_issued_80 : decode cX9_issued 80 = .ok (.ireturn, 1) := by decide +kernel
theorem dX9_issued_81 : decode cX9_issued 81 = .ok (.iconst (-1), 1) := by decide +kernel
theorem dX9_issued_82 : decode cX9_issued 82 = .ok (.ireturn, 1) := by decide +kernel
theorem dX9_printed_0 : decode cX9_printed 0 = .ok (.iload_n 1, 1) := by decide +kernel
theorem dX9_printed_1 : decode cX9_printed 1 = .ok (.ifCond .lt 11, 3) := by decide +kernel
theorem dX9_printed_4 : decode cX9_printed 4 = .ok (.iload_n 1, 1) := by decide +kernel
theorem dX9_printed_5 : decode cX9_printed 5 = .ok (.aload_n 0, 1) := by decide +kernel
theorem dX9_printed_6 : decode cX9_printed 6 = .ok (.getfield 235, 3) := by decide +kernel
theorem dX9_printed_9 : decode cX9_printed 9 = .ok (.if_icmp .lt 5, 3) := by decide +kernel
theorem dX9_printed_12 : decode cX9_printed 12 = .ok (.iconst (-1), 1) := by decide +kernel
theorem dX9_printed_13 : decode cX9_printed 13 = .ok (.ireturn, 1) := by decide +kernel
theorem dX9_printed_14 : decode cX9_printed 14 = .ok (.aload_n 0, 1) := by decide +kernel
theorem dX9_printed_15 : decode cX9_printed 15 = .ok (.getfield 41, 3) := by decide +kernel
theorem dX9_printed_18 : decode cX9_printed 18 = .ok (.iload_n 1, 1) := by decide +kernel
theorem dX9_printed_19 : decode cX9_printed 19 = .ok (.aaload, 1) := by decide +kernel
theorem dX9_printed_20 : decode cX9_printed 20 = .ok (.astore_n 3, 1) := by decide +kernel
theorem dX9_printed_21 : decode cX9_printed 21 = .ok (.iload_n 2, 1) := by decide +kernel
theorem dX9_printed_22 : decode cX9_printed 22 = .ok (.ifCond .lt 11, 3) := by decide +kernel
theorem dX9_printed_25 : decode cX9_printed 25 = .ok (.iload_n 2, 1) := by decide +kernel
theorem dX9_printed_26 : decode cX9_printed 26 = .ok (.aload_n 3, 1) := by decide +kernel
theorem dX9_printed_27 : decode cX9_printed 27 = .ok (.getfield 255, 3) := by decide +kernel
theorem dX9_printed_30 : decode cX9_printed 30 = .ok (.if_icmp .lt 7, 3) := by decide +kernel
theorem dX9_printed_33 : decode cX9_printed 33 = .ok (.iconst (-1), 1) := by decide +kernel
theorem dX9_printed_34 : decode cX9_printed 34 = .ok (.goto 9, 3) := by decide +kernel
theorem dX9_printed_37 : decode cX9_printed 37 = .ok (.aload_n 3, 1) := by decide +kernel
theorem dX9_printed_38 : decode cX9_printed 38 = .ok (.getfield 265, 3) := by decide +kernel
theorem dX9_printed_41 : decode cX9_printed 41 = .ok (.iload_n 2, 1) := by decide +kernel
theorem dX9_printed_42 : decode cX9_printed 42 = .ok (.iaload, 1) := by decide +kernel
theorem dX9_printed_43 : decode cX9_printed 43 = .ok (.ireturn, 1) := by decide +kernel
theorem dX9_law_0 : decode cX9_law 0 = .ok (.iload_n 1, 1) := by decide +kernel
theorem dX9_law_1 : decode cX9_law 1 = .ok (.invokestatic 221, 3) := by decide +kernel
theorem dX9_law_4 : decode cX9_law 4 = .ok (.ifCond .eq 17, 3) := by decide +kernel
theorem dX9_law_7 : decode cX9_law 7 = .ok (.iload_n 2, 1) := by decide +kernel
theorem dX9_law_8 : decode cX9_law 8 = .ok (.invokestatic 64, 3) := by decide +kernel
theorem dX9_law_11 : decode cX9_law 11 = .ok (.ifCond .eq 10, 3) := by decide +kernel
theorem dX9_law_14 : decode cX9_law 14 = .ok (.iload_n 3, 1) := by decide +kernel
theorem dX9_law_15 : decode cX9_law 15 = .ok (.invokestatic 64, 3) := by decide +kernel
theorem dX9_law_18 : decode cX9_law 18 = .ok (.ifCond .ne 6, 3) := by decide +kernel
theorem dX9_law_21 : decode cX9_law 21 = .ok (.ldc 224, 2) := by decide +kernel
theorem dX9_law_23 : decode cX9_law 23 = .ok (.ireturn, 1) := by decide +kernel
theorem dX9_law_24 : decode cX9_law 24 = .ok (.aload_n 0, 1) := by decide +kernel
theorem dX9_law_25 : decode cX9_law 25 = .ok (.getfield 35, 3) := by decide +kernel
theorem dX9_law_28 : decode cX9_law 28 = .ok (.iload_n 3, 1) := by decide +kernel
theorem dX9_law_29 : decode cX9_law 29 = .ok (.invokevirtual 269, 3) := by decide +kernel
theorem dX9_law_32 : decode cX9_law 32 = .ok (.aload_n 0, 1) := by decide +kernel
theorem dX9_law_33 : decode cX9_law 33 = .ok (.getfield 35, 3) := by decide +kernel
theorem dX9_law_36 : decode cX9_law 36 = .ok (.aload_n 0, 1) := by decide +kernel
theorem dX9_law_37 : decode cX9_law 37 = .ok (.getfield 35, 3) := by decide +kernel
theorem dX9_law_40 : decode cX9_law 40 = .ok (.iload_n 1, 1) := by decide +kernel
theorem dX9_law_41 : decode cX9_law 41 = .ok (.iload_n 2, 1) := by decide +kernel
theorem dX9_law_42 : decode cX9_law 42 = .ok (.iload_n 3, 1) := by decide +kernel
theorem dX9_law_43 : decode cX9_law 43 = .ok (.invokevirtual 272, 3) := by decide +kernel
theorem dX9_law_46 : decode cX9_law 46 = .ok (.invokevirtual 276, 3) := by decide +kernel
theorem dX9_law_49 : decode cX9_law 49 = .ok (.ireturn, 1) := by decide +kernel
theorem dX9_source_0 : decode cX9_source 0 = .ok (.iload_n 1, 1) := by decide +kernel
theorem dX9_source_1 : decode cX9_source 1 = .ok (.invokestatic 221, 3) := by decide +kernel
theorem dX9_source_4 : decode cX9_source 4 = .ok (.ifCond .eq 17, 3) := by decide +kernel
theorem dX9_source_7 : decode cX9_source 7 = .ok (.iload_n 2, 1) := by decide +kernel
theorem dX9_source_8 : decode cX9_source 8 = .ok (.invokestatic 64, 3) := by decide +kernel
theorem dX9_source_11 : decode cX9_source 11 = .ok (.ifCond .eq 10, 3) := by decide +kernel
theorem dX9_source_14 : decode cX9_source 14 = .ok (.iload_n 3, 1) := by decide +kernel
theorem dX9_source_15 : decode cX9_source 15 = .ok (.invokestatic 64, 3) := by decide +kernel
theorem dX9_source_18 : decode cX9_source 18 = .ok (.ifCond .ne 5, 3) := by decide +kernel
theorem dX9_source_21 : decode cX9_source 21 = .ok (.iconst (-1), 1) := by decide +kernel
theorem dX9_source_22 : decode cX9_source 22 = .ok (.ireturn, 1) := by decide +kernel
theorem dX9_source_23 : decode cX9_source 23 = .ok (.aload_n 0, 1) := by decide +kernel
theorem dX9_source_24 : decode cX9_source 24 = .ok (.getfield 35, 3) := by decide +kernel
theorem dX9_source_27 : decode cX9_source 27 = .ok (.iload_n 3, 1) := by decide +kernel
theorem dX9_source_28 : decode cX9_source 28 = .ok (.invokevirtual 269, 3) := by decide +kernel
theorem dX9_source_31 : decode cX9_source 31 = .ok (.aload_n 0, 1) := by decide +kernel
theorem dX9_source_32 : decode cX9_source 32 = .ok (.getfield 35, 3) := by decide +kernel
theorem dX9_source_35 : decode cX9_source 35 = .ok (.iload_n 1, 1) := by decide +kernel
theorem dX9_source_36 : decode cX9_source 36 = .ok (.iload_n 2, 1) := by decide +kernel
theorem dX9_source_37 : decode cX9_source 37 = .ok (.iload_n 3, 1) := by decide +kernel
theorem dX9_source_38 : decode cX9_source 38 = .ok (.invokevirtual 272, 3) := by decide +kernel
theorem dX9_source_41 : decode cX9_source 41 = .ok (.istore 4, 2) := by decide +kernel
theorem dX9_source_43 : decode cX9_source 43 = .ok (.iload 4, 2) := by decide +kernel
theorem dX9_source_45 : decode cX9_source 45 = .ok (.iconst (-1), 1) := by decide +kernel
theorem dX9_source_46 : decode cX9_source 46 = .ok (.if_icmp .ne 7, 3) := by decide +kernel
theorem dX9_source_49 : decode cX9_source 49 = .ok (.iconst (-1), 1) := by decide +kernel
theorem dX9_source_50 : decode cX9_source 50 = .ok (.goto 7, 3) := by decide +kernel
theorem dX9_source_53 : decode cX9_source 53 = .ok (.iload 4, 2) := by decide +kernel
theorem dX9_source_55 : decode cX9_source 55 = .ok (.iconst 4, 1) := by decide +kernel
theorem dX9_source_56 : decode cX9_source 56 = .ok (.idiv, 1) := by decide +kernel
theorem dX9_source_57 : decode cX9_source 57 = .ok (.ireturn, 1) := by decide +kernel
theorem dX9_isVoid_0 : decode cX9_isVoid 0 = .ok (.aload_n 0, 1) := by decide +kernel
theorem dX9_isVoid_1 : decode cX9_isVoid 1 = .ok (.getfield 35, 3) := by decide +kernel
theorem dX9_isVoid_4 : decode cX9_isVoid 4 = .ok (.iload_n 1, 1) := by decide +kernel
theorem dX9_isVoid_5 : decode cX9_isVoid 5 = .ok (.invokevirtual 183, 3) := by decide +kernel
theorem dX9_isVoid_8 : decode cX9_isVoid 8 = .ok (.astore_n 3, 1) := by decide +kernel
theorem dX9_isVoid_9 : decode cX9_isVoid 9 = .ok (.aload_n 3, 1) := by decide +kernel
theorem dX9_isVoid_10 : decode cX9_isVoid 10 = .ok (.ifnull 18, 3) := by decide +kernel
theorem dX9_isVoid_13 : decode cX9_isVoid 13 = .ok (.iload_n 2, 1) := by decide +kernel
theorem dX9_isVoid_14 : decode cX9_isVoid 14 = .ok (.invokestatic 64, 3) := by decide +kernel
theorem dX9_isVoid_17 : decode cX9_isVoid 17 = .ok (.ifCond .eq 11, 3) := by decide +kernel
theorem dX9_isVoid_20 : decode cX9_isVoid 20 = .ok (.aload_n 3, 1) := by decide +kernel
theorem dX9_isVoid_21 : decode cX9_isVoid 21 = .ok (.iload_n 2, 1) := by decide +kernel
theorem dX9_isVoid_22 : decode cX9_isVoid 22 = .ok (.invokevirtual 279, 3) := by decide +kernel
theorem dX9_isVoid_25 : decode cX9_isVoid 25 = .ok (.ifCond .ne 5, 3) := by decide +kernel
theorem dX9_isVoid_28 : decode cX9_isVoid 28 = .ok (.iconst (-1), 1) := by decide +kernel
theorem dX9_isVoid_29 : decode cX9_isVoid 29 = .ok (.ireturn, 1) := by decide +kernel
theorem dX9_isVoid_30 : decode cX9_isVoid 30 = .ok (.aload_n 0, 1) := by decide +kernel
theorem dX9_isVoid_31 : decode cX9_isVoid 31 = .ok (.getfield 35, 3) := by decide +kernel
theorem dX9_isVoid_34 : decode cX9_isVoid 34 = .ok (.iload_n 2, 1) := by decide +kernel
theorem dX9_isVoid_35 : decode cX9_isVoid 35 = .ok (.invokevirtual 269, 3) := by decide +kernel
theorem dX9_isVoid_38 : decode cX9_isVoid 38 = .ok (.aload_n 3, 1) := by decide +kernel
theorem dX9_isVoid_39 : decode cX9_isVoid 39 = .ok (.getfield 282, 3) := by decide +kernel
theorem dX9_isVoid_42 : decode cX9_isVoid 42 = .ok (.ifCond .eq 7, 3) := by decide +kernel
theorem dX9_isVoid_45 : decode cX9_isVoid 45 = .ok (.iconst 1, 1) := by decide +kernel
theorem dX9_isVoid_46 : decode cX9_isVoid 46 = .ok (.goto 4, 3) := by decide +kernel
theorem dX9_isVoid_49 : decode cX9_isVoid 49 = .ok (.iconst 0, 1) := by decide +kernel
theorem dX9_isVoid_50 : decode cX9_isVoid 50 = .ok (.ireturn, 1) := by decide +kernel
theorem dX9_changes_0 : decode cX9_changes 0 = .ok (.iload_n 1, 1) := by decide +kernel
theorem dX9_changes_1 : decode cX9_changes 1 = .ok (.invokestatic 221, 3) := by decide +kernel
theorem dX9_changes_4 : decode cX9_changes 4 = .ok (.ifCond .eq 10, 3) := by decide +kernel
theorem dX9_changes_7 : decode cX9_changes 7 = .ok (.iload_n 2, 1) := by decide +kernel
theorem dX9_changes_8 : decode cX9_changes 8 = .ok (.invokestatic 64, 3) := by decide +kernel
theorem dX9_changes_11 : decode cX9_changes 11 = .ok (.ifCond .ne 5, 3) := by decide +kernel
theorem dX9_changes_14 : decode cX9_changes 14 = .ok (.iconst (-1), 1) := by decide +kernel
theorem dX9_changes_15 : decode cX9_changes 15 = .ok (.ireturn, 1) := by decide +kernel
theorem dX9_changes_16 : decode cX9_changes 16 = .ok (.aload_n 0, 1) := by decide +kernel
theorem dX9_changes_17 : decode cX9_changes 17 = .ok (.getfield 35, 3) := by decide +kernel
theorem dX9_changes_20 : decode cX9_changes 20 = .ok (.iload_n 2, 1) := by decide +kernel
theorem dX9_changes_21 : decode cX9_changes 21 = .ok (.invokevirtual 269, 3) := by decide +kernel
theorem dX9_changes_24 : decode cX9_changes 24 = .ok (.aload_n 0, 1) := by decide +kernel
theorem dX9_changes_25 : decode cX9_changes 25 = .ok (.getfield 35, 3) := by decide +kernel
theorem dX9_changes_28 : decode cX9_changes 28 = .ok (.iload_n 1, 1) := by decide +kernel
theorem dX9_changes_29 : decode cX9_changes 29 = .ok (.iload_n 2, 1) := by decide +kernel
theorem dX9_changes_30 : decode cX9_changes 30 = .ok (.invokevirtual 285, 3) := by decide +kernel
theorem dX9_changes_33 : decode cX9_changes 33 = .ok (.ireturn, 1) := by decide +kernel
theorem dX9_find_0 : decode cX9_find 0 = .ok (.lload_n 1, 1) := by decide +kernel
theorem dX9_find_1 : decode cX9_find 1 = .ok (.invokestatic 228, 3) := by decide +kernel
theorem dX9_find_4 : decode cX9_find 4 = .ok (.ifCond .eq 10, 3) := by decide +kernel
theorem dX9_find_7 : decode cX9_find 7 = .ok (.iload_n 3, 1) := by decide +kernel
theorem dX9_find_8 : decode cX9_find 8 = .ok (.invokestatic 64, 3) := by decide +kernel
theorem dX9_find_11 : decode cX9_find 11 = .ok (.ifCond .ne 5, 3) := by decide +kernel
theorem dX9_find_14 : decode cX9_find 14 = .ok (.iconst (-1), 1) := by decide +kernel
theorem dX9_find_15 : decode cX9_find 15 = .ok (.ireturn, 1) := by decide +kernel
theorem dX9_find_16 : decode cX9_find 16 = .ok (.aload_n 0, 1) := by decide +kernel
theorem dX9_find_17 : decode cX9_find 17 = .ok (.getfield 35, 3) := by decide +kernel
theorem dX9_find_20 : decode cX9_find 20 = .ok (.lload_n 1, 1) := by decide +kernel
theorem dX9_find_21 : decode cX9_find 21 = .ok (.iload_n 3, 1) := by decide +kernel
theorem dX9_find_22 : decode cX9_find 22 = .ok (.invokevirtual 289, 3) := by decide +kernel
theorem dX9_find_25 : decode cX9_find 25 = .ok (.aload_n 0, 1) := by decide +kernel
theorem dX9_find_26 : decode cX9_find 26 = .ok (.getfield 35, 3) := by decide +kernel
theorem dX9_find_29 : decode cX9_find 29 = .ok (.aload_n 0, 1) := by decide +kernel
theorem dX9_find_30 : decode cX9_find 30 = .ok (.getfield 27, 3) := by decide +kernel
theorem dX9_find_33 : decode cX9_find 33 = .ok (.iload_n 3, 1) := by decide +kernel
theorem dX9_find_34 : decode cX9_find 34 = .ok (.invokevirtual 293, 3) := by decide +kernel
theorem dX9_find_37 : decode cX9_find 37 = .ok (.aload_n 0, 1) := by decide +kernel
theorem dX9_find_38 : decode cX9_find 38 = .ok (.getfield 35, 3) := by decide +kernel
theorem dX9_find_41 : decode cX9_find 41 = .ok (.getfield 297, 3) := by decide +kernel
theorem dX9_find_44 : decode cX9_find 44 = .ok (.ireturn, 1) := by decide +kernel
theorem dX9_found_0 : decode cX9_found 0 = .ok (.iload_n 1, 1) := by decide +kernel
theorem dX9_found_1 : decode cX9_found 1 = .ok (.ifCond .lt 14, 3) := by decide +kernel
theorem dX9_found_4 : decode cX9_found 4 = .ok (.iload_n 1, 1) := by decide +kernel
theorem dX9_found_5 : decode cX9_found 5 = .ok (.aload_n 0, 1) := by decide +kernel
theorem dX9_found_6 : decode cX9_found 6 = .ok (.getfield 35, 3) := by decide +kernel
theorem dX9_found_9 : decode cX9_found 9 = .ok (.getfield 297, 3) := by decide +kernel
theorem dX9_found_12 : decode cX9_found 12 = .ok (.if_icmp .lt 7, 3) := by decide +kernel
theorem dX9_found_15 : decode cX9_found 15 = .ok (.iconst (-1), 1) := by decide +kernel
theorem dX9_found_16 : decode cX9_found 16 = .ok (.goto 12, 3) := by decide +kernel
theorem dX9_found_19 : decode cX9_found 19 = .ok (.aload_n 0, 1) := by decide +kernel
theorem dX9_found_20 : decode cX9_found 20 = .ok (.getfield 35, 3) := by decide +kernel
theorem dX9_found_23 : decode cX9_found 23 = .ok (.getfield 300, 3) := by decide +kernel
theorem dX9_found_26 : decode cX9_found 26 = .ok (.iload_n 1, 1) := by decide +kernel
theorem dX9_found_27 : decode cX9_found 27 = .ok (.iaload, 1) := by decide +kernel
theorem dX9_found_28 : decode cX9_found 28 = .ok (.ireturn, 1) := by decide +kernel
theorem dX9_struck_0 : decode cX9_struck 0 = .ok (.lload_n 1, 1) := by decide +kernel
theorem dX9_struck_1 : decode cX9_struck 1 = .ok (.invokestatic 228, 3) := by decide +kernel
theorem dX9_struck_4 : decode cX9_struck 4 = .ok (.ifCond .eq 10, 3) := by decide +kernel
theorem dX9_struck_7 : decode cX9_struck 7 = .ok (.iload_n 3, 1) := by decide +kernel
theorem dX9_struck_8 : decode cX9_struck 8 = .ok (.invokestatic 64, 3) := by decide +kernel
theorem dX9_struck_11 : decode cX9_struck 11 = .ok (.ifCond .ne 5, 3) := by decide +kernel
theorem dX9_struck_14 : decode cX9_struck 14 = .ok (.iconst (-1), 1) := by decide +kernel
theorem dX9_struck_15 : decode cX9_struck 15 = .ok (.ireturn, 1) := by decide +kernel
theorem dX9_struck_16 : decode cX9_struck 16 = .ok (.aload_n 0, 1) := by decide +kernel
theorem dX9_struck_17 : decode cX9_struck 17 = .ok (.getfield 35, 3) := by decide +kernel
theorem dX9_struck_20 : decode cX9_struck 20 = .ok (.lload_n 1, 1) := by decide +kernel
theorem dX9_struck_21 : decode cX9_struck 21 = .ok (.iload_n 3, 1) := by decide +kernel
theorem dX9_struck_22 : decode cX9_struck 22 = .ok (.invokevirtual 303, 3) := by decide +kernel
theorem dX9_struck_25 : decode cX9_struck 25 = .ok (.ifCond .eq 7, 3) := by decide +kernel
theorem dX9_struck_28 : decode cX9_struck 28 = .ok (.iconst 1, 1) := by decide +kernel
theorem dX9_struck_29 : decode cX9_struck 29 = .ok (.goto 4, 3) := by decide +kernel
theorem dX9_struck_32 : decode cX9_struck 32 = .ok (.iconst 0, 1) := by decide +kernel
theorem dX9_struck_33 : decode cX9_struck 33 = .ok (.ireturn, 1) := by decide +kernel
theorem dX9_undo_0 : decode cX9_undo 0 = .ok (.aload_n 0, 1) := by decide +kernel
theorem dX9_undo_1 : decode cX9_undo 1 = .ok (.getfield 60, 3) := by decide +kernel
theorem dX9_undo_4 : decode cX9_undo 4 = .ok (.getfield 307, 3) := by decide +kernel
theorem dX9_undo_7 : decode cX9_undo 7 = .ok (.ifCond .ne 5, 3) := by decide +kernel
theorem dX9_undo_10 : decode cX9_undo 10 = .ok (.iconst 0, 1) := by decide +kernel
theorem dX9_undo_11 : decode cX9_undo 11 = .ok (.ireturn, 1) := by decide +kernel
theorem dX9_undo_12 : decode cX9_undo 12 = .ok (.aload_n 0, 1) := by decide +kernel
theorem dX9_undo_13 : decode cX9_undo 13 = .ok (.getfield 60, 3) := by decide +kernel
theorem dX9_undo_16 : decode cX9_undo 16 = .ok (.invokevirtual 308, 3) := by decide +kernel
theorem dX9_undo_19 : decode cX9_undo 19 = .ok (.aload_n 0, 1) := by decide +kernel
theorem dX9_undo_20 : decode cX9_undo 20 = .ok (.invokevirtual 311, 3) := by decide +kernel
theorem dX9_undo_23 : decode cX9_undo 23 = .ok (.iconst 1, 1) := by decide +kernel
theorem dX9_undo_24 : decode cX9_undo 24 = .ok (.ireturn, 1) := by decide +kernel
theorem dX9_count_0 : decode cX9_count 0 = .ok (.iload_n 1, 1) := by decide +kernel
theorem dX9_count_1 : decode cX9_count 1 = .ok (.tableswitch 93 0 6 #[43, 51, 56, 64, 69, 77, 85], 43) := by decide +kernel
theorem dX9_count_44 : decode cX9_count 44 = .ok (.aload_n 0, 1) := by decide +kernel
theorem dX9_count_45 : decode cX9_count 45 = .ok (.getfield 12, 3) := by decide +kernel
theorem dX9_count_48 : decode cX9_count 48 = .ok (.getfield 78, 3) := by decide +kernel
theorem dX9_count_51 : decode cX9_count 51 = .ok (.ireturn, 1) := by decide +kernel
theorem dX9_count_52 : decode cX9_count 52 = .ok (.aload_n 0, 1) := by decide +kernel
theorem dX9_count_53 : decode cX9_count 53 = .ok (.getfield 116, 3) := by decide +kernel
theorem dX9_count_56 : decode cX9_count 56 = .ok (.ireturn, 1) := by decide +kernel
theorem dX9_count_57 : decode cX9_count 57 = .ok (.aload_n 0, 1) := by decide +kernel
theorem dX9_count_58 : decode cX9_count 58 = .ok (.getfield 35, 3) := by decide +kernel
theorem dX9_count_61 : decode cX9_count 61 = .ok (.getfield 145, 3) := by decide +kernel
theorem dX9_count_64 : decode cX9_count 64 = .ok (.ireturn, 1) := by decide +kernel
theorem dX9_count_65 : decode cX9_count 65 = .ok (.aload_n 0, 1) := by decide +kernel
theorem dX9_count_66 : decode cX9_count 66 = .ok (.getfield 235, 3) := by decide +kernel
theorem dX9_count_69 : decode cX9_count 69 = .ok (.ireturn, 1) := by decide +kernel
theorem dX9_count_70 : decode cX9_count 70 = .ok (.aload_n 0, 1) := by decide +kernel
theorem dX9_count_71 : decode cX9_count 71 = .ok (.getfield 35, 3) := by decide +kernel
theorem dX9_count_74 : decode cX9_count 74 = .ok (.invokevirtual 314, 3) := by decide +kernel
theorem dX9_count_77 : decode cX9_count 77 = .ok (.ireturn, 1) := by decide +kernel
theorem dX9_count_78 : decode cX9_count 78 = .ok (.aload_n 0, 1) := by decide +kernel
theorem dX9_count_79 : decode cX9_count 79 = .ok (.getfield 60, 3) := by decide +kernel
theorem dX9_count_82 : decode cX9_count 82 = .ok (.getfield 307, 3) := by decide +kernel
theorem dX9_count_85 : decode cX9_count 85 = .ok (.ireturn, 1) := by decide +kernel
theorem dX9_count_86 : decode cX9_count 86 = .ok (.aload_n 0, 1) := by decide +kernel
theorem dX9_count_87 : decode cX9_count 87 = .ok (.getfield 21, 3) := by decide +kernel
theorem dX9_count_90 : decode cX9_count 90 = .ok (.getfield 103, 3) := by decide +kernel
theorem dX9_count_93 : decode cX9_count 93 = .ok (.ireturn, 1) := by decide +kernel
theorem dX9_count_94 : decode cX9_count 94 = .ok (.iconst (-1), 1) := by decide +kernel
theorem dX9_count_95 : decode cX9_count 95 = .ok (.ireturn, 1) := by decide +kernel
theorem dX9_trouble_0 : decode cX9_trouble 0 = .ok (.aload_n 0, 1) := by decide +kernel
theorem dX9_trouble_1 : decode cX9_trouble 1 = .ok (.getfield 151, 3) := by decide +kernel
theorem dX9_trouble_4 : decode cX9_trouble 4 = .ok (.ireturn, 1) := by decide +kernel
theorem dX9_refused_0 : decode cX9_refused 0 = .ok (.aload_n 0, 1) := by decide +kernel
theorem dX9_refused_1 : decode cX9_refused 1 = .ok (.iload_n 1, 1) := by decide +kernel
theorem dX9_refused_2 : decode cX9_refused 2 = .ok (.putfield 151, 3) := by decide +kernel
theorem dX9_refused_5 : decode cX9_refused 5 = .ok (.iconst (-1), 1) := by decide +kernel
theorem dX9_refused_6 : decode cX9_refused 6 = .ok (.ireturn, 1) := by decide +kernel
theorem dX9_refusal_0 : decode cX9_refusal 0 = .ok (.aload_n 0, 1) := by decide +kernel
theorem dX9_refusal_1 : decode cX9_refusal 1 = .ok (.iload_n 1, 1) := by decide +kernel
theorem dX9_refusal_2 : decode cX9_refusal 2 = .ok (.putfield 151, 3) := by decide +kernel
theorem dX9_refusal_5 : decode cX9_refusal 5 = .ok (.iconst 0, 1) := by decide +kernel
theorem dX9_refusal_6 : decode cX9_refusal 6 = .ok (.ireturn, 1) := by decide +kernel
theorem dX9_accepted_0 : decode cX9_accepted 0 = .ok (.aload_n 0, 1) := by decide +kernel
theorem dX9_accepted_1 : decode cX9_accepted 1 = .ok (.iconst 0, 1) := by decide +kernel
theorem dX9_accepted_2 : decode cX9_accepted 2 = .ok (.putfield 151, 3) := by decide +kernel
theorem dX9_accepted_5 : decode cX9_accepted 5 = .ok (.iload_n 1, 1) := by decide +kernel
theorem dX9_accepted_6 : decode cX9_accepted 6 = .ok (.ireturn, 1) := by decide +kernel
theorem dX9_acceptance_0 : decode cX9_acceptance 0 = .ok (.aload_n 0, 1) := by decide +kernel
theorem dX9_acceptance_1 : decode cX9_acceptance 1 = .ok (.iconst 0, 1) := by decide +kernel
theorem dX9_acceptance_2 : decode cX9_acceptance 2 = .ok (.putfield 151, 3) := by decide +kernel
theorem dX9_acceptance_5 : decode cX9_acceptance 5 = .ok (.iconst 1, 1) := by decide +kernel
theorem dX9_acceptance_6 : decode cX9_acceptance 6 = .ok (.ireturn, 1) := by decide +kernel
theorem dX9_isDay_0 : decode cX9_isDay 0 = .ok (.iload_n 0, 1) := by decide +kernel
theorem dX9_isDay_1 : decode cX9_isDay 1 = .ok (.ifCond .lt 14, 3) := by decide +kernel
theorem dX9_isDay_4 : decode cX9_isDay 4 = .ok (.iload_n 0, 1) := by decide +kernel
theorem dX9_isDay_5 : decode cX9_isDay 5 = .ok (.sipush 9999, 3) := by decide +kernel
theorem dX9_isDay_8 : decode cX9_isDay 8 = .ok (.if_icmp .gt 7, 3) := by decide +kernel
theorem dX9_isDay_11 : decode cX9_isDay 11 = .ok (.iconst 1, 1) := by decide +kernel
theorem dX9_isDay_12 : decode cX9_isDay 12 = .ok (.goto 4, 3) := by decide +kernel
theorem dX9_isDay_15 : decode cX9_isDay 15 = .ok (.iconst 0, 1) := by decide +kernel
theorem dX9_isDay_16 : decode cX9_isDay 16 = .ok (.ireturn, 1) := by decide +kernel
theorem dX9_isKey_0 : decode cX9_isKey 0 = .ok (.iload_n 0, 1) := by decide +kernel
theorem dX9_isKey_1 : decode cX9_isKey 1 = .ok (.ifCond .lt 13, 3) := by decide +kernel
theorem dX9_isKey_4 : decode cX9_isKey 4 = .ok (.iload_n 0, 1) := by decide +kernel
theorem dX9_isKey_5 : decode cX9_isKey 5 = .ok (.bipush 40, 2) := by decide +kernel
theorem dX9_isKey_7 : decode cX9_isKey 7 = .ok (.if_icmp .ge 7, 3) := by decide +kernel
theorem dX9_isKey_10 : decode cX9_isKey 10 = .ok (.iconst 1, 1) := by decide +kernel
theorem dX9_isKey_11 : decode cX9_isKey 11 = .ok (.goto 4, 3) := by decide +kernel
theorem dX9_isKey_14 : decode cX9_isKey 14 = .ok (.iconst 0, 1) := by decide +kernel
theorem dX9_isKey_15 : decode cX9_isKey 15 = .ok (.ireturn, 1) := by decide +kernel
theorem dX9_isWord_0 : decode cX9_isWord 0 = .ok (.lload_n 0, 1) := by decide +kernel
theorem dX9_isWord_1 : decode cX9_isWord 1 = .ok (.lconst 0, 1) := by decide +kernel
theorem dX9_isWord_2 : decode cX9_isWord 2 = .ok (.lcmp, 1) := by decide +kernel
theorem dX9_isWord_3 : decode cX9_isWord 3 = .ok (.ifCond .le 11, 3) := by decide +kernel
theorem dX9_isWord_6 : decode cX9_isWord 6 = .ok (.lload_n 0, 1) := by decide +kernel
theorem dX9_isWord_7 : decode cX9_isWord 7 = .ok (.ldc2_w 318, 3) := by decide +kernel
theorem dX9_isWord_10 : decode cX9_isWord 10 = .ok (.lcmp, 1) := by decide +kernel
theorem dX9_isWord_11 : decode cX9_isWord 11 = .ok (.ifCond .lt 5, 3) := by decide +kernel
theorem dX9_isWord_14 : decode cX9_isWord 14 = .ok (.iconst 0, 1) := by decide +kernel
theorem dX9_isWord_15 : decode cX9_isWord 15 = .ok (.ireturn, 1) := by decide +kernel
theorem dX9_isWord_16 : decode cX9_isWord 16 = .ok (.lload_n 0, 1) := by decide +kernel
theorem dX9_isWord_17 : decode cX9_isWord 17 = .ok (.lstore_n 2, 1) := by decide +kernel
theorem dX9_isWord_18 : decode cX9_isWord 18 = .ok (.iconst 0, 1) := by decide +kernel
theorem dX9_isWord_19 : decode cX9_isWord 19 = .ok (.istore 4, 2) := by decide +kernel
theorem dX9_isWord_21 : decode cX9_isWord 21 = .ok (.iload 4, 2) := by decide +kernel
theorem dX9_isWord_23 : decode cX9_isWord 23 = .ok (.bipush 8, 2) := by decide +kernel
theorem dX9_isWord_25 : decode cX9_isWord 25 = .ok (.if_icmp .ge 44, 3) := by decide +kernel
theorem dX9_isWord_28 : decode cX9_isWord 28 = .ok (.lload_n 2, 1) := by decide +kernel
theorem dX9_isWord_29 : decode cX9_isWord 29 = .ok (.lconst 0, 1) := by decide +kernel
theorem dX9_isWord_30 : decode cX9_isWord 30 = .ok (.lcmp, 1) := by decide +kernel
theorem dX9_isWord_31 : decode cX9_isWord 31 = .ok (.ifCond .le 38, 3) := by decide +kernel
theorem dX9_isWord_34 : decode cX9_isWord 34 = .ok (.lload_n 2, 1) := by decide +kernel
theorem dX9_isWord_35 : decode cX9_isWord 35 = .ok (.ldc2_w 320, 3) := by decide +kernel
theorem dX9_isWord_38 : decode cX9_isWord 38 = .ok (.land, 1) := by decide +kernel
theorem dX9_isWord_39 : decode cX9_isWord 39 = .ok (.lstore 5, 2) := by decide +kernel
theorem dX9_isWord_41 : decode cX9_isWord 41 = .ok (.lload 5, 2) := by decide +kernel
theorem dX9_isWord_43 : decode cX9_isWord 43 = .ok (.lconst 1, 1) := by decide +kernel
theorem dX9_isWord_44 : decode cX9_isWord 44 = .ok (.lcmp, 1) := by decide +kernel
theorem dX9_isWord_45 : decode cX9_isWord 45 = .ok (.ifCond .lt 12, 3) := by decide +kernel
theorem dX9_isWord_48 : decode cX9_isWord 48 = .ok (.lload 5, 2) := by decide +kernel
theorem dX9_isWord_50 : decode cX9_isWord 50 = .ok (.ldc2_w 322, 3) := by decide +kernel
theorem dX9_isWord_53 : decode cX9_isWord 53 = .ok (.lcmp, 1) := by decide +kernel
theorem dX9_isWord_54 : decode cX9_isWord 54 = .ok (.ifCond .le 5, 3) := by decide +kernel
theorem dX9_isWord_57 : decode cX9_isWord 57 = .ok (.iconst 0, 1) := by decide +kernel
theorem dX9_isWord_58 : decode cX9_isWord 58 = .ok (.ireturn, 1) := by decide +kernel
theorem dX9_isWord_59 : decode cX9_isWord 59 = .ok (.lload_n 2, 1) := by decide +kernel
theorem dX9_isWord_60 : decode cX9_isWord 60 = .ok (.iconst 5, 1) := by decide +kernel
theorem dX9_isWord_61 : decode cX9_isWord 61 = .ok (.lshr, 1) := by decide +kernel
theorem dX9_isWord_62 : decode cX9_isWord 62 = .ok (.lstore_n 2, 1) := by decide +kernel
theorem dX9_isWord_63 : decode cX9_isWord 63 = .ok (.iinc 4 1, 3) := by decide +kernel
theorem dX9_isWord_66 : decode cX9_isWord 66 = .ok (.goto (-45), 3) := by decide +kernel
theorem dX9_isWord_69 : decode cX9_isWord 69 = .ok (.iconst 1, 1) := by decide +kernel
theorem dX9_isWord_70 : decode cX9_isWord 70 = .ok (.ireturn, 1) := by decide +kernel
theorem dX9_formAt_0 : decode cX9_formAt 0 = .ok (.iload_n 1, 1) := by decide +kernel
theorem dX9_formAt_1 : decode cX9_formAt 1 = .ok (.ifCond .lt 11, 3) := by decide +kernel
theorem dX9_formAt_4 : decode cX9_formAt 4 = .ok (.iload_n 1, 1) := by decide +kernel
theorem dX9_formAt_5 : decode cX9_formAt 5 = .ok (.aload_n 0, 1) := by decide +kernel
theorem dX9_formAt_6 : decode cX9_formAt 6 = .ok (.getfield 116, 3) := by decide +kernel
theorem dX9_formAt_9 : decode cX9_formAt 9 = .ok (.if_icmp .lt 7, 3) := by decide +kernel
theorem dX9_formAt_12 : decode cX9_formAt 12 = .ok (.aconst_null, 1) := by decide +kernel
theorem dX9_formAt_13 : decode cX9_formAt 13 = .ok (.goto 9, 3) := by decide +kernel
theorem dX9_formAt_16 : decode cX9_formAt 16 = .ok (.aload_n 0, 1) := by decide +kernel
theorem dX9_formAt_17 : decode cX9_formAt 17 = .ok (.getfield 27, 3) := by decide +kernel
theorem dX9_formAt_20 : decode cX9_formAt 20 = .ok (.iload_n 1, 1) := by decide +kernel
theorem dX9_formAt_21 : decode cX9_formAt 21 = .ok (.aaload, 1) := by decide +kernel
theorem dX9_formAt_22 : decode cX9_formAt 22 = .ok (.areturn, 1) := by decide +kernel
theorem dX9_print_0 : decode cX9_print 0 = .ok (.aload_n 0, 1) := by decide +kernel
theorem dX9_print_1 : decode cX9_print 1 = .ok (.getfield 41, 3) := by decide +kernel
theorem dX9_print_4 : decode cX9_print 4 = .ok (.aload_n 0, 1) := by decide +kernel
theorem dX9_print_5 : decode cX9_print 5 = .ok (.getfield 235, 3) := by decide +kernel
theorem dX9_print_8 : decode cX9_print 8 = .ok (.aaload, 1) := by decide +kernel
theorem dX9_print_9 : decode cX9_print 9 = .ok (.astore_n 2, 1) := by decide +kernel
theorem dX9_print_10 : decode cX9_print 10 = .ok (.aload_n 2, 1) := by decide +kernel
theorem dX9_print_11 : decode cX9_print 11 = .ok (.iload_n 1, 1) := by decide +kernel
theorem dX9_print_12 : decode cX9_print 12 = .ok (.aload_n 0, 1) := by decide +kernel
theorem dX9_print_13 : decode cX9_print 13 = .ok (.getfield 53, 3) := by decide +kernel
theorem dX9_print_16 : decode cX9_print 16 = .ok (.invokevirtual 324, 3) := by decide +kernel
theorem dX9_print_19 : decode cX9_print 19 = .ok (.invokevirtual 327, 3) := by decide +kernel
theorem dX9_print_22 : decode cX9_print 22 = .ok (.iconst 0, 1) := by decide +kernel
theorem dX9_print_23 : decode cX9_print 23 = .ok (.istore_n 3, 1) := by decide +kernel
theorem dX9_print_24 : decode cX9_print 24 = .ok (.iload_n 3, 1) := by decide +kernel
theorem dX9_print_25 : decode cX9_print 25 = .ok (.aload_n 0, 1) := by decide +kernel
theorem dX9_print_26 : decode cX9_print 26 = .ok (.getfield 53, 3) := by decide +kernel
theorem dX9_print_29 : decode cX9_print 29 = .ok (.getfield 329, 3) := by decide +kernel
theorem dX9_print_32 : decode cX9_print 32 = .ok (.if_icmp .ge 76, 3) := by decide +kernel
theorem dX9_print_35 : decode cX9_print 35 = .ok (.aload_n 0, 1) := by decide +kernel
theorem dX9_print_36 : decode cX9_print 36 = .ok (.getfield 35, 3) := by decide +kernel
theorem dX9_print_39 : decode cX9_print 39 = .ok (.aload_n 0, 1) := by decide +kernel
theorem dX9_print_40 : decode cX9_print 40 = .ok (.getfield 53, 3) := by decide +kernel
theorem dX9_print_43 : decode cX9_print 43 = .ok (.getfield 330, 3) := by decide +kernel
theorem dX9_print_46 : decode cX9_print 46 = .ok (.iload_n 3, 1) := by decide +kernel
theorem dX9_print_47 : decode cX9_print 47 = .ok (.iaload, 1) := by decide +kernel
theorem dX9_print_48 : decode cX9_print 48 = .ok (.invokevirtual 183, 3) := by decide +kernel
theorem dX9_print_51 : decode cX9_print 51 = .ok (.astore 4, 2) := by decide +kernel
theorem dX9_print_53 : decode cX9_print 53 = .ok (.aload 4, 2) := by decide +kernel
theorem dX9_print_55 : decode cX9_print 55 = .ok (.ifnonnull 7, 3) := by decide +kernel
theorem dX9_print_58 : decode cX9_print 58 = .ok (.aconst_null, 1) := by decide +kernel
theorem dX9_print_59 : decode cX9_print 59 = .ok (.goto 12, 3) := by decide +kernel
theorem dX9_print_62 : decode cX9_print 62 = .ok (.aload_n 0, 1) := by decide +kernel
theorem dX9_print_63 : decode cX9_print 63 = .ok (.aload 4, 2) := by decide +kernel
theorem dX9_print_65 : decode cX9_print 65 = .ok (.getfield 189, 3) := by decide +kernel
theorem dX9_print_68 : decode cX9_print 68 = .ok (.invokevirtual 123, 3) := by decide +kernel
theorem dX9_print_71 : decode cX9_print 71 = .ok (.astore 5, 2) := by decide +kernel
theorem dX9_print_73 : decode cX9_print 73 = .ok (.aload 5, 2) := by decide +kernel
theorem dX9_print_75 : decode cX9_print 75 = .ok (.ifnull 27, 3) := by decide +kernel
theorem dX9_print_78 : decode cX9_print 78 = .ok (.aload 5, 2) := by decide +kernel
theorem dX9_print_80 : decode cX9_print 80 = .ok (.aload 4, 2) := by decide +kernel
theorem dX9_print_82 : decode cX9_print 82 = .ok (.getfield 137, 3) := by decide +kernel
theorem dX9_print_85 : decode cX9_print 85 = .ok (.aload_n 0, 1) := by decide +kernel
theorem dX9_print_86 : decode cX9_print 86 = .ok (.getfield 12, 3) := by decide +kernel
theorem dX9_print_89 : decode cX9_print 89 = .ok (.invokevirtual 195, 3) := by decide +kernel
theorem dX9_print_92 : decode cX9_print 92 = .ok (.aload 4, 2) := by decide +kernel
theorem dX9_print_94 : decode cX9_print 94 = .ok (.aload_n 0, 1) := by decide +kernel
theorem dX9_print_95 : decode cX9_print 95 = .ok (.getfield 235, 3) := by decide +kernel
theorem dX9_print_98 : decode cX9_print 98 = .ok (.iload_n 1, 1) := by decide +kernel
theorem dX9_print_99 : decode cX9_print 99 = .ok (.invokevirtual 331, 3) := by decide +kernel
theorem dX9_print_102 : decode cX9_print 102 = .ok (.iinc 3 1, 3) := by decide +kernel
theorem dX9_print_105 : decode cX9_print 105 = .ok (.goto (-81), 3) := by decide +kernel
theorem dX9_print_108 : decode cX9_print 108 = .ok (.aload_n 0, 1) := by decide +kernel
theorem dX9_print_109 : decode cX9_print 109 = .ok (.getfield 35, 3) := by decide +kernel
theorem dX9_print_112 : decode cX9_print 112 = .ok (.aload_n 0, 1) := by decide +kernel
theorem dX9_print_113 : decode cX9_print 113 = .ok (.getfield 235, 3) := by decide +kernel
theorem dX9_print_116 : decode cX9_print 116 = .ok (.aload_n 2, 1) := by decide +kernel
theorem dX9_print_117 : decode cX9_print 117 = .ok (.invokevirtual 333, 3) := by decide +kernel
theorem dX9_print_120 : decode cX9_print 120 = .ok (.aload_n 2, 1) := by decide +kernel
theorem dX9_print_121 : decode cX9_print 121 = .ok (.aload_n 0, 1) := by decide +kernel
theorem dX9_print_122 : decode cX9_print 122 = .ok (.getfield 35, 3) := by decide +kernel
theorem dX9_print_125 : decode cX9_print 125 = .ok (.invokevirtual 314, 3) := by decide +kernel
theorem dX9_print_128 : decode cX9_print 128 = .ok (.putfield 262, 3) := by decide +kernel
theorem dX9_print_131 : decode cX9_print 131 = .ok (.aload_n 0, 1) := by decide +kernel
theorem dX9_print_132 : decode cX9_print 132 = .ok (.dup, 1) := by decide +kernel
theorem dX9_print_133 : decode cX9_print 133 = .ok (.getfield 235, 3) := by decide +kernel
theorem dX9_print_136 : decode cX9_print 136 = .ok (.iconst 1, 1) := by decide +kernel
theorem dX9_print_137 : decode cX9_print 137 = .ok (.iadd, 1) := by decide +kernel
theorem dX9_print_138 : decode cX9_print 138 = .ok (.putfield 235, 3) := by decide +kernel
theorem dX9_print_141 : decode cX9_print 141 = .ok (.aload_n 0, 1) := by decide +kernel
theorem dX9_print_142 : decode cX9_print 142 = .ok (.iload_n 1, 1) := by decide +kernel
theorem dX9_print_143 : decode cX9_print 143 = .ok (.putfield 46, 3) := by decide +kernel
theorem dX9_print_146 : decode cX9_print 146 = .ok (.aload_n 0, 1) := by decide +kernel
theorem dX9_print_147 : decode cX9_print 147 = .ok (.getfield 60, 3) := by decide +kernel
theorem dX9_print_150 : decode cX9_print 150 = .ok (.invokevirtual 337, 3) := by decide +kernel
theorem dX9_print_153 : decode cX9_print 153 = .ok (.return_, 1) := by decide +kernel
theorem dX9_takeBack_0 : decode cX9_takeBack 0 = .ok (.aload_n 0, 1) := by decide +kernel
theorem dX9_takeBack_1 : decode cX9_takeBack 1 = .ok (.getfield 60, 3) := by decide +kernel
theorem dX9_takeBack_4 : decode cX9_takeBack 4 = .ok (.getfield 340, 3) := by decide +kernel
theorem dX9_takeBack_7 : decode cX9_takeBack 7 = .ok (.ifCond .ne 37, 3) := by decide +kernel
theorem dX9_takeBack_10 : decode cX9_takeBack 10 = .ok (.aload_n 0, 1) := by decide +kernel
theorem dX9_takeBack_11 : decode cX9_takeBack 11 = .ok (.getfield 12, 3) := by decide +kernel
theorem dX9_takeBack_14 : decode cX9_takeBack 14 = .ok (.aload_n 0, 1) := by decide +kernel
theorem dX9_takeBack_15 : decode cX9_takeBack 15 = .ok (.getfield 60, 3) := by decide +kernel
theorem dX9_takeBack_18 : decode cX9_takeBack 18 = .ok (.getfield 341, 3) := by decide +kernel
theorem dX9_takeBack_21 : decode cX9_takeBack 21 = .ok (.aload_n 0, 1) := by decide +kernel
theorem dX9_takeBack_22 : decode cX9_takeBack 22 = .ok (.getfield 60, 3) := by decide +kernel
theorem dX9_takeBack_25 : decode cX9_takeBack 25 = .ok (.getfield 344, 3) := by decide +kernel
theorem dX9_takeBack_28 : decode cX9_takeBack 28 = .ok (.lconst 0, 1) := by decide +kernel
theorem dX9_takeBack_29 : decode cX9_takeBack 29 = .ok (.lcmp, 1) := by decide +kernel
theorem dX9_takeBack_30 : decode cX9_takeBack 30 = .ok (.ifCond .ne 7, 3) := by decide +kernel
theorem dX9_takeBack_33 : decode cX9_takeBack 33 = .ok (.iconst 1, 1) := by decide +kernel
theorem dX9_takeBack_34 : decode cX9_takeBack 34 = .ok (.goto 4, 3) := by decide +kernel
theorem dX9_takeBack_37 : decode cX9_takeBack 37 = .ok (.iconst 0, 1) := by decide +kernel
theorem dX9_takeBack_38 : decode cX9_takeBack 38 = .ok (.invokevirtual 81, 3) := by decide +kernel
theorem dX9_takeBack_41 : decode cX9_takeBack 41 = .ok (.goto 74, 3) := by decide +kernel
theorem dX9_takeBack_44 : decode cX9_takeBack 44 = .ok (.aload_n 0, 1) := by decide +kernel
theorem dX9_takeBack_45 : decode cX9_takeBack 45 = .ok (.getfield 60, 3) := by decide +kernel
theorem dX9_takeBack_48 : decode cX9_takeBack 48 = .ok (.getfield 340, 3) := by decide +kernel
theorem dX9_takeBack_51 : decode cX9_takeBack 51 = .ok (.iconst 1, 1) := by decide +kernel
theorem dX9_takeBack_52 : decode cX9_takeBack 52 = .ok (.if_icmp .ne 17, 3) := by decide +kernel
theorem dX9_takeBack_55 : decode cX9_takeBack 55 = .ok (.aload_n 0, 1) := by decide +kernel
theorem dX9_takeBack_56 : decode cX9_takeBack 56 = .ok (.aload_n 0, 1) := by decide +kernel
theorem dX9_takeBack_57 : decode cX9_takeBack 57 = .ok (.getfield 60, 3) := by decide +kernel
theorem dX9_takeBack_60 : decode cX9_takeBack 60 = .ok (.getfield 341, 3) := by decide +kernel
theorem dX9_takeBack_63 : decode cX9_takeBack 63 = .ok (.putfield 116, 3) := by decide +kernel
theorem dX9_takeBack_66 : decode cX9_takeBack 66 = .ok (.goto 49, 3) := by decide +kernel
theorem dX9_takeBack_69 : decode cX9_takeBack 69 = .ok (.aload_n 0, 1) := by decide +kernel
theorem dX9_takeBack_70 : decode cX9_takeBack 70 = .ok (.getfield 60, 3) := by decide +kernel
theorem dX9_takeBack_73 : decode cX9_takeBack 73 = .ok (.getfield 340, 3) := by decide +kernel
theorem dX9_takeBack_76 : decode cX9_takeBack 76 = .ok (.iconst 2, 1) := by decide +kernel
theorem dX9_takeBack_77 : decode cX9_takeBack 77 = .ok (.if_icmp .ne 20, 3) := by decide +kernel
theorem dX9_takeBack_80 : decode cX9_takeBack 80 = .ok (.aload_n 0, 1) := by decide +kernel
theorem dX9_takeBack_81 : decode cX9_takeBack 81 = .ok (.getfield 35, 3) := by decide +kernel
theorem dX9_takeBack_84 : decode cX9_takeBack 84 = .ok (.aload_n 0, 1) := by decide +kernel
theorem dX9_takeBack_85 : decode cX9_takeBack 85 = .ok (.getfield 60, 3) := by decide +kernel
theorem dX9_takeBack_88 : decode cX9_takeBack 88 = .ok (.getfield 341, 3) := by decide +kernel
theorem dX9_takeBack_91 : decode cX9_takeBack 91 = .ok (.putfield 145, 3) := by decide +kernel
theorem dX9_takeBack_94 : decode cX9_takeBack 94 = .ok (.goto 21, 3) := by decide +kernel
theorem dX9_takeBack_97 : decode cX9_takeBack 97 = .ok (.aload_n 0, 1) := by decide +kernel
theorem dX9_takeBack_98 : decode cX9_takeBack 98 = .ok (.aload_n 0, 1) := by decide +kernel
theorem dX9_takeBack_99 : decode cX9_takeBack 99 = .ok (.getfield 35, 3) := by decide +kernel
theorem dX9_takeBack_102 : decode cX9_takeBack 102 = .ok (.aload_n 0, 1) := by decide +kernel
theorem dX9_takeBack_103 : decode cX9_takeBack 103 = .ok (.getfield 60, 3) := by decide +kernel
theorem dX9_takeBack_106 : decode cX9_takeBack 106 = .ok (.getfield 341, 3) := by decide +kernel
theorem dX9_takeBack_109 : decode cX9_takeBack 109 = .ok (.invokevirtual 183, 3) := by decide +kernel
theorem dX9_takeBack_112 : decode cX9_takeBack 112 = .ok (.invokevirtual 347, 3) := by decide +kernel
theorem dX9_takeBack_115 : decode cX9_takeBack 115 = .ok (.return_, 1) := by decide +kernel
theorem dX9_takeBackSaying_0 : decode cX9_takeBackSaying 0 = .ok (.aload_n 1, 1) := by decide +kernel
theorem dX9_takeBackSaying_1 : decode cX9_takeBackSaying 1 = .ok (.ifnonnull 4, 3) := by decide +kernel
theorem dX9_takeBackSaying_4 : decode cX9_takeBackSaying 4 = .ok (.return_, 1) := by decide +kernel
theorem dX9_takeBackSaying_5 : decode cX9_takeBackSaying 5 = .ok (.aload_n 0, 1) := by decide +kernel
theorem dX9_takeBackSaying_6 : decode cX9_takeBackSaying 6 = .ok (.getfield 60, 3) := by decide +kernel
theorem dX9_takeBackSaying_9 : decode cX9_takeBackSaying 9 = .ok (.getfield 340, 3) := by decide +kernel
theorem dX9_takeBackSaying_12 : decode cX9_takeBackSaying 12 = .ok (.iconst 3, 1) := by decide +kernel
theorem dX9_takeBackSaying_13 : decode cX9_takeBackSaying 13 = .ok (.if_icmp .ne 16, 3) := by decide +kernel
theorem dX9_takeBackSaying_16 : decode cX9_takeBackSaying 16 = .ok (.aload_n 1, 1) := by decide +kernel
theorem dX9_takeBackSaying_17 : decode cX9_takeBackSaying 17 = .ok (.dup, 1) := by decide +kernel
theorem dX9_takeBackSaying_18 : decode cX9_takeBackSaying 18 = .ok (.getfield 208, 3) := by decide +kernel
theorem dX9_takeBackSaying_21 : decode cX9_takeBackSaying 21 = .ok (.iconst 1, 1) := by decide +kernel
theorem dX9_takeBackSaying_22 : decode cX9_takeBackSaying 22 = .ok (.isub, 1) := by decide +kernel
theorem dX9_takeBackSaying_23 : decode cX9_takeBackSaying 23 = .ok (.putfield 208, 3) := by decide +kernel
theorem dX9_takeBackSaying_26 : decode cX9_takeBackSaying 26 = .ok (.goto 88, 3) := by decide +kernel
theorem dX9_takeBackSaying_29 : decode cX9_takeBackSaying 29 = .ok (.aload_n 0, 1) := by decide +kernel
theorem dX9_takeBackSaying_30 : decode cX9_takeBackSaying 30 = .ok (.getfield 60, 3) := by decide +kernel
theorem dX9_takeBackSaying_33 : decode cX9_takeBackSaying 33 = .ok (.getfield 340, 3) := by decide +kernel
theorem dX9_takeBackSaying_36 : decode cX9_takeBackSaying 36 = .ok (.iconst 4, 1) := by decide +kernel
theorem dX9_takeBackSaying_37 : decode cX9_takeBackSaying 37 = .ok (.if_icmp .ne 18, 3) := by decide +kernel
theorem dX9_takeBackSaying_40 : decode cX9_takeBackSaying 40 = .ok (.aload_n 1, 1) := by decide +kernel
theorem dX9_takeBackSaying_41 : decode cX9_takeBackSaying 41 = .ok (.aload_n 0, 1) := by decide +kernel
theorem dX9_takeBackSaying_42 : decode cX9_takeBackSaying 42 = .ok (.getfield 60, 3) := by decide +kernel
theorem dX9_takeBackSaying_45 : decode cX9_takeBackSaying 45 = .ok (.getfield 344, 3) := by decide +kernel
theorem dX9_takeBackSaying_48 : decode cX9_takeBackSaying 48 = .ok (.l2i, 1) := by decide +kernel
theorem dX9_takeBackSaying_49 : decode cX9_takeBackSaying 49 = .ok (.putfield 211, 3) := by decide +kernel
theorem dX9_takeBackSaying_52 : decode cX9_takeBackSaying 52 = .ok (.goto 62, 3) := by decide +kernel
theorem dX9_takeBackSaying_55 : decode cX9_takeBackSaying 55 = .ok (.aload_n 0, 1) := by decide +kernel
theorem dX9_takeBackSaying_56 : decode cX9_takeBackSaying 56 = .ok (.getfield 60, 3) := by decide +kernel
theorem dX9_takeBackSaying_59 : decode cX9_takeBackSaying 59 = .ok (.getfield 340, 3) := by decide +kernel
theorem dX9_takeBackSaying_62 : decode cX9_takeBackSaying 62 = .ok (.iconst 5, 1) := by decide +kernel
theorem dX9_takeBackSaying_63 : decode cX9_takeBackSaying 63 = .ok (.if_icmp .ne 28, 3) := by decide +kernel
theorem dX9_takeBackSaying_66 : decode cX9_takeBackSaying 66 = .ok (.aload_n 1, 1) := by decide +kernel
theorem dX9_takeBackSaying_67 : decode cX9_takeBackSaying 67 = .ok (.aload_n 0, 1) := by decide +kernel
theorem dX9_takeBackSaying_68 : decode cX9_takeBackSaying 68 = .ok (.getfield 60, 3) := by decide +kernel
theorem dX9_takeBackSaying_71 : decode cX9_takeBackSaying 71 = .ok (.getfield 344, 3) := by decide +kernel
theorem dX9_takeBackSaying_74 : decode cX9_takeBackSaying 74 = .ok (.putfield 232, 3) := by decide +kernel
theorem dX9_takeBackSaying_77 : decode cX9_takeBackSaying 77 = .ok (.aload_n 1, 1) := by decide +kernel
theorem dX9_takeBackSaying_78 : decode cX9_takeBackSaying 78 = .ok (.aload_n 0, 1) := by decide +kernel
theorem dX9_takeBackSaying_79 : decode cX9_takeBackSaying 79 = .ok (.getfield 60, 3) := by decide +kernel
theorem dX9_takeBackSaying_82 : decode cX9_takeBackSaying 82 = .ok (.getfield 351, 3) := by decide +kernel
theorem dX9_takeBackSaying_85 : decode cX9_takeBackSaying 85 = .ok (.putfield 214, 3) := by decide +kernel
theorem dX9_takeBackSaying_88 : decode cX9_takeBackSaying 88 = .ok (.goto 26, 3) := by decide +kernel
theorem dX9_takeBackSaying_91 : decode cX9_takeBackSaying 91 = .ok (.aload_n 0, 1) := by decide +kernel
theorem dX9_takeBackSaying_92 : decode cX9_takeBackSaying 92 = .ok (.getfield 60, 3) := by decide +kernel
theorem dX9_takeBackSaying_95 : decode cX9_takeBackSaying 95 = .ok (.getfield 340, 3) := by decide +kernel
theorem dX9_takeBackSaying_98 : decode cX9_takeBackSaying 98 = .ok (.bipush 6, 2) := by decide +kernel
theorem dX9_takeBackSaying_100 : decode cX9_takeBackSaying 100 = .ok (.if_icmp .ne 14, 3) := by decide +kernel
theorem dX9_takeBackSaying_103 : decode cX9_takeBackSaying 103 = .ok (.aload_n 1, 1) := by decide +kernel
theorem dX9_takeBackSaying_104 : decode cX9_takeBackSaying 104 = .ok (.aload_n 0, 1) := by decide +kernel
theorem dX9_takeBackSaying_105 : decode cX9_takeBackSaying 105 = .ok (.getfield 60, 3) := by decide +kernel
theorem dX9_takeBackSaying_108 : decode cX9_takeBackSaying 108 = .ok (.getfield 344, 3) := by decide +kernel
theorem dX9_takeBackSaying_111 : decode cX9_takeBackSaying 111 = .ok (.putfield 218, 3) := by decide +kernel
theorem dX9_takeBackSaying_114 : decode cX9_takeBackSaying 114 = .ok (.return_, 1) := by decide +kernel
