theorem dX0_init_0 : decode cX0_init 0 = .ok (.aload_n 0, 1) := by decide +kernel
theorem dX0_init_1 : decode cX0_init 1 = .ok (.invokespecial 3, 3) := by decide +kernel
theorem dX0_init_4 : decode cX0_init 4 = .ok (.aload_n 0, 1) := by decide +kernel
theorem dX0_init_5 : decode cX0_init 5 = .ok (.sipush 200, 3) := by decide +kernel
theorem dX0_init_8 : decode cX0_init 8 = .ok (.newarray .int, 2) := by decide +kernel
theorem dX0_init_10 : decode cX0_init 10 = .ok (.putfield 11, 3) := by decide +kernel
theorem dX0_init_13 : decode cX0_init 13 = .ok (.aload_n 0, 1) := by decide +kernel
theorem dX0_init_14 : decode cX0_init 14 = .ok (.sipush 200, 3) := by decide +kernel
theorem dX0_init_17 : decode cX0_init 17 = .ok (.newarray .int, 2) := by decide +kernel
theorem dX0_init_19 : decode cX0_init 19 = .ok (.putfield 15, 3) := by decide +kernel
theorem dX0_init_22 : decode cX0_init 22 = .ok (.aload_n 0, 1) := by decide +kernel
theorem dX0_init_23 : decode cX0_init 23 = .ok (.sipush 200, 3) := by decide +kernel
theorem dX0_init_26 : decode cX0_init 26 = .ok (.newarray .int, 2) := by decide +kernel
theorem dX0_init_28 : decode cX0_init 28 = .ok (.putfield 18, 3) := by decide +kernel
theorem dX0_init_31 : decode cX0_init 31 = .ok (.aload_n 0, 1) := by decide +kernel
theorem dX0_init_32 : decode cX0_init 32 = .ok (.bipush 30, 2) := by decide +kernel
theorem dX0_init_34 : decode cX0_init 34 = .ok (.newarray .int, 2) := by decide +kernel
theorem dX0_init_36 : decode cX0_init 36 = .ok (.putfield 21, 3) := by decide +kernel
theorem dX0_init_39 : decode cX0_init 39 = .ok (.aload_n 0, 1) := by decide +kernel
theorem dX0_init_40 : decode cX0_init 40 = .ok (.bipush 30, 2) := by decide +kernel
theorem dX0_init_42 : decode cX0_init 42 = .ok (.newarray .int, 2) := by decide +kernel
theorem dX0_init_44 : decode cX0_init 44 = .ok (.putfield 24, 3) := by decide +kernel
theorem dX0_init_47 : decode cX0_init 47 = .ok (.return_, 1) := by decide +kernel
theorem dX0_clear_0 : decode cX0_clear 0 = .ok (.aload_n 0, 1) := by decide +kernel
theorem dX0_clear_1 : decode cX0_clear 1 = .ok (.iconst 0, 1) := by decide +kernel
theorem dX0_clear_2 : decode cX0_clear 2 = .ok (.putfield 27, 3) := by decide +kernel
theorem dX0_clear_5 : decode cX0_clear 5 = .ok (.aload_n 0, 1) := by decide +kernel
theorem dX0_clear_6 : decode cX0_clear 6 = .ok (.iconst 0, 1) := by decide +kernel
theorem dX0_clear_7 : decode cX0_clear 7 = .ok (.putfield 31, 3) := by decide +kernel
theorem dX0_clear_10 : decode cX0_clear 10 = .ok (.aload_n 0, 1) := by decide +kernel
theorem dX0_clear_11 : decode cX0_clear 11 = .ok (.iconst 0, 1) := by decide +kernel
theorem dX0_clear_12 : decode cX0_clear 12 = .ok (.putfield 34, 3) := by decide +kernel
theorem dX0_clear_15 : decode cX0_clear 15 = .ok (.return_, 1) := by decide +kernel
theorem dX0_open_0 : decode cX0_open 0 = .ok (.aload_n 0, 1) := by decide +kernel
theorem dX0_open_1 : decode cX0_open 1 = .ok (.getfield 31, 3) := by decide +kernel
theorem dX0_open_4 : decode cX0_open 4 = .ok (.ifCond .lt 65, 3) := by decide +kernel
theorem dX0_open_7 : decode cX0_open 7 = .ok (.aload_n 0, 1) := by decide +kernel
theorem dX0_open_8 : decode cX0_open 8 = .ok (.getfield 31, 3) := by decide +kernel
theorem dX0_open_11 : decode cX0_open 11 = .ok (.bipush 30, 2) := by decide +kernel
theorem dX0_open_13 : decode cX0_open 13 = .ok (.if_icmp .ge 56, 3) := by decide +kernel
theorem dX0_open_16 : decode cX0_open 16 = .ok (.aload_n 0, 1) := by decide +kernel
theorem dX0_open_17 : decode cX0_open 17 = .ok (.getfield 21, 3) := by decide +kernel
theorem dX0_open_20 : decode cX0_open 20 = .ok (.aload_n 0, 1) := by decide +kernel
theorem dX0_open_21 : decode cX0_open 21 = .ok (.getfield 31, 3) := by decide +kernel
theorem dX0_open_24 : decode cX0_open 24 = .ok (.aload_n 0, 1) := by decide +kernel
theorem dX0_open_25 : decode cX0_open 25 = .ok (.getfield 34, 3) := by decide +kernel
theorem dX0_open_28 : decode cX0_open 28 = .ok (.iastore, 1) := by decide +kernel
theorem dX0_open_29 : decode cX0_open 29 = .ok (.aload_n 0, 1) := by decide +kernel
theorem dX0_open_30 : decode cX0_open 30 = .ok (.getfield 24, 3) := by decide +kernel
theorem dX0_open_33 : decode cX0_open 33 = .ok (.aload_n 0, 1) := by decide +kernel
theorem dX0_open_34 : decode cX0_open 34 = .ok (.getfield 31, 3) := by decide +kernel
theorem dX0_open_37 : decode cX0_open 37 = .ok (.iload_n 1, 1) := by decide +kernel
theorem dX0_open_38 : decode cX0_open 38 = .ok (.iastore, 1) := by decide +kernel
theorem dX0_open_39 : decode cX0_open 39 = .ok (.aload_n 0, 1) := by decide +kernel
theorem dX0_open_40 : decode cX0_open 40 = .ok (.dup, 1) := by decide +kernel
theorem dX0_open_41 : decode cX0_open 41 = .ok (.getfield 31, 3) := by decide +kernel
theorem dX0_open_44 : decode cX0_open 44 = .ok (.iconst 1, 1) := by decide +kernel
theorem dX0_open_45 : decode cX0_open 45 = .ok (.iadd, 1) := by decide +kernel
theorem dX0_open_46 : decode cX0_open 46 = .ok (.putfield 31, 3) := by decide +kernel
theorem dX0_open_49 : decode cX0_open 49 = .ok (.aload_n 0, 1) := by decide +kernel
theorem dX0_open_50 : decode cX0_open 50 = .ok (.aload_n 0, 1) := by decide +kernel
theorem dX0_open_51 : decode cX0_open 51 = .ok (.getfield 34, 3) := by decide +kernel
theorem dX0_open_54 : decode cX0_open 54 = .ok (.iconst 1, 1) := by decide +kernel
theorem dX0_open_55 : decode cX0_open 55 = .ok (.iload_n 1, 1) := by decide +kernel
theorem dX0_open_56 : decode cX0_open 56 = .ok (.invokevirtual 37, 3) := by decide +kernel
theorem dX0_open_59 : decode cX0_open 59 = .ok (.aload_n 0, 1) := by decide +kernel
theorem dX0_open_60 : decode cX0_open 60 = .ok (.dup, 1) := by decide +kernel
theorem dX0_open_61 : decode cX0_open 61 = .ok (.getfield 34, 3) := by decide +kernel
theorem dX0_open_64 : decode cX0_open 64 = .ok (.iconst 1, 1) := by decide +kernel
theorem dX0_open_65 : decode cX0_open 65 = .ok (.iadd, 1) := by decide +kernel
theorem dX0_open_66 : decode cX0_open 66 = .ok (.putfield 34, 3) := by decide +kernel
theorem dX0_open_69 : decode cX0_open 69 = .ok (.return_, 1) := by decide +kernel
theorem dX0_shutDownTo_0 : decode cX0_shutDownTo 0 = .ok (.aload_n 0, 1) := by decide +kernel
theorem dX0_shutDownTo_1 : decode cX0_shutDownTo 1 = .ok (.getfield 31, 3) := by decide +kernel
theorem dX0_shutDownTo_4 : decode cX0_shutDownTo 4 = .ok (.iconst 1, 1) := by decide +kernel
theorem dX0_shutDownTo_5 : decode cX0_shutDownTo 5 = .ok (.isub, 1) := by decide +kernel
theorem dX0_shutDownTo_6 : decode cX0_shutDownTo 6 = .ok (.istore_n 2, 1) := by decide +kernel
theorem dX0_shutDownTo_7 : decode cX0_shutDownTo 7 = .ok (.iload_n 2, 1) := by decide +kernel
theorem dX0_shutDownTo_8 : decode cX0_shutDownTo 8 = .ok (.iload_n 1, 1) := by decide +kernel
theorem dX0_shutDownTo_9 : decode cX0_shutDownTo 9 = .ok (.if_icmp .lt 41, 3) := by decide +kernel
theorem dX0_shutDownTo_12 : decode cX0_shutDownTo 12 = .ok (.iload_n 2, 1) := by decide +kernel
theorem dX0_shutDownTo_13 : decode cX0_shutDownTo 13 = .ok (.ifCond .lt 37, 3) := by decide +kernel
theorem dX0_shutDownTo_16 : decode cX0_shutDownTo 16 = .ok (.iload_n 2, 1) := by decide +kernel
theorem dX0_shutDownTo_17 : decode cX0_shutDownTo 17 = .ok (.bipush 30, 2) := by decide +kernel
theorem dX0_shutDownTo_19 : decode cX0_shutDownTo 19 = .ok (.if_icmp .ge 31, 3) := by decide +kernel
theorem dX0_shutDownTo_22 : decode cX0_shutDownTo 22 = .ok (.aload_n 0, 1) := by decide +kernel
theorem dX0_shutDownTo_23 : decode cX0_shutDownTo 23 = .ok (.aload_n 0, 1) := by decide +kernel
theorem dX0_shutDownTo_24 : decode cX0_shutDownTo 24 = .ok (.getfield 21, 3) := by decide +kernel
theorem dX0_shutDownTo_27 : decode cX0_shutDownTo 27 = .ok (.iload_n 2, 1) := by decide +kernel
theorem dX0_shutDownTo_28 : decode cX0_shutDownTo 28 = .ok (.iaload, 1) := by decide +kernel
theorem dX0_shutDownTo_29 : decode cX0_shutDownTo 29 = .ok (.iconst 0, 1) := by decide +kernel
theorem dX0_shutDownTo_30 : decode cX0_shutDownTo 30 = .ok (.aload_n 0, 1) := by decide +kernel
theorem dX0_shutDownTo_31 : decode cX0_shutDownTo 31 = .ok (.getfield 24, 3) := by decide +kernel
theorem dX0_shutDownTo_34 : decode cX0_shutDownTo 34 = .ok (.iload_n 2, 1) := by decide +kernel
theorem dX0_shutDownTo_35 : decode cX0_shutDownTo 35 = .ok (.iaload, 1) := by decide +kernel
theorem dX0_shutDownTo_36 : decode cX0_shutDownTo 36 = .ok (.invokevirtual 37, 3) := by decide +kernel
theorem dX0_shutDownTo_39 : decode cX0_shutDownTo 39 = .ok (.aload_n 0, 1) := by decide +kernel
theorem dX0_shutDownTo_40 : decode cX0_shutDownTo 40 = .ok (.iload_n 2, 1) := by decide +kernel
theorem dX0_shutDownTo_41 : decode cX0_shutDownTo 41 = .ok (.putfield 31, 3) := by decide +kernel
theorem dX0_shutDownTo_44 : decode cX0_shutDownTo 44 = .ok (.iinc 2 (-1), 3) := by decide +kernel
theorem dX0_shutDownTo_47 : decode cX0_shutDownTo 47 = .ok (.goto (-40), 3) := by decide +kernel
theorem dX0_shutDownTo_50 : decode cX0_shutDownTo 50 = .ok (.return_, 1) := by decide +kernel
theorem dX0_add_0 : decode cX0_add 0 = .ok (.aload_n 0, 1) := by decide +kernel
theorem dX0_add_1 : decode cX0_add 1 = .ok (.getfield 27, 3) := by decide +kernel
theorem dX0_add_4 : decode cX0_add 4 = .ok (.ifCond .lt 53, 3) := by decide +kernel
theorem dX0_add_7 : decode cX0_add 7 = .ok (.aload_n 0, 1) := by decide +kernel
theorem dX0_add_8 : decode cX0_add 8 = .ok (.getfield 27, 3) := by decide +kernel
theorem dX0_add_11 : decode cX0_add 11 = .ok (.sipush 200, 3) := by decide +kernel
theorem dX0_add_14 : decode cX0_add 14 = .ok (.if_icmp .ge 43, 3) := by decide +kernel
theorem dX0_add_17 : decode cX0_add 17 = .ok (.aload_n 0, 1) := by decide +kernel
theorem dX0_add_18 : decode cX0_add 18 = .ok (.getfield 11, 3) := by decide +kernel
theorem dX0_add_21 : decode cX0_add 21 = .ok (.aload_n 0, 1) := by decide +kernel
theorem dX0_add_22 : decode cX0_add 22 = .ok (.getfield 27, 3) := by decide +kernel
theorem dX0_add_25 : decode cX0_add 25 = .ok (.iload_n 1, 1) := by decide +kernel
theorem dX0_add_26 : decode cX0_add 26 = .ok (.iastore, 1) := by decide +kernel
theorem dX0_add_27 : decode cX0_add 27 = .ok (.aload_n 0, 1) := by decide +kernel
theorem dX0_add_28 : decode cX0_add 28 = .ok (.getfield 15, 3) := by decide +kernel
theorem dX0_add_31 : decode cX0_add 31 = .ok (.aload_n 0, 1) := by decide +kernel
theorem dX0_add_32 : decode cX0_add 32 = .ok (.getfield 27, 3) := by decide +kernel
theorem dX0_add_35 : decode cX0_add 35 = .ok (.iload_n 2, 1) := by decide +kernel
theorem dX0_add_36 : decode cX0_add 36 = .ok (.iastore, 1) := by decide +kernel
theorem dX0_add_37 : decode cX0_add 37 = .ok (.aload_n 0, 1) := by decide +kernel
theorem dX0_add_38 : decode cX0_add 38 = .ok (.getfield 18, 3) := by decide +kernel
theorem dX0_add_41 : decode cX0_add 41 = .ok (.aload_n 0, 1) := by decide +kernel
theorem dX0_add_42 : decode cX0_add 42 = .ok (.getfield 27, 3) := by decide +kernel
theorem dX0_add_45 : decode cX0_add 45 = .ok (.iload_n 3, 1) := by decide +kernel
theorem dX0_add_46 : decode cX0_add 46 = .ok (.iastore, 1) := by decide +kernel
theorem dX0_add_47 : decode cX0_add 47 = .ok (.aload_n 0, 1) := by decide +kernel
theorem dX0_add_48 : decode cX0_add 48 = .ok (.dup, 1) := by decide +kernel
theorem dX0_add_49 : decode cX0_add 49 = .ok (.getfield 27, 3) := by decide +kernel
theorem dX0_add_52 : decode cX0_add 52 = .ok (.iconst 1, 1) := by decide +kernel
theorem dX0_add_53 : decode cX0_add 53 = .ok (.iadd, 1) := by decide +kernel
theorem dX0_add_54 : decode cX0_add 54 = .ok (.putfield 27, 3) := by decide +kernel
theorem dX0_add_57 : decode cX0_add 57 = .ok (.return_, 1) := by decide +kernel
theorem dX0_at_0 : decode cX0_at 0 = .ok (.iload_n 1, 1) := by decide +kernel
theorem dX0_at_1 : decode cX0_at 1 = .ok (.ifCond .lt 18, 3) := by decide +kernel
theorem dX0_at_4 : decode cX0_at 4 = .ok (.iload_n 1, 1) := by decide +kernel
theorem dX0_at_5 : decode cX0_at 5 = .ok (.aload_n 0, 1) := by decide +kernel
theorem dX0_at_6 : decode cX0_at 6 = .ok (.getfield 27, 3) := by decide +kernel
theorem dX0_at_9 : decode cX0_at 9 = .ok (.if_icmp .ge 10, 3) := by decide +kernel
theorem dX0_at_12 : decode cX0_at 12 = .ok (.iload_n 1, 1) := by decide +kernel
theorem dX0_at_13 : decode cX0_at 13 = .ok (.sipush 200, 3) := by decide +kernel
theorem dX0_at_16 : decode cX0_at 16 = .ok (.if_icmp .lt 6, 3) := by decide +kernel
theorem dX0_at_19 : decode cX0_at 19 = .ok (.bipush (-101), 2) := by decide +kernel
theorem dX0_at_21 : decode cX0_at 21 = .ok (.ireturn, 1) := by decide +kernel
theorem dX0_at_22 : decode cX0_at 22 = .ok (.iload_n 2, 1) := by decide +kernel
theorem dX0_at_23 : decode cX0_at 23 = .ok (.ifCond .ne 10, 3) := by decide +kernel
theorem dX0_at_26 : decode cX0_at 26 = .ok (.aload_n 0, 1) := by decide +kernel
theorem dX0_at_27 : decode cX0_at 27 = .ok (.getfield 11, 3) := by decide +kernel
theorem dX0_at_30 : decode cX0_at 30 = .ok (.iload_n 1, 1) := by decide +kernel
theorem dX0_at_31 : decode cX0_at 31 = .ok (.iaload, 1) := by decide +kernel
theorem dX0_at_32 : decode cX0_at 32 = .ok (.ireturn, 1) := by decide +kernel
theorem dX0_at_33 : decode cX0_at 33 = .ok (.iload_n 2, 1) := by decide +kernel
theorem dX0_at_34 : decode cX0_at 34 = .ok (.iconst 1, 1) := by decide +kernel
theorem dX0_at_35 : decode cX0_at 35 = .ok (.if_icmp .ne 12, 3) := by decide +kernel
theorem dX0_at_38 : decode cX0_at 38 = .ok (.aload_n 0, 1) := by decide +kernel
theorem dX0_at_39 : decode cX0_at 39 = .ok (.getfield 15, 3) := by decide +kernel
theorem dX0_at_42 : decode cX0_at 42 = .ok (.iload_n 1, 1) := by decide +kernel
theorem dX0_at_43 : decode cX0_at 43 = .ok (.iaload, 1) := by decide +kernel
theorem dX0_at_44 : decode cX0_at 44 = .ok (.goto 9, 3) := by decide +kernel
theorem dX0_at_47 : decode cX0_at 47 = .ok (.aload_n 0, 1) := by decide +kernel
theorem dX0_at_48 : decode cX0_at 48 = .ok (.getfield 18, 3) := by decide +kernel
theorem dX0_at_51 : decode cX0_at 51 = .ok (.iload_n 1, 1) := by decide +kernel
theorem dX0_at_52 : decode cX0_at 52 = .ok (.iaload, 1) := by decide +kernel
theorem dX0_at_53 : decode cX0_at 53 = .ok (.ireturn, 1) := by decide +kernel
theorem dX1_init_0 : decode cX1_init 0 = .ok (.aload_n 0, 1) := by decide +kernel
theorem dX1_init_1 : decode cX1_init 1 = .ok (.invokespecial 3, 3) := by decide +kernel
theorem dX1_init_4 : decode cX1_init 4 = .ok (.aload_n 0, 1) := by decide +kernel
theorem dX1_init_5 : decode cX1_init 5 = .ok (.sipush 250, 3) := by decide +kernel
theorem dX1_init_8 : decode cX1_init 8 = .ok (.newarray .int, 2) := by decide +kernel
theorem dX1_init_10 : decode cX1_init 10 = .ok (.putfield 9, 3) := by decide +kernel
theorem dX1_init_13 : decode cX1_init 13 = .ok (.aload_n 0, 1) := by decide +kernel
theorem dX1_init_14 : decode cX1_init 14 = .ok (.sipush 250, 3) := by decide +kernel
theorem dX1_init_17 : decode cX1_init 17 = .ok (.newarray .int, 2) := by decide +kernel
theorem dX1_init_19 : decode cX1_init 19 = .ok (.putfield 15, 3) := by decide +kernel
theorem dX1_init_22 : decode cX1_init 22 = .ok (.return_, 1) := by decide +kernel
theorem dX1_clear_0 : decode cX1_clear 0 = .ok (.aload_n 0, 1) := by decide +kernel
theorem dX1_clear_1 : decode cX1_clear 1 = .ok (.iconst 0, 1) := by decide +kernel
theorem dX1_clear_2 : decode cX1_clear 2 = .ok (.putfield 18, 3) := by decide +kernel
theorem dX1_clear_5 : decode cX1_clear 5 = .ok (.aload_n 0, 1) := by decide +kernel
theorem dX1_clear_6 : decode cX1_clear 6 = .ok (.iload_n 1, 1) := by decide +kernel
theorem dX1_clear_7 : decode cX1_clear 7 = .ok (.putfield 22, 3) := by decide +kernel
theorem dX1_clear_10 : decode cX1_clear 10 = .ok (.aload_n 0, 1) := by decide +kernel
theorem dX1_clear_11 : decode cX1_clear 11 = .ok (.iconst 0, 1) := by decide +kernel
theorem dX1_clear_12 : decode cX1_clear 12 = .ok (.putfield 25, 3) := by decide +kernel
theorem dX1_clear_15 : decode cX1_clear 15 = .ok (.return_, 1) := by decide +kernel
theorem dX1_add_0 : decode cX1_add 0 = .ok (.aload_n 0, 1) := by decide +kernel
theorem dX1_add_1 : decode cX1_add 1 = .ok (.getfield 18, 3) := by decide +kernel
theorem dX1_add_4 : decode cX1_add 4 = .ok (.ifCond .lt 24, 3) := by decide +kernel
theorem dX1_add_7 : decode cX1_add 7 = .ok (.aload_n 0, 1) := by decide +kernel
theorem dX1_add_8 : decode cX1_add 8 = .ok (.getfield 18, 3) := by decide +kernel
theorem dX1_add_11 : decode cX1_add 11 = .ok (.aload_n 0, 1) := by decide +kernel
theorem dX1_add_12 : decode cX1_add 12 = .ok (.getfield 22, 3) := by decide +kernel
theorem dX1_add_15 : decode cX1_add 15 = .ok (.if_icmp .ge 13, 3) := by decide +kernel
theorem dX1_add_18 : decode cX1_add 18 = .ok (.aload_n 0, 1) := by decide +kernel
theorem dX1_add_19 : decode cX1_add 19 = .ok (.getfield 18, 3) := by decide +kernel
theorem dX1_add_22 : decode cX1_add 22 = .ok (.sipush 250, 3) := by decide +kernel
theorem dX1_add_25 : decode cX1_add 25 = .ok (.if_icmp .lt 9, 3) := by decide +kernel
theorem dX1_add_28 : decode cX1_add 28 = .ok (.aload_n 0, 1) := by decide +kernel
theorem dX1_add_29 : decode cX1_add 29 = .ok (.iconst 1, 1) := by decide +kernel
theorem dX1_add_30 : decode cX1_add 30 = .ok (.putfield 25, 3) := by decide +kernel
theorem dX1_add_33 : decode cX1_add 33 = .ok (.return_, 1) := by decide +kernel
theorem dX1_add_34 : decode cX1_add 34 = .ok (.aload_n 0, 1) := by decide +kernel
theorem dX1_add_35 : decode cX1_add 35 = .ok (.getfield 9, 3) := by decide +kernel
theorem dX1_add_38 : decode cX1_add 38 = .ok (.aload_n 0, 1) := by decide +kernel
theorem dX1_add_39 : decode cX1_add 39 = .ok (.getfield 18, 3) := by decide +kernel
theorem dX1_add_42 : decode cX1_add 42 = .ok (.iload_n 1, 1) := by decide +kernel
theorem dX1_add_43 : decode cX1_add 43 = .ok (.iastore, 1) := by decide +kernel
theorem dX1_add_44 : decode cX1_add 44 = .ok (.aload_n 0, 1) := by decide +kernel
theorem dX1_add_45 : decode cX1_add 45 = .ok (.getfield 15, 3) := by decide +kernel
theorem dX1_add_48 : decode cX1_add 48 = .ok (.aload_n 0, 1) := by decide +kernel
theorem dX1_add_49 : decode cX1_add 49 = .ok (.getfield 18, 3) := by decide +kernel
theorem dX1_add_52 : decode cX1_add 52 = .ok (.iload_n 2, 1) := by decide +kernel
theorem dX1_add_53 : decode cX1_add 53 = .ok (.iastore, 1) := by decide +kernel
theorem dX1_add_54 : decode cX1_add 54 = .ok (.aload_n 0, 1) := by decide +kernel
theorem dX1_add_55 : decode cX1_add 55 = .ok (.dup, 1) := by decide +kernel
theorem dX1_add_56 : decode cX1_add 56 = .ok (.getfield 18, 3) := by decide +kernel
theorem dX1_add_59 : decode cX1_add 59 = .ok (.iconst 1, 1) := by decide +kernel
theorem dX1_add_60 : decode cX1_add 60 = .ok (.iadd, 1) := by decide +kernel
theorem dX1_add_61 : decode cX1_add 61 = .ok (.putfield 18, 3) := by decide +kernel
theorem dX1_add_64 : decode cX1_add 64 = .ok (.return_, 1) := by decide +kernel
theorem dX1_at_0 : decode cX1_at 0 = .ok (.iload_n 1, 1) := by decide +kernel
theorem dX1_at_1 : decode cX1_at 1 = .ok (.ifCond .lt 18, 3) := by decide +kernel
theorem dX1_at_4 : decode cX1_at 4 = .ok (.iload_n 1, 1) := by decide +kernel
theorem dX1_at_5 : decode cX1_at 5 = .ok (.aload_n 0, 1) := by decide +kernel
theorem dX1_at_6 : decode cX1_at 6 = .ok (.getfield 18, 3) := by decide +kernel
theorem dX1_at_9 : decode cX1_at 9 = .ok (.if_icmp .ge 10, 3) := by decide +kernel
theorem dX1_at_12 : decode cX1_at 12 = .ok (.iload_n 1, 1) := by decide +kernel
theorem dX1_at_13 : decode cX1_at 13 = .ok (.sipush 250, 3) := by decide +kernel
theorem dX1_at_16 : decode cX1_at 16 = .ok (.if_icmp .lt 6, 3) := by decide +kernel
theorem dX1_at_19 : decode cX1_at 19 = .ok (.bipush (-101), 2) := by decide +kernel
theorem dX1_at_21 : decode cX1_at 21 = .ok (.ireturn, 1) := by decide +kernel
theorem dX1_at_22 : decode cX1_at 22 = .ok (.iload_n 2, 1) := by decide +kernel
theorem dX1_at_23 : decode cX1_at 23 = .ok (.ifCond .ne 12, 3) := by decide +kernel
theorem dX1_at_26 : decode cX1_at 26 = .ok (.aload_n 0, 1) := by decide +kernel
theorem dX1_at_27 : decode cX1_at 27 = .ok (.getfield 9, 3) := by decide +kernel
theorem dX1_at_30 : decode cX1_at 30 = .ok (.iload_n 1, 1) := by decide +kernel
theorem dX1_at_31 : decode cX1_at 31 = .ok (.iaload, 1) := by decide +kernel
theorem dX1_at_32 : decode cX1_at 32 = .ok (.goto 9, 3) := by decide +kernel
theorem dX1_at_35 : decode cX1_at 35 = .ok (.aload_n 0, 1) := by decide +kernel
theorem dX1_at_36 : decode cX1_at 36 = .ok (.getfield 15, 3) := by decide +kernel
theorem dX1_at_39 : decode cX1_at 39 = .ok (.iload_n 1, 1) := by decide +kernel
theorem dX1_at_40 : decode cX1_at 40 = .ok (.iaload, 1) := by decide +kernel
theorem dX1_at_41 : decode cX1_at 41 = .ok (.ireturn, 1) := by decide +kernel
theorem dX2_init_0 : decode cX2_init 0 = .ok (.aload_n 0, 1) := by decide +kernel
theorem dX2_init_1 : decode cX2_init 1 = .ok (.invokespecial 3, 3) := by decide +kernel
theorem dX2_init_4 : decode cX2_init 4 = .ok (.aload_n 0, 1) := by decide +kernel
theorem dX2_init_5 : decode cX2_init 5 = .ok (.bipush 36, 2) := by decide +kernel
theorem dX2_init_7 : decode cX2_init 7 = .ok (.newarray .int, 2) := by decide +kernel
theorem dX2_init_9 : decode cX2_init 9 = .ok (.putfield 11, 3) := by decide +kernel
theorem dX2_init_12 : decode cX2_init 12 = .ok (.return_, 1) := by decide +kernel
theorem dX2_kindOf_0 : decode cX2_kindOf 0 = .ok (.ldc 15, 2) := by decide +kernel
theorem dX2_kindOf_2 : decode cX2_kindOf 2 = .ok (.iload_n 0, 1) := by decide +kernel
theorem dX2_kindOf_3 : decode cX2_kindOf 3 = .ok (.i2c, 1) := by decide +kernel
theorem dX2_kindOf_4 : decode cX2_kindOf 4 = .ok (.invokevirtual 17, 3) := by decide +kernel
theorem dX2_kindOf_7 : decode cX2_kindOf 7 = .ok (.ireturn, 1) := by decide +kernel
theorem dX2_isRow_0 : decode cX2_isRow 0 = .ok (.iload_n 0, 1) := by decide +kernel
theorem dX2_isRow_1 : decode cX2_isRow 1 = .ok (.bipush 45, 2) := by decide +kernel
theorem dX2_isRow_3 : decode cX2_isRow 3 = .ok (.if_icmp .eq 15, 3) := by decide +kernel
theorem dX2_isRow_6 : decode cX2_isRow 6 = .ok (.iload_n 0, 1) := by decide +kernel
theorem dX2_isRow_7 : decode cX2_isRow 7 = .ok (.bipush 97, 2) := by decide +kernel
theorem dX2_isRow_9 : decode cX2_isRow 9 = .ok (.if_icmp .lt 13, 3) := by decide +kernel
theorem dX2_isRow_12 : decode cX2_isRow 12 = .ok (.iload_n 0, 1) := by decide +kernel
theorem dX2_isRow_13 : decode cX2_isRow 13 = .ok (.bipush 112, 2) := by decide +kernel
theorem dX2_isRow_15 : decode cX2_isRow 15 = .ok (.if_icmp .gt 7, 3) := by decide +kernel
theorem dX2_isRow_18 : decode cX2_isRow 18 = .ok (.iconst 1, 1) := by decide +kernel
theorem dX2_isRow_19 : decode cX2_isRow 19 = .ok (.goto 4, 3) := by decide +kernel
theorem dX2_isRow_22 : decode cX2_isRow 22 = .ok (.iconst 0, 1) := by decide +kernel
theorem dX2_isRow_23 : decode cX2_isRow 23 = .ok (.ireturn, 1) := by decide +kernel
theorem dX2_isFull_0 : decode cX2_isFull 0 = .ok (.aload_n 0, 1) := by decide +kernel
theorem dX2_isFull_1 : decode cX2_isFull 1 = .ok (.getfield 23, 3) := by decide +kernel
theorem dX2_isFull_4 : decode cX2_isFull 4 = .ok (.bipush 36, 2) := by decide +kernel
theorem dX2_isFull_6 : decode cX2_isFull 6 = .ok (.if_icmp .lt 7, 3) := by decide +kernel
theorem dX2_isFull_9 : decode cX2_isFull 9 = .ok (.iconst 1, 1) := by decide +kernel
theorem dX2_isFull_10 : decode cX2_isFull 10 = .ok (.goto 4, 3) := by decide +kernel
theorem dX2_isFull_13 : decode cX2_isFull 13 = .ok (.iconst 0, 1) := by decide +kernel
theorem dX2_isFull_14 : decode cX2_isFull 14 = .ok (.ireturn, 1) := by decide +kernel
theorem dX2_add_0 : decode cX2_add 0 = .ok (.aload_n 0, 1) := by decide +kernel
theorem dX2_add_1 : decode cX2_add 1 = .ok (.getfield 23, 3) := by decide +kernel
theorem dX2_add_4 : decode cX2_add 4 = .ok (.ifCond .lt 32, 3) := by decide +kernel
theorem dX2_add_7 : decode cX2_add 7 = .ok (.aload_n 0, 1) := by decide +kernel
theorem dX2_add_8 : decode cX2_add 8 = .ok (.getfield 23, 3) := by decide +kernel
theorem dX2_add_11 : decode cX2_add 11 = .ok (.bipush 36, 2) := by decide +kernel
theorem dX2_add_13 : decode cX2_add 13 = .ok (.if_icmp .ge 23, 3) := by decide +kernel
theorem dX2_add_16 : decode cX2_add 16 = .ok (.aload_n 0, 1) := by decide +kernel
theorem dX2_add_17 : decode cX2_add 17 = .ok (.getfield 11, 3) := by decide +kernel
theorem dX2_add_20 : decode cX2_add 20 = .ok (.aload_n 0, 1) := by decide +kernel
theorem dX2_add_21 : decode cX2_add 21 = .ok (.getfield 23, 3) := by decide +kernel
theorem dX2_add_24 : decode cX2_add 24 = .ok (.iload_n 1, 1) := by decide +kernel
theorem dX2_add_25 : decode cX2_add 25 = .ok (.iastore, 1) := by decide +kernel
theorem dX2_add_26 : decode cX2_add 26 = .ok (.aload_n 0, 1) := by decide +kernel
theorem dX2_add_27 : decode cX2_add 27 = .ok (.dup, 1) := by decide +kernel
theorem dX2_add_28 : decode cX2_add 28 = .ok (.getfield 23, 3) := by decide +kernel
theorem dX2_add_31 : decode cX2_add 31 = .ok (.iconst 1, 1) := by decide +kernel
theorem dX2_add_32 : decode cX2_add 32 = .ok (.iadd, 1) := by decide +kernel
theorem dX2_add_33 : decode cX2_add 33 = .ok (.putfield 23, 3) := by decide +kernel
theorem dX2_add_36 : decode cX2_add 36 = .ok (.return_, 1) := by decide +kernel
theorem dX2_clear_0 : decode cX2_clear 0 = .ok (.aload_n 0, 1) := by decide +kernel
theorem dX2_clear_1 : decode cX2_clear 1 = .ok (.iconst 0, 1) := by decide +kernel
theorem dX2_clear_2 : decode cX2_clear 2 = .ok (.putfield 23, 3) := by decide +kernel
theorem dX2_clear_5 : decode cX2_clear 5 = .ok (.return_, 1) := by decide +kernel
theorem dX2_codeAt_0 : decode cX2_codeAt 0 = .ok (.iload_n 1, 1) := by decide +kernel
theorem dX2_codeAt_1 : decode cX2_codeAt 1 = .ok (.ifCond .lt 26, 3) := by decide +kernel
theorem dX2_codeAt_4 : decode cX2_codeAt 4 = .ok (.iload_n 1, 1) := by decide +kernel
theorem dX2_codeAt_5 : decode cX2_codeAt 5 = .ok (.aload_n 0, 1) := by decide +kernel
theorem dX2_codeAt_6 : decode cX2_codeAt 6 = .ok (.getfield 23, 3) := by decide +kernel
theorem dX2_codeAt_9 : decode cX2_codeAt 9 = .ok (.if_icmp .ge 18, 3) := by decide +kernel
theorem dX2_codeAt_12 : decode cX2_codeAt 12 = .ok (.iload_n 1, 1) := by decide +kernel
theorem dX2_codeAt_13 : decode cX2_codeAt 13 = .ok (.bipush 36, 2) := by decide +kernel
theorem dX2_codeAt_15 : decode cX2_codeAt 15 = .ok (.if_icmp .ge 12, 3) := by decide +kernel
theorem dX2_codeAt_18 : decode cX2_codeAt 18 = .ok (.aload_n 0, 1) := by decide +kernel
theorem dX2_codeAt_19 : decode cX2_codeAt 19 = .ok (.getfield 11, 3) := by decide +kernel
theorem dX2_codeAt_22 : decode cX2_codeAt 22 = .ok (.iload_n 1, 1) := by decide +kernel
theorem dX2_codeAt_23 : decode cX2_codeAt 23 = .ok (.iaload, 1) := by decide +kernel
theorem dX2_codeAt_24 : decode cX2_codeAt 24 = .ok (.goto 4, 3) := by decide +kernel
theorem dX2_codeAt_27 : decode cX2_codeAt 27 = .ok (.iconst (-1), 1) := by decide +kernel
theorem dX2_codeAt_28 : decode cX2_codeAt 28 = .ok (.ireturn, 1) := by decide +kernel
theorem dX2_firstFault_0 : decode cX2_firstFault 0 = .ok (.iconst 0, 1) := by decide +kernel
theorem dX2_firstFault_1 : decode cX2_firstFault 1 = .ok (.istore_n 1, 1) := by decide +kernel
theorem dX2_firstFault_2 : decode cX2_firstFault 2 = .ok (.iconst 0, 1) := by decide +kernel
theorem dX2_firstFault_3 : decode cX2_firstFault 3 = .ok (.istore_n 2, 1) := by decide +kernel
theorem dX2_firstFault_4 : decode cX2_firstFault 4 = .ok (.iconst 0, 1) := by decide +kernel
theorem dX2_firstFault_5 : decode cX2_firstFault 5 = .ok (.istore_n 3, 1) := by decide +kernel
theorem dX2_firstFault_6 : decode cX2_firstFault 6 = .ok (.iload_n 3, 1) := by decide +kernel
theorem dX2_firstFault_7 : decode cX2_firstFault 7 = .ok (.aload_n 0, 1) := by decide +kernel
theorem dX2_firstFault_8 : decode cX2_firstFault 8 = .ok (.getfield 23, 3) := by decide +kernel
theorem dX2_firstFault_11 : decode cX2_firstFault 11 = .ok (.if_icmp .ge 72, 3) := by decide +kernel
theorem dX2_firstFault_14 : decode cX2_firstFault 14 = .ok (.aload_n 0, 1) := by decide +kernel
theorem dX2_firstFault_15 : decode cX2_firstFault 15 = .ok (.iload_n 3, 1) := by decide +kernel
theorem dX2_firstFault_16 : decode cX2_firstFault 16 = .ok (.invokevirtual 27, 3) := by decide +kernel
theorem dX2_firstFault_19 : decode cX2_firstFault 19 = .ok (.istore 4, 2) := by decide +kernel
theorem dX2_firstFault_21 : decode cX2_firstFault 21 = .ok (.iload_n 3, 1) := by decide +kernel
theorem dX2_firstFault_22 : decode cX2_firstFault 22 = .ok (.iconst 3, 1) := by decide +kernel
theorem dX2_firstFault_23 : decode cX2_firstFault 23 = .ok (.if_icmp .ge 14, 3) := by decide +kernel
theorem dX2_firstFault_26 : decode cX2_firstFault 26 = .ok (.iload_n 3, 1) := by decide +kernel
theorem dX2_firstFault_27 : decode cX2_firstFault 27 = .ok (.iload 4, 2) := by decide +kernel
theorem dX2_firstFault_29 : decode cX2_firstFault 29 = .ok (.invokestatic 30, 3) := by decide +kernel
theorem dX2_firstFault_32 : decode cX2_firstFault 32 = .ok (.ifCond .ne 45, 3) := by decide +kernel
theorem dX2_firstFault_35 : decode cX2_firstFault 35 = .ok (.iload_n 3, 1) := by decide +kernel
theorem dX2_firstFault_36 : decode cX2_firstFault 36 = .ok (.ireturn, 1) := by decide +kernel
theorem dX2_firstFault_37 : decode cX2_firstFault 37 = .ok (.iload 4, 2) := by decide +kernel
theorem dX2_firstFault_39 : decode cX2_firstFault 39 = .ok (.bipush 59, 2) := by decide +kernel
theorem dX2_firstFault_41 : decode cX2_firstFault 41 = .ok (.if_icmp .ne 14, 3) := by decide +kernel
theorem dX2_firstFault_44 : decode cX2_firstFault 44 = .ok (.iload_n 1, 1) := by decide +kernel
theorem dX2_firstFault_45 : decode cX2_firstFault 45 = .ok (.ifCond .ne 10, 3) := by decide +kernel
theorem dX2_firstFault_48 : decode cX2_firstFault 48 = .ok (.iconst 1, 1) := by decide +kernel
theorem dX2_firstFault_49 : decode cX2_firstFault 49 = .ok (.istore_n 1, 1) := by decide +kernel
theorem dX2_firstFault_50 : decode cX2_firstFault 50 = .ok (.iconst 0, 1) := by decide +kernel
theorem dX2_firstFault_51 : decode cX2_firstFault 51 = .ok (.istore_n 2, 1) := by decide +kernel
theorem dX2_firstFault_52 : decode cX2_firstFault 52 = .ok (.goto 25, 3) := by decide +kernel
theorem dX2_firstFault_55 : decode cX2_firstFault 55 = .ok (.iload 4, 2) := by decide +kernel
theorem dX2_firstFault_57 : decode cX2_firstFault 57 = .ok (.invokestatic 34, 3) := by decide +kernel
theorem dX2_firstFault_60 : decode cX2_firstFault 60 = .ok (.ifCond .eq 15, 3) := by decide +kernel
theorem dX2_firstFault_63 : decode cX2_firstFault 63 = .ok (.iload_n 2, 1) := by decide +kernel
theorem dX2_firstFault_64 : decode cX2_firstFault 64 = .ok (.bipush 14, 2) := by decide +kernel
theorem dX2_firstFault_66 : decode cX2_firstFault 66 = .ok (.if_icmp .ge 9, 3) := by decide +kernel
theorem dX2_firstFault_69 : decode cX2_firstFault 69 = .ok (.iinc 2 1, 3) := by decide +kernel
theorem dX2_firstFault_72 : decode cX2_firstFault 72 = .ok (.goto 5, 3) := by decide +kernel
theorem dX2_firstFault_75 : decode cX2_firstFault 75 = .ok (.iload_n 3, 1) := by decide +kernel
theorem dX2_firstFault_76 : decode cX2_firstFault 76 = .ok (.ireturn, 1) := by decide +kernel
theorem dX2_firstFault_77 : decode cX2_firstFault 77 = .ok (.iinc 3 1, 3) := by decide +kernel
theorem dX2_firstFault_80 : decode cX2_firstFault 80 = .ok (.goto (-74), 3) := by decide +kernel
theorem dX2_firstFault_83 : decode cX2_firstFault 83 = .ok (.aload_n 0, 1) := by decide +kernel
theorem dX2_firstFault_84 : decode cX2_firstFault 84 = .ok (.getfield 23, 3) := by decide +kernel
theorem dX2_firstFault_87 : decode cX2_firstFault 87 = .ok (.ireturn, 1) := by decide +kernel
theorem dX2_isHead_0 : decode cX2_isHead 0 = .ok (.iload_n 0, 1) := by decide +kernel
theorem dX2_isHead_1 : decode cX2_isHead 1 = .ok (.ifCond .ne 21, 3) := by decide +kernel
theorem dX2_isHead_4 : decode cX2_isHead 4 = .ok (.iload_n 1, 1) := by decide +kernel
theorem dX2_isHead_5 : decode cX2_isHead 5 = .ok (.bipush 49, 2) := by decide +kernel
theorem dX2_isHead_7 : decode cX2_isHead 7 = .ok (.if_icmp .lt 13, 3) := by decide +kernel
theorem dX2_isHead_10 : decode cX2_isHead 10 = .ok (.iload_n 1, 1) := by decide +kernel
theorem dX2_isHead_11 : decode cX2_isHead 11 = .ok (.bipush 57, 2) := by decide +kernel
theorem dX2_isHead_13 : decode cX2_isHead 13 = .ok (.if_icmp .gt 7, 3) := by decide +kernel
theorem dX2_isHead_16 : decode cX2_isHead 16 = .ok (.iconst 1, 1) := by decide +kernel
theorem dX2_isHead_17 : decode cX2_isHead 17 = .ok (.goto 4, 3) := by decide +kernel
theorem dX2_isHead_20 : decode cX2_isHead 20 = .ok (.iconst 0, 1) := by decide +kernel
theorem dX2_isHead_21 : decode cX2_isHead 21 = .ok (.ireturn, 1) := by decide +kernel
theorem dX2_isHead_22 : decode cX2_isHead 22 = .ok (.iload_n 0, 1) := by decide +kernel
theorem dX2_isHead_23 : decode cX2_isHead 23 = .ok (.iconst 1, 1) := by decide +kernel
theorem dX2_isHead_24 : decode cX2_isHead 24 = .ok (.if_icmp .ne 18, 3) := by decide +kernel
theorem dX2_isHead_27 : decode cX2_isHead 27 = .ok (.iload_n 1, 1) := by decide +kernel
theorem dX2_isHead_28 : decode cX2_isHead 28 = .ok (.invokestatic 38, 3) := by decide +kernel
theorem dX2_isHead_31 : decode cX2_isHead 31 = .ok (.ifCond .lt 7, 3) := by decide +kernel
theorem dX2_isHead_34 : decode cX2_isHead 34 = .ok (.iconst 1, 1) := by decide +kernel
theorem dX2_isHead_35 : decode cX2_isHead 35 = .ok (.goto 18, 3) := by decide +kernel
theorem dX2_isHead_38 : decode cX2_isHead 38 = .ok (.iconst 0, 1) := by decide +kernel
theorem dX2_isHead_39 : decode cX2_isHead 39 = .ok (.goto 14, 3) := by decide +kernel
theorem dX2_isHead_42 : decode cX2_isHead 42 = .ok (.iload_n 1, 1) := by decide +kernel
theorem dX2_isHead_43 : decode cX2_isHead 43 = .ok (.bipush 59, 2) := by decide +kernel
theorem dX2_isHead_45 : decode cX2_isHead 45 = .ok (.if_icmp .ne 7, 3) := by decide +kernel
theorem dX2_isHead_48 : decode cX2_isHead 48 = .ok (.iconst 1, 1) := by decide +kernel
theorem dX2_isHead_49 : decode cX2_isHead 49 = .ok (.goto 4, 3) := by decide +kernel
theorem dX2_isHead_52 : decode cX2_isHead 52 = .ok (.iconst 0, 1) := by decide +kernel
theorem dX2_isHead_53 : decode cX2_isHead 53 = .ok (.ireturn, 1) := by decide +kernel
theorem dX2_secondMark_0 : decode cX2_secondMark 0 = .ok (.iconst 3, 1) := by decide +kernel
theorem dX2_secondMark_1 : decode cX2_secondMark 1 = .ok (.istore_n 1, 1) := by decide +kernel
theorem dX2_secondMark_2 : decode cX2_secondMark 2 = .ok (.iload_n 1, 1) := by decide +kernel
theorem dX2_secondMark_3 : decode cX2_secondMark 3 = .ok (.aload_n 0, 1) := by decide +kernel
theorem dX2_secondMark_4 : decode cX2_secondMark 4 = .ok (.getfield 23, 3) := by decide +kernel
theorem dX2_secondMark_7 : decode cX2_secondMark 7 = .ok (.if_icmp .ge 21, 3) := by decide +kernel
theorem dX2_secondMark_10 : decode cX2_secondMark 10 = .ok (.aload_n 0, 1) := by decide +kernel
theorem dX2_secondMark_11 : decode cX2_secondMark 11 = .ok (.iload_n 1, 1) := by decide +kernel
theorem dX2_secondMark_12 : decode cX2_secondMark 12 = .ok (.invokevirtual 27, 3) := by decide +kernel
theorem dX2_secondMark_15 : decode cX2_secondMark 15 = .ok (.bipush 59, 2) := by decide +kernel
theorem dX2_secondMark_17 : decode cX2_secondMark 17 = .ok (.if_icmp .ne 5, 3) := by decide +kernel
theorem dX2_secondMark_20 : decode cX2_secondMark 20 = .ok (.iload_n 1, 1) := by decide +kernel
theorem dX2_secondMark_21 : decode cX2_secondMark 21 = .ok (.ireturn, 1) := by decide +kernel
theorem dX2_secondMark_22 : decode cX2_secondMark 22 = .ok (.iinc 1 1, 3) := by decide +kernel
theorem dX2_secondMark_25 : decode cX2_secondMark 25 = .ok (.goto (-23), 3) := by decide +kernel
theorem dX2_secondMark_28 : decode cX2_secondMark 28 = .ok (.iconst (-1), 1) := by decide +kernel
theorem dX2_secondMark_29 : decode cX2_secondMark 29 = .ok (.ireturn, 1) := by decide +kernel
theorem dX2_isWhole_0 : decode cX2_isWhole 0 = .ok (.aload_n 0, 1) := by decide +kernel
theorem dX2_isWhole_1 : decode cX2_isWhole 1 = .ok (.invokevirtual 41, 3) := by decide +kernel
theorem dX2_isWhole_4 : decode cX2_isWhole 4 = .ok (.aload_n 0, 1) := by decide +kernel
theorem dX2_isWhole_5 : decode cX2_isWhole 5 = .ok (.getfield 23, 3) := by decide +kernel
theorem dX2_isWhole_8 : decode cX2_isWhole 8 = .ok (.if_icmp .ne 15, 3) := by decide +kernel
theorem dX2_isWhole_11 : decode cX2_isWhole 11 = .ok (.aload_n 0, 1) := by decide +kernel
theorem dX2_isWhole_12 : decode cX2_isWhole 12 = .ok (.invokevirtual 45, 3) := by decide +kernel
theorem dX2_isWhole_15 : decode cX2_isWhole 15 = .ok (.iconst (-1), 1) := by decide +kernel
theorem dX2_isWhole_16 : decode cX2_isWhole 16 = .ok (.if_icmp .eq 7, 3) := by decide +kernel
theorem dX2_isWhole_19 : decode cX2_isWhole 19 = .ok (.iconst 1, 1) := by decide +kernel
theorem dX2_isWhole_20 : decode cX2_isWhole 20 = .ok (.goto 4, 3) := by decide +kernel
theorem dX2_isWhole_23 : decode cX2_isWhole 23 = .ok (.iconst 0, 1) := by decide +kernel
theorem dX2_isWhole_24 : decode cX2_isWhole 24 = .ok (.ireturn, 1) := by decide +kernel
theorem dX2_readRows_0 : decode cX2_readRows 0 = .ok (.aload_n 1, 1) := by decide +kernel
theorem dX2_readRows_1 : decode cX2_readRows 1 = .ok (.invokevirtual 48, 3) := by decide +kernel
theorem dX2_readRows_4 : decode cX2_readRows 4 = .ok (.iload_n 2, 1) := by decide +kernel
theorem dX2_readRows_5 : decode cX2_readRows 5 = .ok (.istore 4, 2) := by decide +kernel
theorem dX2_readRows_7 : decode cX2_readRows 7 = .ok (.iload 4, 2) := by decide +kernel
theorem dX2_readRows_9 : decode cX2_readRows 9 = .ok (.iload_n 3, 1) := by decide +kernel
theorem dX2_readRows_10 : decode cX2_readRows 10 = .ok (.if_icmp .ge 37, 3) := by decide +kernel
theorem dX2_readRows_13 : decode cX2_readRows 13 = .ok (.aload_n 0, 1) := by decide +kernel
theorem dX2_readRows_14 : decode cX2_readRows 14 = .ok (.iload 4, 2) := by decide +kernel
theorem dX2_readRows_16 : decode cX2_readRows 16 = .ok (.invokevirtual 27, 3) := by decide +kernel
theorem dX2_readRows_19 : decode cX2_readRows 19 = .ok (.istore 5, 2) := by decide +kernel
theorem dX2_readRows_21 : decode cX2_readRows 21 = .ok (.aload_n 1, 1) := by decide +kernel
theorem dX2_readRows_22 : decode cX2_readRows 22 = .ok (.iload 5, 2) := by decide +kernel
theorem dX2_readRows_24 : decode cX2_readRows 24 = .ok (.bipush 45, 2) := by decide +kernel
theorem dX2_readRows_26 : decode cX2_readRows 26 = .ok (.if_icmp .ne 7, 3) := by decide +kernel
theorem dX2_readRows_29 : decode cX2_readRows 29 = .ok (.iconst (-1), 1) := by decide +kernel
theorem dX2_readRows_30 : decode cX2_readRows 30 = .ok (.goto 8, 3) := by decide +kernel
theorem dX2_readRows_33 : decode cX2_readRows 33 = .ok (.iload 5, 2) := by decide +kernel
theorem dX2_readRows_35 : decode cX2_readRows 35 = .ok (.bipush 97, 2) := by decide +kernel
theorem dX2_readRows_37 : decode cX2_readRows 37 = .ok (.isub, 1) := by decide +kernel
theorem dX2_readRows_38 : decode cX2_readRows 38 = .ok (.invokevirtual 53, 3) := by decide +kernel
theorem dX2_readRows_41 : decode cX2_readRows 41 = .ok (.iinc 4 1, 3) := by decide +kernel
theorem dX2_readRows_44 : decode cX2_readRows 44 = .ok (.goto (-37), 3) := by decide +kernel
theorem dX2_readRows_47 : decode cX2_readRows 47 = .ok (.return_, 1) := by decide +kernel
theorem dX3_init_0 : decode cX3_init 0 = .ok (.aload_n 0, 1) := by decide +kernel
theorem dX3_init_1 : decode cX3_init 1 = .ok (.invokespecial 3, 3) := by decide +kernel
theorem dX3_init_4 : decode cX3_init 4 = .ok (.aload_n 0, 1) := by decide +kernel
theorem dX3_init_5 : decode cX3_init 5 = .ok (.new 9, 3) := by decide +kernel
theorem dX3_init_8 : decode cX3_init 8 = .ok (.dup, 1) := by decide +kernel
theorem dX3_init_9 : decode cX3_init 9 = .ok (.invokespecial 11, 3) := by decide +kernel
theorem dX3_init_12 : decode cX3_init 12 = .ok (.putfield 12, 3) := by decide +kernel
theorem dX3_init_15 : decode cX3_init 15 = .ok (.aload_n 0, 1) := by decide +kernel
theorem dX3_init_16 : decode cX3_init 16 = .ok (.new 18, 3) := by decide +kernel
theorem dX3_init_19 : decode cX3_init 19 = .ok (.dup, 1) := by decide +kernel
theorem dX3_init_20 : decode cX3_init 20 = .ok (.invokespecial 20, 3) := by decide +kernel
theorem dX3_init_23 : decode cX3_init 23 = .ok (.putfield 21, 3) := by decide +kernel
theorem dX3_init_26 : decode cX3_init 26 = .ok (.aload_n 0, 1) := by decide +kernel
theorem dX3_init_27 : decode cX3_init 27 = .ok (.new 25, 3) := by decide +kernel
theorem dX3_init_30 : decode cX3_init 30 = .ok (.dup, 1) := by decide +kernel
theorem dX3_init_31 : decode cX3_init 31 = .ok (.invokespecial 27, 3) := by decide +kernel
theorem dX3_init_34 : decode cX3_init 34 = .ok (.putfield 28, 3) := by decide +kernel
theorem dX3_init_37 : decode cX3_init 37 = .ok (.aload_n 0, 1) := by decide +kernel
theorem dX3_init_38 : decode cX3_init 38 = .ok (.bipush 10, 2) := by decide +kernel
theorem dX3_init_40 : decode cX3_init 40 = .ok (.newarray .int, 2) := by decide +kernel
theorem dX3_init_42 : decode cX3_init 42 = .ok (.putfield 32, 3) := by decide +kernel
theorem dX3_init_45 : decode cX3_init 45 = .ok (.aload_n 0, 1) := by decide +kernel
theorem dX3_init_46 : decode cX3_init 46 = .ok (.getfield 32, 3) := by decide +kernel
theorem dX3_init_49 : decode cX3_init 49 = .ok (.iconst 4, 1) := by decide +kernel
theorem dX3_init_50 : decode cX3_init 50 = .ok (.iconst (-1), 1) := by decide +kernel
theorem dX3_init_51 : decode cX3_init 51 = .ok (.iastore, 1) := by decide +kernel
theorem dX3_init_52 : decode cX3_init 52 = .ok (.return_, 1) := by decide +kernel
theorem dX3_clear_0 : decode cX3_clear 0 = .ok (.aload_n 0, 1) := by decide +kernel
theorem dX3_clear_1 : decode cX3_clear 1 = .ok (.getfield 21, 3) := by decide +kernel
theorem dX3_clear_4 : decode cX3_clear 4 = .ok (.iload_n 1, 1) := by decide +kernel
theorem dX3_clear_5 : decode cX3_clear 5 = .ok (.invokevirtual 36, 3) := by decide +kernel
theorem dX3_clear_8 : decode cX3_clear 8 = .ok (.aload_n 0, 1) := by decide +kernel
theorem dX3_clear_9 : decode cX3_clear 9 = .ok (.getfield 28, 3) := by decide +kernel
theorem dX3_clear_12 : decode cX3_clear 12 = .ok (.invokevirtual 40, 3) := by decide +kernel
theorem dX3_clear_15 : decode cX3_clear 15 = .ok (.aload_n 0, 1) := by decide +kernel
theorem dX3_clear_16 : decode cX3_clear 16 = .ok (.getfield 32, 3) := by decide +kernel
theorem dX3_clear_19 : decode cX3_clear 19 = .ok (.iconst 0, 1) := by decide +kernel
theorem dX3_clear_20 : decode cX3_clear 20 = .ok (.invokestatic 42, 3) := by decide +kernel
theorem dX3_clear_23 : decode cX3_clear 23 = .ok (.aload_n 0, 1) := by decide +kernel
theorem dX3_clear_24 : decode cX3_clear 24 = .ok (.getfield 32, 3) := by decide +kernel
theorem dX3_clear_27 : decode cX3_clear 27 = .ok (.iconst 4, 1) := by decide +kernel
theorem dX3_clear_28 : decode cX3_clear 28 = .ok (.iconst (-1), 1) := by decide +kernel
theorem dX3_clear_29 : decode cX3_clear 29 = .ok (.iastore, 1) := by decide +kernel
theorem dX3_clear_30 : decode cX3_clear 30 = .ok (.aload_n 0, 1) := by decide +kernel
theorem dX3_clear_31 : decode cX3_clear 31 = .ok (.iconst 0, 1) := by decide +kernel
theorem dX3_clear_32 : decode cX3_clear 32 = .ok (.putfield 48, 3) := by decide +kernel
theorem dX3_clear_35 : decode cX3_clear 35 = .ok (.return_, 1) := by decide +kernel
theorem dX3_lineAt_0 : decode cX3_lineAt 0 = .ok (.iload_n 1, 1) := by decide +kernel
theorem dX3_lineAt_1 : decode cX3_lineAt 1 = .ok (.ifCond .lt 18, 3) := by decide +kernel
theorem dX3_lineAt_4 : decode cX3_lineAt 4 = .ok (.iload_n 1, 1) := by decide +kernel
theorem dX3_lineAt_5 : decode cX3_lineAt 5 = .ok (.bipush 10, 2) := by decide +kernel
theorem dX3_lineAt_7 : decode cX3_lineAt 7 = .ok (.if_icmp .ge 12, 3) := by decide +kernel
theorem dX3_lineAt_10 : decode cX3_lineAt 10 = .ok (.aload_n 0, 1) := by decide +kernel
theorem dX3_lineAt_11 : decode cX3_lineAt 11 = .ok (.getfield 32, 3) := by decide +kernel
theorem dX3_lineAt_14 : decode cX3_lineAt 14 = .ok (.iload_n 1, 1) := by decide +kernel
theorem dX3_lineAt_15 : decode cX3_lineAt 15 = .ok (.iaload, 1) := by decide +kernel
theorem dX3_lineAt_16 : decode cX3_lineAt 16 = .ok (.goto 5, 3) := by decide +kernel
theorem dX3_lineAt_19 : decode cX3_lineAt 19 = .ok (.bipush (-102), 2) := by decide +kernel
theorem dX3_lineAt_21 : decode cX3_lineAt 21 = .ok (.ireturn, 1) := by decide +kernel
theorem dX3_go_0 : decode cX3_go 0 = .ok (.aload_n 0, 1) := by decide +kernel
theorem dX3_go_1 : decode cX3_go 1 = .ok (.iload_n 1, 1) := by decide +kernel
theorem dX3_go_2 : decode cX3_go 2 = .ok (.invokevirtual 52, 3) := by decide +kernel
theorem dX3_go_5 : decode cX3_go 5 = .ok (.aload_n 0, 1) := by decide +kernel
theorem dX3_go_6 : decode cX3_go 6 = .ok (.getfield 12, 3) := by decide +kernel
theorem dX3_go_9 : decode cX3_go 9 = .ok (.getfield 53, 3) := by decide +kernel
theorem dX3_go_12 : decode cX3_go 12 = .ok (.invokevirtual 57, 3) := by decide +kernel
theorem dX3_go_15 : decode cX3_go 15 = .ok (.istore_n 2, 1) := by decide +kernel
theorem dX3_go_16 : decode cX3_go 16 = .ok (.aload_n 0, 1) := by decide +kernel
theorem dX3_go_17 : decode cX3_go 17 = .ok (.getfield 12, 3) := by decide +kernel
theorem dX3_go_20 : decode cX3_go 20 = .ok (.getfield 63, 3) := by decide +kernel
theorem dX3_go_23 : decode cX3_go 23 = .ok (.invokevirtual 57, 3) := by decide +kernel
theorem dX3_go_26 : decode cX3_go 26 = .ok (.istore_n 3, 1) := by decide +kernel
theorem dX3_go_27 : decode cX3_go 27 = .ok (.iload_n 2, 1) := by decide +kernel
theorem dX3_go_28 : decode cX3_go 28 = .ok (.iload_n 3, 1) := by decide +kernel
theorem dX3_go_29 : decode cX3_go 29 = .ok (.ior, 1) := by decide +kernel
theorem dX3_go_30 : decode cX3_go 30 = .ok (.ifCond .eq 10, 3) := by decide +kernel
theorem dX3_go_33 : decode cX3_go 33 = .ok (.aload_n 0, 1) := by decide +kernel
theorem dX3_go_34 : decode cX3_go 34 = .ok (.iload_n 2, 1) := by decide +kernel
theorem dX3_go_35 : decode cX3_go 35 = .ok (.iload_n 3, 1) := by decide +kernel
theorem dX3_go_36 : decode cX3_go 36 = .ok (.iconst 0, 1) := by decide +kernel
theorem dX3_go_37 : decode cX3_go 37 = .ok (.invokevirtual 66, 3) := by decide +kernel
theorem dX3_go_40 : decode cX3_go 40 = .ok (.aload_n 0, 1) := by decide +kernel
theorem dX3_go_41 : decode cX3_go 41 = .ok (.iconst 0, 1) := by decide +kernel
theorem dX3_go_42 : decode cX3_go 42 = .ok (.aload_n 0, 1) := by decide +kernel
theorem dX3_go_43 : decode cX3_go 43 = .ok (.getfield 12, 3) := by decide +kernel
theorem dX3_go_46 : decode cX3_go 46 = .ok (.getfield 53, 3) := by decide +kernel
theorem dX3_go_49 : decode cX3_go 49 = .ok (.invokevirtual 70, 3) := by decide +kernel
theorem dX3_go_52 : decode cX3_go 52 = .ok (.invokevirtual 73, 3) := by decide +kernel
theorem dX3_go_55 : decode cX3_go 55 = .ok (.aload_n 0, 1) := by decide +kernel
theorem dX3_go_56 : decode cX3_go 56 = .ok (.iconst 1, 1) := by decide +kernel
theorem dX3_go_57 : decode cX3_go 57 = .ok (.aload_n 0, 1) := by decide +kernel
theorem dX3_go_58 : decode cX3_go 58 = .ok (.getfield 12, 3) := by decide +kernel
theorem dX3_go_61 : decode cX3_go 61 = .ok (.getfield 63, 3) := by decide +kernel
theorem dX3_go_64 : decode cX3_go 64 = .ok (.invokevirtual 70, 3) := by decide +kernel
theorem dX3_go_67 : decode cX3_go 67 = .ok (.invokevirtual 73, 3) := by decide +kernel
theorem dX3_go_70 : decode cX3_go 70 = .ok (.aload_n 0, 1) := by decide +kernel
theorem dX3_go_71 : decode cX3_go 71 = .ok (.getfield 32, 3) := by decide +kernel
theorem dX3_go_74 : decode cX3_go 74 = .ok (.iconst 0, 1) := by decide +kernel
theorem dX3_go_75 : decode cX3_go 75 = .ok (.aload_n 0, 1) := by decide +kernel
theorem dX3_go_76 : decode cX3_go 76 = .ok (.getfield 21, 3) := by decide +kernel
theorem dX3_go_79 : decode cX3_go 79 = .ok (.getfield 77, 3) := by decide +kernel
theorem dX3_go_82 : decode cX3_go 82 = .ok (.iastore, 1) := by decide +kernel
theorem dX3_go_83 : decode cX3_go 83 = .ok (.aload_n 0, 1) := by decide +kernel
theorem dX3_go_84 : decode cX3_go 84 = .ok (.getfield 32, 3) := by decide +kernel
theorem dX3_go_87 : decode cX3_go 87 = .ok (.bipush 9, 2) := by decide +kernel
theorem dX3_go_89 : decode cX3_go 89 = .ok (.aload_n 0, 1) := by decide +kernel
theorem dX3_go_90 : decode cX3_go 90 = .ok (.getfield 28, 3) := by decide +kernel
theorem dX3_go_93 : decode cX3_go 93 = .ok (.getfield 80, 3) := by decide +kernel
theorem dX3_go_96 : decode cX3_go 96 = .ok (.iastore, 1) := by decide +kernel
theorem dX3_go_97 : decode cX3_go 97 = .ok (.return_, 1) := by decide +kernel
theorem dX3_turn_0 : decode cX3_turn 0 = .ok (.aload_n 0, 1) := by decide +kernel
theorem dX3_turn_1 : decode cX3_turn 1 = .ok (.getfield 12, 3) := by decide +kernel
theorem dX3_turn_4 : decode cX3_turn 4 = .ok (.iload_n 1, 1) := by decide +kernel
theorem dX3_turn_5 : decode cX3_turn 5 = .ok (.iload_n 2, 1) := by decide +kernel
theorem dX3_turn_6 : decode cX3_turn 6 = .ok (.invokevirtual 81, 3) := by decide +kernel
theorem dX3_turn_9 : decode cX3_turn 9 = .ok (.istore 4, 2) := by decide +kernel
theorem dX3_turn_11 : decode cX3_turn 11 = .ok (.iload 4, 2) := by decide +kernel
theorem dX3_turn_13 : decode cX3_turn 13 = .ok (.ifCond .ne 7, 3) := by decide +kernel
theorem dX3_turn_16 : decode cX3_turn 16 = .ok (.iload_n 1, 1) := by decide +kernel
theorem dX3_turn_17 : decode cX3_turn 17 = .ok (.goto 4, 3) := by decide +kernel
theorem dX3_turn_20 : decode cX3_turn 20 = .ok (.iload_n 2, 1) := by decide +kernel
theorem dX3_turn_21 : decode cX3_turn 21 = .ok (.istore 5, 2) := by decide +kernel
theorem dX3_turn_23 : decode cX3_turn 23 = .ok (.iload 4, 2) := by decide +kernel
theorem dX3_turn_25 : decode cX3_turn 25 = .ok (.ifCond .ne 7, 3) := by decide +kernel
theorem dX3_turn_28 : decode cX3_turn 28 = .ok (.iload_n 2, 1) := by decide +kernel
theorem dX3_turn_29 : decode cX3_turn 29 = .ok (.goto 4, 3) := by decide +kernel
theorem dX3_turn_32 : decode cX3_turn 32 = .ok (.iload_n 1, 1) := by decide +kernel
theorem dX3_turn_33 : decode cX3_turn 33 = .ok (.istore 6, 2) := by decide +kernel
theorem dX3_turn_35 : decode cX3_turn 35 = .ok (.aload_n 0, 1) := by decide +kernel
theorem dX3_turn_36 : decode cX3_turn 36 = .ok (.iload 4, 2) := by decide +kernel
theorem dX3_turn_38 : decode cX3_turn 38 = .ok (.iload 5, 2) := by decide +kernel
theorem dX3_turn_40 : decode cX3_turn 40 = .ok (.iload_n 3, 1) := by decide +kernel
theorem dX3_turn_41 : decode cX3_turn 41 = .ok (.invokevirtual 85, 3) := by decide +kernel
theorem dX3_turn_44 : decode cX3_turn 44 = .ok (.istore 7, 2) := by decide +kernel
theorem dX3_turn_46 : decode cX3_turn 46 = .ok (.aload_n 0, 1) := by decide +kernel
theorem dX3_turn_47 : decode cX3_turn 47 = .ok (.getfield 28, 3) := by decide +kernel
theorem dX3_turn_50 : decode cX3_turn 50 = .ok (.getfield 89, 3) := by decide +kernel
theorem dX3_turn_53 : decode cX3_turn 53 = .ok (.istore 8, 2) := by decide +kernel
theorem dX3_turn_55 : decode cX3_turn 55 = .ok (.aload_n 0, 1) := by decide +kernel
theorem dX3_turn_56 : decode cX3_turn 56 = .ok (.getfield 28, 3) := by decide +kernel
theorem dX3_turn_59 : decode cX3_turn 59 = .ok (.iload 7, 2) := by decide +kernel
theorem dX3_turn_61 : decode cX3_turn 61 = .ok (.invokevirtual 92, 3) := by decide +kernel
theorem dX3_turn_64 : decode cX3_turn 64 = .ok (.aload_n 0, 1) := by decide +kernel
theorem dX3_turn_65 : decode cX3_turn 65 = .ok (.iload 4, 2) := by decide +kernel
theorem dX3_turn_67 : decode cX3_turn 67 = .ok (.iload 7, 2) := by decide +kernel
theorem dX3_turn_69 : decode cX3_turn 69 = .ok (.iload_n 3, 1) := by decide +kernel
theorem dX3_turn_70 : decode cX3_turn 70 = .ok (.invokevirtual 95, 3) := by decide +kernel
theorem dX3_turn_73 : decode cX3_turn 73 = .ok (.iload 7, 2) := by decide +kernel
theorem dX3_turn_75 : decode cX3_turn 75 = .ok (.ifCond .ne 16, 3) := by decide +kernel
theorem dX3_turn_78 : decode cX3_turn 78 = .ok (.aload_n 0, 1) := by decide +kernel
theorem dX3_turn_79 : decode cX3_turn 79 = .ok (.iload 4, 2) := by decide +kernel
theorem dX3_turn_81 : decode cX3_turn 81 = .ok (.iload 5, 2) := by decide +kernel
theorem dX3_turn_83 : decode cX3_turn 83 = .ok (.iload 6, 2) := by decide +kernel
theorem dX3_turn_85 : decode cX3_turn 85 = .ok (.invokevirtual 98, 3) := by decide +kernel
theorem dX3_turn_88 : decode cX3_turn 88 = .ok (.goto 33, 3) := by decide +kernel
theorem dX3_turn_91 : decode cX3_turn 91 = .ok (.iload 7, 2) := by decide +kernel
theorem dX3_turn_93 : decode cX3_turn 93 = .ok (.iconst 1, 1) := by decide +kernel
theorem dX3_turn_94 : decode cX3_turn 94 = .ok (.if_icmp .ne 16, 3) := by decide +kernel
theorem dX3_turn_97 : decode cX3_turn 97 = .ok (.aload_n 0, 1) := by decide +kernel
theorem dX3_turn_98 : decode cX3_turn 98 = .ok (.iload 4, 2) := by decide +kernel
theorem dX3_turn_100 : decode cX3_turn 100 = .ok (.iload 5, 2) := by decide +kernel
theorem dX3_turn_102 : decode cX3_turn 102 = .ok (.iload 6, 2) := by decide +kernel
theorem dX3_turn_104 : decode cX3_turn 104 = .ok (.invokevirtual 101, 3) := by decide +kernel
theorem dX3_turn_107 : decode cX3_turn 107 = .ok (.goto 14, 3) := by decide +kernel
theorem dX3_turn_110 : decode cX3_turn 110 = .ok (.aload_n 0, 1) := by decide +kernel
theorem dX3_turn_111 : decode cX3_turn 111 = .ok (.iload 4, 2) := by decide +kernel
theorem dX3_turn_113 : decode cX3_turn 113 = .ok (.iload 5, 2) := by decide +kernel
theorem dX3_turn_115 : decode cX3_turn 115 = .ok (.iload 6, 2) := by decide +kernel
theorem dX3_turn_117 : decode cX3_turn 117 = .ok (.iload_n 3, 1) := by decide +kernel
theorem dX3_turn_118 : decode cX3_turn 118 = .ok (.invokevirtual 104, 3) := by decide +kernel
theorem dX3_turn_121 : decode cX3_turn 121 = .ok (.aload_n 0, 1) := by decide +kernel
theorem dX3_turn_122 : decode cX3_turn 122 = .ok (.getfield 28, 3) := by decide +kernel
theorem dX3_turn_125 : decode cX3_turn 125 = .ok (.iload 8, 2) := by decide +kernel
theorem dX3_turn_127 : decode cX3_turn 127 = .ok (.invokevirtual 108, 3) := by decide +kernel
theorem dX3_turn_130 : decode cX3_turn 130 = .ok (.return_, 1) := by decide +kernel
theorem dX3_natureOf_0 : decode cX3_natureOf 0 = .ok (.iload_n 2, 1) := by decide +kernel
theorem dX3_natureOf_1 : decode cX3_natureOf 1 = .ok (.invokestatic 111, 3) := by decide +kernel
theorem dX3_natureOf_4 : decode cX3_natureOf 4 = .ok (.aload_n 0, 1) := by decide +kernel
theorem dX3_natureOf_5 : decode cX3_natureOf 5 = .ok (.getfield 12, 3) := by decide +kernel
theorem dX3_natureOf_8 : decode cX3_natureOf 8 = .ok (.getfield 117, 3) := by decide +kernel
theorem dX3_natureOf_11 : decode cX3_natureOf 11 = .ok (.if_icmp .gt 5, 3) := by decide +kernel
theorem dX3_natureOf_14 : decode cX3_natureOf 14 = .ok (.iconst 0, 1) := by decide +kernel
theorem dX3_natureOf_15 : decode cX3_natureOf 15 = .ok (.ireturn, 1) := by decide +kernel
theorem dX3_natureOf_16 : decode cX3_natureOf 16 = .ok (.iload_n 3, 1) := by decide +kernel
theorem dX3_natureOf_17 : decode cX3_natureOf 17 = .ok (.iconst 4, 1) := by decide +kernel
theorem dX3_natureOf_18 : decode cX3_natureOf 18 = .ok (.if_icmp .ge 18, 3) := by decide +kernel
theorem dX3_natureOf_21 : decode cX3_natureOf 21 = .ok (.aload_n 0, 1) := by decide +kernel
theorem dX3_natureOf_22 : decode cX3_natureOf 22 = .ok (.getfield 12, 3) := by decide +kernel
theorem dX3_natureOf_25 : decode cX3_natureOf 25 = .ok (.iload_n 1, 1) := by decide +kernel
theorem dX3_natureOf_26 : decode cX3_natureOf 26 = .ok (.invokevirtual 120, 3) := by decide +kernel
theorem dX3_natureOf_29 : decode cX3_natureOf 29 = .ok (.iload_n 2, 1) := by decide +kernel
theorem dX3_natureOf_30 : decode cX3_natureOf 30 = .ok (.invokevirtual 124, 3) := by decide +kernel
theorem dX3_natureOf_33 : decode cX3_natureOf 33 = .ok (.ifCond .eq 7, 3) := by decide +kernel
theorem dX3_natureOf_36 : decode cX3_natureOf 36 = .ok (.iconst 1, 1) := by decide +kernel
theorem dX3_natureOf_37 : decode cX3_natureOf 37 = .ok (.goto 4, 3) := by decide +kernel
theorem dX3_natureOf_40 : decode cX3_natureOf 40 = .ok (.iconst 2, 1) := by decide +kernel
theorem dX3_natureOf_41 : decode cX3_natureOf 41 = .ok (.ireturn, 1) := by decide +kernel
theorem dX3_enterPart_0 : decode cX3_enterPart 0 = .ok (.iload_n 2, 1) := by decide +kernel
theorem dX3_enterPart_1 : decode cX3_enterPart 1 = .ok (.ifCond .lt 20, 3) := by decide +kernel
theorem dX3_enterPart_4 : decode cX3_enterPart 4 = .ok (.iload_n 2, 1) := by decide +kernel
theorem dX3_enterPart_5 : decode cX3_enterPart 5 = .ok (.iconst 2, 1) := by decide +kernel
theorem dX3_enterPart_6 : decode cX3_enterPart 6 = .ok (.if_icmp .gt 15, 3) := by decide +kernel
theorem dX3_enterPart_9 : decode cX3_enterPart 9 = .ok (.aload_n 0, 1) := by decide +kernel
theorem dX3_enterPart_10 : decode cX3_enterPart 10 = .ok (.getfield 32, 3) := by decide +kernel
theorem dX3_enterPart_13 : decode cX3_enterPart 13 = .ok (.iconst 5, 1) := by decide +kernel
theorem dX3_enterPart_14 : decode cX3_enterPart 14 = .ok (.iload_n 2, 1) := by decide +kernel
theorem dX3_enterPart_15 : decode cX3_enterPart 15 = .ok (.iadd, 1) := by decide +kernel
theorem dX3_enterPart_16 : decode cX3_enterPart 16 = .ok (.dup2, 1) := by decide +kernel
theorem dX3_enterPart_17 : decode cX3_enterPart 17 = .ok (.iaload, 1) := by decide +kernel
theorem dX3_enterPart_18 : decode cX3_enterPart 18 = .ok (.iconst 1, 1) := by decide +kernel
theorem dX3_enterPart_19 : decode cX3_enterPart 19 = .ok (.iadd, 1) := by decide +kernel
theorem dX3_enterPart_20 : decode cX3_enterPart 20 = .ok (.iastore, 1) := by decide +kernel
theorem dX3_enterPart_21 : decode cX3_enterPart 21 = .ok (.iload_n 1, 1) := by decide +kernel
theorem dX3_enterPart_22 : decode cX3_enterPart 22 = .ok (.ifCond .ne 14, 3) := by decide +kernel
theorem dX3_enterPart_25 : decode cX3_enterPart 25 = .ok (.aload_n 0, 1) := by decide +kernel
theorem dX3_enterPart_26 : decode cX3_enterPart 26 = .ok (.getfield 32, 3) := by decide +kernel
theorem dX3_enterPart_29 : decode cX3_enterPart 29 = .ok (.bipush 8, 2) := by decide +kernel
theorem dX3_enterPart_31 : decode cX3_enterPart 31 = .ok (.dup2, 1) := by decide +kernel
theorem dX3_enterPart_32 : decode cX3_enterPart 32 = .ok (.iaload, 1) := by decide +kernel
theorem dX3_enterPart_33 : decode cX3_enterPart 33 = .ok (.iconst 1, 1) := by decide +kernel
theorem dX3_enterPart_34 : decode cX3_enterPart 34 = .ok (.iadd, 1) := by decide +kernel
theorem dX3_enterPart_35 : decode cX3_enterPart 35 = .ok (.iastore, 1) := by decide +kernel
theorem dX3_enterPart_36 : decode cX3_enterPart 36 = .ok (.aload_n 0, 1) := by decide +kernel
theorem dX3_enterPart_37 : decode cX3_enterPart 37 = .ok (.getfield 32, 3) := by decide +kernel
theorem dX3_enterPart_40 : decode cX3_enterPart 40 = .ok (.iconst 4, 1) := by decide +kernel
theorem dX3_enterPart_41 : decode cX3_enterPart 41 = .ok (.aload_n 0, 1) := by decide +kernel
theorem dX3_enterPart_42 : decode cX3_enterPart 42 = .ok (.getfield 32, 3) := by decide +kernel
theorem dX3_enterPart_45 : decode cX3_enterPart 45 = .ok (.iconst 4, 1) := by decide +kernel
theorem dX3_enterPart_46 : decode cX3_enterPart 46 = .ok (.iaload, 1) := by decide +kernel
theorem dX3_enterPart_47 : decode cX3_enterPart 47 = .ok (.iload_n 3, 1) := by decide +kernel
theorem dX3_enterPart_48 : decode cX3_enterPart 48 = .ok (.invokestatic 128, 3) := by decide +kernel
theorem dX3_enterPart_51 : decode cX3_enterPart 51 = .ok (.iastore, 1) := by decide +kernel
theorem dX3_enterPart_52 : decode cX3_enterPart 52 = .ok (.return_, 1) := by decide +kernel
theorem dX3_hold_0 : decode cX3_hold 0 = .ok (.aload_n 0, 1) := by decide +kernel
theorem dX3_hold_1 : decode cX3_hold 1 = .ok (.iload_n 2, 1) := by decide +kernel
theorem dX3_hold_2 : decode cX3_hold 2 = .ok (.invokevirtual 133, 3) := by decide +kernel
theorem dX3_hold_5 : decode cX3_hold 5 = .ok (.iload_n 1, 1) := by decide +kernel
theorem dX3_hold_6 : decode cX3_hold 6 = .ok (.invokestatic 136, 3) := by decide +kernel
theorem dX3_hold_9 : decode cX3_hold 9 = .ok (.istore 4, 2) := by decide +kernel
theorem dX3_hold_11 : decode cX3_hold 11 = .ok (.iconst 0, 1) := by decide +kernel
theorem dX3_hold_12 : decode cX3_hold 12 = .ok (.istore 5, 2) := by decide +kernel
theorem dX3_hold_14 : decode cX3_hold 14 = .ok (.iload 5, 2) := by decide +kernel
theorem dX3_hold_16 : decode cX3_hold 16 = .ok (.bipush 14, 2) := by decide +kernel
theorem dX3_hold_18 : decode cX3_hold 18 = .ok (.if_icmp .ge 46, 3) := by decide +kernel
theorem dX3_hold_21 : decode cX3_hold 21 = .ok (.aload_n 0, 1) := by decide +kernel
theorem dX3_hold_22 : decode cX3_hold 22 = .ok (.getfield 21, 3) := by decide +kernel
theorem dX3_hold_25 : decode cX3_hold 25 = .ok (.getfield 139, 3) := by decide +kernel
theorem dX3_hold_28 : decode cX3_hold 28 = .ok (.ifCond .ne 36, 3) := by decide +kernel
theorem dX3_hold_31 : decode cX3_hold 31 = .ok (.iload_n 3, 1) := by decide +kernel
theorem dX3_hold_32 : decode cX3_hold 32 = .ok (.iload 5, 2) := by decide +kernel
theorem dX3_hold_34 : decode cX3_hold 34 = .ok (.invokestatic 143, 3) := by decide +kernel
theorem dX3_hold_37 : decode cX3_hold 37 = .ok (.ifCond .eq 21, 3) := by decide +kernel
theorem dX3_hold_40 : decode cX3_hold 40 = .ok (.aload_n 0, 1) := by decide +kernel
theorem dX3_hold_41 : decode cX3_hold 41 = .ok (.iload_n 1, 1) := by decide +kernel
theorem dX3_hold_42 : decode cX3_hold 42 = .ok (.iload_n 2, 1) := by decide +kernel
theorem dX3_hold_43 : decode cX3_hold 43 = .ok (.iload 5, 2) := by decide +kernel
theorem dX3_hold_45 : decode cX3_hold 45 = .ok (.invokevirtual 147, 3) := by decide +kernel
theorem dX3_hold_48 : decode cX3_hold 48 = .ok (.aload_n 0, 1) := by decide +kernel
theorem dX3_hold_49 : decode cX3_hold 49 = .ok (.iload 4, 2) := by decide +kernel
theorem dX3_hold_51 : decode cX3_hold 51 = .ok (.iconst 1, 1) := by decide +kernel
theorem dX3_hold_52 : decode cX3_hold 52 = .ok (.iload 5, 2) := by decide +kernel
theorem dX3_hold_54 : decode cX3_hold 54 = .ok (.ishl, 1) := by decide +kernel
theorem dX3_hold_55 : decode cX3_hold 55 = .ok (.invokevirtual 73, 3) := by decide +kernel
theorem dX3_hold_58 : decode cX3_hold 58 = .ok (.iinc 5 1, 3) := by decide +kernel
theorem dX3_hold_61 : decode cX3_hold 61 = .ok (.goto (-47), 3) := by decide +kernel
theorem dX3_hold_64 : decode cX3_hold 64 = .ok (.aload_n 0, 1) := by decide +kernel
theorem dX3_hold_65 : decode cX3_hold 65 = .ok (.iload_n 1, 1) := by decide +kernel
theorem dX3_hold_66 : decode cX3_hold 66 = .ok (.iload_n 2, 1) := by decide +kernel
theorem dX3_hold_67 : decode cX3_hold 67 = .ok (.invokevirtual 73, 3) := by decide +kernel
theorem dX3_hold_70 : decode cX3_hold 70 = .ok (.return_, 1) := by decide +kernel
theorem dX3_goByBlocks_0 : decode cX3_goByBlocks 0 = .ok (.iload_n 2, 1) := by decide +kernel
theorem dX3_goByBlocks_1 : decode cX3_goByBlocks 1 = .ok (.istore 4, 2) := by decide +kernel
theorem dX3_goByBlocks_3 : decode cX3_goByBlocks 3 = .ok (.iconst 0, 1) := by decide +kernel
theorem dX3_goByBlocks_4 : decode cX3_goByBlocks 4 = .ok (.istore 5, 2) := by decide +kernel
theorem dX3_goByBlocks_6 : decode cX3_goByBlocks 6 = .ok (.iload 5, 2) := by decide +kernel
theorem dX3_goByBlocks_8 : decode cX3_goByBlocks 8 = .ok (.bipush 14, 2) := by decide +kernel
theorem dX3_goByBlocks_10 : decode cX3_goByBlocks 10 = .ok (.if_icmp .ge 110, 3) := by decide +kernel
theorem dX3_goByBlocks_13 : decode cX3_goByBlocks 13 = .ok (.iload 4, 2) := by decide +kernel
theorem dX3_goByBlocks_15 : decode cX3_goByBlocks 15 = .ok (.ifCond .eq 105, 3) := by decide +kernel
theorem dX3_goByBlocks_18 : decode cX3_goByBlocks 18 = .ok (.aload_n 0, 1) := by decide +kernel
theorem dX3_goByBlocks_19 : decode cX3_goByBlocks 19 = .ok (.getfield 21, 3) := by decide +kernel
theorem dX3_goByBlocks_22 : decode cX3_goByBlocks 22 = .ok (.getfield 139, 3) := by decide +kernel
theorem dX3_goByBlocks_25 : decode cX3_goByBlocks 25 = .ok (.ifCond .ne 95, 3) := by decide +kernel
theorem dX3_goByBlocks_28 : decode cX3_goByBlocks 28 = .ok (.iload 4, 2) := by decide +kernel
theorem dX3_goByBlocks_30 : decode cX3_goByBlocks 30 = .ok (.aload_n 0, 1) := by decide +kernel
theorem dX3_goByBlocks_31 : decode cX3_goByBlocks 31 = .ok (.getfield 12, 3) := by decide +kernel
theorem dX3_goByBlocks_34 : decode cX3_goByBlocks 34 = .ok (.getfield 117, 3) := by decide +kernel
theorem dX3_goByBlocks_37 : decode cX3_goByBlocks 37 = .ok (.invokestatic 150, 3) := by decide +kernel
theorem dX3_goByBlocks_40 : decode cX3_goByBlocks 40 = .ok (.istore 6, 2) := by decide +kernel
theorem dX3_goByBlocks_42 : decode cX3_goByBlocks 42 = .ok (.iload 4, 2) := by decide +kernel
theorem dX3_goByBlocks_44 : decode cX3_goByBlocks 44 = .ok (.iload 6, 2) := by decide +kernel
theorem dX3_goByBlocks_46 : decode cX3_goByBlocks 46 = .ok (.iconst (-1), 1) := by decide +kernel
theorem dX3_goByBlocks_47 : decode cX3_goByBlocks 47 = .ok (.ixor, 1) := by decide +kernel
theorem dX3_goByBlocks_48 : decode cX3_goByBlocks 48 = .ok (.iand, 1) := by decide +kernel
theorem dX3_goByBlocks_49 : decode cX3_goByBlocks 49 = .ok (.istore 4, 2) := by decide +kernel
theorem dX3_goByBlocks_51 : decode cX3_goByBlocks 51 = .ok (.aload_n 0, 1) := by decide +kernel
theorem dX3_goByBlocks_52 : decode cX3_goByBlocks 52 = .ok (.iload 6, 2) := by decide +kernel
theorem dX3_goByBlocks_54 : decode cX3_goByBlocks 54 = .ok (.invokevirtual 133, 3) := by decide +kernel
theorem dX3_goByBlocks_57 : decode cX3_goByBlocks 57 = .ok (.aload_n 0, 1) := by decide +kernel
theorem dX3_goByBlocks_58 : decode cX3_goByBlocks 58 = .ok (.getfield 32, 3) := by decide +kernel
theorem dX3_goByBlocks_61 : decode cX3_goByBlocks 61 = .ok (.iconst 2, 1) := by decide +kernel
theorem dX3_goByBlocks_62 : decode cX3_goByBlocks 62 = .ok (.dup2, 1) := by decide +kernel
theorem dX3_goByBlocks_63 : decode cX3_goByBlocks 63 = .ok (.iaload, 1) := by decide +kernel
theorem dX3_goByBlocks_64 : decode cX3_goByBlocks 64 = .ok (.iload_n 3, 1) := by decide +kernel
theorem dX3_goByBlocks_65 : decode cX3_goByBlocks 65 = .ok (.invokestatic 111, 3) := by decide +kernel
theorem dX3_goByBlocks_68 : decode cX3_goByBlocks 68 = .ok (.iadd, 1) := by decide +kernel
theorem dX3_goByBlocks_69 : decode cX3_goByBlocks 69 = .ok (.iastore, 1) := by decide +kernel
theorem dX3_goByBlocks_70 : decode cX3_goByBlocks 70 = .ok (.iconst 0, 1) := by decide +kernel
theorem dX3_goByBlocks_71 : decode cX3_goByBlocks 71 = .ok (.istore 7, 2) := by decide +kernel
theorem dX3_goByBlocks_73 : decode cX3_goByBlocks 73 = .ok (.iload 7, 2) := by decide +kernel
theorem dX3_goByBlocks_75 : decode cX3_goByBlocks 75 = .ok (.bipush 14, 2) := by decide +kernel
theorem dX3_goByBlocks_77 : decode cX3_goByBlocks 77 = .ok (.if_icmp .ge 37, 3) := by decide +kernel
theorem dX3_goByBlocks_80 : decode cX3_goByBlocks 80 = .ok (.aload_n 0, 1) := by decide +kernel
theorem dX3_goByBlocks_81 : decode cX3_goByBlocks 81 = .ok (.getfield 21, 3) := by decide +kernel
theorem dX3_goByBlocks_84 : decode cX3_goByBlocks 84 = .ok (.getfield 139, 3) := by decide +kernel
theorem dX3_goByBlocks_87 : decode cX3_goByBlocks 87 = .ok (.ifCond .ne 27, 3) := by decide +kernel
theorem dX3_goByBlocks_90 : decode cX3_goByBlocks 90 = .ok (.iload_n 3, 1) := by decide +kernel
theorem dX3_goByBlocks_91 : decode cX3_goByBlocks 91 = .ok (.iload 7, 2) := by decide +kernel
theorem dX3_goByBlocks_93 : decode cX3_goByBlocks 93 = .ok (.invokestatic 143, 3) := by decide +kernel
theorem dX3_goByBlocks_96 : decode cX3_goByBlocks 96 = .ok (.ifCond .eq 12, 3) := by decide +kernel
theorem dX3_goByBlocks_99 : decode cX3_goByBlocks 99 = .ok (.aload_n 0, 1) := by decide +kernel
theorem dX3_goByBlocks_100 : decode cX3_goByBlocks 100 = .ok (.iload_n 1, 1) := by decide +kernel
theorem dX3_goByBlocks_101 : decode cX3_goByBlocks 101 = .ok (.iload 6, 2) := by decide +kernel
theorem dX3_goByBlocks_103 : decode cX3_goByBlocks 103 = .ok (.iload 7, 2) := by decide +kernel
theorem dX3_goByBlocks_105 : decode cX3_goByBlocks 105 = .ok (.invokevirtual 147, 3) := by decide +kernel
theorem dX3_goByBlocks_108 : decode cX3_goByBlocks 108 = .ok (.iinc 7 1, 3) := by decide +kernel
theorem dX3_goByBlocks_111 : decode cX3_goByBlocks 111 = .ok (.goto (-38), 3) := by decide +kernel
theorem dX3_goByBlocks_114 : decode cX3_goByBlocks 114 = .ok (.iinc 5 1, 3) := by decide +kernel
theorem dX3_goByBlocks_117 : decode cX3_goByBlocks 117 = .ok (.goto (-111), 3) := by decide +kernel
theorem dX3_goByBlocks_120 : decode cX3_goByBlocks 120 = .ok (.aload_n 0, 1) := by decide +kernel
theorem dX3_goByBlocks_121 : decode cX3_goByBlocks 121 = .ok (.iload_n 1, 1) := by decide +kernel
theorem dX3_goByBlocks_122 : decode cX3_goByBlocks 122 = .ok (.invokestatic 136, 3) := by decide +kernel
theorem dX3_goByBlocks_125 : decode cX3_goByBlocks 125 = .ok (.iload_n 3, 1) := by decide +kernel
theorem dX3_goByBlocks_126 : decode cX3_goByBlocks 126 = .ok (.invokevirtual 73, 3) := by decide +kernel
theorem dX3_goByBlocks_129 : decode cX3_goByBlocks 129 = .ok (.aload_n 0, 1) := by decide +kernel
theorem dX3_goByBlocks_130 : decode cX3_goByBlocks 130 = .ok (.iload_n 1, 1) := by decide +kernel
theorem dX3_goByBlocks_131 : decode cX3_goByBlocks 131 = .ok (.iload_n 2, 1) := by decide +kernel
theorem dX3_goByBlocks_132 : decode cX3_goByBlocks 132 = .ok (.invokevirtual 73, 3) := by decide +kernel
theorem dX3_goByBlocks_135 : decode cX3_goByBlocks 135 = .ok (.return_, 1) := by decide +kernel
theorem dX3_firstOf_0 : decode cX3_firstOf 0 = .ok (.iconst 0, 1) := by decide +kernel
theorem dX3_firstOf_1 : decode cX3_firstOf 1 = .ok (.istore_n 2, 1) := by decide +kernel
theorem dX3_firstOf_2 : decode cX3_firstOf 2 = .ok (.iconst 0, 1) := by decide +kernel
theorem dX3_firstOf_3 : decode cX3_firstOf 3 = .ok (.istore_n 3, 1) := by decide +kernel
theorem dX3_firstOf_4 : decode cX3_firstOf 4 = .ok (.iload_n 3, 1) := by decide +kernel
theorem dX3_firstOf_5 : decode cX3_firstOf 5 = .ok (.bipush 14, 2) := by decide +kernel
theorem dX3_firstOf_7 : decode cX3_firstOf 7 = .ok (.if_icmp .ge 25, 3) := by decide +kernel
theorem dX3_firstOf_10 : decode cX3_firstOf 10 = .ok (.iload_n 2, 1) := by decide +kernel
theorem dX3_firstOf_11 : decode cX3_firstOf 11 = .ok (.invokestatic 111, 3) := by decide +kernel
theorem dX3_firstOf_14 : decode cX3_firstOf 14 = .ok (.iload_n 1, 1) := by decide +kernel
theorem dX3_firstOf_15 : decode cX3_firstOf 15 = .ok (.if_icmp .ge 17, 3) := by decide +kernel
theorem dX3_firstOf_18 : decode cX3_firstOf 18 = .ok (.iload_n 2, 1) := by decide +kernel
theorem dX3_firstOf_19 : decode cX3_firstOf 19 = .ok (.iload_n 0, 1) := by decide +kernel
theorem dX3_firstOf_20 : decode cX3_firstOf 20 = .ok (.iconst 1, 1) := by decide +kernel
theorem dX3_firstOf_21 : decode cX3_firstOf 21 = .ok (.iload_n 3, 1) := by decide +kernel
theorem dX3_firstOf_22 : decode cX3_firstOf 22 = .ok (.ishl, 1) := by decide +kernel
theorem dX3_firstOf_23 : decode cX3_firstOf 23 = .ok (.iand, 1) := by decide +kernel
theorem dX3_firstOf_24 : decode cX3_firstOf 24 = .ok (.ior, 1) := by decide +kernel
theorem dX3_firstOf_25 : decode cX3_firstOf 25 = .ok (.istore_n 2, 1) := by decide +kernel
theorem dX3_firstOf_26 : decode cX3_firstOf 26 = .ok (.iinc 3 1, 3) := by decide +kernel
theorem dX3_firstOf_29 : decode cX3_firstOf 29 = .ok (.goto (-25), 3) := by decide +kernel
theorem dX3_firstOf_32 : decode cX3_firstOf 32 = .ok (.iload_n 2, 1) := by decide +kernel
theorem dX3_firstOf_33 : decode cX3_firstOf 33 = .ok (.ireturn, 1) := by decide +kernel
theorem dX3_split_0 : decode cX3_split 0 = .ok (.aload_n 0, 1) := by decide +kernel
theorem dX3_split_1 : decode cX3_split 1 = .ok (.getfield 12, 3) := by decide +kernel
theorem dX3_split_4 : decode cX3_split 4 = .ok (.iload_n 1, 1) := by decide +kernel
theorem dX3_split_5 : decode cX3_split 5 = .ok (.invokevirtual 120, 3) := by decide +kernel
theorem dX3_split_8 : decode cX3_split 8 = .ok (.iload 4, 2) := by decide +kernel
theorem dX3_split_10 : decode cX3_split 10 = .ok (.invokevirtual 153, 3) := by decide +kernel
theorem dX3_split_13 : decode cX3_split 13 = .ok (.istore 5, 2) := by decide +kernel
theorem dX3_split_15 : decode cX3_split 15 = .ok (.aload_n 0, 1) := by decide +kernel
theorem dX3_split_16 : decode cX3_split 16 = .ok (.getfield 12, 3) := by decide +kernel
theorem dX3_split_19 : decode cX3_split 19 = .ok (.iload_n 1, 1) := by decide +kernel
theorem dX3_split_20 : decode cX3_split 20 = .ok (.invokestatic 136, 3) := by decide +kernel
theorem dX3_split_23 : decode cX3_split 23 = .ok (.invokevirtual 120, 3) := by decide +kernel
theorem dX3_split_26 : decode cX3_split 26 = .ok (.iload 4, 2) := by decide +kernel
theorem dX3_split_28 : decode cX3_split 28 = .ok (.invokevirtual 153, 3) := by decide +kernel
theorem dX3_split_31 : decode cX3_split 31 = .ok (.istore 6, 2) := by decide +kernel
theorem dX3_split_33 : decode cX3_split 33 = .ok (.iload_n 2, 1) := by decide +kernel
theorem dX3_split_34 : decode cX3_split 34 = .ok (.iload 5, 2) := by decide +kernel
theorem dX3_split_36 : decode cX3_split 36 = .ok (.iconst (-1), 1) := by decide +kernel
theorem dX3_split_37 : decode cX3_split 37 = .ok (.ixor, 1) := by decide +kernel
theorem dX3_split_38 : decode cX3_split 38 = .ok (.iand, 1) := by decide +kernel
theorem dX3_split_39 : decode cX3_split 39 = .ok (.istore 7, 2) := by decide +kernel
theorem dX3_split_41 : decode cX3_split 41 = .ok (.iload_n 2, 1) := by decide +kernel
theorem dX3_split_42 : decode cX3_split 42 = .ok (.iload 5, 2) := by decide +kernel
theorem dX3_split_44 : decode cX3_split 44 = .ok (.iand, 1) := by decide +kernel
theorem dX3_split_45 : decode cX3_split 45 = .ok (.istore 8, 2) := by decide +kernel
theorem dX3_split_47 : decode cX3_split 47 = .ok (.iload_n 3, 1) := by decide +kernel
theorem dX3_split_48 : decode cX3_split 48 = .ok (.iload 6, 2) := by decide +kernel
theorem dX3_split_50 : decode cX3_split 50 = .ok (.iconst (-1), 1) := by decide +kernel
theorem dX3_split_51 : decode cX3_split 51 = .ok (.ixor, 1) := by decide +kernel
theorem dX3_split_52 : decode cX3_split 52 = .ok (.iand, 1) := by decide +kernel
theorem dX3_split_53 : decode cX3_split 53 = .ok (.istore 9, 2) := by decide +kernel
theorem dX3_split_55 : decode cX3_split 55 = .ok (.iload_n 3, 1) := by decide +kernel
theorem dX3_split_56 : decode cX3_split 56 = .ok (.iload 6, 2) := by decide +kernel
theorem dX3_split_58 : decode cX3_split 58 = .ok (.iand, 1) := by decide +kernel
theorem dX3_split_59 : decode cX3_split 59 = .ok (.istore 10, 2) := by decide +kernel
theorem dX3_split_61 : decode cX3_split 61 = .ok (.aload_n 0, 1) := by decide +kernel
theorem dX3_split_62 : decode cX3_split 62 = .ok (.iload 7, 2) := by decide +kernel
theorem dX3_split_64 : decode cX3_split 64 = .ok (.invokestatic 111, 3) := by decide +kernel
theorem dX3_split_67 : decode cX3_split 67 = .ok (.iload 8, 2) := by decide +kernel
theorem dX3_split_69 : decode cX3_split 69 = .ok (.invokestatic 111, 3) := by decide +kernel
theorem dX3_split_72 : decode cX3_split 72 = .ok (.invokevirtual 156, 3) := by decide +kernel
theorem dX3_split_75 : decode cX3_split 75 = .ok (.istore 11, 2) := by decide +kernel
theorem dX3_split_77 : decode cX3_split 77 = .ok (.iload 11, 2) := by decide +kernel
theorem dX3_split_79 : decode cX3_split 79 = .ok (.ifCond .eq 11, 3) := by decide +kernel
theorem dX3_split_82 : decode cX3_split 82 = .ok (.aload_n 0, 1) := by decide +kernel
theorem dX3_split_83 : decode cX3_split 83 = .ok (.iload 7, 2) := by decide +kernel
theorem dX3_split_85 : decode cX3_split 85 = .ok (.iload 9, 2) := by decide +kernel
theorem dX3_split_87 : decode cX3_split 87 = .ok (.invokevirtual 159, 3) := by decide +kernel
theorem dX3_split_90 : decode cX3_split 90 = .ok (.iload 11, 2) := by decide +kernel
theorem dX3_split_92 : decode cX3_split 92 = .ok (.iconst 1, 1) := by decide +kernel
theorem dX3_split_93 : decode cX3_split 93 = .ok (.if_icmp .eq 11, 3) := by decide +kernel
theorem dX3_split_96 : decode cX3_split 96 = .ok (.aload_n 0, 1) := by decide +kernel
theorem dX3_split_97 : decode cX3_split 97 = .ok (.iload 8, 2) := by decide +kernel
theorem dX3_split_99 : decode cX3_split 99 = .ok (.iload 10, 2) := by decide +kernel
theorem dX3_split_101 : decode cX3_split 101 = .ok (.invokevirtual 159, 3) := by decide +kernel
theorem dX3_split_104 : decode cX3_split 104 = .ok (.iload 11, 2) := by decide +kernel
theorem dX3_split_106 : decode cX3_split 106 = .ok (.iconst (-1), 1) := by decide +kernel
theorem dX3_split_107 : decode cX3_split 107 = .ok (.if_icmp .eq 32, 3) := by decide +kernel
theorem dX3_split_110 : decode cX3_split 110 = .ok (.aload_n 0, 1) := by decide +kernel
theorem dX3_split_111 : decode cX3_split 111 = .ok (.iload_n 1, 1) := by decide +kernel
theorem dX3_split_112 : decode cX3_split 112 = .ok (.iload 11, 2) := by decide +kernel
theorem dX3_split_114 : decode cX3_split 114 = .ok (.ifCond .ne 8, 3) := by decide +kernel
theorem dX3_split_117 : decode cX3_split 117 = .ok (.iload 7, 2) := by decide +kernel
theorem dX3_split_119 : decode cX3_split 119 = .ok (.goto 5, 3) := by decide +kernel
theorem dX3_split_122 : decode cX3_split 122 = .ok (.iload 8, 2) := by decide +kernel
theorem dX3_split_124 : decode cX3_split 124 = .ok (.iload 11, 2) := by decide +kernel
theorem dX3_split_126 : decode cX3_split 126 = .ok (.ifCond .ne 8, 3) := by decide +kernel
theorem dX3_split_129 : decode cX3_split 129 = .ok (.iload 9, 2) := by decide +kernel
theorem dX3_split_131 : decode cX3_split 131 = .ok (.goto 5, 3) := by decide +kernel
theorem dX3_split_134 : decode cX3_split 134 = .ok (.iload 10, 2) := by decide +kernel
theorem dX3_split_136 : decode cX3_split 136 = .ok (.invokevirtual 98, 3) := by decide +kernel
theorem dX3_split_139 : decode cX3_split 139 = .ok (.iload 11, 2) := by decide +kernel
theorem dX3_split_141 : decode cX3_split 141 = .ok (.ifCond .eq 14, 3) := by decide +kernel
theorem dX3_split_144 : decode cX3_split 144 = .ok (.aload_n 0, 1) := by decide +kernel
theorem dX3_split_145 : decode cX3_split 145 = .ok (.iload_n 1, 1) := by decide +kernel
theorem dX3_split_146 : decode cX3_split 146 = .ok (.iload 7, 2) := by decide +kernel
theorem dX3_split_148 : decode cX3_split 148 = .ok (.iload 9, 2) := by decide +kernel
theorem dX3_split_150 : decode cX3_split 150 = .ok (.iload 4, 2) := by decide +kernel
theorem dX3_split_152 : decode cX3_split 152 = .ok (.invokevirtual 162, 3) := by decide +kernel
theorem dX3_split_155 : decode cX3_split 155 = .ok (.iload 11, 2) := by decide +kernel
theorem dX3_split_157 : decode cX3_split 157 = .ok (.iconst 1, 1) := by decide +kernel
theorem dX3_split_158 : decode cX3_split 158 = .ok (.if_icmp .eq 14, 3) := by decide +kernel
theorem dX3_split_161 : decode cX3_split 161 = .ok (.aload_n 0, 1) := by decide +kernel
theorem dX3_split_162 : decode cX3_split 162 = .ok (.iload_n 1, 1) := by decide +kernel
theorem dX3_split_163 : decode cX3_split 163 = .ok (.iload 8, 2) := by decide +kernel
theorem dX3_split_165 : decode cX3_split 165 = .ok (.iload 10, 2) := by decide +kernel
theorem dX3_split_167 : decode cX3_split 167 = .ok (.iload 4, 2) := by decide +kernel
theorem dX3_split_169 : decode cX3_split 169 = .ok (.invokevirtual 162, 3) := by decide +kernel
theorem dX3_split_172 : decode cX3_split 172 = .ok (.return_, 1) := by decide +kernel
theorem dX3_residentHalf_0 : decode cX3_residentHalf 0 = .ok (.iload_n 1, 1) := by decide +kernel
theorem dX3_residentHalf_1 : decode cX3_residentHalf 1 = .ok (.aload_n 0, 1) := by decide +kernel
theorem dX3_residentHalf_2 : decode cX3_residentHalf 2 = .ok (.getfield 12, 3) := by decide +kernel
theorem dX3_residentHalf_5 : decode cX3_residentHalf 5 = .ok (.getfield 117, 3) := by decide +kernel
theorem dX3_residentHalf_8 : decode cX3_residentHalf 8 = .ok (.if_icmp .gt 7, 3) := by decide +kernel
theorem dX3_residentHalf_11 : decode cX3_residentHalf 11 = .ok (.iconst 1, 1) := by decide +kernel
theorem dX3_residentHalf_12 : decode cX3_residentHalf 12 = .ok (.goto 4, 3) := by decide +kernel
theorem dX3_residentHalf_15 : decode cX3_residentHalf 15 = .ok (.iconst 0, 1) := by decide +kernel
theorem dX3_residentHalf_16 : decode cX3_residentHalf 16 = .ok (.istore_n 3, 1) := by decide +kernel
theorem dX3_residentHalf_17 : decode cX3_residentHalf 17 = .ok (.iload_n 2, 1) := by decide +kernel
theorem dX3_residentHalf_18 : decode cX3_residentHalf 18 = .ok (.aload_n 0, 1) := by decide +kernel
theorem dX3_residentHalf_19 : decode cX3_residentHalf 19 = .ok (.getfield 12, 3) := by decide +kernel
theorem dX3_residentHalf_22 : decode cX3_residentHalf 22 = .ok (.getfield 117, 3) := by decide +kernel
theorem dX3_residentHalf_25 : decode cX3_residentHalf 25 = .ok (.if_icmp .gt 7, 3) := by decide +kernel
theorem dX3_residentHalf_28 : decode cX3_residentHalf 28 = .ok (.iconst 1, 1) := by decide +kernel
theorem dX3_residentHalf_29 : decode cX3_residentHalf 29 = .ok (.goto 4, 3) := by decide +kernel
theorem dX3_residentHalf_32 : decode cX3_residentHalf 32 = .ok (.iconst 0, 1) := by decide +kernel
theorem dX3_residentHalf_33 : decode cX3_residentHalf 33 = .ok (.istore 4, 2) := by decide +kernel
theorem dX3_residentHalf_35 : decode cX3_residentHalf 35 = .ok (.iload_n 3, 1) := by decide +kernel
theorem dX3_residentHalf_36 : decode cX3_residentHalf 36 = .ok (.ifCond .eq 19, 3) := by decide +kernel
theorem dX3_residentHalf_39 : decode cX3_residentHalf 39 = .ok (.iload 4, 2) := by decide +kernel
theorem dX3_residentHalf_41 : decode cX3_residentHalf 41 = .ok (.ifCond .eq 14, 3) := by decide +kernel
theorem dX3_residentHalf_44 : decode cX3_residentHalf 44 = .ok (.iload_n 2, 1) := by decide +kernel
theorem dX3_residentHalf_45 : decode cX3_residentHalf 45 = .ok (.iload_n 1, 1) := by decide +kernel
theorem dX3_residentHalf_46 : decode cX3_residentHalf 46 = .ok (.if_icmp .le 7, 3) := by decide +kernel
theorem dX3_residentHalf_49 : decode cX3_residentHalf 49 = .ok (.iconst 1, 1) := by decide +kernel
theorem dX3_residentHalf_50 : decode cX3_residentHalf 50 = .ok (.goto 4, 3) := by decide +kernel
theorem dX3_residentHalf_53 : decode cX3_residentHalf 53 = .ok (.iconst 0, 1) := by decide +kernel
theorem dX3_residentHalf_54 : decode cX3_residentHalf 54 = .ok (.ireturn, 1) := by decide +kernel
theorem dX3_residentHalf_55 : decode cX3_residentHalf 55 = .ok (.iload_n 3, 1) := by decide +kernel
theorem dX3_residentHalf_56 : decode cX3_residentHalf 56 = .ok (.ifCond .eq 5, 3) := by decide +kernel
theorem dX3_residentHalf_59 : decode cX3_residentHalf 59 = .ok (.iconst 0, 1) := by decide +kernel
theorem dX3_residentHalf_60 : decode cX3_residentHalf 60 = .ok (.ireturn, 1) := by decide +kernel
theorem dX3_residentHalf_61 : decode cX3_residentHalf 61 = .ok (.iload 4, 2) := by decide +kernel
theorem dX3_residentHalf_63 : decode cX3_residentHalf 63 = .ok (.ifCond .eq 7, 3) := by decide +kernel
theorem dX3_residentHalf_66 : decode cX3_residentHalf 66 = .ok (.iconst 1, 1) := by decide +kernel
theorem dX3_residentHalf_67 : decode cX3_residentHalf 67 = .ok (.goto 4, 3) := by decide +kernel
theorem dX3_residentHalf_70 : decode cX3_residentHalf 70 = .ok (.iconst (-1), 1) := by decide +kernel
theorem dX3_residentHalf_71 : decode cX3_residentHalf 71 = .ok (.ireturn, 1) := by decide +kernel
theorem dX3_spill_0 : decode cX3_spill 0 = .ok (.iload_n 1, 1) := by decide +kernel
theorem dX3_spill_1 : decode cX3_spill 1 = .ok (.iload_n 2, 1) := by decide +kernel
theorem dX3_spill_2 : decode cX3_spill 2 = .ok (.ior, 1) := by decide +kernel
theorem dX3_spill_3 : decode cX3_spill 3 = .ok (.ifCond .eq 37, 3) := by decide +kernel
theorem dX3_spill_6 : decode cX3_spill 6 = .ok (.aload_n 0, 1) := by decide +kernel
theorem dX3_spill_7 : decode cX3_spill 7 = .ok (.getfield 28, 3) := by decide +kernel
theorem dX3_spill_10 : decode cX3_spill 10 = .ok (.iconst 3, 1) := by decide +kernel
theorem dX3_spill_11 : decode cX3_spill 11 = .ok (.invokevirtual 92, 3) := by decide +kernel
theorem dX3_spill_14 : decode cX3_spill 14 = .ok (.aload_n 0, 1) := by decide +kernel
theorem dX3_spill_15 : decode cX3_spill 15 = .ok (.getfield 28, 3) := by decide +kernel
theorem dX3_spill_18 : decode cX3_spill 18 = .ok (.iconst 3, 1) := by decide +kernel
theorem dX3_spill_19 : decode cX3_spill 19 = .ok (.invokevirtual 92, 3) := by decide +kernel
theorem dX3_spill_22 : decode cX3_spill 22 = .ok (.aload_n 0, 1) := by decide +kernel
theorem dX3_spill_23 : decode cX3_spill 23 = .ok (.getfield 32, 3) := by decide +kernel
theorem dX3_spill_26 : decode cX3_spill 26 = .ok (.iconst 1, 1) := by decide +kernel
theorem dX3_spill_27 : decode cX3_spill 27 = .ok (.dup2, 1) := by decide +kernel
theorem dX3_spill_28 : decode cX3_spill 28 = .ok (.iaload, 1) := by decide +kernel
theorem dX3_spill_29 : decode cX3_spill 29 = .ok (.iload_n 1, 1) := by decide +kernel
theorem dX3_spill_30 : decode cX3_spill 30 = .ok (.invokestatic 111, 3) := by decide +kernel
theorem dX3_spill_33 : decode cX3_spill 33 = .ok (.iload_n 2, 1) := by decide +kernel
theorem dX3_spill_34 : decode cX3_spill 34 = .ok (.invokestatic 111, 3) := by decide +kernel
theorem dX3_spill_37 : decode cX3_spill 37 = .ok (.iadd, 1) := by decide +kernel
theorem dX3_spill_38 : decode cX3_spill 38 = .ok (.iadd, 1) := by decide +kernel
theorem dX3_spill_39 : decode cX3_spill 39 = .ok (.iastore, 1) := by decide +kernel
theorem dX3_spill_40 : decode cX3_spill 40 = .ok (.return_, 1) := by decide +kernel
theorem dX3_goOn_0 : decode cX3_goOn 0 = .ok (.iload_n 2, 1) := by decide +kernel
theorem dX3_goOn_1 : decode cX3_goOn 1 = .ok (.iload_n 3, 1) := by decide +kernel
theorem dX3_goOn_2 : decode cX3_goOn 2 = .ok (.ior, 1) := by decide +kernel
theorem dX3_goOn_3 : decode cX3_goOn 3 = .ok (.ifCond .eq 63, 3) := by decide +kernel
theorem dX3_goOn_6 : decode cX3_goOn 6 = .ok (.iload 4, 2) := by decide +kernel
theorem dX3_goOn_8 : decode cX3_goOn 8 = .ok (.iconst 4, 1) := by decide +kernel
theorem dX3_goOn_9 : decode cX3_goOn 9 = .ok (.if_icmp .ge 57, 3) := by decide +kernel
theorem dX3_goOn_12 : decode cX3_goOn 12 = .ok (.aload_n 0, 1) := by decide +kernel
theorem dX3_goOn_13 : decode cX3_goOn 13 = .ok (.getfield 21, 3) := by decide +kernel
theorem dX3_goOn_16 : decode cX3_goOn 16 = .ok (.getfield 139, 3) := by decide +kernel
theorem dX3_goOn_19 : decode cX3_goOn 19 = .ok (.ifCond .ne 47, 3) := by decide +kernel
theorem dX3_goOn_22 : decode cX3_goOn 22 = .ok (.aload_n 0, 1) := by decide +kernel
theorem dX3_goOn_23 : decode cX3_goOn 23 = .ok (.getfield 32, 3) := by decide +kernel
theorem dX3_goOn_26 : decode cX3_goOn 26 = .ok (.iconst 2, 1) := by decide +kernel
theorem dX3_goOn_27 : decode cX3_goOn 27 = .ok (.dup2, 1) := by decide +kernel
theorem dX3_goOn_28 : decode cX3_goOn 28 = .ok (.iaload, 1) := by decide +kernel
theorem dX3_goOn_29 : decode cX3_goOn 29 = .ok (.iload_n 2, 1) := by decide +kernel
theorem dX3_goOn_30 : decode cX3_goOn 30 = .ok (.invokestatic 111, 3) := by decide +kernel
theorem dX3_goOn_33 : decode cX3_goOn 33 = .ok (.iload_n 3, 1) := by decide +kernel
theorem dX3_goOn_34 : decode cX3_goOn 34 = .ok (.invokestatic 111, 3) := by decide +kernel
theorem dX3_goOn_37 : decode cX3_goOn 37 = .ok (.iadd, 1) := by decide +kernel
theorem dX3_goOn_38 : decode cX3_goOn 38 = .ok (.iadd, 1) := by decide +kernel
theorem dX3_goOn_39 : decode cX3_goOn 39 = .ok (.iastore, 1) := by decide +kernel
theorem dX3_goOn_40 : decode cX3_goOn 40 = .ok (.aload_n 0, 1) := by decide +kernel
theorem dX3_goOn_41 : decode cX3_goOn 41 = .ok (.iload_n 1, 1) := by decide +kernel
theorem dX3_goOn_42 : decode cX3_goOn 42 = .ok (.ifCond .ne 7, 3) := by decide +kernel
theorem dX3_goOn_45 : decode cX3_goOn 45 = .ok (.iload_n 2, 1) := by decide +kernel
theorem dX3_goOn_46 : decode cX3_goOn 46 = .ok (.goto 4, 3) := by decide +kernel
theorem dX3_goOn_49 : decode cX3_goOn 49 = .ok (.iload_n 3, 1) := by decide +kernel
theorem dX3_goOn_50 : decode cX3_goOn 50 = .ok (.iload_n 1, 1) := by decide +kernel
theorem dX3_goOn_51 : decode cX3_goOn 51 = .ok (.ifCond .ne 7, 3) := by decide +kernel
theorem dX3_goOn_54 : decode cX3_goOn 54 = .ok (.iload_n 3, 1) := by decide +kernel
theorem dX3_goOn_55 : decode cX3_goOn 55 = .ok (.goto 4, 3) := by decide +kernel
theorem dX3_goOn_58 : decode cX3_goOn 58 = .ok (.iload_n 2, 1) := by decide +kernel
theorem dX3_goOn_59 : decode cX3_goOn 59 = .ok (.iload 4, 2) := by decide +kernel
theorem dX3_goOn_61 : decode cX3_goOn 61 = .ok (.iconst 1, 1) := by decide +kernel
theorem dX3_goOn_62 : decode cX3_goOn 62 = .ok (.iadd, 1) := by decide +kernel
theorem dX3_goOn_63 : decode cX3_goOn 63 = .ok (.invokevirtual 66, 3) := by decide +kernel
theorem dX3_goOn_66 : decode cX3_goOn 66 = .ok (.return_, 1) := by decide +kernel
theorem dX3_noteHeld_0 : decode cX3_noteHeld 0 = .ok (.aload_n 0, 1) := by decide +kernel
theorem dX3_noteHeld_1 : decode cX3_noteHeld 1 = .ok (.getfield 32, 3) := by decide +kernel
theorem dX3_noteHeld_4 : decode cX3_noteHeld 4 = .ok (.iconst 3, 1) := by decide +kernel
theorem dX3_noteHeld_5 : decode cX3_noteHeld 5 = .ok (.aload_n 0, 1) := by decide +kernel
theorem dX3_noteHeld_6 : decode cX3_noteHeld 6 = .ok (.getfield 32, 3) := by decide +kernel
theorem dX3_noteHeld_9 : decode cX3_noteHeld 9 = .ok (.iconst 3, 1) := by decide +kernel
theorem dX3_noteHeld_10 : decode cX3_noteHeld 10 = .ok (.iaload, 1) := by decide +kernel
theorem dX3_noteHeld_11 : decode cX3_noteHeld 11 = .ok (.iload_n 1, 1) := by decide +kernel
theorem dX3_noteHeld_12 : decode cX3_noteHeld 12 = .ok (.invokestatic 111, 3) := by decide +kernel
theorem dX3_noteHeld_15 : decode cX3_noteHeld 15 = .ok (.invokestatic 128, 3) := by decide +kernel
theorem dX3_noteHeld_18 : decode cX3_noteHeld 18 = .ok (.iastore, 1) := by decide +kernel
theorem dX3_noteHeld_19 : decode cX3_noteHeld 19 = .ok (.return_, 1) := by decide +kernel
theorem dX3_meetAll_0 : decode cX3_meetAll 0 = .ok (.iload_n 2, 1) := by decide +kernel
theorem dX3_meetAll_1 : decode cX3_meetAll 1 = .ok (.aload_n 0, 1) := by decide +kernel
theorem dX3_meetAll_2 : decode cX3_meetAll 2 = .ok (.getfield 12, 3) := by decide +kernel
theorem dX3_meetAll_5 : decode cX3_meetAll 5 = .ok (.iload_n 1, 1) := by decide +kernel
theorem dX3_meetAll_6 : decode cX3_meetAll 6 = .ok (.invokestatic 136, 3) := by decide +kernel
theorem dX3_meetAll_9 : decode cX3_meetAll 9 = .ok (.iload_n 3, 1) := by decide +kernel
theorem dX3_meetAll_10 : decode cX3_meetAll 10 = .ok (.invokevirtual 165, 3) := by decide +kernel
theorem dX3_meetAll_13 : decode cX3_meetAll 13 = .ok (.iand, 1) := by decide +kernel
theorem dX3_meetAll_14 : decode cX3_meetAll 14 = .ok (.istore 4, 2) := by decide +kernel
theorem dX3_meetAll_16 : decode cX3_meetAll 16 = .ok (.iconst 0, 1) := by decide +kernel
theorem dX3_meetAll_17 : decode cX3_meetAll 17 = .ok (.istore 5, 2) := by decide +kernel
theorem dX3_meetAll_19 : decode cX3_meetAll 19 = .ok (.iload 5, 2) := by decide +kernel
theorem dX3_meetAll_21 : decode cX3_meetAll 21 = .ok (.bipush 14, 2) := by decide +kernel
theorem dX3_meetAll_23 : decode cX3_meetAll 23 = .ok (.if_icmp .ge 53, 3) := by decide +kernel
theorem dX3_meetAll_26 : decode cX3_meetAll 26 = .ok (.aload_n 0, 1) := by decide +kernel
theorem dX3_meetAll_27 : decode cX3_meetAll 27 = .ok (.getfield 21, 3) := by decide +kernel
theorem dX3_meetAll_30 : decode cX3_meetAll 30 = .ok (.getfield 139, 3) := by decide +kernel
theorem dX3_meetAll_33 : decode cX3_meetAll 33 = .ok (.ifCond .ne 43, 3) := by decide +kernel
theorem dX3_meetAll_36 : decode cX3_meetAll 36 = .ok (.iload 4, 2) := by decide +kernel
theorem dX3_meetAll_38 : decode cX3_meetAll 38 = .ok (.iload 5, 2) := by decide +kernel
theorem dX3_meetAll_40 : decode cX3_meetAll 40 = .ok (.invokestatic 143, 3) := by decide +kernel
theorem dX3_meetAll_43 : decode cX3_meetAll 43 = .ok (.ifCond .eq 27, 3) := by decide +kernel
theorem dX3_meetAll_46 : decode cX3_meetAll 46 = .ok (.aload_n 0, 1) := by decide +kernel
theorem dX3_meetAll_47 : decode cX3_meetAll 47 = .ok (.iload_n 1, 1) := by decide +kernel
theorem dX3_meetAll_48 : decode cX3_meetAll 48 = .ok (.ifCond .ne 8, 3) := by decide +kernel
theorem dX3_meetAll_51 : decode cX3_meetAll 51 = .ok (.iload 5, 2) := by decide +kernel
theorem dX3_meetAll_53 : decode cX3_meetAll 53 = .ok (.goto 4, 3) := by decide +kernel
theorem dX3_meetAll_56 : decode cX3_meetAll 56 = .ok (.iload_n 3, 1) := by decide +kernel
theorem dX3_meetAll_57 : decode cX3_meetAll 57 = .ok (.iload_n 1, 1) := by decide +kernel
theorem dX3_meetAll_58 : decode cX3_meetAll 58 = .ok (.ifCond .ne 7, 3) := by decide +kernel
theorem dX3_meetAll_61 : decode cX3_meetAll 61 = .ok (.iload_n 3, 1) := by decide +kernel
theorem dX3_meetAll_62 : decode cX3_meetAll 62 = .ok (.goto 5, 3) := by decide +kernel
theorem dX3_meetAll_65 : decode cX3_meetAll 65 = .ok (.iload 5, 2) := by decide +kernel
theorem dX3_meetAll_67 : decode cX3_meetAll 67 = .ok (.invokevirtual 168, 3) := by decide +kernel
theorem dX3_meetAll_70 : decode cX3_meetAll 70 = .ok (.iinc 5 1, 3) := by decide +kernel
theorem dX3_meetAll_73 : decode cX3_meetAll 73 = .ok (.goto (-54), 3) := by decide +kernel
theorem dX3_meetAll_76 : decode cX3_meetAll 76 = .ok (.return_, 1) := by decide +kernel
theorem dX3_meet_0 : decode cX3_meet 0 = .ok (.aload_n 0, 1) := by decide +kernel
theorem dX3_meet_1 : decode cX3_meet 1 = .ok (.getfield 12, 3) := by decide +kernel
theorem dX3_meet_4 : decode cX3_meet 4 = .ok (.getfield 171, 3) := by decide +kernel
theorem dX3_meet_7 : decode cX3_meet 7 = .ok (.iconst 0, 1) := by decide +kernel
theorem dX3_meet_8 : decode cX3_meet 8 = .ok (.invokestatic 174, 3) := by decide +kernel
theorem dX3_meet_11 : decode cX3_meet 11 = .ok (.ifCond .eq 15, 3) := by decide +kernel
theorem dX3_meet_14 : decode cX3_meet 14 = .ok (.aload_n 0, 1) := by decide +kernel
theorem dX3_meet_15 : decode cX3_meet 15 = .ok (.getfield 21, 3) := by decide +kernel
theorem dX3_meet_18 : decode cX3_meet 18 = .ok (.iload_n 1, 1) := by decide +kernel
theorem dX3_meet_19 : decode cX3_meet 19 = .ok (.iload_n 2, 1) := by decide +kernel
theorem dX3_meet_20 : decode cX3_meet 20 = .ok (.invokevirtual 177, 3) := by decide +kernel
theorem dX3_meet_23 : decode cX3_meet 23 = .ok (.goto 49, 3) := by decide +kernel
theorem dX3_meet_26 : decode cX3_meet 26 = .ok (.aload_n 0, 1) := by decide +kernel
theorem dX3_meet_27 : decode cX3_meet 27 = .ok (.getfield 12, 3) := by decide +kernel
theorem dX3_meet_30 : decode cX3_meet 30 = .ok (.getfield 171, 3) := by decide +kernel
theorem dX3_meet_33 : decode cX3_meet 33 = .ok (.iconst 3, 1) := by decide +kernel
theorem dX3_meet_34 : decode cX3_meet 34 = .ok (.invokestatic 174, 3) := by decide +kernel
theorem dX3_meet_37 : decode cX3_meet 37 = .ok (.ifCond .eq 35, 3) := by decide +kernel
theorem dX3_meet_40 : decode cX3_meet 40 = .ok (.aload_n 0, 1) := by decide +kernel
theorem dX3_meet_41 : decode cX3_meet 41 = .ok (.getfield 48, 3) := by decide +kernel
theorem dX3_meet_44 : decode cX3_meet 44 = .ok (.iload_n 1, 1) := by decide +kernel
theorem dX3_meet_45 : decode cX3_meet 45 = .ok (.invokestatic 143, 3) := by decide +kernel
theorem dX3_meet_48 : decode cX3_meet 48 = .ok (.ifCond .ne 24, 3) := by decide +kernel
theorem dX3_meet_51 : decode cX3_meet 51 = .ok (.aload_n 0, 1) := by decide +kernel
theorem dX3_meet_52 : decode cX3_meet 52 = .ok (.dup, 1) := by decide +kernel
theorem dX3_meet_53 : decode cX3_meet 53 = .ok (.getfield 48, 3) := by decide +kernel
theorem dX3_meet_56 : decode cX3_meet 56 = .ok (.iconst 1, 1) := by decide +kernel
theorem dX3_meet_57 : decode cX3_meet 57 = .ok (.iload_n 1, 1) := by decide +kernel
theorem dX3_meet_58 : decode cX3_meet 58 = .ok (.ishl, 1) := by decide +kernel
theorem dX3_meet_59 : decode cX3_meet 59 = .ok (.ior, 1) := by decide +kernel
theorem dX3_meet_60 : decode cX3_meet 60 = .ok (.putfield 48, 3) := by decide +kernel
theorem dX3_meet_63 : decode cX3_meet 63 = .ok (.aload_n 0, 1) := by decide +kernel
theorem dX3_meet_64 : decode cX3_meet 64 = .ok (.getfield 21, 3) := by decide +kernel
theorem dX3_meet_67 : decode cX3_meet 67 = .ok (.iload_n 1, 1) := by decide +kernel
theorem dX3_meet_68 : decode cX3_meet 68 = .ok (.iconst (-1), 1) := by decide +kernel
theorem dX3_meet_69 : decode cX3_meet 69 = .ok (.invokevirtual 177, 3) := by decide +kernel
theorem dX3_meet_72 : decode cX3_meet 72 = .ok (.return_, 1) := by decide +kernel
theorem dX3_comeOutAlone_0 : decode cX3_comeOutAlone 0 = .ok (.aload_n 0, 1) := by decide +kernel
theorem dX3_comeOutAlone_1 : decode cX3_comeOutAlone 1 = .ok (.getfield 12, 3) := by decide +kernel
theorem dX3_comeOutAlone_4 : decode cX3_comeOutAlone 4 = .ok (.getfield 171, 3) := by decide +kernel
theorem dX3_comeOutAlone_7 : decode cX3_comeOutAlone 7 = .ok (.iload_n 1, 1) := by decide +kernel
theorem dX3_comeOutAlone_8 : decode cX3_comeOutAlone 8 = .ok (.ifCond .ne 7, 3) := by decide +kernel
theorem dX3_comeOutAlone_11 : decode cX3_comeOutAlone 11 = .ok (.iconst 1, 1) := by decide +kernel
theorem dX3_comeOutAlone_12 : decode cX3_comeOutAlone 12 = .ok (.goto 4, 3) := by decide +kernel
theorem dX3_comeOutAlone_15 : decode cX3_comeOutAlone 15 = .ok (.iconst 2, 1) := by decide +kernel
theorem dX3_comeOutAlone_16 : decode cX3_comeOutAlone 16 = .ok (.invokestatic 174, 3) := by decide +kernel
theorem dX3_comeOutAlone_19 : decode cX3_comeOutAlone 19 = .ok (.ifCond .ne 4, 3) := by decide +kernel
theorem dX3_comeOutAlone_22 : decode cX3_comeOutAlone 22 = .ok (.return_, 1) := by decide +kernel
theorem dX3_comeOutAlone_23 : decode cX3_comeOutAlone 23 = .ok (.iconst 0, 1) := by decide +kernel
theorem dX3_comeOutAlone_24 : decode cX3_comeOutAlone 24 = .ok (.istore_n 3, 1) := by decide +kernel
theorem dX3_comeOutAlone_25 : decode cX3_comeOutAlone 25 = .ok (.iload_n 3, 1) := by decide +kernel
theorem dX3_comeOutAlone_26 : decode cX3_comeOutAlone 26 = .ok (.bipush 14, 2) := by decide +kernel
theorem dX3_comeOutAlone_28 : decode cX3_comeOutAlone 28 = .ok (.if_icmp .ge 64, 3) := by decide +kernel
theorem dX3_comeOutAlone_31 : decode cX3_comeOutAlone 31 = .ok (.aload_n 0, 1) := by decide +kernel
theorem dX3_comeOutAlone_32 : decode cX3_comeOutAlone 32 = .ok (.getfield 21, 3) := by decide +kernel
theorem dX3_comeOutAlone_35 : decode cX3_comeOutAlone 35 = .ok (.getfield 139, 3) := by decide +kernel
theorem dX3_comeOutAlone_38 : decode cX3_comeOutAlone 38 = .ok (.ifCond .ne 54, 3) := by decide +kernel
theorem dX3_comeOutAlone_41 : decode cX3_comeOutAlone 41 = .ok (.iload_n 2, 1) := by decide +kernel
theorem dX3_comeOutAlone_42 : decode cX3_comeOutAlone 42 = .ok (.iload_n 3, 1) := by decide +kernel
theorem dX3_comeOutAlone_43 : decode cX3_comeOutAlone 43 = .ok (.invokestatic 143, 3) := by decide +kernel
theorem dX3_comeOutAlone_46 : decode cX3_comeOutAlone 46 = .ok (.ifCond .eq 40, 3) := by decide +kernel
theorem dX3_comeOutAlone_49 : decode cX3_comeOutAlone 49 = .ok (.aload_n 0, 1) := by decide +kernel
theorem dX3_comeOutAlone_50 : decode cX3_comeOutAlone 50 = .ok (.getfield 12, 3) := by decide +kernel
theorem dX3_comeOutAlone_53 : decode cX3_comeOutAlone 53 = .ok (.iload_n 1, 1) := by decide +kernel
theorem dX3_comeOutAlone_54 : decode cX3_comeOutAlone 54 = .ok (.iload_n 3, 1) := by decide +kernel
theorem dX3_comeOutAlone_55 : decode cX3_comeOutAlone 55 = .ok (.invokevirtual 165, 3) := by decide +kernel
theorem dX3_comeOutAlone_58 : decode cX3_comeOutAlone 58 = .ok (.ifCond .ne 28, 3) := by decide +kernel
theorem dX3_comeOutAlone_61 : decode cX3_comeOutAlone 61 = .ok (.aload_n 0, 1) := by decide +kernel
theorem dX3_comeOutAlone_62 : decode cX3_comeOutAlone 62 = .ok (.getfield 21, 3) := by decide +kernel
theorem dX3_comeOutAlone_65 : decode cX3_comeOutAlone 65 = .ok (.iload_n 1, 1) := by decide +kernel
theorem dX3_comeOutAlone_66 : decode cX3_comeOutAlone 66 = .ok (.ifCond .ne 7, 3) := by decide +kernel
theorem dX3_comeOutAlone_69 : decode cX3_comeOutAlone 69 = .ok (.iload_n 3, 1) := by decide +kernel
theorem dX3_comeOutAlone_70 : decode cX3_comeOutAlone 70 = .ok (.goto 4, 3) := by decide +kernel
theorem dX3_comeOutAlone_73 : decode cX3_comeOutAlone 73 = .ok (.iconst (-1), 1) := by decide +kernel
theorem dX3_comeOutAlone_74 : decode cX3_comeOutAlone 74 = .ok (.iload_n 1, 1) := by decide +kernel
theorem dX3_comeOutAlone_75 : decode cX3_comeOutAlone 75 = .ok (.ifCond .ne 7, 3) := by decide +kernel
theorem dX3_comeOutAlone_78 : decode cX3_comeOutAlone 78 = .ok (.iconst (-1), 1) := by decide +kernel
theorem dX3_comeOutAlone_79 : decode cX3_comeOutAlone 79 = .ok (.goto 4, 3) := by decide +kernel
theorem dX3_comeOutAlone_82 : decode cX3_comeOutAlone 82 = .ok (.iload_n 3, 1) := by decide +kernel
theorem dX3_comeOutAlone_83 : decode cX3_comeOutAlone 83 = .ok (.invokevirtual 177, 3) := by decide +kernel
theorem dX3_comeOutAlone_86 : decode cX3_comeOutAlone 86 = .ok (.iinc 3 1, 3) := by decide +kernel
theorem dX3_comeOutAlone_89 : decode cX3_comeOutAlone 89 = .ok (.goto (-64), 3) := by decide +kernel
theorem dX3_comeOutAlone_92 : decode cX3_comeOutAlone 92 = .ok (.return_, 1) := by decide +kernel
theorem dX4_init_0 : decode cX4_init 0 = .ok (.aload_n 0, 1) := by decide +kernel
theorem dX4_init_1 : decode cX4_init 1 = .ok (.invokespecial 3, 3) := by decide +kernel
theorem dX4_init_4 : decode cX4_init 4 = .ok (.aload_n 0, 1) := by decide +kernel
theorem dX4_init_5 : decode cX4_init 5 = .ok (.bipush 31, 2) := by decide +kernel
theorem dX4_init_7 : decode cX4_init 7 = .ok (.putfield 11, 3) := by decide +kernel
theorem dX4_init_10 : decode cX4_init 10 = .ok (.return_, 1) := by decide +kernel
theorem dX4_clear_0 : decode cX4_clear 0 = .ok (.aload_n 0, 1) := by decide +kernel
theorem dX4_clear_1 : decode cX4_clear 1 = .ok (.iconst 0, 1) := by decide +kernel
theorem dX4_clear_2 : decode cX4_clear 2 = .ok (.putfield 15, 3) := by decide +kernel
theorem dX4_clear_5 : decode cX4_clear 5 = .ok (.aload_n 0, 1) := by decide +kernel
theorem dX4_clear_6 : decode cX4_clear 6 = .ok (.bipush 31, 2) := by decide +kernel
theorem dX4_clear_8 : decode cX4_clear 8 = .ok (.putfield 11, 3) := by decide +kernel
theorem dX4_clear_11 : decode cX4_clear 11 = .ok (.return_, 1) := by decide +kernel
theorem dX4_add_0 : decode cX4_add 0 = .ok (.iload_n 1, 1) := by decide +kernel
theorem dX4_add_1 : decode cX4_add 1 = .ok (.invokestatic 18, 3) := by decide +kernel
theorem dX4_add_4 : decode cX4_add 4 = .ok (.istore_n 3, 1) := by decide +kernel
theorem dX4_add_5 : decode cX4_add 5 = .ok (.aload_n 0, 1) := by decide +kernel
theorem dX4_add_6 : decode cX4_add 6 = .ok (.dup, 1) := by decide +kernel
theorem dX4_add_7 : decode cX4_add 7 = .ok (.getfield 11, 3) := by decide +kernel
theorem dX4_add_10 : decode cX4_add 10 = .ok (.iload_n 2, 1) := by decide +kernel
theorem dX4_add_11 : decode cX4_add 11 = .ok (.ifCond .eq 7, 3) := by decide +kernel
theorem dX4_add_14 : decode cX4_add 14 = .ok (.iload_n 3, 1) := by decide +kernel
theorem dX4_add_15 : decode cX4_add 15 = .ok (.goto 6, 3) := by decide +kernel
theorem dX4_add_18 : decode cX4_add 18 = .ok (.iload_n 3, 1) := by decide +kernel
theorem dX4_add_19 : decode cX4_add 19 = .ok (.iconst (-1), 1) := by decide +kernel
theorem dX4_add_20 : decode cX4_add 20 = .ok (.ixor, 1) := by decide +kernel
theorem dX4_add_21 : decode cX4_add 21 = .ok (.iand, 1) := by decide +kernel
theorem dX4_add_22 : decode cX4_add 22 = .ok (.putfield 11, 3) := by decide +kernel
theorem dX4_add_25 : decode cX4_add 25 = .ok (.aload_n 0, 1) := by decide +kernel
theorem dX4_add_26 : decode cX4_add 26 = .ok (.dup, 1) := by decide +kernel
theorem dX4_add_27 : decode cX4_add 27 = .ok (.getfield 15, 3) := by decide +kernel
theorem dX4_add_30 : decode cX4_add 30 = .ok (.iconst 1, 1) := by decide +kernel
theorem dX4_add_31 : decode cX4_add 31 = .ok (.iadd, 1) := by decide +kernel
theorem dX4_add_32 : decode cX4_add 32 = .ok (.putfield 15, 3) := by decide +kernel
theorem dX4_add_35 : decode cX4_add 35 = .ok (.return_, 1) := by decide +kernel
theorem dX4_copy_0 : decode cX4_copy 0 = .ok (.aload_n 0, 1) := by decide +kernel
theorem dX4_copy_1 : decode cX4_copy 1 = .ok (.aload_n 1, 1) := by decide +kernel
theorem dX4_copy_2 : decode cX4_copy 2 = .ok (.getfield 15, 3) := by decide +kernel
theorem dX4_copy_5 : decode cX4_copy 5 = .ok (.putfield 15, 3) := by decide +kernel
theorem dX4_copy_8 : decode cX4_copy 8 = .ok (.aload_n 0, 1) := by decide +kernel
theorem dX4_copy_9 : decode cX4_copy 9 = .ok (.aload_n 1, 1) := by decide +kernel
theorem dX4_copy_10 : decode cX4_copy 10 = .ok (.getfield 11, 3) := by decide +kernel
theorem dX4_copy_13 : decode cX4_copy 13 = .ok (.putfield 11, 3) := by decide +kernel
theorem dX4_copy_16 : decode cX4_copy 16 = .ok (.return_, 1) := by decide +kernel
theorem dX4_bestQuestion_0 : decode cX4_bestQuestion 0 = .ok (.iconst (-1), 1) := by decide +kernel
theorem dX4_bestQuestion_1 : decode cX4_bestQuestion 1 = .ok (.istore_n 1, 1) := by decide +kernel
theorem dX4_bestQuestion_2 : decode cX4_bestQuestion 2 = .ok (.aload_n 0, 1) := by decide +kernel
theorem dX4_bestQuestion_3 : decode cX4_bestQuestion 3 = .ok (.getfield 11, 3) := by decide +kernel
theorem dX4_bestQuestion_6 : decode cX4_bestQuestion 6 = .ok (.invokestatic 22, 3) := by decide +kernel
theorem dX4_bestQuestion_9 : decode cX4_bestQuestion 9 = .ok (.istore_n 2, 1) := by decide +kernel
theorem dX4_bestQuestion_10 : decode cX4_bestQuestion 10 = .ok (.bipush 6, 2) := by decide +kernel
theorem dX4_bestQuestion_12 : decode cX4_bestQuestion 12 = .ok (.istore_n 3, 1) := by decide +kernel
theorem dX4_bestQuestion_13 : decode cX4_bestQuestion 13 = .ok (.iconst 0, 1) := by decide +kernel
theorem dX4_bestQuestion_14 : decode cX4_bestQuestion 14 = .ok (.istore 4, 2) := by decide +kernel
theorem dX4_bestQuestion_16 : decode cX4_bestQuestion 16 = .ok (.iload 4, 2) := by decide +kernel
theorem dX4_bestQuestion_18 : decode cX4_bestQuestion 18 = .ok (.iconst 4, 1) := by decide +kernel
theorem dX4_bestQuestion_19 : decode cX4_bestQuestion 19 = .ok (.if_icmp .ge 51, 3) := by decide +kernel
theorem dX4_bestQuestion_22 : decode cX4_bestQuestion 22 = .ok (.iload_n 2, 1) := by decide +kernel
theorem dX4_bestQuestion_23 : decode cX4_bestQuestion 23 = .ok (.ifCond .le 47, 3) := by decide +kernel
theorem dX4_bestQuestion_26 : decode cX4_bestQuestion 26 = .ok (.aload_n 0, 1) := by decide +kernel
theorem dX4_bestQuestion_27 : decode cX4_bestQuestion 27 = .ok (.getfield 11, 3) := by decide +kernel
theorem dX4_bestQuestion_30 : decode cX4_bestQuestion 30 = .ok (.iload 4, 2) := by decide +kernel
theorem dX4_bestQuestion_32 : decode cX4_bestQuestion 32 = .ok (.invokestatic 18, 3) := by decide +kernel
theorem dX4_bestQuestion_35 : decode cX4_bestQuestion 35 = .ok (.iand, 1) := by decide +kernel
theorem dX4_bestQuestion_36 : decode cX4_bestQuestion 36 = .ok (.invokestatic 22, 3) := by decide +kernel
theorem dX4_bestQuestion_39 : decode cX4_bestQuestion 39 = .ok (.istore 5, 2) := by decide +kernel
theorem dX4_bestQuestion_41 : decode cX4_bestQuestion 41 = .ok (.iload 5, 2) := by decide +kernel
theorem dX4_bestQuestion_43 : decode cX4_bestQuestion 43 = .ok (.iload_n 2, 1) := by decide +kernel
theorem dX4_bestQuestion_44 : decode cX4_bestQuestion 44 = .ok (.iload 5, 2) := by decide +kernel
theorem dX4_bestQuestion_46 : decode cX4_bestQuestion 46 = .ok (.isub, 1) := by decide +kernel
theorem dX4_bestQuestion_47 : decode cX4_bestQuestion 47 = .ok (.invokestatic 27, 3) := by decide +kernel
theorem dX4_bestQuestion_50 : decode cX4_bestQuestion 50 = .ok (.istore 6, 2) := by decide +kernel
theorem dX4_bestQuestion_52 : decode cX4_bestQuestion 52 = .ok (.iload 6, 2) := by decide +kernel
theorem dX4_bestQuestion_54 : decode cX4_bestQuestion 54 = .ok (.iload_n 3, 1) := by decide +kernel
theorem dX4_bestQuestion_55 : decode cX4_bestQuestion 55 = .ok (.if_icmp .ge 9, 3) := by decide +kernel
theorem dX4_bestQuestion_58 : decode cX4_bestQuestion 58 = .ok (.iload 6, 2) := by decide +kernel
theorem dX4_bestQuestion_60 : decode cX4_bestQuestion 60 = .ok (.istore_n 3, 1) := by decide +kernel
theorem dX4_bestQuestion_61 : decode cX4_bestQuestion 61 = .ok (.iload 4, 2) := by decide +kernel
theorem dX4_bestQuestion_63 : decode cX4_bestQuestion 63 = .ok (.istore_n 1, 1) := by decide +kernel
theorem dX4_bestQuestion_64 : decode cX4_bestQuestion 64 = .ok (.iinc 4 1, 3) := by decide +kernel
theorem dX4_bestQuestion_67 : decode cX4_bestQuestion 67 = .ok (.goto (-51), 3) := by decide +kernel
theorem dX4_bestQuestion_70 : decode cX4_bestQuestion 70 = .ok (.iload_n 1, 1) := by decide +kernel
theorem dX4_bestQuestion_71 : decode cX4_bestQuestion 71 = .ok (.ireturn, 1) := by decide +kernel
theorem dX4_kindsThatLetOut_0 : decode cX4_kindsThatLetOut 0 = .ok (.iconst 0, 1) := by decide +kernel
theorem dX4_kindsThatLetOut_1 : decode cX4_kindsThatLetOut 1 = .ok (.istore_n 1, 1) := by decide +kernel
theorem dX4_kindsThatLetOut_2 : decode cX4_kindsThatLetOut 2 = .ok (.iconst 0, 1) := by decide +kernel
theorem dX4_kindsThatLetOut_3 : decode cX4_kindsThatLetOut 3 = .ok (.istore_n 2, 1) := by decide +kernel
theorem dX4_kindsThatLetOut_4 : decode cX4_kindsThatLetOut 4 = .ok (.iload_n 2, 1) := by decide +kernel
theorem dX4_kindsThatLetOut_5 : decode cX4_kindsThatLetOut 5 = .ok (.iconst 5, 1) := by decide +kernel
theorem dX4_kindsThatLetOut_6 : decode cX4_kindsThatLetOut 6 = .ok (.if_icmp .ge 23, 3) := by decide +kernel
theorem dX4_kindsThatLetOut_9 : decode cX4_kindsThatLetOut 9 = .ok (.iload_n 2, 1) := by decide +kernel
theorem dX4_kindsThatLetOut_10 : decode cX4_kindsThatLetOut 10 = .ok (.iload_n 0, 1) := by decide +kernel
theorem dX4_kindsThatLetOut_11 : decode cX4_kindsThatLetOut 11 = .ok (.invokestatic 33, 3) := by decide +kernel
theorem dX4_kindsThatLetOut_14 : decode cX4_kindsThatLetOut 14 = .ok (.ifCond .eq 9, 3) := by decide +kernel
theorem dX4_kindsThatLetOut_17 : decode cX4_kindsThatLetOut 17 = .ok (.iload_n 1, 1) := by decide +kernel
theorem dX4_kindsThatLetOut_18 : decode cX4_kindsThatLetOut 18 = .ok (.iconst 1, 1) := by decide +kernel
theorem dX4_kindsThatLetOut_19 : decode cX4_kindsThatLetOut 19 = .ok (.iload_n 2, 1) := by decide +kernel
theorem dX4_kindsThatLetOut_20 : decode cX4_kindsThatLetOut 20 = .ok (.ishl, 1) := by decide +kernel
theorem dX4_kindsThatLetOut_21 : decode cX4_kindsThatLetOut 21 = .ok (.ior, 1) := by decide +kernel
theorem dX4_kindsThatLetOut_22 : decode cX4_kindsThatLetOut 22 = .ok (.istore_n 1, 1) := by decide +kernel
theorem dX4_kindsThatLetOut_23 : decode cX4_kindsThatLetOut 23 = .ok (.iinc 2 1, 3) := by decide +kernel
theorem dX4_kindsThatLetOut_26 : decode cX4_kindsThatLetOut 26 = .ok (.goto (-22), 3) := by decide +kernel
theorem dX4_kindsThatLetOut_29 : decode cX4_kindsThatLetOut 29 = .ok (.iload_n 1, 1) := by decide +kernel
theorem dX4_kindsThatLetOut_30 : decode cX4_kindsThatLetOut 30 = .ok (.ireturn, 1) := by decide +kernel
theorem dX5_init_0 : decode cX5_init 0 = .ok (.aload_n 0, 1) := by decide +kernel
theorem dX5_init_1 : decode cX5_init 1 = .ok (.invokespecial 3, 3) := by decide +kernel
theorem dX5_init_4 : decode cX5_init 4 = .ok (.aload_n 0, 1) := by decide +kernel
theorem dX5_init_5 : decode cX5_init 5 = .ok (.bipush 14, 2) := by decide +kernel
theorem dX5_init_7 : decode cX5_init 7 = .ok (.newarray .int, 2) := by decide +kernel
theorem dX5_init_9 : decode cX5_init 9 = .ok (.putfield 9, 3) := by decide +kernel
theorem dX5_init_12 : decode cX5_init 12 = .ok (.return_, 1) := by decide +kernel
theorem dX5_has_0 : decode cX5_has 0 = .ok (.iload_n 1, 1) := by decide +kernel
theorem dX5_has_1 : decode cX5_has 1 = .ok (.ifCond .lt 21, 3) := by decide +kernel
theorem dX5_has_4 : decode cX5_has 4 = .ok (.iload_n 1, 1) := by decide +kernel
theorem dX5_has_5 : decode cX5_has 5 = .ok (.aload_n 0, 1) := by decide +kernel
theorem dX5_has_6 : decode cX5_has 6 = .ok (.getfield 15, 3) := by decide +kernel
theorem dX5_has_9 : decode cX5_has 9 = .ok (.if_icmp .ge 13, 3) := by decide +kernel
theorem dX5_has_12 : decode cX5_has 12 = .ok (.iload_n 1, 1) := by decide +kernel
theorem dX5_has_13 : decode cX5_has 13 = .ok (.bipush 14, 2) := by decide +kernel
theorem dX5_has_15 : decode cX5_has 15 = .ok (.if_icmp .ge 7, 3) := by decide +kernel
theorem dX5_has_18 : decode cX5_has 18 = .ok (.iconst 1, 1) := by decide +kernel
theorem dX5_has_19 : decode cX5_has 19 = .ok (.goto 4, 3) := by decide +kernel
theorem dX5_has_22 : decode cX5_has 22 = .ok (.iconst 0, 1) := by decide +kernel
theorem dX5_has_23 : decode cX5_has 23 = .ok (.ireturn, 1) := by decide +kernel
theorem dX5_keyAt_0 : decode cX5_keyAt 0 = .ok (.iload_n 1, 1) := by decide +kernel
theorem dX5_keyAt_1 : decode cX5_keyAt 1 = .ok (.ifCond .lt 26, 3) := by decide +kernel
theorem dX5_keyAt_4 : decode cX5_keyAt 4 = .ok (.iload_n 1, 1) := by decide +kernel
theorem dX5_keyAt_5 : decode cX5_keyAt 5 = .ok (.aload_n 0, 1) := by decide +kernel
theorem dX5_keyAt_6 : decode cX5_keyAt 6 = .ok (.getfield 15, 3) := by decide +kernel
theorem dX5_keyAt_9 : decode cX5_keyAt 9 = .ok (.if_icmp .ge 18, 3) := by decide +kernel
theorem dX5_keyAt_12 : decode cX5_keyAt 12 = .ok (.iload_n 1, 1) := by decide +kernel
theorem dX5_keyAt_13 : decode cX5_keyAt 13 = .ok (.bipush 14, 2) := by decide +kernel
theorem dX5_keyAt_15 : decode cX5_keyAt 15 = .ok (.if_icmp .ge 12, 3) := by decide +kernel
theorem dX5_keyAt_18 : decode cX5_keyAt 18 = .ok (.aload_n 0, 1) := by decide +kernel
theorem dX5_keyAt_19 : decode cX5_keyAt 19 = .ok (.getfield 9, 3) := by decide +kernel
theorem dX5_keyAt_22 : decode cX5_keyAt 22 = .ok (.iload_n 1, 1) := by decide +kernel
theorem dX5_keyAt_23 : decode cX5_keyAt 23 = .ok (.iaload, 1) := by decide +kernel
theorem dX5_keyAt_24 : decode cX5_keyAt 24 = .ok (.goto 4, 3) := by decide +kernel
theorem dX5_keyAt_27 : decode cX5_keyAt 27 = .ok (.iconst (-1), 1) := by decide +kernel
theorem dX5_keyAt_28 : decode cX5_keyAt 28 = .ok (.ireturn, 1) := by decide +kernel
theorem dX5_clear_0 : decode cX5_clear 0 = .ok (.aload_n 0, 1) := by decide +kernel
theorem dX5_clear_1 : decode cX5_clear 1 = .ok (.iconst 0, 1) := by decide +kernel
theorem dX5_clear_2 : decode cX5_clear 2 = .ok (.putfield 15, 3) := by decide +kernel
theorem dX5_clear_5 : decode cX5_clear 5 = .ok (.return_, 1) := by decide +kernel
theorem dX5_add_0 : decode cX5_add 0 = .ok (.aload_n 0, 1) := by decide +kernel
theorem dX5_add_1 : decode cX5_add 1 = .ok (.getfield 15, 3) := by decide +kernel
theorem dX5_add_4 : decode cX5_add 4 = .ok (.ifCond .lt 32, 3) := by decide +kernel
theorem dX5_add_7 : decode cX5_add 7 = .ok (.aload_n 0, 1) := by decide +kernel
theorem dX5_add_8 : decode cX5_add 8 = .ok (.getfield 15, 3) := by decide +kernel
theorem dX5_add_11 : decode cX5_add 11 = .ok (.bipush 14, 2) := by decide +kernel
theorem dX5_add_13 : decode cX5_add 13 = .ok (.if_icmp .ge 23, 3) := by decide +kernel
theorem dX5_add_16 : decode cX5_add 16 = .ok (.aload_n 0, 1) := by decide +kernel
theorem dX5_add_17 : decode cX5_add 17 = .ok (.getfield 9, 3) := by decide +kernel
theorem dX5_add_20 : decode cX5_add 20 = .ok (.aload_n 0, 1) := by decide +kernel
theorem dX5_add_21 : decode cX5_add 21 = .ok (.getfield 15, 3) := by decide +kernel
theorem dX5_add_24 : decode cX5_add 24 = .ok (.iload_n 1, 1) := by decide +kernel
theorem dX5_add_25 : decode cX5_add 25 = .ok (.iastore, 1) := by decide +kernel
theorem dX5_add_26 : decode cX5_add 26 = .ok (.aload_n 0, 1) := by decide +kernel
theorem dX5_add_27 : decode cX5_add 27 = .ok (.dup, 1) := by decide +kernel
theorem dX5_add_28 : decode cX5_add 28 = .ok (.getfield 15, 3) := by decide +kernel
theorem dX5_add_31 : decode cX5_add 31 = .ok (.iconst 1, 1) := by decide +kernel
theorem dX5_add_32 : decode cX5_add 32 = .ok (.iadd, 1) := by decide +kernel
theorem dX5_add_33 : decode cX5_add 33 = .ok (.putfield 15, 3) := by decide +kernel
theorem dX5_add_36 : decode cX5_add 36 = .ok (.return_, 1) := by decide +kernel
theorem dX5_change_0 : decode cX5_change 0 = .ok (.aload_n 0, 1) := by decide +kernel
theorem dX5_change_1 : decode cX5_change 1 = .ok (.iload_n 1, 1) := by decide +kernel
theorem dX5_change_2 : decode cX5_change 2 = .ok (.invokevirtual 19, 3) := by decide +kernel
theorem dX5_change_5 : decode cX5_change 5 = .ok (.ifCond .eq 10, 3) := by decide +kernel
theorem dX5_change_8 : decode cX5_change 8 = .ok (.aload_n 0, 1) := by decide +kernel
theorem dX5_change_9 : decode cX5_change 9 = .ok (.getfield 9, 3) := by decide +kernel
theorem dX5_change_12 : decode cX5_change 12 = .ok (.iload_n 1, 1) := by decide +kernel
theorem dX5_change_13 : decode cX5_change 13 = .ok (.iload_n 2, 1) := by decide +kernel
theorem dX5_change_14 : decode cX5_change 14 = .ok (.iastore, 1) := by decide +kernel
theorem dX5_change_15 : decode cX5_change 15 = .ok (.return_, 1) := by decide +kernel
theorem dX5_remove_0 : decode cX5_remove 0 = .ok (.aload_n 0, 1) := by decide +kernel
theorem dX5_remove_1 : decode cX5_remove 1 = .ok (.iload_n 1, 1) := by decide +kernel
theorem dX5_remove_2 : decode cX5_remove 2 = .ok (.invokevirtual 19, 3) := by decide +kernel
theorem dX5_remove_5 : decode cX5_remove 5 = .ok (.ifCond .eq 43, 3) := by decide +kernel
theorem dX5_remove_8 : decode cX5_remove 8 = .ok (.iload_n 1, 1) := by decide +kernel
theorem dX5_remove_9 : decode cX5_remove 9 = .ok (.iconst 1, 1) := by decide +kernel
theorem dX5_remove_10 : decode cX5_remove 10 = .ok (.iadd, 1) := by decide +kernel
theorem dX5_remove_11 : decode cX5_remove 11 = .ok (.istore_n 2, 1) := by decide +kernel
theorem dX5_remove_12 : decode cX5_remove 12 = .ok (.iload_n 2, 1) := by decide +kernel
theorem dX5_remove_13 : decode cX5_remove 13 = .ok (.aload_n 0, 1) := by decide +kernel
theorem dX5_remove_14 : decode cX5_remove 14 = .ok (.getfield 15, 3) := by decide +kernel
theorem dX5_remove_17 : decode cX5_remove 17 = .ok (.if_icmp .ge 21, 3) := by decide +kernel
theorem dX5_remove_20 : decode cX5_remove 20 = .ok (.aload_n 0, 1) := by decide +kernel
theorem dX5_remove_21 : decode cX5_remove 21 = .ok (.iload_n 2, 1) := by decide +kernel
theorem dX5_remove_22 : decode cX5_remove 22 = .ok (.iconst 1, 1) := by decide +kernel
theorem dX5_remove_23 : decode cX5_remove 23 = .ok (.isub, 1) := by decide +kernel
theorem dX5_remove_24 : decode cX5_remove 24 = .ok (.aload_n 0, 1) := by decide +kernel
theorem dX5_remove_25 : decode cX5_remove 25 = .ok (.iload_n 2, 1) := by decide +kernel
theorem dX5_remove_26 : decode cX5_remove 26 = .ok (.invokevirtual 23, 3) := by decide +kernel
theorem dX5_remove_29 : decode cX5_remove 29 = .ok (.invokevirtual 27, 3) := by decide +kernel
theorem dX5_remove_32 : decode cX5_remove 32 = .ok (.iinc 2 1, 3) := by decide +kernel
theorem dX5_remove_35 : decode cX5_remove 35 = .ok (.goto (-23), 3) := by decide +kernel
theorem dX5_remove_38 : decode cX5_remove 38 = .ok (.aload_n 0, 1) := by decide +kernel
theorem dX5_remove_39 : decode cX5_remove 39 = .ok (.dup, 1) := by decide +kernel
theorem dX5_remove_40 : decode cX5_remove 40 = .ok (.getfield 15, 3) := by decide +kernel
theorem dX5_remove_43 : decode cX5_remove 43 = .ok (.iconst 1, 1) := by decide +kernel
theorem dX5_remove_44 : decode cX5_remove 44 = .ok (.isub, 1) := by decide +kernel
theorem dX5_remove_45 : decode cX5_remove 45 = .ok (.putfield 15, 3) := by decide +kernel
theorem dX5_remove_48 : decode cX5_remove 48 = .ok (.return_, 1) := by decide +kernel
theorem dX5_copy_0 : decode cX5_copy 0 = .ok (.aload_n 0, 1) := by decide +kernel
theorem dX5_copy_1 : decode cX5_copy 1 = .ok (.invokevirtual 31, 3) := by decide +kernel
theorem dX5_copy_4 : decode cX5_copy 4 = .ok (.iconst 0, 1) := by decide +kernel
theorem dX5_copy_5 : decode cX5_copy 5 = .ok (.istore_n 2, 1) := by decide +kernel
theorem dX5_copy_6 : decode cX5_copy 6 = .ok (.iload_n 2, 1) := by decide +kernel
theorem dX5_copy_7 : decode cX5_copy 7 = .ok (.aload_n 1, 1) := by decide +kernel
theorem dX5_copy_8 : decode cX5_copy 8 = .ok (.getfield 15, 3) := by decide +kernel
theorem dX5_copy_11 : decode cX5_copy 11 = .ok (.if_icmp .ge 18, 3) := by decide +kernel
theorem dX5_copy_14 : decode cX5_copy 14 = .ok (.aload_n 0, 1) := by decide +kernel
theorem dX5_copy_15 : decode cX5_copy 15 = .ok (.aload_n 1, 1) := by decide +kernel
theorem dX5_copy_16 : decode cX5_copy 16 = .ok (.iload_n 2, 1) := by decide +kernel
theorem dX5_copy_17 : decode cX5_copy 17 = .ok (.invokevirtual 23, 3) := by decide +kernel
theorem dX5_copy_20 : decode cX5_copy 20 = .ok (.invokevirtual 34, 3) := by decide +kernel
theorem dX5_copy_23 : decode cX5_copy 23 = .ok (.iinc 2 1, 3) := by decide +kernel
theorem dX5_copy_26 : decode cX5_copy 26 = .ok (.goto (-20), 3) := by decide +kernel
theorem dX5_copy_29 : decode cX5_copy 29 = .ok (.return_, 1) := by decide +kernel
theorem dX5_rowsWithKey_0 : decode cX5_rowsWithKey 0 = .ok (.iconst 0, 1) := by decide +kernel
theorem dX5_rowsWithKey_1 : decode cX5_rowsWithKey 1 = .ok (.istore_n 1, 1) := by decide +kernel
theorem dX5_rowsWithKey_2 : decode cX5_rowsWithKey 2 = .ok (.iconst 0, 1) := by decide +kernel
theorem dX5_rowsWithKey_3 : decode cX5_rowsWithKey 3 = .ok (.istore_n 2, 1) := by decide +kernel
theorem dX5_rowsWithKey_4 : decode cX5_rowsWithKey 4 = .ok (.iload_n 2, 1) := by decide +kernel
theorem dX5_rowsWithKey_5 : decode cX5_rowsWithKey 5 = .ok (.aload_n 0, 1) := by decide +kernel
theorem dX5_rowsWithKey_6 : decode cX5_rowsWithKey 6 = .ok (.getfield 15, 3) := by decide +kernel
theorem dX5_rowsWithKey_9 : decode cX5_rowsWithKey 9 = .ok (.if_icmp .ge 31, 3) := by decide +kernel
theorem dX5_rowsWithKey_12 : decode cX5_rowsWithKey 12 = .ok (.iload_n 2, 1) := by decide +kernel
theorem dX5_rowsWithKey_13 : decode cX5_rowsWithKey 13 = .ok (.bipush 14, 2) := by decide +kernel
theorem dX5_rowsWithKey_15 : decode cX5_rowsWithKey 15 = .ok (.if_icmp .ge 25, 3) := by decide +kernel
theorem dX5_rowsWithKey_18 : decode cX5_rowsWithKey 18 = .ok (.aload_n 0, 1) := by decide +kernel
theorem dX5_rowsWithKey_19 : decode cX5_rowsWithKey 19 = .ok (.getfield 9, 3) := by decide +kernel
theorem dX5_rowsWithKey_22 : decode cX5_rowsWithKey 22 = .ok (.iload_n 2, 1) := by decide +kernel
theorem dX5_rowsWithKey_23 : decode cX5_rowsWithKey 23 = .ok (.iaload, 1) := by decide +kernel
theorem dX5_rowsWithKey_24 : decode cX5_rowsWithKey 24 = .ok (.iconst (-1), 1) := by decide +kernel
theorem dX5_rowsWithKey_25 : decode cX5_rowsWithKey 25 = .ok (.if_icmp .eq 9, 3) := by decide +kernel
theorem dX5_rowsWithKey_28 : decode cX5_rowsWithKey 28 = .ok (.iload_n 1, 1) := by decide +kernel
theorem dX5_rowsWithKey_29 : decode cX5_rowsWithKey 29 = .ok (.iconst 1, 1) := by decide +kernel
theorem dX5_rowsWithKey_30 : decode cX5_rowsWithKey 30 = .ok (.iload_n 2, 1) := by decide +kernel
theorem dX5_rowsWithKey_31 : decode cX5_rowsWithKey 31 = .ok (.ishl, 1) := by decide +kernel
theorem dX5_rowsWithKey_32 : decode cX5_rowsWithKey 32 = .ok (.ior, 1) := by decide +kernel
theorem dX5_rowsWithKey_33 : decode cX5_rowsWithKey 33 = .ok (.istore_n 1, 1) := by decide +kernel
theorem dX5_rowsWithKey_34 : decode cX5_rowsWithKey 34 = .ok (.iinc 2 1, 3) := by decide +kernel
theorem dX5_rowsWithKey_37 : decode cX5_rowsWithKey 37 = .ok (.goto (-33), 3) := by decide +kernel
theorem dX5_rowsWithKey_40 : decode cX5_rowsWithKey 40 = .ok (.iload_n 1, 1) := by decide +kernel
theorem dX5_rowsWithKey_41 : decode cX5_rowsWithKey 41 = .ok (.ireturn, 1) := by decide +kernel
theorem dX5_rowsWithoutKey_0 : decode cX5_rowsWithoutKey 0 = .ok (.iconst 1, 1) := by decide +kernel
theorem dX5_rowsWithoutKey_1 : decode cX5_rowsWithoutKey 1 = .ok (.aload_n 0, 1) := by decide +kernel
theorem dX5_rowsWithoutKey_2 : decode cX5_rowsWithoutKey 2 = .ok (.getfield 15, 3) := by decide +kernel
theorem dX5_rowsWithoutKey_5 : decode cX5_rowsWithoutKey 5 = .ok (.ishl, 1) := by decide +kernel
theorem dX5_rowsWithoutKey_6 : decode cX5_rowsWithoutKey 6 = .ok (.iconst 1, 1) := by decide +kernel
theorem dX5_rowsWithoutKey_7 : decode cX5_rowsWithoutKey 7 = .ok (.isub, 1) := by decide +kernel
theorem dX5_rowsWithoutKey_8 : decode cX5_rowsWithoutKey 8 = .ok (.aload_n 0, 1) := by decide +kernel
theorem dX5_rowsWithoutKey_9 : decode cX5_rowsWithoutKey 9 = .ok (.invokevirtual 38, 3) := by decide +kernel
theorem dX5_rowsWithoutKey_12 : decode cX5_rowsWithoutKey 12 = .ok (.iconst (-1), 1) := by decide +kernel
theorem dX5_rowsWithoutKey_13 : decode cX5_rowsWithoutKey 13 = .ok (.ixor, 1) := by decide +kernel
theorem dX5_rowsWithoutKey_14 : decode cX5_rowsWithoutKey 14 = .ok (.iand, 1) := by decide +kernel
theorem dX5_rowsWithoutKey_15 : decode cX5_rowsWithoutKey 15 = .ok (.ireturn, 1) := by decide +kernel
theorem dX5_rowsOfKey_0 : decode cX5_rowsOfKey 0 = .ok (.iconst 0, 1) := by decide +kernel
theorem dX5_rowsOfKey_1 : decode cX5_rowsOfKey 1 = .ok (.istore_n 2, 1) := by decide +kernel
theorem dX5_rowsOfKey_2 : decode cX5_rowsOfKey 2 = .ok (.iconst 0, 1) := by decide +kernel
theorem dX5_rowsOfKey_3 : decode cX5_rowsOfKey 3 = .ok (.istore_n 3, 1) := by decide +kernel
theorem dX5_rowsOfKey_4 : decode cX5_rowsOfKey 4 = .ok (.iload_n 3, 1) := by decide +kernel
theorem dX5_rowsOfKey_5 : decode cX5_rowsOfKey 5 = .ok (.aload_n 0, 1) := by decide +kernel
theorem dX5_rowsOfKey_6 : decode cX5_rowsOfKey 6 = .ok (.getfield 15, 3) := by decide +kernel
theorem dX5_rowsOfKey_9 : decode cX5_rowsOfKey 9 = .ok (.if_icmp .ge 31, 3) := by decide +kernel
theorem dX5_rowsOfKey_12 : decode cX5_rowsOfKey 12 = .ok (.iload_n 3, 1) := by decide +kernel
theorem dX5_rowsOfKey_13 : decode cX5_rowsOfKey 13 = .ok (.bipush 14, 2) := by decide +kernel
theorem dX5_rowsOfKey_15 : decode cX5_rowsOfKey 15 = .ok (.if_icmp .ge 25, 3) := by decide +kernel
theorem dX5_rowsOfKey_18 : decode cX5_rowsOfKey 18 = .ok (.aload_n 0, 1) := by decide +kernel
theorem dX5_rowsOfKey_19 : decode cX5_rowsOfKey 19 = .ok (.getfield 9, 3) := by decide +kernel
theorem dX5_rowsOfKey_22 : decode cX5_rowsOfKey 22 = .ok (.iload_n 3, 1) := by decide +kernel
theorem dX5_rowsOfKey_23 : decode cX5_rowsOfKey 23 = .ok (.iaload, 1) := by decide +kernel
theorem dX5_rowsOfKey_24 : decode cX5_rowsOfKey 24 = .ok (.iload_n 1, 1) := by decide +kernel
theorem dX5_rowsOfKey_25 : decode cX5_rowsOfKey 25 = .ok (.if_icmp .ne 9, 3) := by decide +kernel
theorem dX5_rowsOfKey_28 : decode cX5_rowsOfKey 28 = .ok (.iload_n 2, 1) := by decide +kernel
theorem dX5_rowsOfKey_29 : decode cX5_rowsOfKey 29 = .ok (.iconst 1, 1) := by decide +kernel
theorem dX5_rowsOfKey_30 : decode cX5_rowsOfKey 30 = .ok (.iload_n 3, 1) := by decide +kernel
theorem dX5_rowsOfKey_31 : decode cX5_rowsOfKey 31 = .ok (.ishl, 1) := by decide +kernel
theorem dX5_rowsOfKey_32 : decode cX5_rowsOfKey 32 = .ok (.ior, 1) := by decide +kernel
theorem dX5_rowsOfKey_33 : decode cX5_rowsOfKey 33 = .ok (.istore_n 2, 1) := by decide +kernel
theorem dX5_rowsOfKey_34 : decode cX5_rowsOfKey 34 = .ok (.iinc 3 1, 3) := by decide +kernel
theorem dX5_rowsOfKey_37 : decode cX5_rowsOfKey 37 = .ok (.goto (-33), 3) := by decide +kernel
theorem dX5_rowsOfKey_40 : decode cX5_rowsOfKey 40 = .ok (.iload_n 2, 1) := by decide +kernel
theorem dX5_rowsOfKey_41 : decode cX5_rowsOfKey 41 = .ok (.ireturn, 1) := by decide +kernel
theorem dX5_rowsWithBit_0 : decode cX5_rowsWithBit 0 = .ok (.iconst 0, 1) := by decide +kernel
theorem dX5_rowsWithBit_1 : decode cX5_rowsWithBit 1 = .ok (.istore_n 2, 1) := by decide +kernel
theorem dX5_rowsWithBit_2 : decode cX5_rowsWithBit 2 = .ok (.iconst 0, 1) := by decide +kernel
theorem dX5_rowsWithBit_3 : decode cX5_rowsWithBit 3 = .ok (.istore_n 3, 1) := by decide +kernel
theorem dX5_rowsWithBit_4 : decode cX5_rowsWithBit 4 = .ok (.iload_n 3, 1) := by decide +kernel
theorem dX5_rowsWithBit_5 : decode cX5_rowsWithBit 5 = .ok (.aload_n 0, 1) := by decide +kernel
theorem dX5_rowsWithBit_6 : decode cX5_rowsWithBit 6 = .ok (.getfield 15, 3) := by decide +kernel
theorem dX5_rowsWithBit_9 : decode cX5_rowsWithBit 9 = .ok (.if_icmp .ge 45, 3) := by decide +kernel
theorem dX5_rowsWithBit_12 : decode cX5_rowsWithBit 12 = .ok (.iload_n 3, 1) := by decide +kernel
theorem dX5_rowsWithBit_13 : decode cX5_rowsWithBit 13 = .ok (.bipush 14, 2) := by decide +kernel
theorem dX5_rowsWithBit_15 : decode cX5_rowsWithBit 15 = .ok (.if_icmp .ge 39, 3) := by decide +kernel
theorem dX5_rowsWithBit_18 : decode cX5_rowsWithBit 18 = .ok (.aload_n 0, 1) := by decide +kernel
theorem dX5_rowsWithBit_19 : decode cX5_rowsWithBit 19 = .ok (.getfield 9, 3) := by decide +kernel
theorem dX5_rowsWithBit_22 : decode cX5_rowsWithBit 22 = .ok (.iload_n 3, 1) := by decide +kernel
theorem dX5_rowsWithBit_23 : decode cX5_rowsWithBit 23 = .ok (.iaload, 1) := by decide +kernel
theorem dX5_rowsWithBit_24 : decode cX5_rowsWithBit 24 = .ok (.iconst (-1), 1) := by decide +kernel
theorem dX5_rowsWithBit_25 : decode cX5_rowsWithBit 25 = .ok (.if_icmp .eq 23, 3) := by decide +kernel
theorem dX5_rowsWithBit_28 : decode cX5_rowsWithBit 28 = .ok (.aload_n 0, 1) := by decide +kernel
theorem dX5_rowsWithBit_29 : decode cX5_rowsWithBit 29 = .ok (.getfield 9, 3) := by decide +kernel
theorem dX5_rowsWithBit_32 : decode cX5_rowsWithBit 32 = .ok (.iload_n 3, 1) := by decide +kernel
theorem dX5_rowsWithBit_33 : decode cX5_rowsWithBit 33 = .ok (.iaload, 1) := by decide +kernel
theorem dX5_rowsWithBit_34 : decode cX5_rowsWithBit 34 = .ok (.iload_n 1, 1) := by decide +kernel
theorem dX5_rowsWithBit_35 : decode cX5_rowsWithBit 35 = .ok (.ishr, 1) := by decide +kernel
theorem dX5_rowsWithBit_36 : decode cX5_rowsWithBit 36 = .ok (.iconst 1, 1) := by decide +kernel
theorem dX5_rowsWithBit_37 : decode cX5_rowsWithBit 37 = .ok (.iand, 1) := by decide +kernel
theorem dX5_rowsWithBit_38 : decode cX5_rowsWithBit 38 = .ok (.iconst 1, 1) := by decide +kernel
theorem dX5_rowsWithBit_39 : decode cX5_rowsWithBit 39 = .ok (.if_icmp .ne 9, 3) := by decide +kernel
theorem dX5_rowsWithBit_42 : decode cX5_rowsWithBit 42 = .ok (.iload_n 2, 1) := by decide +kernel
theorem dX5_rowsWithBit_43 : decode cX5_rowsWithBit 43 = .ok (.iconst 1, 1) := by decide +kernel
theorem dX5_rowsWithBit_44 : decode cX5_rowsWithBit 44 = .ok (.iload_n 3, 1) := by decide +kernel
theorem dX5_rowsWithBit_45 : decode cX5_rowsWithBit 45 = .ok (.ishl, 1) := by decide +kernel
theorem dX5_rowsWithBit_46 : decode cX5_rowsWithBit 46 = .ok (.ior, 1) := by decide +kernel
theorem dX5_rowsWithBit_47 : decode cX5_rowsWithBit 47 = .ok (.istore_n 2, 1) := by decide +kernel
theorem dX5_rowsWithBit_48 : decode cX5_rowsWithBit 48 = .ok (.iinc 3 1, 3) := by decide +kernel
theorem dX5_rowsWithBit_51 : decode cX5_rowsWithBit 51 = .ok (.goto (-47), 3) := by decide +kernel
theorem dX5_rowsWithBit_54 : decode cX5_rowsWithBit 54 = .ok (.iload_n 2, 1) := by decide +kernel
theorem dX5_rowsWithBit_55 : decode cX5_rowsWithBit 55 = .ok (.ireturn, 1) := by decide +kernel
theorem dX5_haveOneKey_0 : decode cX5_haveOneKey 0 = .ok (.iload_n 1, 1) := by decide +kernel
theorem dX5_haveOneKey_1 : decode cX5_haveOneKey 1 = .ok (.invokestatic 42, 3) := by decide +kernel
theorem dX5_haveOneKey_4 : decode cX5_haveOneKey 4 = .ok (.istore_n 2, 1) := by decide +kernel
theorem dX5_haveOneKey_5 : decode cX5_haveOneKey 5 = .ok (.aload_n 0, 1) := by decide +kernel
theorem dX5_haveOneKey_6 : decode cX5_haveOneKey 6 = .ok (.iload_n 2, 1) := by decide +kernel
theorem dX5_haveOneKey_7 : decode cX5_haveOneKey 7 = .ok (.invokevirtual 19, 3) := by decide +kernel
theorem dX5_haveOneKey_10 : decode cX5_haveOneKey 10 = .ok (.ifCond .eq 23, 3) := by decide +kernel
theorem dX5_haveOneKey_13 : decode cX5_haveOneKey 13 = .ok (.iload_n 1, 1) := by decide +kernel
theorem dX5_haveOneKey_14 : decode cX5_haveOneKey 14 = .ok (.aload_n 0, 1) := by decide +kernel
theorem dX5_haveOneKey_15 : decode cX5_haveOneKey 15 = .ok (.aload_n 0, 1) := by decide +kernel
theorem dX5_haveOneKey_16 : decode cX5_haveOneKey 16 = .ok (.iload_n 2, 1) := by decide +kernel
theorem dX5_haveOneKey_17 : decode cX5_haveOneKey 17 = .ok (.invokevirtual 23, 3) := by decide +kernel
theorem dX5_haveOneKey_20 : decode cX5_haveOneKey 20 = .ok (.invokevirtual 47, 3) := by decide +kernel
theorem dX5_haveOneKey_23 : decode cX5_haveOneKey 23 = .ok (.iconst (-1), 1) := by decide +kernel
theorem dX5_haveOneKey_24 : decode cX5_haveOneKey 24 = .ok (.ixor, 1) := by decide +kernel
theorem dX5_haveOneKey_25 : decode cX5_haveOneKey 25 = .ok (.iand, 1) := by decide +kernel
theorem dX5_haveOneKey_26 : decode cX5_haveOneKey 26 = .ok (.ifCond .ne 7, 3) := by decide +kernel
theorem dX5_haveOneKey_29 : decode cX5_haveOneKey 29 = .ok (.iconst 1, 1) := by decide +kernel
theorem dX5_haveOneKey_30 : decode cX5_haveOneKey 30 = .ok (.goto 4, 3) := by decide +kernel
theorem dX5_haveOneKey_33 : decode cX5_haveOneKey 33 = .ok (.iconst 0, 1) := by decide +kernel
theorem dX5_haveOneKey_34 : decode cX5_haveOneKey 34 = .ok (.ireturn, 1) := by decide +kernel
theorem dX5_keySet_0 : decode cX5_keySet 0 = .ok (.iconst 0, 1) := by decide +kernel
theorem dX5_keySet_1 : decode cX5_keySet 1 = .ok (.istore_n 1, 1) := by decide +kernel
theorem dX5_keySet_2 : decode cX5_keySet 2 = .ok (.iconst 0, 1) := by decide +kernel
theorem dX5_keySet_3 : decode cX5_keySet 3 = .ok (.istore_n 2, 1) := by decide +kernel
theorem dX5_keySet_4 : decode cX5_keySet 4 = .ok (.iload_n 2, 1) := by decide +kernel
theorem dX5_keySet_5 : decode cX5_keySet 5 = .ok (.aload_n 0, 1) := by decide +kernel
theorem dX5_keySet_6 : decode cX5_keySet 6 = .ok (.getfield 15, 3) := by decide +kernel
theorem dX5_keySet_9 : decode cX5_keySet 9 = .ok (.if_icmp .ge 36, 3) := by decide +kernel
theorem dX5_keySet_12 : decode cX5_keySet 12 = .ok (.iload_n 2, 1) := by decide +kernel
theorem dX5_keySet_13 : decode cX5_keySet 13 = .ok (.bipush 14, 2) := by decide +kernel
theorem dX5_keySet_15 : decode cX5_keySet 15 = .ok (.if_icmp .ge 30, 3) := by decide +kernel
theorem dX5_keySet_18 : decode cX5_keySet 18 = .ok (.aload_n 0, 1) := by decide +kernel
theorem dX5_keySet_19 : decode cX5_keySet 19 = .ok (.getfield 9, 3) := by decide +kernel
theorem dX5_keySet_22 : decode cX5_keySet 22 = .ok (.iload_n 2, 1) := by decide +kernel
theorem dX5_keySet_23 : decode cX5_keySet 23 = .ok (.iaload, 1) := by decide +kernel
theorem dX5_keySet_24 : decode cX5_keySet 24 = .ok (.iconst (-1), 1) := by decide +kernel
theorem dX5_keySet_25 : decode cX5_keySet 25 = .ok (.if_icmp .eq 14, 3) := by decide +kernel
theorem dX5_keySet_28 : decode cX5_keySet 28 = .ok (.iload_n 1, 1) := by decide +kernel
theorem dX5_keySet_29 : decode cX5_keySet 29 = .ok (.iconst 1, 1) := by decide +kernel
theorem dX5_keySet_30 : decode cX5_keySet 30 = .ok (.aload_n 0, 1) := by decide +kernel
theorem dX5_keySet_31 : decode cX5_keySet 31 = .ok (.getfield 9, 3) := by decide +kernel
theorem dX5_keySet_34 : decode cX5_keySet 34 = .ok (.iload_n 2, 1) := by decide +kernel
theorem dX5_keySet_35 : decode cX5_keySet 35 = .ok (.iaload, 1) := by decide +kernel
theorem dX5_keySet_36 : decode cX5_keySet 36 = .ok (.ishl, 1) := by decide +kernel
theorem dX5_keySet_37 : decode cX5_keySet 37 = .ok (.ior, 1) := by decide +kernel
theorem dX5_keySet_38 : decode cX5_keySet 38 = .ok (.istore_n 1, 1) := by decide +kernel
theorem dX5_keySet_39 : decode cX5_keySet 39 = .ok (.iinc 2 1, 3) := by decide +kernel
theorem dX5_keySet_42 : decode cX5_keySet 42 = .ok (.goto (-38), 3) := by decide +kernel
theorem dX5_keySet_45 : decode cX5_keySet 45 = .ok (.iload_n 1, 1) := by decide +kernel
theorem dX5_keySet_46 : decode cX5_keySet 46 = .ok (.ireturn, 1) := by decide +kernel
theorem dX6_init_0 : decode cX6_init 0 = .ok (.aload_n 0, 1) := by decide +kernel
theorem dX6_init_1 : decode cX6_init 1 = .ok (.invokespecial 3, 3) := by decide +kernel
theorem dX6_init_4 : decode cX6_init 4 = .ok (.aload_n 0, 1) := by decide +kernel
theorem dX6_init_5 : decode cX6_init 5 = .ok (.new 9, 3) := by decide +kernel
theorem dX6_init_8 : decode cX6_init 8 = .ok (.dup, 1) := by decide +kernel
theorem dX6_init_9 : decode cX6_init 9 = .ok (.invokespecial 11, 3) := by decide +kernel
theorem dX6_init_12 : decode cX6_init 12 = .ok (.putfield 12, 3) := by decide +kernel
theorem dX6_init_15 : decode cX6_init 15 = .ok (.aload_n 0, 1) := by decide +kernel
theorem dX6_init_16 : decode cX6_init 16 = .ok (.new 9, 3) := by decide +kernel
theorem dX6_init_19 : decode cX6_init 19 = .ok (.dup, 1) := by decide +kernel
theorem dX6_init_20 : decode cX6_init 20 = .ok (.invokespecial 11, 3) := by decide +kernel
theorem dX6_init_23 : decode cX6_init 23 = .ok (.putfield 18, 3) := by decide +kernel
theorem dX6_init_26 : decode cX6_init 26 = .ok (.aload_n 0, 1) := by decide +kernel
theorem dX6_init_27 : decode cX6_init 27 = .ok (.iconst (-1), 1) := by decide +kernel
theorem dX6_init_28 : decode cX6_init 28 = .ok (.putfield 21, 3) := by decide +kernel
theorem dX6_init_31 : decode cX6_init 31 = .ok (.return_, 1) := by decide +kernel
theorem dX6_areThere_0 : decode cX6_areThere 0 = .ok (.aload_n 0, 1) := by decide +kernel
theorem dX6_areThere_1 : decode cX6_areThere 1 = .ok (.getfield 25, 3) := by decide +kernel
theorem dX6_areThere_4 : decode cX6_areThere 4 = .ok (.ifCond .eq 7, 3) := by decide +kernel
theorem dX6_areThere_7 : decode cX6_areThere 7 = .ok (.iconst 1, 1) := by decide +kernel
theorem dX6_areThere_8 : decode cX6_areThere 8 = .ok (.goto 4, 3) := by decide +kernel
theorem dX6_areThere_11 : decode cX6_areThere 11 = .ok (.iconst 0, 1) := by decide +kernel
theorem dX6_areThere_12 : decode cX6_areThere 12 = .ok (.ireturn, 1) := by decide +kernel
theorem dX6_size_0 : decode cX6_size 0 = .ok (.aload_n 0, 1) := by decide +kernel
theorem dX6_size_1 : decode cX6_size 1 = .ok (.getfield 12, 3) := by decide +kernel
theorem dX6_size_4 : decode cX6_size 4 = .ok (.getfield 28, 3) := by decide +kernel
theorem dX6_size_7 : decode cX6_size 7 = .ok (.aload_n 0, 1) := by decide +kernel
theorem dX6_size_8 : decode cX6_size 8 = .ok (.getfield 18, 3) := by decide +kernel
theorem dX6_size_11 : decode cX6_size 11 = .ok (.getfield 28, 3) := by decide +kernel
theorem dX6_size_14 : decode cX6_size 14 = .ok (.iadd, 1) := by decide +kernel
theorem dX6_size_15 : decode cX6_size 15 = .ok (.ireturn, 1) := by decide +kernel
theorem dX6_sideOf_0 : decode cX6_sideOf 0 = .ok (.iload_n 1, 1) := by decide +kernel
theorem dX6_sideOf_1 : decode cX6_sideOf 1 = .ok (.ifCond .ne 10, 3) := by decide +kernel
theorem dX6_sideOf_4 : decode cX6_sideOf 4 = .ok (.aload_n 0, 1) := by decide +kernel
theorem dX6_sideOf_5 : decode cX6_sideOf 5 = .ok (.getfield 12, 3) := by decide +kernel
theorem dX6_sideOf_8 : decode cX6_sideOf 8 = .ok (.goto 7, 3) := by decide +kernel
theorem dX6_sideOf_11 : decode cX6_sideOf 11 = .ok (.aload_n 0, 1) := by decide +kernel
theorem dX6_sideOf_12 : decode cX6_sideOf 12 = .ok (.getfield 18, 3) := by decide +kernel
theorem dX6_sideOf_15 : decode cX6_sideOf 15 = .ok (.areturn, 1) := by decide +kernel
theorem dX6_hasRow_0 : decode cX6_hasRow 0 = .ok (.iload_n 1, 1) := by decide +kernel
theorem dX6_hasRow_1 : decode cX6_hasRow 1 = .ok (.invokestatic 31, 3) := by decide +kernel
theorem dX6_hasRow_4 : decode cX6_hasRow 4 = .ok (.ifCond .eq 19, 3) := by decide +kernel
theorem dX6_hasRow_7 : decode cX6_hasRow 7 = .ok (.aload_n 0, 1) := by decide +kernel
theorem dX6_hasRow_8 : decode cX6_hasRow 8 = .ok (.iload_n 1, 1) := by decide +kernel
theorem dX6_hasRow_9 : decode cX6_hasRow 9 = .ok (.invokevirtual 35, 3) := by decide +kernel
theorem dX6_hasRow_12 : decode cX6_hasRow 12 = .ok (.iload_n 2, 1) := by decide +kernel
theorem dX6_hasRow_13 : decode cX6_hasRow 13 = .ok (.invokevirtual 39, 3) := by decide +kernel
theorem dX6_hasRow_16 : decode cX6_hasRow 16 = .ok (.ifCond .eq 7, 3) := by decide +kernel
theorem dX6_hasRow_19 : decode cX6_hasRow 19 = .ok (.iconst 1, 1) := by decide +kernel
theorem dX6_hasRow_20 : decode cX6_hasRow 20 = .ok (.goto 4, 3) := by decide +kernel
theorem dX6_hasRow_23 : decode cX6_hasRow 23 = .ok (.iconst 0, 1) := by decide +kernel
theorem dX6_hasRow_24 : decode cX6_hasRow 24 = .ok (.ireturn, 1) := by decide +kernel
theorem dX6_partners_0 : decode cX6_partners 0 = .ok (.aload_n 0, 1) := by decide +kernel
theorem dX6_partners_1 : decode cX6_partners 1 = .ok (.iload_n 1, 1) := by decide +kernel
theorem dX6_partners_2 : decode cX6_partners 2 = .ok (.invokevirtual 35, 3) := by decide +kernel
theorem dX6_partners_5 : decode cX6_partners 5 = .ok (.iload_n 2, 1) := by decide +kernel
theorem dX6_partners_6 : decode cX6_partners 6 = .ok (.invokevirtual 42, 3) := by decide +kernel
theorem dX6_partners_9 : decode cX6_partners 9 = .ok (.istore_n 3, 1) := by decide +kernel
theorem dX6_partners_10 : decode cX6_partners 10 = .ok (.iload_n 3, 1) := by decide +kernel
theorem dX6_partners_11 : decode cX6_partners 11 = .ok (.iconst (-1), 1) := by decide +kernel
theorem dX6_partners_12 : decode cX6_partners 12 = .ok (.if_icmp .ne 7, 3) := by decide +kernel
theorem dX6_partners_15 : decode cX6_partners 15 = .ok (.iconst 0, 1) := by decide +kernel
theorem dX6_partners_16 : decode cX6_partners 16 = .ok (.goto 15, 3) := by decide +kernel
theorem dX6_partners_19 : decode cX6_partners 19 = .ok (.aload_n 0, 1) := by decide +kernel
theorem dX6_partners_20 : decode cX6_partners 20 = .ok (.iload_n 1, 1) := by decide +kernel
theorem dX6_partners_21 : decode cX6_partners 21 = .ok (.invokestatic 46, 3) := by decide +kernel
theorem dX6_partners_24 : decode cX6_partners 24 = .ok (.invokevirtual 35, 3) := by decide +kernel
theorem dX6_partners_27 : decode cX6_partners 27 = .ok (.iload_n 3, 1) := by decide +kernel
theorem dX6_partners_28 : decode cX6_partners 28 = .ok (.invokevirtual 49, 3) := by decide +kernel
theorem dX6_partners_31 : decode cX6_partners 31 = .ok (.ireturn, 1) := by decide +kernel
theorem dX6_pairs_0 : decode cX6_pairs 0 = .ok (.iconst 0, 1) := by decide +kernel
theorem dX6_pairs_1 : decode cX6_pairs 1 = .ok (.istore_n 1, 1) := by decide +kernel
theorem dX6_pairs_2 : decode cX6_pairs 2 = .ok (.iconst 0, 1) := by decide +kernel
theorem dX6_pairs_3 : decode cX6_pairs 3 = .ok (.istore_n 2, 1) := by decide +kernel
theorem dX6_pairs_4 : decode cX6_pairs 4 = .ok (.iload_n 2, 1) := by decide +kernel
theorem dX6_pairs_5 : decode cX6_pairs 5 = .ok (.aload_n 0, 1) := by decide +kernel
theorem dX6_pairs_6 : decode cX6_pairs 6 = .ok (.getfield 12, 3) := by decide +kernel
theorem dX6_pairs_9 : decode cX6_pairs 9 = .ok (.getfield 28, 3) := by decide +kernel
theorem dX6_pairs_12 : decode cX6_pairs 12 = .ok (.if_icmp .ge 21, 3) := by decide +kernel
theorem dX6_pairs_15 : decode cX6_pairs 15 = .ok (.iload_n 1, 1) := by decide +kernel
theorem dX6_pairs_16 : decode cX6_pairs 16 = .ok (.aload_n 0, 1) := by decide +kernel
theorem dX6_pairs_17 : decode cX6_pairs 17 = .ok (.iconst 0, 1) := by decide +kernel
theorem dX6_pairs_18 : decode cX6_pairs 18 = .ok (.iload_n 2, 1) := by decide +kernel
theorem dX6_pairs_19 : decode cX6_pairs 19 = .ok (.invokevirtual 52, 3) := by decide +kernel
theorem dX6_pairs_22 : decode cX6_pairs 22 = .ok (.invokestatic 56, 3) := by decide +kernel
theorem dX6_pairs_25 : decode cX6_pairs 25 = .ok (.iadd, 1) := by decide +kernel
theorem dX6_pairs_26 : decode cX6_pairs 26 = .ok (.istore_n 1, 1) := by decide +kernel
theorem dX6_pairs_27 : decode cX6_pairs 27 = .ok (.iinc 2 1, 3) := by decide +kernel
theorem dX6_pairs_30 : decode cX6_pairs 30 = .ok (.goto (-26), 3) := by decide +kernel
theorem dX6_pairs_33 : decode cX6_pairs 33 = .ok (.iload_n 1, 1) := by decide +kernel
theorem dX6_pairs_34 : decode cX6_pairs 34 = .ok (.ireturn, 1) := by decide +kernel
theorem dX6_buildSide_0 : decode cX6_buildSide 0 = .ok (.iload_n 1, 1) := by decide +kernel
theorem dX6_buildSide_1 : decode cX6_buildSide 1 = .ok (.invokestatic 56, 3) := by decide +kernel
theorem dX6_buildSide_4 : decode cX6_buildSide 4 = .ok (.iload_n 2, 1) := by decide +kernel
theorem dX6_buildSide_5 : decode cX6_buildSide 5 = .ok (.invokestatic 56, 3) := by decide +kernel
theorem dX6_buildSide_8 : decode cX6_buildSide 8 = .ok (.if_icmp .ge 7, 3) := by decide +kernel
theorem dX6_buildSide_11 : decode cX6_buildSide 11 = .ok (.iconst 0, 1) := by decide +kernel
theorem dX6_buildSide_12 : decode cX6_buildSide 12 = .ok (.goto 4, 3) := by decide +kernel
theorem dX6_buildSide_15 : decode cX6_buildSide 15 = .ok (.iconst 1, 1) := by decide +kernel
theorem dX6_buildSide_16 : decode cX6_buildSide 16 = .ok (.ireturn, 1) := by decide +kernel
theorem dX6_copy_0 : decode cX6_copy 0 = .ok (.aload_n 0, 1) := by decide +kernel
theorem dX6_copy_1 : decode cX6_copy 1 = .ok (.getfield 12, 3) := by decide +kernel
theorem dX6_copy_4 : decode cX6_copy 4 = .ok (.aload_n 1, 1) := by decide +kernel
theorem dX6_copy_5 : decode cX6_copy 5 = .ok (.getfield 12, 3) := by decide +kernel
theorem dX6_copy_8 : decode cX6_copy 8 = .ok (.invokevirtual 61, 3) := by decide +kernel
theorem dX6_copy_11 : decode cX6_copy 11 = .ok (.aload_n 0, 1) := by decide +kernel
theorem dX6_copy_12 : decode cX6_copy 12 = .ok (.getfield 18, 3) := by decide +kernel
theorem dX6_copy_15 : decode cX6_copy 15 = .ok (.aload_n 1, 1) := by decide +kernel
theorem dX6_copy_16 : decode cX6_copy 16 = .ok (.getfield 18, 3) := by decide +kernel
theorem dX6_copy_19 : decode cX6_copy 19 = .ok (.invokevirtual 61, 3) := by decide +kernel
theorem dX6_copy_22 : decode cX6_copy 22 = .ok (.aload_n 0, 1) := by decide +kernel
theorem dX6_copy_23 : decode cX6_copy 23 = .ok (.aload_n 1, 1) := by decide +kernel
theorem dX6_copy_24 : decode cX6_copy 24 = .ok (.getfield 25, 3) := by decide +kernel
theorem dX6_copy_27 : decode cX6_copy 27 = .ok (.putfield 25, 3) := by decide +kernel
theorem dX6_copy_30 : decode cX6_copy 30 = .ok (.aload_n 0, 1) := by decide +kernel
theorem dX6_copy_31 : decode cX6_copy 31 = .ok (.aload_n 1, 1) := by decide +kernel
theorem dX6_copy_32 : decode cX6_copy 32 = .ok (.getfield 21, 3) := by decide +kernel
theorem dX6_copy_35 : decode cX6_copy 35 = .ok (.putfield 21, 3) := by decide +kernel
theorem dX6_copy_38 : decode cX6_copy 38 = .ok (.return_, 1) := by decide +kernel
theorem dX7_init_0 : decode cX7_init 0 = .ok (.aload_n 0, 1) := by decide +kernel
theorem dX7_init_1 : decode cX7_init 1 = .ok (.invokespecial 1, 3) := by decide +kernel
theorem dX7_init_4 : decode cX7_init 4 = .ok (.aload_n 0, 1) := by decide +kernel
theorem dX7_init_5 : decode cX7_init 5 = .ok (.new 7, 3) := by decide +kernel
theorem dX7_init_8 : decode cX7_init 8 = .ok (.dup, 1) := by decide +kernel
theorem dX7_init_9 : decode cX7_init 9 = .ok (.invokespecial 9, 3) := by decide +kernel
theorem dX7_init_12 : decode cX7_init 12 = .ok (.putfield 10, 3) := by decide +kernel
theorem dX7_init_15 : decode cX7_init 15 = .ok (.aload_n 0, 1) := by decide +kernel
theorem dX7_init_16 : decode cX7_init 16 = .ok (.new 16, 3) := by decide +kernel
theorem dX7_init_19 : decode cX7_init 19 = .ok (.dup, 1) := by decide +kernel
theorem dX7_init_20 : decode cX7_init 20 = .ok (.invokespecial 18, 3) := by decide +kernel
theorem dX7_init_23 : decode cX7_init 23 = .ok (.putfield 19, 3) := by decide +kernel
theorem dX7_init_26 : decode cX7_init 26 = .ok (.aload_n 0, 1) := by decide +kernel
theorem dX7_init_27 : decode cX7_init 27 = .ok (.aload_n 0, 1) := by decide +kernel
theorem dX7_init_28 : decode cX7_init 28 = .ok (.getfield 19, 3) := by decide +kernel
theorem dX7_init_31 : decode cX7_init 31 = .ok (.getfield 23, 3) := by decide +kernel
theorem dX7_init_34 : decode cX7_init 34 = .ok (.putfield 27, 3) := by decide +kernel
theorem dX7_init_37 : decode cX7_init 37 = .ok (.aload_n 0, 1) := by decide +kernel
theorem dX7_init_38 : decode cX7_init 38 = .ok (.new 30, 3) := by decide +kernel
theorem dX7_init_41 : decode cX7_init 41 = .ok (.dup, 1) := by decide +kernel
theorem dX7_init_42 : decode cX7_init 42 = .ok (.invokespecial 32, 3) := by decide +kernel
theorem dX7_init_45 : decode cX7_init 45 = .ok (.putfield 33, 3) := by decide +kernel
theorem dX7_init_48 : decode cX7_init 48 = .ok (.aload_n 0, 1) := by decide +kernel
theorem dX7_init_49 : decode cX7_init 49 = .ok (.new 37, 3) := by decide +kernel
theorem dX7_init_52 : decode cX7_init 52 = .ok (.dup, 1) := by decide +kernel
theorem dX7_init_53 : decode cX7_init 53 = .ok (.invokespecial 39, 3) := by decide +kernel
theorem dX7_init_56 : decode cX7_init 56 = .ok (.putfield 40, 3) := by decide +kernel
theorem dX7_init_59 : decode cX7_init 59 = .ok (.aload_n 0, 1) := by decide +kernel
theorem dX7_init_60 : decode cX7_init 60 = .ok (.new 30, 3) := by decide +kernel
theorem dX7_init_63 : decode cX7_init 63 = .ok (.dup, 1) := by decide +kernel
theorem dX7_init_64 : decode cX7_init 64 = .ok (.invokespecial 32, 3) := by decide +kernel
theorem dX7_init_67 : decode cX7_init 67 = .ok (.putfield 43, 3) := by decide +kernel
theorem dX7_init_70 : decode cX7_init 70 = .ok (.aload_n 0, 1) := by decide +kernel
theorem dX7_init_71 : decode cX7_init 71 = .ok (.new 16, 3) := by decide +kernel
theorem dX7_init_74 : decode cX7_init 74 = .ok (.dup, 1) := by decide +kernel
theorem dX7_init_75 : decode cX7_init 75 = .ok (.invokespecial 18, 3) := by decide +kernel
theorem dX7_init_78 : decode cX7_init 78 = .ok (.putfield 46, 3) := by decide +kernel
theorem dX7_init_81 : decode cX7_init 81 = .ok (.return_, 1) := by decide +kernel
theorem dX7_letter_0 : decode cX7_letter 0 = .ok (.iload_n 1, 1) := by decide +kernel
theorem dX7_letter_1 : decode cX7_letter 1 = .ok (.bipush 32, 2) := by decide +kernel
theorem dX7_letter_3 : decode cX7_letter 3 = .ok (.if_icmp .lt 9, 3) := by decide +kernel
theorem dX7_letter_6 : decode cX7_letter 6 = .ok (.iload_n 1, 1) := by decide +kernel
theorem dX7_letter_7 : decode cX7_letter 7 = .ok (.bipush 126, 2) := by decide +kernel
theorem dX7_letter_9 : decode cX7_letter 9 = .ok (.if_icmp .le 6, 3) := by decide +kernel
theorem dX7_letter_12 : decode cX7_letter 12 = .ok (.bipush (-102), 2) := by decide +kernel
theorem dX7_letter_14 : decode cX7_letter 14 = .ok (.ireturn, 1) := by decide +kernel
theorem dX7_letter_15 : decode cX7_letter 15 = .ok (.aload_n 0, 1) := by decide +kernel
theorem dX7_letter_16 : decode cX7_letter 16 = .ok (.getfield 10, 3) := by decide +kernel
theorem dX7_letter_19 : decode cX7_letter 19 = .ok (.invokevirtual 49, 3) := by decide +kernel
theorem dX7_letter_22 : decode cX7_letter 22 = .ok (.ifCond .eq 6, 3) := by decide +kernel
theorem dX7_letter_25 : decode cX7_letter 25 = .ok (.bipush (-104), 2) := by decide +kernel
theorem dX7_letter_27 : decode cX7_letter 27 = .ok (.ireturn, 1) := by decide +kernel
theorem dX7_letter_28 : decode cX7_letter 28 = .ok (.aload_n 0, 1) := by decide +kernel
theorem dX7_letter_29 : decode cX7_letter 29 = .ok (.getfield 10, 3) := by decide +kernel
theorem dX7_letter_32 : decode cX7_letter 32 = .ok (.iload_n 1, 1) := by decide +kernel
theorem dX7_letter_33 : decode cX7_letter 33 = .ok (.invokevirtual 53, 3) := by decide +kernel
theorem dX7_letter_36 : decode cX7_letter 36 = .ok (.aload_n 0, 1) := by decide +kernel
theorem dX7_letter_37 : decode cX7_letter 37 = .ok (.getfield 10, 3) := by decide +kernel
theorem dX7_letter_40 : decode cX7_letter 40 = .ok (.getfield 57, 3) := by decide +kernel
theorem dX7_letter_43 : decode cX7_letter 43 = .ok (.ireturn, 1) := by decide +kernel
theorem dX7_blank_0 : decode cX7_blank 0 = .ok (.aload_n 0, 1) := by decide +kernel
theorem dX7_blank_1 : decode cX7_blank 1 = .ok (.getfield 10, 3) := by decide +kernel
theorem dX7_blank_4 : decode cX7_blank 4 = .ok (.getfield 57, 3) := by decide +kernel
theorem dX7_blank_7 : decode cX7_blank 7 = .ok (.istore_n 1, 1) := by decide +kernel
theorem dX7_blank_8 : decode cX7_blank 8 = .ok (.aload_n 0, 1) := by decide +kernel
theorem dX7_blank_9 : decode cX7_blank 9 = .ok (.getfield 10, 3) := by decide +kernel
theorem dX7_blank_12 : decode cX7_blank 12 = .ok (.invokevirtual 61, 3) := by decide +kernel
theorem dX7_blank_15 : decode cX7_blank 15 = .ok (.iload_n 1, 1) := by decide +kernel
theorem dX7_blank_16 : decode cX7_blank 16 = .ok (.ireturn, 1) := by decide +kernel
theorem dX7_fault_0 : decode cX7_fault 0 = .ok (.aload_n 0, 1) := by decide +kernel
theorem dX7_fault_1 : decode cX7_fault 1 = .ok (.getfield 10, 3) := by decide +kernel
theorem dX7_fault_4 : decode cX7_fault 4 = .ok (.invokevirtual 64, 3) := by decide +kernel
theorem dX7_fault_7 : decode cX7_fault 7 = .ok (.ireturn, 1) := by decide +kernel
theorem dX7_tables_0 : decode cX7_tables 0 = .ok (.aload_n 0, 1) := by decide +kernel
theorem dX7_tables_1 : decode cX7_tables 1 = .ok (.getfield 10, 3) := by decide +kernel
theorem dX7_tables_4 : decode cX7_tables 4 = .ok (.invokevirtual 68, 3) := by decide +kernel
theorem dX7_tables_7 : decode cX7_tables 7 = .ok (.ifCond .ne 6, 3) := by decide +kernel
theorem dX7_tables_10 : decode cX7_tables 10 = .ok (.bipush (-103), 2) := by decide +kernel
theorem dX7_tables_12 : decode cX7_tables 12 = .ok (.ireturn, 1) := by decide +kernel
theorem dX7_tables_13 : decode cX7_tables 13 = .ok (.aload_n 0, 1) := by decide +kernel
theorem dX7_tables_14 : decode cX7_tables 14 = .ok (.getfield 10, 3) := by decide +kernel
theorem dX7_tables_17 : decode cX7_tables 17 = .ok (.invokevirtual 71, 3) := by decide +kernel
theorem dX7_tables_20 : decode cX7_tables 20 = .ok (.istore_n 1, 1) := by decide +kernel
theorem dX7_tables_21 : decode cX7_tables 21 = .ok (.aload_n 0, 1) := by decide +kernel
theorem dX7_tables_22 : decode cX7_tables 22 = .ok (.getfield 27, 3) := by decide +kernel
theorem dX7_tables_25 : decode cX7_tables 25 = .ok (.aload_n 0, 1) := by decide +kernel
theorem dX7_tables_26 : decode cX7_tables 26 = .ok (.getfield 10, 3) := by decide +kernel
theorem dX7_tables_29 : decode cX7_tables 29 = .ok (.iconst 0, 1) := by decide +kernel
theorem dX7_tables_30 : decode cX7_tables 30 = .ok (.invokevirtual 74, 3) := by decide +kernel
theorem dX7_tables_33 : decode cX7_tables 33 = .ok (.bipush 48, 2) := by decide +kernel
theorem dX7_tables_35 : decode cX7_tables 35 = .ok (.isub, 1) := by decide +kernel
theorem dX7_tables_36 : decode cX7_tables 36 = .ok (.putfield 78, 3) := by decide +kernel
theorem dX7_tables_39 : decode cX7_tables 39 = .ok (.aload_n 0, 1) := by decide +kernel
theorem dX7_tables_40 : decode cX7_tables 40 = .ok (.getfield 27, 3) := by decide +kernel
theorem dX7_tables_43 : decode cX7_tables 43 = .ok (.aload_n 0, 1) := by decide +kernel
theorem dX7_tables_44 : decode cX7_tables 44 = .ok (.getfield 10, 3) := by decide +kernel
theorem dX7_tables_47 : decode cX7_tables 47 = .ok (.iconst 1, 1) := by decide +kernel
theorem dX7_tables_48 : decode cX7_tables 48 = .ok (.invokevirtual 74, 3) := by decide +kernel
theorem dX7_tables_51 : decode cX7_tables 51 = .ok (.invokestatic 81, 3) := by decide +kernel
theorem dX7_tables_54 : decode cX7_tables 54 = .ok (.putfield 84, 3) := by decide +kernel
theorem dX7_tables_57 : decode cX7_tables 57 = .ok (.aload_n 0, 1) := by decide +kernel
theorem dX7_tables_58 : decode cX7_tables 58 = .ok (.getfield 10, 3) := by decide +kernel
theorem dX7_tables_61 : decode cX7_tables 61 = .ok (.aload_n 0, 1) := by decide +kernel
theorem dX7_tables_62 : decode cX7_tables 62 = .ok (.getfield 27, 3) := by decide +kernel
theorem dX7_tables_65 : decode cX7_tables 65 = .ok (.getfield 87, 3) := by decide +kernel
theorem dX7_tables_68 : decode cX7_tables 68 = .ok (.iconst 3, 1) := by decide +kernel
theorem dX7_tables_69 : decode cX7_tables 69 = .ok (.iload_n 1, 1) := by decide +kernel
theorem dX7_tables_70 : decode cX7_tables 70 = .ok (.invokevirtual 91, 3) := by decide +kernel
theorem dX7_tables_73 : decode cX7_tables 73 = .ok (.aload_n 0, 1) := by decide +kernel
theorem dX7_tables_74 : decode cX7_tables 74 = .ok (.getfield 10, 3) := by decide +kernel
theorem dX7_tables_77 : decode cX7_tables 77 = .ok (.aload_n 0, 1) := by decide +kernel
theorem dX7_tables_78 : decode cX7_tables 78 = .ok (.getfield 27, 3) := by decide +kernel
theorem dX7_tables_81 : decode cX7_tables 81 = .ok (.getfield 95, 3) := by decide +kernel
theorem dX7_tables_84 : decode cX7_tables 84 = .ok (.iload_n 1, 1) := by decide +kernel
theorem dX7_tables_85 : decode cX7_tables 85 = .ok (.iconst 1, 1) := by decide +kernel
theorem dX7_tables_86 : decode cX7_tables 86 = .ok (.iadd, 1) := by decide +kernel
theorem dX7_tables_87 : decode cX7_tables 87 = .ok (.aload_n 0, 1) := by decide +kernel
theorem dX7_tables_88 : decode cX7_tables 88 = .ok (.getfield 10, 3) := by decide +kernel
theorem dX7_tables_91 : decode cX7_tables 91 = .ok (.getfield 57, 3) := by decide +kernel
theorem dX7_tables_94 : decode cX7_tables 94 = .ok (.invokevirtual 91, 3) := by decide +kernel
theorem dX7_tables_97 : decode cX7_tables 97 = .ok (.aload_n 0, 1) := by decide +kernel
theorem dX7_tables_98 : decode cX7_tables 98 = .ok (.getfield 10, 3) := by decide +kernel
theorem dX7_tables_101 : decode cX7_tables 101 = .ok (.invokevirtual 61, 3) := by decide +kernel
theorem dX7_tables_104 : decode cX7_tables 104 = .ok (.aload_n 0, 1) := by decide +kernel
theorem dX7_tables_105 : decode cX7_tables 105 = .ok (.getfield 33, 3) := by decide +kernel
theorem dX7_tables_108 : decode cX7_tables 108 = .ok (.invokevirtual 98, 3) := by decide +kernel
theorem dX7_tables_111 : decode cX7_tables 111 = .ok (.aload_n 0, 1) := by decide +kernel
theorem dX7_tables_112 : decode cX7_tables 112 = .ok (.getfield 19, 3) := by decide +kernel
theorem dX7_tables_115 : decode cX7_tables 115 = .ok (.iconst 0, 1) := by decide +kernel
theorem dX7_tables_116 : decode cX7_tables 116 = .ok (.invokevirtual 99, 3) := by decide +kernel
theorem dX7_tables_119 : decode cX7_tables 119 = .ok (.aload_n 0, 1) := by decide +kernel
theorem dX7_tables_120 : decode cX7_tables 120 = .ok (.iconst 0, 1) := by decide +kernel
theorem dX7_tables_121 : decode cX7_tables 121 = .ok (.putfield 101, 3) := by decide +kernel
theorem dX7_tables_124 : decode cX7_tables 124 = .ok (.aload_n 0, 1) := by decide +kernel
theorem dX7_tables_125 : decode cX7_tables 125 = .ok (.iconst 0, 1) := by decide +kernel
theorem dX7_tables_126 : decode cX7_tables 126 = .ok (.putfield 105, 3) := by decide +kernel
theorem dX7_tables_129 : decode cX7_tables 129 = .ok (.aload_n 0, 1) := by decide +kernel
theorem dX7_tables_130 : decode cX7_tables 130 = .ok (.dup, 1) := by decide +kernel
theorem dX7_tables_131 : decode cX7_tables 131 = .ok (.getfield 108, 3) := by decide +kernel
theorem dX7_tables_134 : decode cX7_tables 134 = .ok (.iconst 1, 1) := by decide +kernel
theorem dX7_tables_135 : decode cX7_tables 135 = .ok (.iadd, 1) := by decide +kernel
theorem dX7_tables_136 : decode cX7_tables 136 = .ok (.putfield 108, 3) := by decide +kernel
theorem dX7_tables_139 : decode cX7_tables 139 = .ok (.aload_n 0, 1) := by decide +kernel
theorem dX7_tables_140 : decode cX7_tables 140 = .ok (.getfield 27, 3) := by decide +kernel
theorem dX7_tables_143 : decode cX7_tables 143 = .ok (.invokevirtual 111, 3) := by decide +kernel
theorem dX7_tables_146 : decode cX7_tables 146 = .ok (.ireturn, 1) := by decide +kernel
theorem dX7_row_0 : decode cX7_row 0 = .ok (.aload_n 0, 1) := by decide +kernel
theorem dX7_row_1 : decode cX7_row 1 = .ok (.getfield 27, 3) := by decide +kernel
theorem dX7_row_4 : decode cX7_row 4 = .ok (.iload_n 1, 1) := by decide +kernel
theorem dX7_row_5 : decode cX7_row 5 = .ok (.iload_n 2, 1) := by decide +kernel
theorem dX7_row_6 : decode cX7_row 6 = .ok (.invokevirtual 113, 3) := by decide +kernel
theorem dX7_row_9 : decode cX7_row 9 = .ok (.ifCond .ne 6, 3) := by decide +kernel
theorem dX7_row_12 : decode cX7_row 12 = .ok (.bipush (-101), 2) := by decide +kernel
theorem dX7_row_14 : decode cX7_row 14 = .ok (.ireturn, 1) := by decide +kernel
theorem dX7_row_15 : decode cX7_row 15 = .ok (.iload_n 3, 1) := by decide +kernel
theorem dX7_row_16 : decode cX7_row 16 = .ok (.ifCond .lt 8, 3) := by decide +kernel
theorem dX7_row_19 : decode cX7_row 19 = .ok (.iload_n 3, 1) := by decide +kernel
theorem dX7_row_20 : decode cX7_row 20 = .ok (.iconst 1, 1) := by decide +kernel
theorem dX7_row_21 : decode cX7_row 21 = .ok (.if_icmp .le 6, 3) := by decide +kernel
theorem dX7_row_24 : decode cX7_row 24 = .ok (.bipush (-102), 2) := by decide +kernel
theorem dX7_row_26 : decode cX7_row 26 = .ok (.ireturn, 1) := by decide +kernel
theorem dX7_row_27 : decode cX7_row 27 = .ok (.iload_n 3, 1) := by decide +kernel
theorem dX7_row_28 : decode cX7_row 28 = .ok (.ifCond .ne 18, 3) := by decide +kernel
theorem dX7_row_31 : decode cX7_row 31 = .ok (.aload_n 0, 1) := by decide +kernel
theorem dX7_row_32 : decode cX7_row 32 = .ok (.getfield 27, 3) := by decide +kernel
theorem dX7_row_35 : decode cX7_row 35 = .ok (.iload_n 1, 1) := by decide +kernel
theorem dX7_row_36 : decode cX7_row 36 = .ok (.invokevirtual 117, 3) := by decide +kernel
theorem dX7_row_39 : decode cX7_row 39 = .ok (.iload_n 2, 1) := by decide +kernel
theorem dX7_row_40 : decode cX7_row 40 = .ok (.invokevirtual 121, 3) := by decide +kernel
theorem dX7_row_43 : decode cX7_row 43 = .ok (.goto 15, 3) := by decide +kernel
theorem dX7_row_46 : decode cX7_row 46 = .ok (.aload_n 0, 1) := by decide +kernel
theorem dX7_row_47 : decode cX7_row 47 = .ok (.getfield 27, 3) := by decide +kernel
theorem dX7_row_50 : decode cX7_row 50 = .ok (.iload_n 1, 1) := by decide +kernel
theorem dX7_row_51 : decode cX7_row 51 = .ok (.iload_n 2, 1) := by decide +kernel
theorem dX7_row_52 : decode cX7_row 52 = .ok (.invokevirtual 126, 3) := by decide +kernel
theorem dX7_row_55 : decode cX7_row 55 = .ok (.invokestatic 130, 3) := by decide +kernel
theorem dX7_row_58 : decode cX7_row 58 = .ok (.ireturn, 1) := by decide +kernel
theorem dX7_as_0 : decode cX7_as 0 = .ok (.iload_n 1, 1) := by decide +kernel
theorem dX7_as_1 : decode cX7_as 1 = .ok (.invokestatic 135, 3) := by decide +kernel
theorem dX7_as_4 : decode cX7_as 4 = .ok (.ifCond .ne 6, 3) := by decide +kernel
theorem dX7_as_7 : decode cX7_as 7 = .ok (.bipush (-102), 2) := by decide +kernel
theorem dX7_as_9 : decode cX7_as 9 = .ok (.ireturn, 1) := by decide +kernel
theorem dX7_as_10 : decode cX7_as 10 = .ok (.aload_n 0, 1) := by decide +kernel
theorem dX7_as_11 : decode cX7_as 11 = .ok (.getfield 27, 3) := by decide +kernel
theorem dX7_as_14 : decode cX7_as 14 = .ok (.invokevirtual 139, 3) := by decide +kernel
theorem dX7_as_17 : decode cX7_as 17 = .ok (.ifCond .ne 6, 3) := by decide +kernel
theorem dX7_as_20 : decode cX7_as 20 = .ok (.bipush (-103), 2) := by decide +kernel
theorem dX7_as_22 : decode cX7_as 22 = .ok (.ireturn, 1) := by decide +kernel
theorem dX7_as_23 : decode cX7_as 23 = .ok (.iload_n 1, 1) := by decide +kernel
theorem dX7_as_24 : decode cX7_as 24 = .ok (.ifCond .eq 30, 3) := by decide +kernel
theorem dX7_as_27 : decode cX7_as 27 = .ok (.iload_n 1, 1) := by decide +kernel
theorem dX7_as_28 : decode cX7_as 28 = .ok (.aload_n 0, 1) := by decide +kernel
theorem dX7_as_29 : decode cX7_as 29 = .ok (.getfield 27, 3) := by decide +kernel
theorem dX7_as_32 : decode cX7_as 32 = .ok (.getfield 84, 3) := by decide +kernel
theorem dX7_as_35 : decode cX7_as 35 = .ok (.if_icmp .eq 19, 3) := by decide +kernel
theorem dX7_as_38 : decode cX7_as 38 = .ok (.iload_n 1, 1) := by decide +kernel
theorem dX7_as_39 : decode cX7_as 39 = .ok (.iconst 1, 1) := by decide +kernel
theorem dX7_as_40 : decode cX7_as 40 = .ok (.if_icmp .ne 18, 3) := by decide +kernel
theorem dX7_as_43 : decode cX7_as 43 = .ok (.aload_n 0, 1) := by decide +kernel
theorem dX7_as_44 : decode cX7_as 44 = .ok (.getfield 27, 3) := by decide +kernel
theorem dX7_as_47 : decode cX7_as 47 = .ok (.getfield 84, 3) := by decide +kernel
theorem dX7_as_50 : decode cX7_as 50 = .ok (.iconst 4, 1) := by decide +kernel
theorem dX7_as_51 : decode cX7_as 51 = .ok (.if_icmp .ne 7, 3) := by decide +kernel
theorem dX7_as_54 : decode cX7_as 54 = .ok (.iconst 1, 1) := by decide +kernel
theorem dX7_as_55 : decode cX7_as 55 = .ok (.goto 4, 3) := by decide +kernel
theorem dX7_as_58 : decode cX7_as 58 = .ok (.iconst 0, 1) := by decide +kernel
theorem dX7_as_59 : decode cX7_as 59 = .ok (.istore_n 2, 1) := by decide +kernel
theorem dX7_as_60 : decode cX7_as 60 = .ok (.iload_n 2, 1) := by decide +kernel
theorem dX7_as_61 : decode cX7_as 61 = .ok (.ifCond .eq 13, 3) := by decide +kernel
theorem dX7_as_64 : decode cX7_as 64 = .ok (.aload_n 0, 1) := by decide +kernel
theorem dX7_as_65 : decode cX7_as 65 = .ok (.getfield 27, 3) := by decide +kernel
theorem dX7_as_68 : decode cX7_as 68 = .ok (.getfield 84, 3) := by decide +kernel
theorem dX7_as_71 : decode cX7_as 71 = .ok (.goto 4, 3) := by decide +kernel
theorem dX7_as_74 : decode cX7_as 74 = .ok (.iconst (-1), 1) := by decide +kernel
theorem dX7_as_75 : decode cX7_as 75 = .ok (.ireturn, 1) := by decide +kernel
theorem dX7_put_0 : decode cX7_put 0 = .ok (.iload_n 1, 1) := by decide +kernel
theorem dX7_put_1 : decode cX7_put 1 = .ok (.invokestatic 142, 3) := by decide +kernel
theorem dX7_put_4 : decode cX7_put 4 = .ok (.ifCond .ne 6, 3) := by decide +kernel
theorem dX7_put_7 : decode cX7_put 7 = .ok (.bipush (-101), 2) := by decide +kernel
theorem dX7_put_9 : decode cX7_put 9 = .ok (.ireturn, 1) := by decide +kernel
theorem dX7_put_10 : decode cX7_put 10 = .ok (.iload_n 2, 1) := by decide +kernel
theorem dX7_put_11 : decode cX7_put 11 = .ok (.invokestatic 145, 3) := by decide +kernel
theorem dX7_put_14 : decode cX7_put 14 = .ok (.ifCond .ne 6, 3) := by decide +kernel
theorem dX7_put_17 : decode cX7_put 17 = .ok (.bipush (-102), 2) := by decide +kernel
theorem dX7_put_19 : decode cX7_put 19 = .ok (.ireturn, 1) := by decide +kernel
theorem dX7_put_20 : decode cX7_put 20 = .ok (.aload_n 0, 1) := by decide +kernel
theorem dX7_put_21 : decode cX7_put 21 = .ok (.getfield 27, 3) := by decide +kernel
theorem dX7_put_24 : decode cX7_put 24 = .ok (.invokevirtual 139, 3) := by decide +kernel
theorem dX7_put_27 : decode cX7_put 27 = .ok (.ifCond .ne 6, 3) := by decide +kernel
theorem dX7_put_30 : decode cX7_put 30 = .ok (.bipush (-103), 2) := by decide +kernel
theorem dX7_put_32 : decode cX7_put 32 = .ok (.ireturn, 1) := by decide +kernel
theorem dX7_put_33 : decode cX7_put 33 = .ok (.aload_n 0, 1) := by decide +kernel
theorem dX7_put_34 : decode cX7_put 34 = .ok (.getfield 27, 3) := by decide +kernel
theorem dX7_put_37 : decode cX7_put 37 = .ok (.iload_n 1, 1) := by decide +kernel
theorem dX7_put_38 : decode cX7_put 38 = .ok (.invokevirtual 117, 3) := by decide +kernel
theorem dX7_put_41 : decode cX7_put 41 = .ok (.astore_n 3, 1) := by decide +kernel
theorem dX7_put_42 : decode cX7_put 42 = .ok (.aload_n 3, 1) := by decide +kernel
theorem dX7_put_43 : decode cX7_put 43 = .ok (.getfield 148, 3) := by decide +kernel
theorem dX7_put_46 : decode cX7_put 46 = .ok (.bipush 14, 2) := by decide +kernel
theorem dX7_put_48 : decode cX7_put 48 = .ok (.if_icmp .lt 6, 3) := by decide +kernel
theorem dX7_put_51 : decode cX7_put 51 = .ok (.bipush (-104), 2) := by decide +kernel
theorem dX7_put_53 : decode cX7_put 53 = .ok (.ireturn, 1) := by decide +kernel
theorem dX7_put_54 : decode cX7_put 54 = .ok (.aload_n 3, 1) := by decide +kernel
theorem dX7_put_55 : decode cX7_put 55 = .ok (.iload_n 2, 1) := by decide +kernel
theorem dX7_put_56 : decode cX7_put 56 = .ok (.invokevirtual 149, 3) := by decide +kernel
theorem dX7_put_59 : decode cX7_put 59 = .ok (.aload_n 3, 1) := by decide +kernel
theorem dX7_put_60 : decode cX7_put 60 = .ok (.getfield 148, 3) := by decide +kernel
theorem dX7_put_63 : decode cX7_put 63 = .ok (.ireturn, 1) := by decide +kernel
theorem dX7_take_0 : decode cX7_take 0 = .ok (.aload_n 0, 1) := by decide +kernel
theorem dX7_take_1 : decode cX7_take 1 = .ok (.getfield 27, 3) := by decide +kernel
theorem dX7_take_4 : decode cX7_take 4 = .ok (.iload_n 1, 1) := by decide +kernel
theorem dX7_take_5 : decode cX7_take 5 = .ok (.iload_n 2, 1) := by decide +kernel
theorem dX7_take_6 : decode cX7_take 6 = .ok (.invokevirtual 113, 3) := by decide +kernel
theorem dX7_take_9 : decode cX7_take 9 = .ok (.ifCond .ne 6, 3) := by decide +kernel
theorem dX7_take_12 : decode cX7_take 12 = .ok (.bipush (-101), 2) := by decide +kernel
theorem dX7_take_14 : decode cX7_take 14 = .ok (.ireturn, 1) := by decide +kernel
theorem dX7_take_15 : decode cX7_take 15 = .ok (.aload_n 0, 1) := by decide +kernel
theorem dX7_take_16 : decode cX7_take 16 = .ok (.getfield 27, 3) := by decide +kernel
theorem dX7_take_19 : decode cX7_take 19 = .ok (.iload_n 1, 1) := by decide +kernel
theorem dX7_take_20 : decode cX7_take 20 = .ok (.invokevirtual 117, 3) := by decide +kernel
theorem dX7_take_23 : decode cX7_take 23 = .ok (.astore_n 3, 1) := by decide +kernel
theorem dX7_take_24 : decode cX7_take 24 = .ok (.aload_n 3, 1) := by decide +kernel
theorem dX7_take_25 : decode cX7_take 25 = .ok (.iload_n 2, 1) := by decide +kernel
theorem dX7_take_26 : decode cX7_take 26 = .ok (.invokevirtual 121, 3) := by decide +kernel
theorem dX7_take_29 : decode cX7_take 29 = .ok (.istore 4, 2) := by decide +kernel
theorem dX7_take_31 : decode cX7_take 31 = .ok (.aload_n 3, 1) := by decide +kernel
theorem dX7_take_32 : decode cX7_take 32 = .ok (.iload_n 2, 1) := by decide +kernel
theorem dX7_take_33 : decode cX7_take 33 = .ok (.invokevirtual 150, 3) := by decide +kernel
theorem dX7_take_36 : decode cX7_take 36 = .ok (.iload 4, 2) := by decide +kernel
theorem dX7_take_38 : decode cX7_take 38 = .ok (.ireturn, 1) := by decide +kernel
theorem dX7_key_0 : decode cX7_key 0 = .ok (.aload_n 0, 1) := by decide +kernel
theorem dX7_key_1 : decode cX7_key 1 = .ok (.getfield 27, 3) := by decide +kernel
theorem dX7_key_4 : decode cX7_key 4 = .ok (.iload_n 1, 1) := by decide +kernel
theorem dX7_key_5 : decode cX7_key 5 = .ok (.iload_n 2, 1) := by decide +kernel
theorem dX7_key_6 : decode cX7_key 6 = .ok (.invokevirtual 113, 3) := by decide +kernel
theorem dX7_key_9 : decode cX7_key 9 = .ok (.ifCond .ne 6, 3) := by decide +kernel
theorem dX7_key_12 : decode cX7_key 12 = .ok (.bipush (-101), 2) := by decide +kernel
theorem dX7_key_14 : decode cX7_key 14 = .ok (.ireturn, 1) := by decide +kernel
theorem dX7_key_15 : decode cX7_key 15 = .ok (.iload_n 3, 1) := by decide +kernel
theorem dX7_key_16 : decode cX7_key 16 = .ok (.invokestatic 145, 3) := by decide +kernel
theorem dX7_key_19 : decode cX7_key 19 = .ok (.ifCond .ne 6, 3) := by decide +kernel
theorem dX7_key_22 : decode cX7_key 22 = .ok (.bipush (-102), 2) := by decide +kernel
theorem dX7_key_24 : decode cX7_key 24 = .ok (.ireturn, 1) := by decide +kernel
theorem dX7_key_25 : decode cX7_key 25 = .ok (.aload_n 0, 1) := by decide +kernel
theorem dX7_key_26 : decode cX7_key 26 = .ok (.getfield 27, 3) := by decide +kernel
theorem dX7_key_29 : decode cX7_key 29 = .ok (.iload_n 1, 1) := by decide +kernel
theorem dX7_key_30 : decode cX7_key 30 = .ok (.invokevirtual 117, 3) := by decide +kernel
theorem dX7_key_33 : decode cX7_key 33 = .ok (.astore 4, 2) := by decide +kernel
theorem dX7_key_35 : decode cX7_key 35 = .ok (.aload 4, 2) := by decide +kernel
theorem dX7_key_37 : decode cX7_key 37 = .ok (.iload_n 2, 1) := by decide +kernel
theorem dX7_key_38 : decode cX7_key 38 = .ok (.invokevirtual 121, 3) := by decide +kernel
theorem dX7_key_41 : decode cX7_key 41 = .ok (.istore 5, 2) := by decide +kernel
theorem dX7_key_43 : decode cX7_key 43 = .ok (.aload 4, 2) := by decide +kernel
theorem dX7_key_45 : decode cX7_key 45 = .ok (.iload_n 2, 1) := by decide +kernel
theorem dX7_key_46 : decode cX7_key 46 = .ok (.iload_n 3, 1) := by decide +kernel
theorem dX7_key_47 : decode cX7_key 47 = .ok (.invokevirtual 153, 3) := by decide +kernel
theorem dX7_key_50 : decode cX7_key 50 = .ok (.iload 5, 2) := by decide +kernel
theorem dX7_key_52 : decode cX7_key 52 = .ok (.ireturn, 1) := by decide +kernel
theorem dX7_memory_0 : decode cX7_memory 0 = .ok (.iload_n 1, 1) := by decide +kernel
theorem dX7_memory_1 : decode cX7_memory 1 = .ok (.iconst 1, 1) := by decide +kernel
theorem dX7_memory_2 : decode cX7_memory 2 = .ok (.if_icmp .lt 9, 3) := by decide +kernel
theorem dX7_memory_5 : decode cX7_memory 5 = .ok (.iload_n 1, 1) := by decide +kernel
theorem dX7_memory_6 : decode cX7_memory 6 = .ok (.bipush 9, 2) := by decide +kernel
theorem dX7_memory_8 : decode cX7_memory 8 = .ok (.if_icmp .le 6, 3) := by decide +kernel
theorem dX7_memory_11 : decode cX7_memory 11 = .ok (.bipush (-102), 2) := by decide +kernel
theorem dX7_memory_13 : decode cX7_memory 13 = .ok (.ireturn, 1) := by decide +kernel
theorem dX7_memory_14 : decode cX7_memory 14 = .ok (.aload_n 0, 1) := by decide +kernel
theorem dX7_memory_15 : decode cX7_memory 15 = .ok (.getfield 27, 3) := by decide +kernel
theorem dX7_memory_18 : decode cX7_memory 18 = .ok (.invokevirtual 139, 3) := by decide +kernel
theorem dX7_memory_21 : decode cX7_memory 21 = .ok (.ifCond .ne 6, 3) := by decide +kernel
theorem dX7_memory_24 : decode cX7_memory 24 = .ok (.bipush (-103), 2) := by decide +kernel
theorem dX7_memory_26 : decode cX7_memory 26 = .ok (.ireturn, 1) := by decide +kernel
theorem dX7_memory_27 : decode cX7_memory 27 = .ok (.aload_n 0, 1) := by decide +kernel
theorem dX7_memory_28 : decode cX7_memory 28 = .ok (.getfield 27, 3) := by decide +kernel
theorem dX7_memory_31 : decode cX7_memory 31 = .ok (.getfield 78, 3) := by decide +kernel
theorem dX7_memory_34 : decode cX7_memory 34 = .ok (.istore_n 2, 1) := by decide +kernel
theorem dX7_memory_35 : decode cX7_memory 35 = .ok (.aload_n 0, 1) := by decide +kernel
theorem dX7_memory_36 : decode cX7_memory 36 = .ok (.getfield 27, 3) := by decide +kernel
theorem dX7_memory_39 : decode cX7_memory 39 = .ok (.iload_n 1, 1) := by decide +kernel
theorem dX7_memory_40 : decode cX7_memory 40 = .ok (.putfield 78, 3) := by decide +kernel
theorem dX7_memory_43 : decode cX7_memory 43 = .ok (.iload_n 2, 1) := by decide +kernel
theorem dX7_memory_44 : decode cX7_memory 44 = .ok (.ireturn, 1) := by decide +kernel
theorem dX7_be_0 : decode cX7_be 0 = .ok (.iload_n 1, 1) := by decide +kernel
theorem dX7_be_1 : decode cX7_be 1 = .ok (.invokestatic 135, 3) := by decide +kernel
theorem dX7_be_4 : decode cX7_be 4 = .ok (.ifCond .ne 6, 3) := by decide +kernel
theorem dX7_be_7 : decode cX7_be 7 = .ok (.bipush (-102), 2) := by decide +kernel
theorem dX7_be_9 : decode cX7_be 9 = .ok (.ireturn, 1) := by decide +kernel
theorem dX7_be_10 : decode cX7_be 10 = .ok (.aload_n 0, 1) := by decide +kernel
theorem dX7_be_11 : decode cX7_be 11 = .ok (.getfield 27, 3) := by decide +kernel
theorem dX7_be_14 : decode cX7_be 14 = .ok (.invokevirtual 139, 3) := by decide +kernel
theorem dX7_be_17 : decode cX7_be 17 = .ok (.ifCond .ne 6, 3) := by decide +kernel
theorem dX7_be_20 : decode cX7_be 20 = .ok (.bipush (-103), 2) := by decide +kernel
theorem dX7_be_22 : decode cX7_be 22 = .ok (.ireturn, 1) := by decide +kernel
theorem dX7_be_23 : decode cX7_be 23 = .ok (.aload_n 0, 1) := by decide +kernel
theorem dX7_be_24 : decode cX7_be 24 = .ok (.getfield 27, 3) := by decide +kernel
theorem dX7_be_27 : decode cX7_be 27 = .ok (.getfield 84, 3) := by decide +kernel
theorem dX7_be_30 : decode cX7_be 30 = .ok (.istore_n 2, 1) := by decide +kernel
theorem dX7_be_31 : decode cX7_be 31 = .ok (.aload_n 0, 1) := by decide +kernel
theorem dX7_be_32 : decode cX7_be 32 = .ok (.getfield 27, 3) := by decide +kernel
theorem dX7_be_35 : decode cX7_be 35 = .ok (.iload_n 1, 1) := by decide +kernel
theorem dX7_be_36 : decode cX7_be 36 = .ok (.putfield 84, 3) := by decide +kernel
theorem dX7_be_39 : decode cX7_be 39 = .ok (.iload_n 2, 1) := by decide +kernel
theorem dX7_be_40 : decode cX7_be 40 = .ok (.ireturn, 1) := by decide +kernel
theorem dX7_run_0 : decode cX7_run 0 = .ok (.iload_n 1, 1) := by decide +kernel
theorem dX7_run_1 : decode cX7_run 1 = .ok (.ifCond .lt 10, 3) := by decide +kernel
theorem dX7_run_4 : decode cX7_run 4 = .ok (.iload_n 1, 1) := by decide +kernel
theorem dX7_run_5 : decode cX7_run 5 = .ok (.sipush 250, 3) := by decide +kernel
theorem dX7_run_8 : decode cX7_run 8 = .ok (.if_icmp .le 6, 3) := by decide +kernel
theorem dX7_run_11 : decode cX7_run 11 = .ok (.bipush (-102), 2) := by decide +kernel
theorem dX7_run_13 : decode cX7_run 13 = .ok (.ireturn, 1) := by decide +kernel
theorem dX7_run_14 : decode cX7_run 14 = .ok (.aload_n 0, 1) := by decide +kernel
theorem dX7_run_15 : decode cX7_run 15 = .ok (.getfield 27, 3) := by decide +kernel
theorem dX7_run_18 : decode cX7_run 18 = .ok (.invokevirtual 139, 3) := by decide +kernel
theorem dX7_run_21 : decode cX7_run 21 = .ok (.ifCond .ne 6, 3) := by decide +kernel
theorem dX7_run_24 : decode cX7_run 24 = .ok (.bipush (-103), 2) := by decide +kernel
theorem dX7_run_26 : decode cX7_run 26 = .ok (.ireturn, 1) := by decide +kernel
theorem dX7_run_27 : decode cX7_run 27 = .ok (.aload_n 0, 1) := by decide +kernel
theorem dX7_run_28 : decode cX7_run 28 = .ok (.dup, 1) := by decide +kernel
theorem dX7_run_29 : decode cX7_run 29 = .ok (.getfield 105, 3) := by decide +kernel
theorem dX7_run_32 : decode cX7_run 32 = .ok (.iconst 1, 1) := by decide +kernel
theorem dX7_run_33 : decode cX7_run 33 = .ok (.iadd, 1) := by decide +kernel
theorem dX7_run_34 : decode cX7_run 34 = .ok (.putfield 105, 3) := by decide +kernel
theorem dX7_run_37 : decode cX7_run 37 = .ok (.aload_n 0, 1) := by decide +kernel
theorem dX7_run_38 : decode cX7_run 38 = .ok (.getfield 19, 3) := by decide +kernel
theorem dX7_run_41 : decode cX7_run 41 = .ok (.iload_n 1, 1) := by decide +kernel
theorem dX7_run_42 : decode cX7_run 42 = .ok (.invokevirtual 157, 3) := by decide +kernel
theorem dX7_run_45 : decode cX7_run 45 = .ok (.aload_n 0, 1) := by decide +kernel
theorem dX7_run_46 : decode cX7_run 46 = .ok (.getfield 19, 3) := by decide +kernel
theorem dX7_run_49 : decode cX7_run 49 = .ok (.getfield 160, 3) := by decide +kernel
theorem dX7_run_52 : decode cX7_run 52 = .ok (.getfield 164, 3) := by decide +kernel
theorem dX7_run_55 : decode cX7_run 55 = .ok (.ifCond .eq 8, 3) := by decide +kernel
theorem dX7_run_58 : decode cX7_run 58 = .ok (.bipush (-2), 2) := by decide +kernel
theorem dX7_run_60 : decode cX7_run 60 = .ok (.goto 13, 3) := by decide +kernel
theorem dX7_run_63 : decode cX7_run 63 = .ok (.aload_n 0, 1) := by decide +kernel
theorem dX7_run_64 : decode cX7_run 64 = .ok (.getfield 19, 3) := by decide +kernel
theorem dX7_run_67 : decode cX7_run 67 = .ok (.getfield 160, 3) := by decide +kernel
theorem dX7_run_70 : decode cX7_run 70 = .ok (.getfield 169, 3) := by decide +kernel
theorem dX7_run_73 : decode cX7_run 73 = .ok (.ireturn, 1) := by decide +kernel
theorem dX7_out_0 : decode cX7_out 0 = .ok (.iload_n 1, 1) := by decide +kernel
theorem dX7_out_1 : decode cX7_out 1 = .ok (.ifCond .lt 17, 3) := by decide +kernel
theorem dX7_out_4 : decode cX7_out 4 = .ok (.iload_n 1, 1) := by decide +kernel
theorem dX7_out_5 : decode cX7_out 5 = .ok (.aload_n 0, 1) := by decide +kernel
theorem dX7_out_6 : decode cX7_out 6 = .ok (.getfield 19, 3) := by decide +kernel
theorem dX7_out_9 : decode cX7_out 9 = .ok (.getfield 160, 3) := by decide +kernel
theorem dX7_out_12 : decode cX7_out 12 = .ok (.getfield 169, 3) := by decide +kernel
theorem dX7_out_15 : decode cX7_out 15 = .ok (.if_icmp .lt 6, 3) := by decide +kernel
theorem dX7_out_18 : decode cX7_out 18 = .ok (.bipush (-101), 2) := by decide +kernel
theorem dX7_out_20 : decode cX7_out 20 = .ok (.ireturn, 1) := by decide +kernel
theorem dX7_out_21 : decode cX7_out 21 = .ok (.iload_n 2, 1) := by decide +kernel
theorem dX7_out_22 : decode cX7_out 22 = .ok (.ifCond .lt 8, 3) := by decide +kernel
theorem dX7_out_25 : decode cX7_out 25 = .ok (.iload_n 2, 1) := by decide +kernel
theorem dX7_out_26 : decode cX7_out 26 = .ok (.iconst 1, 1) := by decide +kernel
theorem dX7_out_27 : decode cX7_out 27 = .ok (.if_icmp .le 6, 3) := by decide +kernel
theorem dX7_out_30 : decode cX7_out 30 = .ok (.bipush (-102), 2) := by decide +kernel
theorem dX7_out_32 : decode cX7_out 32 = .ok (.ireturn, 1) := by decide +kernel
theorem dX7_out_33 : decode cX7_out 33 = .ok (.aload_n 0, 1) := by decide +kernel
theorem dX7_out_34 : decode cX7_out 34 = .ok (.getfield 19, 3) := by decide +kernel
theorem dX7_out_37 : decode cX7_out 37 = .ok (.getfield 160, 3) := by decide +kernel
theorem dX7_out_40 : decode cX7_out 40 = .ok (.iload_n 1, 1) := by decide +kernel
theorem dX7_out_41 : decode cX7_out 41 = .ok (.iload_n 2, 1) := by decide +kernel
theorem dX7_out_42 : decode cX7_out 42 = .ok (.invokevirtual 170, 3) := by decide +kernel
theorem dX7_out_45 : decode cX7_out 45 = .ok (.ireturn, 1) := by decide +kernel
theorem dX7_log_0 : decode cX7_log 0 = .ok (.iload_n 1, 1) := by decide +kernel
theorem dX7_log_1 : decode cX7_log 1 = .ok (.ifCond .lt 17, 3) := by decide +kernel
theorem dX7_log_4 : decode cX7_log 4 = .ok (.iload_n 1, 1) := by decide +kernel
theorem dX7_log_5 : decode cX7_log 5 = .ok (.aload_n 0, 1) := by decide +kernel
theorem dX7_log_6 : decode cX7_log 6 = .ok (.getfield 19, 3) := by decide +kernel
theorem dX7_log_9 : decode cX7_log 9 = .ok (.getfield 173, 3) := by decide +kernel
theorem dX7_log_12 : decode cX7_log 12 = .ok (.getfield 177, 3) := by decide +kernel
theorem dX7_log_15 : decode cX7_log 15 = .ok (.if_icmp .lt 6, 3) := by decide +kernel
theorem dX7_log_18 : decode cX7_log 18 = .ok (.bipush (-101), 2) := by decide +kernel
theorem dX7_log_20 : decode cX7_log 20 = .ok (.ireturn, 1) := by decide +kernel
theorem dX7_log_21 : decode cX7_log 21 = .ok (.iload_n 2, 1) := by decide +kernel
theorem dX7_log_22 : decode cX7_log 22 = .ok (.ifCond .lt 8, 3) := by decide +kernel
theorem dX7_log_25 : decode cX7_log 25 = .ok (.iload_n 2, 1) := by decide +kernel
theorem dX7_log_26 : decode cX7_log 26 = .ok (.iconst 2, 1) := by decide +kernel
theorem dX7_log_27 : decode cX7_log 27 = .ok (.if_icmp .le 6, 3) := by decide +kernel
theorem dX7_log_30 : decode cX7_log 30 = .ok (.bipush (-102), 2) := by decide +kernel
theorem dX7_log_32 : decode cX7_log 32 = .ok (.ireturn, 1) := by decide +kernel
theorem dX7_log_33 : decode cX7_log 33 = .ok (.aload_n 0, 1) := by decide +kernel
theorem dX7_log_34 : decode cX7_log 34 = .ok (.getfield 19, 3) := by decide +kernel
theorem dX7_log_37 : decode cX7_log 37 = .ok (.getfield 173, 3) := by decide +kernel
theorem dX7_log_40 : decode cX7_log 40 = .ok (.iload_n 1, 1) := by decide +kernel
theorem dX7_log_41 : decode cX7_log 41 = .ok (.iload_n 2, 1) := by decide +kernel
theorem dX7_log_42 : decode cX7_log 42 = .ok (.invokevirtual 180, 3) := by decide +kernel
theorem dX7_log_45 : decode cX7_log 45 = .ok (.ireturn, 1) := by decide +kernel
theorem dX7_ledger_0 : decode cX7_ledger 0 = .ok (.iload_n 1, 1) := by decide +kernel
theorem dX7_ledger_1 : decode cX7_ledger 1 = .ok (.ifCond .lt 9, 3) := by decide +kernel
theorem dX7_ledger_4 : decode cX7_ledger 4 = .ok (.iload_n 1, 1) := by decide +kernel
theorem dX7_ledger_5 : decode cX7_ledger 5 = .ok (.bipush 10, 2) := by decide +kernel
theorem dX7_ledger_7 : decode cX7_ledger 7 = .ok (.if_icmp .lt 6, 3) := by decide +kernel
theorem dX7_ledger_10 : decode cX7_ledger 10 = .ok (.bipush (-102), 2) := by decide +kernel
theorem dX7_ledger_12 : decode cX7_ledger 12 = .ok (.ireturn, 1) := by decide +kernel
theorem dX7_ledger_13 : decode cX7_ledger 13 = .ok (.aload_n 0, 1) := by decide +kernel
theorem dX7_ledger_14 : decode cX7_ledger 14 = .ok (.getfield 19, 3) := by decide +kernel
theorem dX7_ledger_17 : decode cX7_ledger 17 = .ok (.iload_n 1, 1) := by decide +kernel
theorem dX7_ledger_18 : decode cX7_ledger 18 = .ok (.invokevirtual 181, 3) := by decide +kernel
theorem dX7_ledger_21 : decode cX7_ledger 21 = .ok (.ireturn, 1) := by decide +kernel
theorem dX7_spare_0 : decode cX7_spare 0 = .ok (.aload_n 0, 1) := by decide +kernel
theorem dX7_spare_1 : decode cX7_spare 1 = .ok (.getfield 27, 3) := by decide +kernel
theorem dX7_spare_4 : decode cX7_spare 4 = .ok (.invokevirtual 139, 3) := by decide +kernel
theorem dX7_spare_7 : decode cX7_spare 7 = .ok (.ifCond .ne 6, 3) := by decide +kernel
theorem dX7_spare_10 : decode cX7_spare 10 = .ok (.bipush (-103), 2) := by decide +kernel
theorem dX7_spare_12 : decode cX7_spare 12 = .ok (.ireturn, 1) := by decide +kernel
theorem dX7_spare_13 : decode cX7_spare 13 = .ok (.aload_n 0, 1) := by decide +kernel
theorem dX7_spare_14 : decode cX7_spare 14 = .ok (.getfield 27, 3) := by decide +kernel
theorem dX7_spare_17 : decode cX7_spare 17 = .ok (.aload_n 0, 1) := by decide +kernel
theorem dX7_spare_18 : decode cX7_spare 18 = .ok (.getfield 27, 3) := by decide +kernel
theorem dX7_spare_21 : decode cX7_spare 21 = .ok (.getfield 87, 3) := by decide +kernel
theorem dX7_spare_24 : decode cX7_spare 24 = .ok (.invokevirtual 184, 3) := by decide +kernel
theorem dX7_spare_27 : decode cX7_spare 27 = .ok (.aload_n 0, 1) := by decide +kernel
theorem dX7_spare_28 : decode cX7_spare 28 = .ok (.getfield 27, 3) := by decide +kernel
theorem dX7_spare_31 : decode cX7_spare 31 = .ok (.getfield 95, 3) := by decide +kernel
theorem dX7_spare_34 : decode cX7_spare 34 = .ok (.invokevirtual 184, 3) := by decide +kernel
theorem dX7_spare_37 : decode cX7_spare 37 = .ok (.invokevirtual 187, 3) := by decide +kernel
theorem dX7_spare_40 : decode cX7_spare 40 = .ok (.istore_n 1, 1) := by decide +kernel
theorem dX7_spare_41 : decode cX7_spare 41 = .ok (.aload_n 0, 1) := by decide +kernel
theorem dX7_spare_42 : decode cX7_spare 42 = .ok (.getfield 27, 3) := by decide +kernel
theorem dX7_spare_45 : decode cX7_spare 45 = .ok (.iload_n 1, 1) := by decide +kernel
theorem dX7_spare_46 : decode cX7_spare 46 = .ok (.invokevirtual 117, 3) := by decide +kernel
theorem dX7_spare_49 : decode cX7_spare 49 = .ok (.invokevirtual 184, 3) := by decide +kernel
theorem dX7_spare_52 : decode cX7_spare 52 = .ok (.istore_n 2, 1) := by decide +kernel
theorem dX7_spare_53 : decode cX7_spare 53 = .ok (.aload_n 0, 1) := by decide +kernel
theorem dX7_spare_54 : decode cX7_spare 54 = .ok (.getfield 27, 3) := by decide +kernel
theorem dX7_spare_57 : decode cX7_spare 57 = .ok (.iload_n 1, 1) := by decide +kernel
theorem dX7_spare_58 : decode cX7_spare 58 = .ok (.invokevirtual 117, 3) := by decide +kernel
theorem dX7_spare_61 : decode cX7_spare 61 = .ok (.iload_n 2, 1) := by decide +kernel
theorem dX7_spare_62 : decode cX7_spare 62 = .ok (.invokevirtual 190, 3) := by decide +kernel
theorem dX7_spare_65 : decode cX7_spare 65 = .ok (.ifCond .eq 5, 3) := by decide +kernel
theorem dX7_spare_68 : decode cX7_spare 68 = .ok (.iconst 1, 1) := by decide +kernel
theorem dX7_spare_69 : decode cX7_spare 69 = .ok (.ireturn, 1) := by decide +kernel
theorem dX7_spare_70 : decode cX7_spare 70 = .ok (.iconst 1, 1) := by decide +kernel
theorem dX7_spare_71 : decode cX7_spare 71 = .ok (.iload_n 2, 1) := by decide +kernel
theorem dX7_spare_72 : decode cX7_spare 72 = .ok (.invokestatic 130, 3) := by decide +kernel
theorem dX7_spare_75 : decode cX7_spare 75 = .ok (.invokestatic 193, 3) := by decide +kernel
theorem dX7_spare_78 : decode cX7_spare 78 = .ok (.istore_n 3, 1) := by decide +kernel
theorem dX7_spare_79 : decode cX7_spare 79 = .ok (.iload_n 3, 1) := by decide +kernel
theorem dX7_spare_80 : decode cX7_spare 80 = .ok (.bipush 9, 2) := by decide +kernel
theorem dX7_spare_82 : decode cX7_spare 82 = .ok (.if_icmp .gt 7, 3) := by decide +kernel
theorem dX7_spare_85 : decode cX7_spare 85 = .ok (.iload_n 3, 1) := by decide +kernel
theorem dX7_spare_86 : decode cX7_spare 86 = .ok (.goto 4, 3) := by decide +kernel
theorem dX7_spare_89 : decode cX7_spare 89 = .ok (.iconst (-1), 1) := by decide +kernel
theorem dX7_spare_90 : decode cX7_spare 90 = .ok (.ireturn, 1) := by decide +kernel
theorem dX7_see_0 : decode cX7_see 0 = .ok (.iload_n 1, 1) := by decide +kernel
theorem dX7_see_1 : decode cX7_see 1 = .ok (.ifCond .lt 8, 3) := by decide +kernel
theorem dX7_see_4 : decode cX7_see 4 = .ok (.iload_n 1, 1) := by decide +kernel
theorem dX7_see_5 : decode cX7_see 5 = .ok (.iconst 4, 1) := by decide +kernel
theorem dX7_see_6 : decode cX7_see 6 = .ok (.if_icmp .lt 6, 3) := by decide +kernel
theorem dX7_see_9 : decode cX7_see 9 = .ok (.bipush (-102), 2) := by decide +kernel
theorem dX7_see_11 : decode cX7_see 11 = .ok (.ireturn, 1) := by decide +kernel
theorem dX7_see_12 : decode cX7_see 12 = .ok (.aload_n 0, 1) := by decide +kernel
theorem dX7_see_13 : decode cX7_see 13 = .ok (.getfield 27, 3) := by decide +kernel
theorem dX7_see_16 : decode cX7_see 16 = .ok (.invokevirtual 139, 3) := by decide +kernel
theorem dX7_see_19 : decode cX7_see 19 = .ok (.ifCond .ne 6, 3) := by decide +kernel
theorem dX7_see_22 : decode cX7_see 22 = .ok (.bipush (-103), 2) := by decide +kernel
theorem dX7_see_24 : decode cX7_see 24 = .ok (.ireturn, 1) := by decide +kernel
theorem dX7_see_25 : decode cX7_see 25 = .ok (.aload_n 0, 1) := by decide +kernel
theorem dX7_see_26 : decode cX7_see 26 = .ok (.getfield 33, 3) := by decide +kernel
theorem dX7_see_29 : decode cX7_see 29 = .ok (.getfield 198, 3) := by decide +kernel
theorem dX7_see_32 : decode cX7_see 32 = .ok (.bipush 6, 2) := by decide +kernel
theorem dX7_see_34 : decode cX7_see 34 = .ok (.if_icmp .lt 6, 3) := by decide +kernel
theorem dX7_see_37 : decode cX7_see 37 = .ok (.bipush (-104), 2) := by decide +kernel
theorem dX7_see_39 : decode cX7_see 39 = .ok (.ireturn, 1) := by decide +kernel
theorem dX7_see_40 : decode cX7_see 40 = .ok (.aload_n 0, 1) := by decide +kernel
theorem dX7_see_41 : decode cX7_see 41 = .ok (.getfield 33, 3) := by decide +kernel
theorem dX7_see_44 : decode cX7_see 44 = .ok (.iload_n 1, 1) := by decide +kernel
theorem dX7_see_45 : decode cX7_see 45 = .ok (.iload_n 2, 1) := by decide +kernel
theorem dX7_see_46 : decode cX7_see 46 = .ok (.invokevirtual 199, 3) := by decide +kernel
theorem dX7_see_49 : decode cX7_see 49 = .ok (.aload_n 0, 1) := by decide +kernel
theorem dX7_see_50 : decode cX7_see 50 = .ok (.getfield 33, 3) := by decide +kernel
theorem dX7_see_53 : decode cX7_see 53 = .ok (.getfield 198, 3) := by decide +kernel
theorem dX7_see_56 : decode cX7_see 56 = .ok (.ireturn, 1) := by decide +kernel
theorem dX7_forget_0 : decode cX7_forget 0 = .ok (.aload_n 0, 1) := by decide +kernel
theorem dX7_forget_1 : decode cX7_forget 1 = .ok (.getfield 33, 3) := by decide +kernel
theorem dX7_forget_4 : decode cX7_forget 4 = .ok (.getfield 198, 3) := by decide +kernel
theorem dX7_forget_7 : decode cX7_forget 7 = .ok (.istore_n 1, 1) := by decide +kernel
theorem dX7_forget_8 : decode cX7_forget 8 = .ok (.aload_n 0, 1) := by decide +kernel
theorem dX7_forget_9 : decode cX7_forget 9 = .ok (.getfield 33, 3) := by decide +kernel
theorem dX7_forget_12 : decode cX7_forget 12 = .ok (.invokevirtual 98, 3) := by decide +kernel
theorem dX7_forget_15 : decode cX7_forget 15 = .ok (.iload_n 1, 1) := by decide +kernel
theorem dX7_forget_16 : decode cX7_forget 16 = .ok (.ireturn, 1) := by decide +kernel
theorem dX7_sorts_0 : decode cX7_sorts 0 = .ok (.iload_n 1, 1) := by decide +kernel
theorem dX7_sorts_1 : decode cX7_sorts 1 = .ok (.ifCond .lt 8, 3) := by decide +kernel
theorem dX7_sorts_4 : decode cX7_sorts 4 = .ok (.iload_n 1, 1) := by decide +kernel
theorem dX7_sorts_5 : decode cX7_sorts 5 = .ok (.iconst 1, 1) := by decide +kernel
theorem dX7_sorts_6 : decode cX7_sorts 6 = .ok (.if_icmp .le 6, 3) := by decide +kernel
theorem dX7_sorts_9 : decode cX7_sorts 9 = .ok (.bipush (-102), 2) := by decide +kernel
theorem dX7_sorts_11 : decode cX7_sorts 11 = .ok (.ireturn, 1) := by decide +kernel
theorem dX7_sorts_12 : decode cX7_sorts 12 = .ok (.iload_n 1, 1) := by decide +kernel
theorem dX7_sorts_13 : decode cX7_sorts 13 = .ok (.ifCond .ne 13, 3) := by decide +kernel
theorem dX7_sorts_16 : decode cX7_sorts 16 = .ok (.aload_n 0, 1) := by decide +kernel
theorem dX7_sorts_17 : decode cX7_sorts 17 = .ok (.getfield 33, 3) := by decide +kernel
theorem dX7_sorts_20 : decode cX7_sorts 20 = .ok (.getfield 202, 3) := by decide +kernel
theorem dX7_sorts_23 : decode cX7_sorts 23 = .ok (.goto 10, 3) := by decide +kernel
theorem dX7_sorts_26 : decode cX7_sorts 26 = .ok (.aload_n 0, 1) := by decide +kernel
theorem dX7_sorts_27 : decode cX7_sorts 27 = .ok (.getfield 33, 3) := by decide +kernel
theorem dX7_sorts_30 : decode cX7_sorts 30 = .ok (.invokevirtual 205, 3) := by decide +kernel
theorem dX7_sorts_33 : decode cX7_sorts 33 = .ok (.ireturn, 1) := by decide +kernel
theorem dX7_drawn_0 : decode cX7_drawn 0 = .ok (.iload_n 1, 1) := by decide +kernel
theorem dX7_drawn_1 : decode cX7_drawn 1 = .ok (.iconst 1, 1) := by decide +kernel
theorem dX7_drawn_2 : decode cX7_drawn 2 = .ok (.if_icmp .lt 22, 3) := by decide +kernel
theorem dX7_drawn_5 : decode cX7_drawn 5 = .ok (.iload_n 1, 1) := by decide +kernel
theorem dX7_drawn_6 : decode cX7_drawn 6 = .ok (.bipush 10, 2) := by decide +kernel
theorem dX7_drawn_8 : decode cX7_drawn 8 = .ok (.if_icmp .gt 16, 3) := by decide +kernel
theorem dX7_drawn_11 : decode cX7_drawn 11 = .ok (.iload_n 2, 1) := by decide +kernel
theorem dX7_drawn_12 : decode cX7_drawn 12 = .ok (.ifCond .lt 12, 3) := by decide +kernel
theorem dX7_drawn_15 : decode cX7_drawn 15 = .ok (.iload_n 3, 1) := by decide +kernel
theorem dX7_drawn_16 : decode cX7_drawn 16 = .ok (.ifCond .lt 8, 3) := by decide +kernel
theorem dX7_drawn_19 : decode cX7_drawn 19 = .ok (.iload_n 3, 1) := by decide +kernel
theorem dX7_drawn_20 : decode cX7_drawn 20 = .ok (.iconst 2, 1) := by decide +kernel
theorem dX7_drawn_21 : decode cX7_drawn 21 = .ok (.if_icmp .le 6, 3) := by decide +kernel
theorem dX7_drawn_24 : decode cX7_drawn 24 = .ok (.bipush (-102), 2) := by decide +kernel
theorem dX7_drawn_26 : decode cX7_drawn 26 = .ok (.ireturn, 1) := by decide +kernel
theorem dX7_drawn_27 : decode cX7_drawn 27 = .ok (.aload_n 0, 1) := by decide +kernel
theorem dX7_drawn_28 : decode cX7_drawn 28 = .ok (.getfield 27, 3) := by decide +kernel
theorem dX7_drawn_31 : decode cX7_drawn 31 = .ok (.invokevirtual 139, 3) := by decide +kernel
theorem dX7_drawn_34 : decode cX7_drawn 34 = .ok (.ifCond .ne 6, 3) := by decide +kernel
theorem dX7_drawn_37 : decode cX7_drawn 37 = .ok (.bipush (-103), 2) := by decide +kernel
theorem dX7_drawn_39 : decode cX7_drawn 39 = .ok (.ireturn, 1) := by decide +kernel
theorem dX7_drawn_40 : decode cX7_drawn 40 = .ok (.aload_n 0, 1) := by decide +kernel
theorem dX7_drawn_41 : decode cX7_drawn 41 = .ok (.getfield 46, 3) := by decide +kernel
theorem dX7_drawn_44 : decode cX7_drawn 44 = .ok (.getfield 23, 3) := by decide +kernel
theorem dX7_drawn_47 : decode cX7_drawn 47 = .ok (.aload_n 0, 1) := by decide +kernel
theorem dX7_drawn_48 : decode cX7_drawn 48 = .ok (.getfield 27, 3) := by decide +kernel
theorem dX7_drawn_51 : decode cX7_drawn 51 = .ok (.getfield 78, 3) := by decide +kernel
theorem dX7_drawn_54 : decode cX7_drawn 54 = .ok (.putfield 78, 3) := by decide +kernel
theorem dX7_drawn_57 : decode cX7_drawn 57 = .ok (.aload_n 0, 1) := by decide +kernel
theorem dX7_drawn_58 : decode cX7_drawn 58 = .ok (.getfield 46, 3) := by decide +kernel
theorem dX7_drawn_61 : decode cX7_drawn 61 = .ok (.getfield 23, 3) := by decide +kernel
theorem dX7_drawn_64 : decode cX7_drawn 64 = .ok (.aload_n 0, 1) := by decide +kernel
theorem dX7_drawn_65 : decode cX7_drawn 65 = .ok (.getfield 27, 3) := by decide +kernel
theorem dX7_drawn_68 : decode cX7_drawn 68 = .ok (.getfield 84, 3) := by decide +kernel
theorem dX7_drawn_71 : decode cX7_drawn 71 = .ok (.putfield 84, 3) := by decide +kernel
theorem dX7_drawn_74 : decode cX7_drawn 74 = .ok (.iload_n 2, 1) := by decide +kernel
theorem dX7_drawn_75 : decode cX7_drawn 75 = .ok (.istore 4, 2) := by decide +kernel
theorem dX7_drawn_77 : decode cX7_drawn 77 = .ok (.iconst 0, 1) := by decide +kernel
theorem dX7_drawn_78 : decode cX7_drawn 78 = .ok (.istore 5, 2) := by decide +kernel
theorem dX7_drawn_80 : decode cX7_drawn 80 = .ok (.iconst 0, 1) := by decide +kernel
theorem dX7_drawn_81 : decode cX7_drawn 81 = .ok (.istore 6, 2) := by decide +kernel
theorem dX7_drawn_83 : decode cX7_drawn 83 = .ok (.iconst 0, 1) := by decide +kernel
theorem dX7_drawn_84 : decode cX7_drawn 84 = .ok (.istore 7, 2) := by decide +kernel
theorem dX7_drawn_86 : decode cX7_drawn 86 = .ok (.iload 7, 2) := by decide +kernel
theorem dX7_drawn_88 : decode cX7_drawn 88 = .ok (.iload_n 1, 1) := by decide +kernel
theorem dX7_drawn_89 : decode cX7_drawn 89 = .ok (.if_icmp .ge 79, 3) := by decide +kernel
theorem dX7_drawn_92 : decode cX7_drawn 92 = .ok (.aload_n 0, 1) := by decide +kernel
theorem dX7_drawn_93 : decode cX7_drawn 93 = .ok (.getfield 46, 3) := by decide +kernel
theorem dX7_drawn_96 : decode cX7_drawn 96 = .ok (.getfield 23, 3) := by decide +kernel
theorem dX7_drawn_99 : decode cX7_drawn 99 = .ok (.getfield 87, 3) := by decide +kernel
theorem dX7_drawn_102 : decode cX7_drawn 102 = .ok (.iload 4, 2) := by decide +kernel
theorem dX7_drawn_104 : decode cX7_drawn 104 = .ok (.invokestatic 208, 3) := by decide +kernel
theorem dX7_drawn_107 : decode cX7_drawn 107 = .ok (.istore 4, 2) := by decide +kernel
theorem dX7_drawn_109 : decode cX7_drawn 109 = .ok (.aload_n 0, 1) := by decide +kernel
theorem dX7_drawn_110 : decode cX7_drawn 110 = .ok (.getfield 46, 3) := by decide +kernel
theorem dX7_drawn_113 : decode cX7_drawn 113 = .ok (.getfield 23, 3) := by decide +kernel
theorem dX7_drawn_116 : decode cX7_drawn 116 = .ok (.getfield 95, 3) := by decide +kernel
theorem dX7_drawn_119 : decode cX7_drawn 119 = .ok (.iload 4, 2) := by decide +kernel
theorem dX7_drawn_121 : decode cX7_drawn 121 = .ok (.invokestatic 208, 3) := by decide +kernel
theorem dX7_drawn_124 : decode cX7_drawn 124 = .ok (.istore 4, 2) := by decide +kernel
theorem dX7_drawn_126 : decode cX7_drawn 126 = .ok (.aload_n 0, 1) := by decide +kernel
theorem dX7_drawn_127 : decode cX7_drawn 127 = .ok (.getfield 46, 3) := by decide +kernel
theorem dX7_drawn_130 : decode cX7_drawn 130 = .ok (.sipush 250, 3) := by decide +kernel
theorem dX7_drawn_133 : decode cX7_drawn 133 = .ok (.invokevirtual 157, 3) := by decide +kernel
theorem dX7_drawn_136 : decode cX7_drawn 136 = .ok (.iload 5, 2) := by decide +kernel
theorem dX7_drawn_138 : decode cX7_drawn 138 = .ok (.aload_n 0, 1) := by decide +kernel
theorem dX7_drawn_139 : decode cX7_drawn 139 = .ok (.getfield 46, 3) := by decide +kernel
theorem dX7_drawn_142 : decode cX7_drawn 142 = .ok (.iconst 0, 1) := by decide +kernel
theorem dX7_drawn_143 : decode cX7_drawn 143 = .ok (.invokevirtual 181, 3) := by decide +kernel
theorem dX7_drawn_146 : decode cX7_drawn 146 = .ok (.iadd, 1) := by decide +kernel
theorem dX7_drawn_147 : decode cX7_drawn 147 = .ok (.istore 5, 2) := by decide +kernel
theorem dX7_drawn_149 : decode cX7_drawn 149 = .ok (.iload 6, 2) := by decide +kernel
theorem dX7_drawn_151 : decode cX7_drawn 151 = .ok (.aload_n 0, 1) := by decide +kernel
theorem dX7_drawn_152 : decode cX7_drawn 152 = .ok (.getfield 46, 3) := by decide +kernel
theorem dX7_drawn_155 : decode cX7_drawn 155 = .ok (.iconst 1, 1) := by decide +kernel
theorem dX7_drawn_156 : decode cX7_drawn 156 = .ok (.invokevirtual 181, 3) := by decide +kernel
theorem dX7_drawn_159 : decode cX7_drawn 159 = .ok (.iadd, 1) := by decide +kernel
theorem dX7_drawn_160 : decode cX7_drawn 160 = .ok (.istore 6, 2) := by decide +kernel
theorem dX7_drawn_162 : decode cX7_drawn 162 = .ok (.iinc 7 1, 3) := by decide +kernel
theorem dX7_drawn_165 : decode cX7_drawn 165 = .ok (.goto (-79), 3) := by decide +kernel
theorem dX7_drawn_168 : decode cX7_drawn 168 = .ok (.iload_n 3, 1) := by decide +kernel
theorem dX7_drawn_169 : decode cX7_drawn 169 = .ok (.ifCond .ne 6, 3) := by decide +kernel
theorem dX7_drawn_172 : decode cX7_drawn 172 = .ok (.iload 5, 2) := by decide +kernel
theorem dX7_drawn_174 : decode cX7_drawn 174 = .ok (.ireturn, 1) := by decide +kernel
theorem dX7_drawn_175 : decode cX7_drawn 175 = .ok (.iload_n 3, 1) := by decide +kernel
theorem dX7_drawn_176 : decode cX7_drawn 176 = .ok (.iconst 1, 1) := by decide +kernel
theorem dX7_drawn_177 : decode cX7_drawn 177 = .ok (.if_icmp .ne 8, 3) := by decide +kernel
theorem dX7_drawn_180 : decode cX7_drawn 180 = .ok (.iload 6, 2) := by decide +kernel
theorem dX7_drawn_182 : decode cX7_drawn 182 = .ok (.goto 5, 3) := by decide +kernel
theorem dX7_drawn_185 : decode cX7_drawn 185 = .ok (.iload 4, 2) := by decide +kernel
theorem dX7_drawn_187 : decode cX7_drawn 187 = .ok (.ireturn, 1) := by decide +kernel
theorem dX7_image_0 : decode cX7_image 0 = .ok (.aload_n 0, 1) := by decide +kernel
theorem dX7_image_1 : decode cX7_image 1 = .ok (.getfield 27, 3) := by decide +kernel
theorem dX7_image_4 : decode cX7_image 4 = .ok (.invokevirtual 139, 3) := by decide +kernel
theorem dX7_image_7 : decode cX7_image 7 = .ok (.ifCond .ne 6, 3) := by decide +kernel
theorem dX7_image_10 : decode cX7_image 10 = .ok (.bipush (-103), 2) := by decide +kernel
theorem dX7_image_12 : decode cX7_image 12 = .ok (.ireturn, 1) := by decide +kernel
theorem dX7_image_13 : decode cX7_image 13 = .ok (.aload_n 0, 1) := by decide +kernel
theorem dX7_image_14 : decode cX7_image 14 = .ok (.getfield 40, 3) := by decide +kernel
theorem dX7_image_17 : decode cX7_image 17 = .ok (.aload_n 0, 1) := by decide +kernel
theorem dX7_image_18 : decode cX7_image 18 = .ok (.getfield 27, 3) := by decide +kernel
theorem dX7_image_21 : decode cX7_image 21 = .ok (.invokevirtual 212, 3) := by decide +kernel
theorem dX7_image_24 : decode cX7_image 24 = .ok (.aload_n 0, 1) := by decide +kernel
theorem dX7_image_25 : decode cX7_image 25 = .ok (.getfield 43, 3) := by decide +kernel
theorem dX7_image_28 : decode cX7_image 28 = .ok (.aload_n 0, 1) := by decide +kernel
theorem dX7_image_29 : decode cX7_image 29 = .ok (.getfield 33, 3) := by decide +kernel
theorem dX7_image_32 : decode cX7_image 32 = .ok (.invokevirtual 216, 3) := by decide +kernel
theorem dX7_image_35 : decode cX7_image 35 = .ok (.aload_n 0, 1) := by decide +kernel
theorem dX7_image_36 : decode cX7_image 36 = .ok (.iconst 1, 1) := by decide +kernel
theorem dX7_image_37 : decode cX7_image 37 = .ok (.putfield 101, 3) := by decide +kernel
theorem dX7_image_40 : decode cX7_image 40 = .ok (.aload_n 0, 1) := by decide +kernel
theorem dX7_image_41 : decode cX7_image 41 = .ok (.getfield 27, 3) := by decide +kernel
theorem dX7_image_44 : decode cX7_image 44 = .ok (.invokevirtual 111, 3) := by decide +kernel
theorem dX7_image_47 : decode cX7_image 47 = .ok (.ireturn, 1) := by decide +kernel
theorem dX7_restore_0 : decode cX7_restore 0 = .ok (.aload_n 0, 1) := by decide +kernel
theorem dX7_restore_1 : decode cX7_restore 1 = .ok (.getfield 101, 3) := by decide +kernel
theorem dX7_restore_4 : decode cX7_restore 4 = .ok (.ifCond .ne 6, 3) := by decide +kernel
theorem dX7_restore_7 : decode cX7_restore 7 = .ok (.bipush (-103), 2) := by decide +kernel
theorem dX7_restore_9 : decode cX7_restore 9 = .ok (.ireturn, 1) := by decide +kernel
theorem dX7_restore_10 : decode cX7_restore 10 = .ok (.aload_n 0, 1) := by decide +kernel
theorem dX7_restore_11 : decode cX7_restore 11 = .ok (.getfield 27, 3) := by decide +kernel
theorem dX7_restore_14 : decode cX7_restore 14 = .ok (.aload_n 0, 1) := by decide +kernel
theorem dX7_restore_15 : decode cX7_restore 15 = .ok (.getfield 40, 3) := by decide +kernel
theorem dX7_restore_18 : decode cX7_restore 18 = .ok (.invokevirtual 212, 3) := by decide +kernel
theorem dX7_restore_21 : decode cX7_restore 21 = .ok (.aload_n 0, 1) := by decide +kernel
theorem dX7_restore_22 : decode cX7_restore 22 = .ok (.getfield 33, 3) := by decide +kernel
theorem dX7_restore_25 : decode cX7_restore 25 = .ok (.aload_n 0, 1) := by decide +kernel
theorem dX7_restore_26 : decode cX7_restore 26 = .ok (.getfield 43, 3) := by decide +kernel
theorem dX7_restore_29 : decode cX7_restore 29 = .ok (.invokevirtual 216, 3) := by decide +kernel
theorem dX7_restore_32 : decode cX7_restore 32 = .ok (.aload_n 0, 1) := by decide +kernel
theorem dX7_restore_33 : decode cX7_restore 33 = .ok (.getfield 27, 3) := by decide +kernel
theorem dX7_restore_36 : decode cX7_restore 36 = .ok (.invokevirtual 111, 3) := by decide +kernel
theorem dX7_restore_39 : decode cX7_restore 39 = .ok (.ireturn, 1) := by decide +kernel
theorem dX7_count_0 : decode cX7_count 0 = .ok (.iload_n 1, 1) := by decide +kernel
theorem dX7_count_1 : decode cX7_count 1 = .ok (.tableswitch 152 0 9 #[55, 66, 77, 85, 93, 118, 126, 131, 139, 147], 55) := by decide +kernel
theorem dX7_count_56 : decode cX7_count 56 = .ok (.aload_n 0, 1) := by decide +kernel
theorem dX7_count_57 : decode cX7_count 57 = .ok (.getfield 27, 3) := by decide +kernel
theorem dX7_count_60 : decode cX7_count 60 = .ok (.getfield 87, 3) := by decide +kernel
theorem dX7_count_63 : decode cX7_count 63 = .ok (.getfield 148, 3) := by decide +kernel
theorem dX7_count_66 : decode cX7_count 66 = .ok (.ireturn, 1) := by decide +kernel
theorem dX7_count_67 : decode cX7_count 67 = .ok (.aload_n 0, 1) := by decide +kernel
theorem dX7_count_68 : decode cX7_count 68 = .ok (.getfield 27, 3) := by decide +kernel
theorem dX7_count_71 : decode cX7_count 71 = .ok (.getfield 95, 3) := by decide +kernel
theorem dX7_count_74 : decode cX7_count 74 = .ok (.getfield 148, 3) := by decide +kernel
theorem dX7_count_77 : decode cX7_count 77 = .ok (.ireturn, 1) := by decide +kernel
theorem dX7_count_78 : decode cX7_count 78 = .ok (.aload_n 0, 1) := by decide +kernel
theorem dX7_count_79 : decode cX7_count 79 = .ok (.getfield 27, 3) := by decide +kernel
theorem dX7_count_82 : decode cX7_count 82 = .ok (.getfield 78, 3) := by decide +kernel
theorem dX7_count_85 : decode cX7_count 85 = .ok (.ireturn, 1) := by decide +kernel
theorem dX7_count_86 : decode cX7_count 86 = .ok (.aload_n 0, 1) := by decide +kernel
theorem dX7_count_87 : decode cX7_count 87 = .ok (.getfield 27, 3) := by decide +kernel
theorem dX7_count_90 : decode cX7_count 90 = .ok (.getfield 84, 3) := by decide +kernel
theorem dX7_count_93 : decode cX7_count 93 = .ok (.ireturn, 1) := by decide +kernel
theorem dX7_count_94 : decode cX7_count 94 = .ok (.aload_n 0, 1) := by decide +kernel
theorem dX7_count_95 : decode cX7_count 95 = .ok (.getfield 27, 3) := by decide +kernel
theorem dX7_count_98 : decode cX7_count 98 = .ok (.getfield 87, 3) := by decide +kernel
theorem dX7_count_101 : decode cX7_count 101 = .ok (.invokevirtual 219, 3) := by decide +kernel
theorem dX7_count_104 : decode cX7_count 104 = .ok (.aload_n 0, 1) := by decide +kernel
theorem dX7_count_105 : decode cX7_count 105 = .ok (.getfield 27, 3) := by decide +kernel
theorem dX7_count_108 : decode cX7_count 108 = .ok (.getfield 95, 3) := by decide +kernel
theorem dX7_count_111 : decode cX7_count 111 = .ok (.invokevirtual 219, 3) := by decide +kernel
theorem dX7_count_114 : decode cX7_count 114 = .ok (.ior, 1) := by decide +kernel
theorem dX7_count_115 : decode cX7_count 115 = .ok (.invokestatic 130, 3) := by decide +kernel
theorem dX7_count_118 : decode cX7_count 118 = .ok (.ireturn, 1) := by decide +kernel
theorem dX7_count_119 : decode cX7_count 119 = .ok (.aload_n 0, 1) := by decide +kernel
theorem dX7_count_120 : decode cX7_count 120 = .ok (.getfield 27, 3) := by decide +kernel
theorem dX7_count_123 : decode cX7_count 123 = .ok (.invokevirtual 222, 3) := by decide +kernel
theorem dX7_count_126 : decode cX7_count 126 = .ok (.ireturn, 1) := by decide +kernel
theorem dX7_count_127 : decode cX7_count 127 = .ok (.aload_n 0, 1) := by decide +kernel
theorem dX7_count_128 : decode cX7_count 128 = .ok (.getfield 105, 3) := by decide +kernel
theorem dX7_count_131 : decode cX7_count 131 = .ok (.ireturn, 1) := by decide +kernel
theorem dX7_count_132 : decode cX7_count 132 = .ok (.aload_n 0, 1) := by decide +kernel
theorem dX7_count_133 : decode cX7_count 133 = .ok (.getfield 33, 3) := by decide +kernel
theorem dX7_count_136 : decode cX7_count 136 = .ok (.getfield 198, 3) := by decide +kernel
theorem dX7_count_139 : decode cX7_count 139 = .ok (.ireturn, 1) := by decide +kernel
theorem dX7_count_140 : decode cX7_count 140 = .ok (.aload_n 0, 1) := by decide +kernel
theorem dX7_count_141 : decode cX7_count 141 = .ok (.getfield 10, 3) := by decide +kernel
theorem dX7_count_144 : decode cX7_count 144 = .ok (.getfield 57, 3) := by decide +kernel
theorem dX7_count_147 : decode cX7_count 147 = .ok (.ireturn, 1) := by decide +kernel
theorem dX7_count_148 : decode cX7_count 148 = .ok (.aload_n 0, 1) := by decide +kernel
theorem dX7_count_149 : decode cX7_count 149 = .ok (.getfield 108, 3) := by decide +kernel
theorem dX7_count_152 : decode cX7_count 152 = .ok (.ireturn, 1) := by decide +kernel
theorem dX7_count_153 : decode cX7_count 153 = .ok (.bipush (-102), 2) := by decide +kernel
theorem dX7_count_155 : decode cX7_count 155 = .ok (.ireturn, 1) := by decide +kernel
theorem dX7_digest_0 : decode cX7_digest 0 = .ok (.ldc2_w 225, 3) := by decide +kernel
theorem dX7_digest_3 : decode cX7_digest 3 = .ok (.lstore_n 1, 1) := by decide +kernel
theorem dX7_digest_4 : decode cX7_digest 4 = .ok (.aload_n 0, 1) := by decide +kernel
theorem dX7_digest_5 : decode cX7_digest 5 = .ok (.lload_n 1, 1) := by decide +kernel
theorem dX7_digest_6 : decode cX7_digest 6 = .ok (.iconst 0, 1) := by decide +kernel
theorem dX7_digest_7 : decode cX7_digest 7 = .ok (.invokevirtual 227, 3) := by decide +kernel
theorem dX7_digest_10 : decode cX7_digest 10 = .ok (.lstore_n 1, 1) := by decide +kernel
theorem dX7_digest_11 : decode cX7_digest 11 = .ok (.aload_n 0, 1) := by decide +kernel
theorem dX7_digest_12 : decode cX7_digest 12 = .ok (.lload_n 1, 1) := by decide +kernel
theorem dX7_digest_13 : decode cX7_digest 13 = .ok (.iconst 1, 1) := by decide +kernel
theorem dX7_digest_14 : decode cX7_digest 14 = .ok (.invokevirtual 227, 3) := by decide +kernel
theorem dX7_digest_17 : decode cX7_digest 17 = .ok (.lstore_n 1, 1) := by decide +kernel
theorem dX7_digest_18 : decode cX7_digest 18 = .ok (.iconst 0, 1) := by decide +kernel
theorem dX7_digest_19 : decode cX7_digest 19 = .ok (.istore_n 3, 1) := by decide +kernel
theorem dX7_digest_20 : decode cX7_digest 20 = .ok (.iload_n 3, 1) := by decide +kernel
theorem dX7_digest_21 : decode cX7_digest 21 = .ok (.bipush 10, 2) := by decide +kernel
theorem dX7_digest_23 : decode cX7_digest 23 = .ok (.if_icmp .ge 20, 3) := by decide +kernel
theorem dX7_digest_26 : decode cX7_digest 26 = .ok (.lload_n 1, 1) := by decide +kernel
theorem dX7_digest_27 : decode cX7_digest 27 = .ok (.aload_n 0, 1) := by decide +kernel
theorem dX7_digest_28 : decode cX7_digest 28 = .ok (.iload_n 3, 1) := by decide +kernel
theorem dX7_digest_29 : decode cX7_digest 29 = .ok (.invokevirtual 231, 3) := by decide +kernel
theorem dX7_digest_32 : decode cX7_digest 32 = .ok (.i2l, 1) := by decide +kernel
theorem dX7_digest_33 : decode cX7_digest 33 = .ok (.invokestatic 234, 3) := by decide +kernel
theorem dX7_digest_36 : decode cX7_digest 36 = .ok (.lstore_n 1, 1) := by decide +kernel
theorem dX7_digest_37 : decode cX7_digest 37 = .ok (.iinc 3 1, 3) := by decide +kernel
theorem dX7_digest_40 : decode cX7_digest 40 = .ok (.goto (-20), 3) := by decide +kernel
theorem dX7_digest_43 : decode cX7_digest 43 = .ok (.iconst 0, 1) := by decide +kernel
theorem dX7_digest_44 : decode cX7_digest 44 = .ok (.istore_n 3, 1) := by decide +kernel
theorem dX7_digest_45 : decode cX7_digest 45 = .ok (.iload_n 3, 1) := by decide +kernel
theorem dX7_digest_46 : decode cX7_digest 46 = .ok (.aload_n 0, 1) := by decide +kernel
theorem dX7_digest_47 : decode cX7_digest 47 = .ok (.getfield 19, 3) := by decide +kernel
theorem dX7_digest_50 : decode cX7_digest 50 = .ok (.getfield 160, 3) := by decide +kernel
theorem dX7_digest_53 : decode cX7_digest 53 = .ok (.getfield 169, 3) := by decide +kernel
theorem dX7_digest_56 : decode cX7_digest 56 = .ok (.if_icmp .ge 31, 3) := by decide +kernel
theorem dX7_digest_59 : decode cX7_digest 59 = .ok (.lload_n 1, 1) := by decide +kernel
theorem dX7_digest_60 : decode cX7_digest 60 = .ok (.aload_n 0, 1) := by decide +kernel
theorem dX7_digest_61 : decode cX7_digest 61 = .ok (.iload_n 3, 1) := by decide +kernel
theorem dX7_digest_62 : decode cX7_digest 62 = .ok (.iconst 0, 1) := by decide +kernel
theorem dX7_digest_63 : decode cX7_digest 63 = .ok (.invokevirtual 238, 3) := by decide +kernel
theorem dX7_digest_66 : decode cX7_digest 66 = .ok (.i2l, 1) := by decide +kernel
theorem dX7_digest_67 : decode cX7_digest 67 = .ok (.invokestatic 234, 3) := by decide +kernel
theorem dX7_digest_70 : decode cX7_digest 70 = .ok (.aload_n 0, 1) := by decide +kernel
theorem dX7_digest_71 : decode cX7_digest 71 = .ok (.iload_n 3, 1) := by decide +kernel
theorem dX7_digest_72 : decode cX7_digest 72 = .ok (.iconst 1, 1) := by decide +kernel
theorem dX7_digest_73 : decode cX7_digest 73 = .ok (.invokevirtual 238, 3) := by decide +kernel
theorem dX7_digest_76 : decode cX7_digest 76 = .ok (.i2l, 1) := by decide +kernel
theorem dX7_digest_77 : decode cX7_digest 77 = .ok (.invokestatic 234, 3) := by decide +kernel
theorem dX7_digest_80 : decode cX7_digest 80 = .ok (.lstore_n 1, 1) := by decide +kernel
theorem dX7_digest_81 : decode cX7_digest 81 = .ok (.iinc 3 1, 3) := by decide +kernel
theorem dX7_digest_84 : decode cX7_digest 84 = .ok (.goto (-39), 3) := by decide +kernel
theorem dX7_digest_87 : decode cX7_digest 87 = .ok (.iconst 0, 1) := by decide +kernel
theorem dX7_digest_88 : decode cX7_digest 88 = .ok (.istore_n 3, 1) := by decide +kernel
theorem dX7_digest_89 : decode cX7_digest 89 = .ok (.iload_n 3, 1) := by decide +kernel
theorem dX7_digest_90 : decode cX7_digest 90 = .ok (.aload_n 0, 1) := by decide +kernel
theorem dX7_digest_91 : decode cX7_digest 91 = .ok (.getfield 19, 3) := by decide +kernel
theorem dX7_digest_94 : decode cX7_digest 94 = .ok (.getfield 173, 3) := by decide +kernel
theorem dX7_digest_97 : decode cX7_digest 97 = .ok (.getfield 177, 3) := by decide +kernel
theorem dX7_digest_100 : decode cX7_digest 100 = .ok (.if_icmp .ge 41, 3) := by decide +kernel
theorem dX7_digest_103 : decode cX7_digest 103 = .ok (.lload_n 1, 1) := by decide +kernel
theorem dX7_digest_104 : decode cX7_digest 104 = .ok (.aload_n 0, 1) := by decide +kernel
theorem dX7_digest_105 : decode cX7_digest 105 = .ok (.iload_n 3, 1) := by decide +kernel
theorem dX7_digest_106 : decode cX7_digest 106 = .ok (.iconst 0, 1) := by decide +kernel
theorem dX7_digest_107 : decode cX7_digest 107 = .ok (.invokevirtual 241, 3) := by decide +kernel
theorem dX7_digest_110 : decode cX7_digest 110 = .ok (.i2l, 1) := by decide +kernel
theorem dX7_digest_111 : decode cX7_digest 111 = .ok (.invokestatic 234, 3) := by decide +kernel
theorem dX7_digest_114 : decode cX7_digest 114 = .ok (.aload_n 0, 1) := by decide +kernel
theorem dX7_digest_115 : decode cX7_digest 115 = .ok (.iload_n 3, 1) := by decide +kernel
theorem dX7_digest_116 : decode cX7_digest 116 = .ok (.iconst 1, 1) := by decide +kernel
theorem dX7_digest_117 : decode cX7_digest 117 = .ok (.invokevirtual 241, 3) := by decide +kernel
theorem dX7_digest_120 : decode cX7_digest 120 = .ok (.i2l, 1) := by decide +kernel
theorem dX7_digest_121 : decode cX7_digest 121 = .ok (.invokestatic 234, 3) := by decide +kernel
theorem dX7_digest_124 : decode cX7_digest 124 = .ok (.aload_n 0, 1) := by decide +kernel
theorem dX7_digest_125 : decode cX7_digest 125 = .ok (.iload_n 3, 1) := by decide +kernel
theorem dX7_digest_126 : decode cX7_digest 126 = .ok (.iconst 2, 1) := by decide +kernel
theorem dX7_digest_127 : decode cX7_digest 127 = .ok (.invokevirtual 241, 3) := by decide +kernel
theorem dX7_digest_130 : decode cX7_digest 130 = .ok (.i2l, 1) := by decide +kernel
theorem dX7_digest_131 : decode cX7_digest 131 = .ok (.invokestatic 234, 3) := by decide +kernel
theorem dX7_digest_134 : decode cX7_digest 134 = .ok (.lstore_n 1, 1) := by decide +kernel
theorem dX7_digest_135 : decode cX7_digest 135 = .ok (.iinc 3 1, 3) := by decide +kernel
theorem dX7_digest_138 : decode cX7_digest 138 = .ok (.goto (-49), 3) := by decide +kernel
theorem dX7_digest_141 : decode cX7_digest 141 = .ok (.aload_n 0, 1) := by decide +kernel
theorem dX7_digest_142 : decode cX7_digest 142 = .ok (.getfield 27, 3) := by decide +kernel
theorem dX7_digest_145 : decode cX7_digest 145 = .ok (.invokevirtual 139, 3) := by decide +kernel
theorem dX7_digest_148 : decode cX7_digest 148 = .ok (.ifCond .eq 13, 3) := by decide +kernel
theorem dX7_digest_151 : decode cX7_digest 151 = .ok (.lload_n 1, 1) := by decide +kernel
theorem dX7_digest_152 : decode cX7_digest 152 = .ok (.aload_n 0, 1) := by decide +kernel
theorem dX7_digest_153 : decode cX7_digest 153 = .ok (.invokevirtual 243, 3) := by decide +kernel
theorem dX7_digest_156 : decode cX7_digest 156 = .ok (.i2l, 1) := by decide +kernel
theorem dX7_digest_157 : decode cX7_digest 157 = .ok (.invokestatic 234, 3) := by decide +kernel
theorem dX7_digest_160 : decode cX7_digest 160 = .ok (.lstore_n 1, 1) := by decide +kernel
theorem dX7_digest_161 : decode cX7_digest 161 = .ok (.lload_n 1, 1) := by decide +kernel
theorem dX7_digest_162 : decode cX7_digest 162 = .ok (.aload_n 0, 1) := by decide +kernel
theorem dX7_digest_163 : decode cX7_digest 163 = .ok (.iconst 0, 1) := by decide +kernel
theorem dX7_digest_164 : decode cX7_digest 164 = .ok (.invokevirtual 246, 3) := by decide +kernel
theorem dX7_digest_167 : decode cX7_digest 167 = .ok (.i2l, 1) := by decide +kernel
theorem dX7_digest_168 : decode cX7_digest 168 = .ok (.invokestatic 234, 3) := by decide +kernel
theorem dX7_digest_171 : decode cX7_digest 171 = .ok (.aload_n 0, 1) := by decide +kernel
theorem dX7_digest_172 : decode cX7_digest 172 = .ok (.iconst 1, 1) := by decide +kernel
theorem dX7_digest_173 : decode cX7_digest 173 = .ok (.invokevirtual 246, 3) := by decide +kernel
theorem dX7_digest_176 : decode cX7_digest 176 = .ok (.i2l, 1) := by decide +kernel
theorem dX7_digest_177 : decode cX7_digest 177 = .ok (.invokestatic 234, 3) := by decide +kernel
theorem dX7_digest_180 : decode cX7_digest 180 = .ok (.lstore_n 1, 1) := by decide +kernel
theorem dX7_digest_181 : decode cX7_digest 181 = .ok (.iconst 0, 1) := by decide +kernel
theorem dX7_digest_182 : decode cX7_digest 182 = .ok (.istore_n 3, 1) := by decide +kernel
theorem dX7_digest_183 : decode cX7_digest 183 = .ok (.iload_n 3, 1) := by decide +kernel
theorem dX7_digest_184 : decode cX7_digest 184 = .ok (.aload_n 0, 1) := by decide +kernel
theorem dX7_digest_185 : decode cX7_digest 185 = .ok (.getfield 10, 3) := by decide +kernel
theorem dX7_digest_188 : decode cX7_digest 188 = .ok (.getfield 57, 3) := by decide +kernel
theorem dX7_digest_191 : decode cX7_digest 191 = .ok (.if_icmp .ge 23, 3) := by decide +kernel
theorem dX7_digest_194 : decode cX7_digest 194 = .ok (.lload_n 1, 1) := by decide +kernel
theorem dX7_digest_195 : decode cX7_digest 195 = .ok (.aload_n 0, 1) := by decide +kernel
theorem dX7_digest_196 : decode cX7_digest 196 = .ok (.getfield 10, 3) := by decide +kernel
theorem dX7_digest_199 : decode cX7_digest 199 = .ok (.iload_n 3, 1) := by decide +kernel
theorem dX7_digest_200 : decode cX7_digest 200 = .ok (.invokevirtual 74, 3) := by decide +kernel
theorem dX7_digest_203 : decode cX7_digest 203 = .ok (.i2l, 1) := by decide +kernel
theorem dX7_digest_204 : decode cX7_digest 204 = .ok (.invokestatic 234, 3) := by decide +kernel
theorem dX7_digest_207 : decode cX7_digest 207 = .ok (.lstore_n 1, 1) := by decide +kernel
theorem dX7_digest_208 : decode cX7_digest 208 = .ok (.iinc 3 1, 3) := by decide +kernel
theorem dX7_digest_211 : decode cX7_digest 211 = .ok (.goto (-28), 3) := by decide +kernel
theorem dX7_digest_214 : decode cX7_digest 214 = .ok (.iconst 0, 1) := by decide +kernel
theorem dX7_digest_215 : decode cX7_digest 215 = .ok (.istore_n 3, 1) := by decide +kernel
theorem dX7_digest_216 : decode cX7_digest 216 = .ok (.iload_n 3, 1) := by decide +kernel
theorem dX7_digest_217 : decode cX7_digest 217 = .ok (.bipush 9, 2) := by decide +kernel
theorem dX7_digest_219 : decode cX7_digest 219 = .ok (.if_icmp .gt 20, 3) := by decide +kernel
theorem dX7_digest_222 : decode cX7_digest 222 = .ok (.lload_n 1, 1) := by decide +kernel
theorem dX7_digest_223 : decode cX7_digest 223 = .ok (.aload_n 0, 1) := by decide +kernel
theorem dX7_digest_224 : decode cX7_digest 224 = .ok (.iload_n 3, 1) := by decide +kernel
theorem dX7_digest_225 : decode cX7_digest 225 = .ok (.invokevirtual 249, 3) := by decide +kernel
theorem dX7_digest_228 : decode cX7_digest 228 = .ok (.i2l, 1) := by decide +kernel
theorem dX7_digest_229 : decode cX7_digest 229 = .ok (.invokestatic 234, 3) := by decide +kernel
theorem dX7_digest_232 : decode cX7_digest 232 = .ok (.lstore_n 1, 1) := by decide +kernel
theorem dX7_digest_233 : decode cX7_digest 233 = .ok (.iinc 3 1, 3) := by decide +kernel
theorem dX7_digest_236 : decode cX7_digest 236 = .ok (.goto (-20), 3) := by decide +kernel
theorem dX7_digest_239 : decode cX7_digest 239 = .ok (.lload_n 1, 1) := by decide +kernel
theorem dX7_digest_240 : decode cX7_digest 240 = .ok (.lreturn, 1) := by decide +kernel
theorem dX7_mixRows_0 : decode cX7_mixRows 0 = .ok (.lload_n 1, 1) := by decide +kernel
theorem dX7_mixRows_1 : decode cX7_mixRows 1 = .ok (.lstore 4, 2) := by decide +kernel
theorem dX7_mixRows_3 : decode cX7_mixRows 3 = .ok (.iconst 0, 1) := by decide +kernel
theorem dX7_mixRows_4 : decode cX7_mixRows 4 = .ok (.istore 6, 2) := by decide +kernel
theorem dX7_mixRows_6 : decode cX7_mixRows 6 = .ok (.iload 6, 2) := by decide +kernel
theorem dX7_mixRows_8 : decode cX7_mixRows 8 = .ok (.aload_n 0, 1) := by decide +kernel
theorem dX7_mixRows_9 : decode cX7_mixRows 9 = .ok (.getfield 27, 3) := by decide +kernel
theorem dX7_mixRows_12 : decode cX7_mixRows 12 = .ok (.iload_n 3, 1) := by decide +kernel
theorem dX7_mixRows_13 : decode cX7_mixRows 13 = .ok (.invokevirtual 117, 3) := by decide +kernel
theorem dX7_mixRows_16 : decode cX7_mixRows 16 = .ok (.getfield 148, 3) := by decide +kernel
theorem dX7_mixRows_19 : decode cX7_mixRows 19 = .ok (.if_icmp .ge 37, 3) := by decide +kernel
theorem dX7_mixRows_22 : decode cX7_mixRows 22 = .ok (.lload 4, 2) := by decide +kernel
theorem dX7_mixRows_24 : decode cX7_mixRows 24 = .ok (.aload_n 0, 1) := by decide +kernel
theorem dX7_mixRows_25 : decode cX7_mixRows 25 = .ok (.iload_n 3, 1) := by decide +kernel
theorem dX7_mixRows_26 : decode cX7_mixRows 26 = .ok (.iload 6, 2) := by decide +kernel
theorem dX7_mixRows_28 : decode cX7_mixRows 28 = .ok (.iconst 0, 1) := by decide +kernel
theorem dX7_mixRows_29 : decode cX7_mixRows 29 = .ok (.invokevirtual 252, 3) := by decide +kernel
theorem dX7_mixRows_32 : decode cX7_mixRows 32 = .ok (.i2l, 1) := by decide +kernel
theorem dX7_mixRows_33 : decode cX7_mixRows 33 = .ok (.invokestatic 234, 3) := by decide +kernel
theorem dX7_mixRows_36 : decode cX7_mixRows 36 = .ok (.aload_n 0, 1) := by decide +kernel
theorem dX7_mixRows_37 : decode cX7_mixRows 37 = .ok (.iload_n 3, 1) := by decide +kernel
theorem dX7_mixRows_38 : decode cX7_mixRows 38 = .ok (.iload 6, 2) := by decide +kernel
theorem dX7_mixRows_40 : decode cX7_mixRows 40 = .ok (.iconst 1, 1) := by decide +kernel
theorem dX7_mixRows_41 : decode cX7_mixRows 41 = .ok (.invokevirtual 252, 3) := by decide +kernel
theorem dX7_mixRows_44 : decode cX7_mixRows 44 = .ok (.i2l, 1) := by decide +kernel
theorem dX7_mixRows_45 : decode cX7_mixRows 45 = .ok (.invokestatic 234, 3) := by decide +kernel
theorem dX7_mixRows_48 : decode cX7_mixRows 48 = .ok (.lstore 4, 2) := by decide +kernel
theorem dX7_mixRows_50 : decode cX7_mixRows 50 = .ok (.iinc 6 1, 3) := by decide +kernel
theorem dX7_mixRows_53 : decode cX7_mixRows 53 = .ok (.goto (-47), 3) := by decide +kernel
theorem dX7_mixRows_56 : decode cX7_mixRows 56 = .ok (.lload 4, 2) := by decide +kernel
theorem dX7_mixRows_58 : decode cX7_mixRows 58 = .ok (.lreturn, 1) := by decide +kernel
theorem dX7_mix_0 : decode cX7_mix 0 = .ok (.ldc2_w 256, 3) := by decide +kernel
theorem dX7_mix_3 : decode cX7_mix 3 = .ok (.lload_n 0, 1) := by decide +kernel
theorem dX7_mix_4 : decode cX7_mix 4 = .ok (.lmul, 1) := by decide +kernel
theorem dX7_mix_5 : decode cX7_mix 5 = .ok (.lload_n 2, 1) := by decide +kernel
theorem dX7_mix_6 : decode cX7_mix 6 = .ok (.ladd, 1) := by decide +kernel
theorem dX7_mix_7 : decode cX7_mix 7 = .ok (.lreturn, 1) := by decide +kernel
theorem dX7_isSide_0 : decode cX7_isSide 0 = .ok (.iload_n 0, 1) := by decide +kernel
theorem dX7_isSide_1 : decode cX7_isSide 1 = .ok (.ifCond .eq 8, 3) := by decide +kernel
theorem dX7_isSide_4 : decode cX7_isSide 4 = .ok (.iload_n 0, 1) := by decide +kernel
theorem dX7_isSide_5 : decode cX7_isSide 5 = .ok (.iconst 1, 1) := by decide +kernel
theorem dX7_isSide_6 : decode cX7_isSide 6 = .ok (.if_icmp .ne 7, 3) := by decide +kernel
theorem dX7_isSide_9 : decode cX7_isSide 9 = .ok (.iconst 1, 1) := by decide +kernel
theorem dX7_isSide_10 : decode cX7_isSide 10 = .ok (.goto 4, 3) := by decide +kernel
theorem dX7_isSide_13 : decode cX7_isSide 13 = .ok (.iconst 0, 1) := by decide +kernel
theorem dX7_isSide_14 : decode cX7_isSide 14 = .ok (.ireturn, 1) := by decide +kernel
theorem dX7_otherSide_0 : decode cX7_otherSide 0 = .ok (.iload_n 0, 1) := by decide +kernel
theorem dX7_otherSide_1 : decode cX7_otherSide 1 = .ok (.ifCond .ne 7, 3) := by decide +kernel
theorem dX7_otherSide_4 : decode cX7_otherSide 4 = .ok (.iconst 1, 1) := by decide +kernel
theorem dX7_otherSide_5 : decode cX7_otherSide 5 = .ok (.goto 4, 3) := by decide +kernel
theorem dX7_otherSide_8 : decode cX7_otherSide 8 = .ok (.iconst 0, 1) := by decide +kernel
theorem dX7_otherSide_9 : decode cX7_otherSide 9 = .ok (.ireturn, 1) := by decide +kernel
theorem dX7_isKind_0 : decode cX7_isKind 0 = .ok (.iload_n 0, 1) := by decide +kernel
theorem dX7_isKind_1 : decode cX7_isKind 1 = .ok (.ifCond .lt 12, 3) := by decide +kernel
theorem dX7_isKind_4 : decode cX7_isKind 4 = .ok (.iload_n 0, 1) := by decide +kernel
theorem dX7_isKind_5 : decode cX7_isKind 5 = .ok (.iconst 5, 1) := by decide +kernel
theorem dX7_isKind_6 : decode cX7_isKind 6 = .ok (.if_icmp .ge 7, 3) := by decide +kernel
theorem dX7_isKind_9 : decode cX7_isKind 9 = .ok (.iconst 1, 1) := by decide +kernel
theorem dX7_isKind_10 : decode cX7_isKind 10 = .ok (.goto 4, 3) := by decide +kernel
theorem dX7_isKind_13 : decode cX7_isKind 13 = .ok (.iconst 0, 1) := by decide +kernel
theorem dX7_isKind_14 : decode cX7_isKind 14 = .ok (.ireturn, 1) := by decide +kernel
theorem dX7_isKeyOrNone_0 : decode cX7_isKeyOrNone 0 = .ok (.iload_n 0, 1) := by decide +kernel
theorem dX7_isKeyOrNone_1 : decode cX7_isKeyOrNone 1 = .ok (.iconst (-1), 1) := by decide +kernel
theorem dX7_isKeyOrNone_2 : decode cX7_isKeyOrNone 2 = .ok (.if_icmp .lt 13, 3) := by decide +kernel
theorem dX7_isKeyOrNone_5 : decode cX7_isKeyOrNone 5 = .ok (.iload_n 0, 1) := by decide +kernel
theorem dX7_isKeyOrNone_6 : decode cX7_isKeyOrNone 6 = .ok (.bipush 15, 2) := by decide +kernel
theorem dX7_isKeyOrNone_8 : decode cX7_isKeyOrNone 8 = .ok (.if_icmp .gt 7, 3) := by decide +kernel
theorem dX7_isKeyOrNone_11 : decode cX7_isKeyOrNone 11 = .ok (.iconst 1, 1) := by decide +kernel
theorem dX7_isKeyOrNone_12 : decode cX7_isKeyOrNone 12 = .ok (.goto 4, 3) := by decide +kernel
theorem dX7_isKeyOrNone_15 : decode cX7_isKeyOrNone 15 = .ok (.iconst 0, 1) := by decide +kernel
theorem dX7_isKeyOrNone_16 : decode cX7_isKeyOrNone 16 = .ok (.ireturn, 1) := by decide +kernel
theorem dX7_comesOutBy_0 : decode cX7_comesOutBy 0 = .ok (.iload_n 0, 1) := by decide +kernel
theorem dX7_comesOutBy_1 : decode cX7_comesOutBy 1 = .ok (.ifCond .lt 28, 3) := by decide +kernel
theorem dX7_comesOutBy_4 : decode cX7_comesOutBy 4 = .ok (.iload_n 0, 1) := by decide +kernel
theorem dX7_comesOutBy_5 : decode cX7_comesOutBy 5 = .ok (.getstatic 258, 3) := by decide +kernel
theorem dX7_comesOutBy_8 : decode cX7_comesOutBy 8 = .ok (.arraylength, 1) := by decide +kernel
theorem dX7_comesOutBy_9 : decode cX7_comesOutBy 9 = .ok (.if_icmp .ge 20, 3) := by decide +kernel
theorem dX7_comesOutBy_12 : decode cX7_comesOutBy 12 = .ok (.getstatic 258, 3) := by decide +kernel
theorem dX7_comesOutBy_15 : decode cX7_comesOutBy 15 = .ok (.iload_n 0, 1) := by decide +kernel
theorem dX7_comesOutBy_16 : decode cX7_comesOutBy 16 = .ok (.iaload, 1) := by decide +kernel
theorem dX7_comesOutBy_17 : decode cX7_comesOutBy 17 = .ok (.iload_n 1, 1) := by decide +kernel
theorem dX7_comesOutBy_18 : decode cX7_comesOutBy 18 = .ok (.ishr, 1) := by decide +kernel
theorem dX7_comesOutBy_19 : decode cX7_comesOutBy 19 = .ok (.iconst 1, 1) := by decide +kernel
theorem dX7_comesOutBy_20 : decode cX7_comesOutBy 20 = .ok (.iand, 1) := by decide +kernel
theorem dX7_comesOutBy_21 : decode cX7_comesOutBy 21 = .ok (.iconst 1, 1) := by decide +kernel
theorem dX7_comesOutBy_22 : decode cX7_comesOutBy 22 = .ok (.if_icmp .ne 7, 3) := by decide +kernel
theorem dX7_comesOutBy_25 : decode cX7_comesOutBy 25 = .ok (.iconst 1, 1) := by decide +kernel
theorem dX7_comesOutBy_26 : decode cX7_comesOutBy 26 = .ok (.goto 4, 3) := by decide +kernel
theorem dX7_comesOutBy_29 : decode cX7_comesOutBy 29 = .ok (.iconst 0, 1) := by decide +kernel
theorem dX7_comesOutBy_30 : decode cX7_comesOutBy 30 = .ok (.ireturn, 1) := by decide +kernel
theorem dX7_isIn_0 : decode cX7_isIn 0 = .ok (.iload_n 0, 1) := by decide +kernel
theorem dX7_isIn_1 : decode cX7_isIn 1 = .ok (.iload_n 1, 1) := by decide +kernel
theorem dX7_isIn_2 : decode cX7_isIn 2 = .ok (.ishr, 1) := by decide +kernel
theorem dX7_isIn_3 : decode cX7_isIn 3 = .ok (.iconst 1, 1) := by decide +kernel
theorem dX7_isIn_4 : decode cX7_isIn 4 = .ok (.iand, 1) := by decide +kernel
theorem dX7_isIn_5 : decode cX7_isIn 5 = .ok (.iconst 1, 1) := by decide +kernel
theorem dX7_isIn_6 : decode cX7_isIn 6 = .ok (.if_icmp .ne 7, 3) := by decide +kernel
theorem dX7_isIn_9 : decode cX7_isIn 9 = .ok (.iconst 1, 1) := by decide +kernel
theorem dX7_isIn_10 : decode cX7_isIn 10 = .ok (.goto 4, 3) := by decide +kernel
theorem dX7_isIn_13 : decode cX7_isIn 13 = .ok (.iconst 0, 1) := by decide +kernel
theorem dX7_isIn_14 : decode cX7_isIn 14 = .ok (.ireturn, 1) := by decide +kernel
theorem dX7_drawRows_0 : decode cX7_drawRows 0 = .ok (.iload_n 1, 1) := by decide +kernel
theorem dX7_drawRows_1 : decode cX7_drawRows 1 = .ok (.i2l, 1) := by decide +kernel
theorem dX7_drawRows_2 : decode cX7_drawRows 2 = .ok (.lstore_n 2, 1) := by decide +kernel
theorem dX7_drawRows_3 : decode cX7_drawRows 3 = .ok (.aload_n 0, 1) := by decide +kernel
theorem dX7_drawRows_4 : decode cX7_drawRows 4 = .ok (.invokevirtual 262, 3) := by decide +kernel
theorem dX7_drawRows_7 : decode cX7_drawRows 7 = .ok (.iconst 0, 1) := by decide +kernel
theorem dX7_drawRows_8 : decode cX7_drawRows 8 = .ok (.istore 4, 2) := by decide +kernel
theorem dX7_drawRows_10 : decode cX7_drawRows 10 = .ok (.iload 4, 2) := by decide +kernel
theorem dX7_drawRows_12 : decode cX7_drawRows 12 = .ok (.bipush 8, 2) := by decide +kernel
theorem dX7_drawRows_14 : decode cX7_drawRows 14 = .ok (.if_icmp .ge 52, 3) := by decide +kernel
theorem dX7_drawRows_17 : decode cX7_drawRows 17 = .ok (.ldc2_w 263, 3) := by decide +kernel
theorem dX7_drawRows_20 : decode cX7_drawRows 20 = .ok (.lload_n 2, 1) := by decide +kernel
theorem dX7_drawRows_21 : decode cX7_drawRows 21 = .ok (.lmul, 1) := by decide +kernel
theorem dX7_drawRows_22 : decode cX7_drawRows 22 = .ok (.ldc2_w 265, 3) := by decide +kernel
theorem dX7_drawRows_25 : decode cX7_drawRows 25 = .ok (.ladd, 1) := by decide +kernel
theorem dX7_drawRows_26 : decode cX7_drawRows 26 = .ok (.ldc2_w 267, 3) := by decide +kernel
theorem dX7_drawRows_29 : decode cX7_drawRows 29 = .ok (.lrem, 1) := by decide +kernel
theorem dX7_drawRows_30 : decode cX7_drawRows 30 = .ok (.lstore_n 2, 1) := by decide +kernel
theorem dX7_drawRows_31 : decode cX7_drawRows 31 = .ok (.lload_n 2, 1) := by decide +kernel
theorem dX7_drawRows_32 : decode cX7_drawRows 32 = .ok (.ldc2_w 269, 3) := by decide +kernel
theorem dX7_drawRows_35 : decode cX7_drawRows 35 = .ok (.ldiv, 1) := by decide +kernel
theorem dX7_drawRows_36 : decode cX7_drawRows 36 = .ok (.ldc2_w 271, 3) := by decide +kernel
theorem dX7_drawRows_39 : decode cX7_drawRows 39 = .ok (.lrem, 1) := by decide +kernel
theorem dX7_drawRows_40 : decode cX7_drawRows 40 = .ok (.l2i, 1) := by decide +kernel
theorem dX7_drawRows_41 : decode cX7_drawRows 41 = .ok (.istore 5, 2) := by decide +kernel
theorem dX7_drawRows_43 : decode cX7_drawRows 43 = .ok (.aload_n 0, 1) := by decide +kernel
theorem dX7_drawRows_44 : decode cX7_drawRows 44 = .ok (.iload 5, 2) := by decide +kernel
theorem dX7_drawRows_46 : decode cX7_drawRows 46 = .ok (.bipush 15, 2) := by decide +kernel
theorem dX7_drawRows_48 : decode cX7_drawRows 48 = .ok (.if_icmp .le 7, 3) := by decide +kernel
theorem dX7_drawRows_51 : decode cX7_drawRows 51 = .ok (.iconst (-1), 1) := by decide +kernel
theorem dX7_drawRows_52 : decode cX7_drawRows 52 = .ok (.goto 5, 3) := by decide +kernel
theorem dX7_drawRows_55 : decode cX7_drawRows 55 = .ok (.iload 5, 2) := by decide +kernel
theorem dX7_drawRows_57 : decode cX7_drawRows 57 = .ok (.invokevirtual 149, 3) := by decide +kernel
theorem dX7_drawRows_60 : decode cX7_drawRows 60 = .ok (.iinc 4 1, 3) := by decide +kernel
theorem dX7_drawRows_63 : decode cX7_drawRows 63 = .ok (.goto (-53), 3) := by decide +kernel
theorem dX7_drawRows_66 : decode cX7_drawRows 66 = .ok (.lload_n 2, 1) := by decide +kernel
theorem dX7_drawRows_67 : decode cX7_drawRows 67 = .ok (.l2i, 1) := by decide +kernel
theorem dX7_drawRows_68 : decode cX7_drawRows 68 = .ok (.ireturn, 1) := by decide +kernel
