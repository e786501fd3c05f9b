theorem dX6_init_0 : decode cX6_init 0 = .ok (.aload_n 0, 1) := by decide +kernel
theorem dX6_init_1 : decode cX6_init 1 = .ok (.invokespecial 3, 3) := by decide +kernel
theorem dX6_init_4 : decode cX6_init 4 = .ok (.aload_n 0, 1) := by decide +kernel
theorem dX6_init_5 : decode cX6_init 5 = .ok (.sipush 1920, 3) := by decide +kernel
theorem dX6_init_8 : decode cX6_init 8 = .ok (.newarray .int, 2) := by decide +kernel
theorem dX6_init_10 : decode cX6_init 10 = .ok (.putfield 9, 3) := by decide +kernel
theorem dX6_init_13 : decode cX6_init 13 = .ok (.aload_n 0, 1) := by decide +kernel
theorem dX6_init_14 : decode cX6_init 14 = .ok (.sipush 1920, 3) := by decide +kernel
theorem dX6_init_17 : decode cX6_init 17 = .ok (.newarray .int, 2) := by decide +kernel
theorem dX6_init_19 : decode cX6_init 19 = .ok (.putfield 15, 3) := by decide +kernel
theorem dX6_init_22 : decode cX6_init 22 = .ok (.aload_n 0, 1) := by decide +kernel
theorem dX6_init_23 : decode cX6_init 23 = .ok (.bipush 64, 2) := by decide +kernel
theorem dX6_init_25 : decode cX6_init 25 = .ok (.newarray .boolean, 2) := by decide +kernel
theorem dX6_init_27 : decode cX6_init 27 = .ok (.putfield 18, 3) := by decide +kernel
theorem dX6_init_30 : decode cX6_init 30 = .ok (.aload_n 0, 1) := by decide +kernel
theorem dX6_init_31 : decode cX6_init 31 = .ok (.iconst 3, 1) := by decide +kernel
theorem dX6_init_32 : decode cX6_init 32 = .ok (.newarray .int, 2) := by decide +kernel
theorem dX6_init_34 : decode cX6_init 34 = .ok (.putfield 22, 3) := by decide +kernel
theorem dX6_init_37 : decode cX6_init 37 = .ok (.aload_n 0, 1) := by decide +kernel
theorem dX6_init_38 : decode cX6_init 38 = .ok (.bipush 20, 2) := by decide +kernel
theorem dX6_init_40 : decode cX6_init 40 = .ok (.newarray .int, 2) := by decide +kernel
theorem dX6_init_42 : decode cX6_init 42 = .ok (.putfield 25, 3) := by decide +kernel
theorem dX6_init_45 : decode cX6_init 45 = .ok (.return_, 1) := by decide +kernel
theorem dX6_in_0 : decode cX6_in 0 = .ok (.iload_n 0, 1) := by decide +kernel
theorem dX6_in_1 : decode cX6_in 1 = .ok (.iload_n 1, 1) := by decide +kernel
theorem dX6_in_2 : decode cX6_in 2 = .ok (.if_icmp .lt 12, 3) := by decide +kernel
theorem dX6_in_5 : decode cX6_in 5 = .ok (.iload_n 0, 1) := by decide +kernel
theorem dX6_in_6 : decode cX6_in 6 = .ok (.iload_n 2, 1) := by decide +kernel
theorem dX6_in_7 : decode cX6_in 7 = .ok (.if_icmp .gt 7, 3) := by decide +kernel
theorem dX6_in_10 : decode cX6_in 10 = .ok (.iconst 1, 1) := by decide +kernel
theorem dX6_in_11 : decode cX6_in 11 = .ok (.goto 4, 3) := by decide +kernel
theorem dX6_in_14 : decode cX6_in 14 = .ok (.iconst 0, 1) := by decide +kernel
theorem dX6_in_15 : decode cX6_in 15 = .ok (.ireturn, 1) := by decide +kernel
set_option maxRecDepth 20000 in
theorem ggX6_isChild_X6_in : GoodIn wsX6_isChild wsX6_in := goodIn_r _ [5] (by decide +kernel) (by decide +kernel)
set_option maxRecDepth 20000 in
theorem gX6_isChild_X6_in : GoodIn wsX6_isChild (va_wsS RX6 32 yX6_in wsX6_in) := goodIn_app (goodIn_of _ (by decide +kernel)) ggX6_isChild_X6_in
theorem dX6_isChild_0 : decode cX6_isChild 0 = .ok (.iload_n 1, 1) := by decide +kernel
theorem dX6_isChild_1 : decode cX6_isChild 1 = .ok (.iconst 0, 1) := by decide +kernel
theorem dX6_isChild_2 : decode cX6_isChild 2 = .ok (.aload_n 0, 1) := by decide +kernel
theorem dX6_isChild_3 : decode cX6_isChild 3 = .ok (.getfield 9, 3) := by decide +kernel
theorem dX6_isChild_6 : decode cX6_isChild 6 = .ok (.iconst 0, 1) := by decide +kernel
theorem dX6_isChild_7 : decode cX6_isChild 7 = .ok (.iaload, 1) := by decide +kernel
theorem dX6_isChild_8 : decode cX6_isChild 8 = .ok (.iconst 1, 1) := by decide +kernel
theorem dX6_isChild_9 : decode cX6_isChild 9 = .ok (.isub, 1) := by decide +kernel
theorem dX6_isChild_10 : decode cX6_isChild 10 = .ok (.invokestatic 32, 3) := by decide +kernel
theorem dX6_isChild_13 : decode cX6_isChild 13 = .ok (.ireturn, 1) := by decide +kernel
set_option maxRecDepth 20000 in
theorem ggX6_isAsking_X6_in : GoodIn wsX6_isAsking wsX6_in := goodIn_r _ [5] (by decide +kernel) (by decide +kernel)
set_option maxRecDepth 20000 in
theorem gX6_isAsking_X6_in : GoodIn wsX6_isAsking (va_wsS RX6 32 yX6_in wsX6_in) := goodIn_app (goodIn_of _ (by decide +kernel)) ggX6_isAsking_X6_in
theorem dX6_isAsking_0 : decode cX6_isAsking 0 = .ok (.iload_n 1, 1) := by decide +kernel
theorem dX6_isAsking_1 : decode cX6_isAsking 1 = .ok (.iconst 0, 1) := by decide +kernel
theorem dX6_isAsking_2 : decode cX6_isAsking 2 = .ok (.aload_n 0, 1) := by decide +kernel
theorem dX6_isAsking_3 : decode cX6_isAsking 3 = .ok (.getfield 9, 3) := by decide +kernel
theorem dX6_isAsking_6 : decode cX6_isAsking 6 = .ok (.iconst 1, 1) := by decide +kernel
theorem dX6_isAsking_7 : decode cX6_isAsking 7 = .ok (.iaload, 1) := by decide +kernel
theorem dX6_isAsking_8 : decode cX6_isAsking 8 = .ok (.iconst 1, 1) := by decide +kernel
theorem dX6_isAsking_9 : decode cX6_isAsking 9 = .ok (.isub, 1) := by decide +kernel
theorem dX6_isAsking_10 : decode cX6_isAsking 10 = .ok (.invokestatic 32, 3) := by decide +kernel
theorem dX6_isAsking_13 : decode cX6_isAsking 13 = .ok (.ireturn, 1) := by decide +kernel
set_option maxRecDepth 20000 in
theorem ggX6_isAnswer_X6_in : GoodIn wsX6_isAnswer wsX6_in := goodIn_r _ [5] (by decide +kernel) (by decide +kernel)
set_option maxRecDepth 20000 in
theorem gX6_isAnswer_X6_in : GoodIn wsX6_isAnswer (va_wsS RX6 32 yX6_in wsX6_in) := goodIn_app (goodIn_of _ (by decide +kernel)) ggX6_isAnswer_X6_in
theorem dX6_isAnswer_0 : decode cX6_isAnswer 0 = .ok (.iload_n 1, 1) := by decide +kernel
theorem dX6_isAnswer_1 : decode cX6_isAnswer 1 = .ok (.iconst 0, 1) := by decide +kernel
theorem dX6_isAnswer_2 : decode cX6_isAnswer 2 = .ok (.aload_n 0, 1) := by decide +kernel
theorem dX6_isAnswer_3 : decode cX6_isAnswer 3 = .ok (.getfield 9, 3) := by decide +kernel
theorem dX6_isAnswer_6 : decode cX6_isAnswer 6 = .ok (.iconst 2, 1) := by decide +kernel
theorem dX6_isAnswer_7 : decode cX6_isAnswer 7 = .ok (.iaload, 1) := by decide +kernel
theorem dX6_isAnswer_8 : decode cX6_isAnswer 8 = .ok (.iconst 1, 1) := by decide +kernel
theorem dX6_isAnswer_9 : decode cX6_isAnswer 9 = .ok (.isub, 1) := by decide +kernel
theorem dX6_isAnswer_10 : decode cX6_isAnswer 10 = .ok (.invokestatic 32, 3) := by decide +kernel
theorem dX6_isAnswer_13 : decode cX6_isAnswer 13 = .ok (.ireturn, 1) := by decide +kernel
set_option maxRecDepth 20000 in
theorem ggX6_isLaw_X6_in : GoodIn wsX6_isLaw wsX6_in := goodIn_r _ [5] (by decide +kernel) (by decide +kernel)
set_option maxRecDepth 20000 in
theorem gX6_isLaw_X6_in : GoodIn wsX6_isLaw (va_wsS RX6 32 yX6_in wsX6_in) := goodIn_app (goodIn_of _ (by decide +kernel)) ggX6_isLaw_X6_in
theorem dX6_isLaw_0 : decode cX6_isLaw 0 = .ok (.iload_n 1, 1) := by decide +kernel
theorem dX6_isLaw_1 : decode cX6_isLaw 1 = .ok (.iconst 0, 1) := by decide +kernel
theorem dX6_isLaw_2 : decode cX6_isLaw 2 = .ok (.aload_n 0, 1) := by decide +kernel
theorem dX6_isLaw_3 : decode cX6_isLaw 3 = .ok (.getfield 9, 3) := by decide +kernel
theorem dX6_isLaw_6 : decode cX6_isLaw 6 = .ok (.iconst 3, 1) := by decide +kernel
theorem dX6_isLaw_7 : decode cX6_isLaw 7 = .ok (.iaload, 1) := by decide +kernel
theorem dX6_isLaw_8 : decode cX6_isLaw 8 = .ok (.iconst 1, 1) := by decide +kernel
theorem dX6_isLaw_9 : decode cX6_isLaw 9 = .ok (.isub, 1) := by decide +kernel
theorem dX6_isLaw_10 : decode cX6_isLaw 10 = .ok (.invokestatic 32, 3) := by decide +kernel
theorem dX6_isLaw_13 : decode cX6_isLaw 13 = .ok (.ireturn, 1) := by decide +kernel
set_option maxRecDepth 20000 in
theorem ggX6_isStuff_X6_in : GoodIn wsX6_isStuff wsX6_in := goodIn_r _ [4] (by decide +kernel) (by decide +kernel)
set_option maxRecDepth 20000 in
theorem gX6_isStuff_X6_in : GoodIn wsX6_isStuff (va_wsS RX6 32 yX6_in wsX6_in) := goodIn_app (goodIn_of _ (by decide +kernel)) ggX6_isStuff_X6_in
theorem dX6_isStuff_0 : decode cX6_isStuff 0 = .ok (.iload_n 0, 1) := by decide +kernel
theorem dX6_isStuff_1 : decode cX6_isStuff 1 = .ok (.iconst 0, 1) := by decide +kernel
theorem dX6_isStuff_2 : decode cX6_isStuff 2 = .ok (.iconst 3, 1) := by decide +kernel
theorem dX6_isStuff_3 : decode cX6_isStuff 3 = .ok (.invokestatic 32, 3) := by decide +kernel
theorem dX6_isStuff_6 : decode cX6_isStuff 6 = .ok (.ireturn, 1) := by decide +kernel
set_option maxRecDepth 20000 in
theorem ggX6_child_X6_in : GoodIn wsX6_child wsX6_in := goodIn_r _ [5] (by decide +kernel) (by decide +kernel)
set_option maxRecDepth 20000 in
theorem gX6_child_X6_in : GoodIn wsX6_child (va_wsS RX6 32 yX6_in wsX6_in) := goodIn_app (goodIn_of _ (by decide +kernel)) ggX6_child_X6_in
theorem dX6_child_0 : decode cX6_child 0 = .ok (.iload_n 1, 1) := by decide +kernel
theorem dX6_child_1 : decode cX6_child 1 = .ok (.bipush 24, 2) := by decide +kernel
theorem dX6_child_3 : decode cX6_child 3 = .ok (.bipush 120, 2) := by decide +kernel
theorem dX6_child_5 : decode cX6_child 5 = .ok (.invokestatic 32, 3) := by decide +kernel
theorem dX6_child_8 : decode cX6_child 8 = .ok (.ifCond .ne 6, 3) := by decide +kernel
theorem dX6_child_11 : decode cX6_child 11 = .ok (.bipush (-2), 2) := by decide +kernel
theorem dX6_child_13 : decode cX6_child 13 = .ok (.ireturn, 1) := by decide +kernel
theorem dX6_child_14 : decode cX6_child 14 = .ok (.aload_n 0, 1) := by decide +kernel
theorem dX6_child_15 : decode cX6_child 15 = .ok (.getfield 9, 3) := by decide +kernel
theorem dX6_child_18 : decode cX6_child 18 = .ok (.iconst 0, 1) := by decide +kernel
theorem dX6_child_19 : decode cX6_child 19 = .ok (.iaload, 1) := by decide +kernel
theorem dX6_child_20 : decode cX6_child 20 = .ok (.bipush 8, 2) := by decide +kernel
theorem dX6_child_22 : decode cX6_child 22 = .ok (.if_icmp .ne 6, 3) := by decide +kernel
theorem dX6_child_25 : decode cX6_child 25 = .ok (.bipush (-4), 2) := by decide +kernel
theorem dX6_child_27 : decode cX6_child 27 = .ok (.ireturn, 1) := by decide +kernel
theorem dX6_child_28 : decode cX6_child 28 = .ok (.aload_n 0, 1) := by decide +kernel
theorem dX6_child_29 : decode cX6_child 29 = .ok (.getfield 9, 3) := by decide +kernel
theorem dX6_child_32 : decode cX6_child 32 = .ok (.iconst 0, 1) := by decide +kernel
theorem dX6_child_33 : decode cX6_child 33 = .ok (.iaload, 1) := by decide +kernel
theorem dX6_child_34 : decode cX6_child 34 = .ok (.istore_n 2, 1) := by decide +kernel
theorem dX6_child_35 : decode cX6_child 35 = .ok (.aload_n 0, 1) := by decide +kernel
theorem dX6_child_36 : decode cX6_child 36 = .ok (.getfield 9, 3) := by decide +kernel
theorem dX6_child_39 : decode cX6_child 39 = .ok (.sipush 130, 3) := by decide +kernel
theorem dX6_child_42 : decode cX6_child 42 = .ok (.iload_n 2, 1) := by decide +kernel
theorem dX6_child_43 : decode cX6_child 43 = .ok (.iadd, 1) := by decide +kernel
theorem dX6_child_44 : decode cX6_child 44 = .ok (.iload_n 1, 1) := by decide +kernel
theorem dX6_child_45 : decode cX6_child 45 = .ok (.iastore, 1) := by decide +kernel
theorem dX6_child_46 : decode cX6_child 46 = .ok (.iconst 0, 1) := by decide +kernel
theorem dX6_child_47 : decode cX6_child 47 = .ok (.istore_n 3, 1) := by decide +kernel
theorem dX6_child_48 : decode cX6_child 48 = .ok (.iload_n 3, 1) := by decide +kernel
theorem dX6_child_49 : decode cX6_child 49 = .ok (.iconst 4, 1) := by decide +kernel
theorem dX6_child_50 : decode cX6_child 50 = .ok (.if_icmp .ge 24, 3) := by decide +kernel
theorem dX6_child_53 : decode cX6_child 53 = .ok (.aload_n 0, 1) := by decide +kernel
theorem dX6_child_54 : decode cX6_child 54 = .ok (.getfield 9, 3) := by decide +kernel
theorem dX6_child_57 : decode cX6_child 57 = .ok (.sipush 138, 3) := by decide +kernel
theorem dX6_child_60 : decode cX6_child 60 = .ok (.iconst 4, 1) := by decide +kernel
theorem dX6_child_61 : decode cX6_child 61 = .ok (.iload_n 2, 1) := by decide +kernel
theorem dX6_child_62 : decode cX6_child 62 = .ok (.imul, 1) := by decide +kernel
theorem dX6_child_63 : decode cX6_child 63 = .ok (.iadd, 1) := by decide +kernel
theorem dX6_child_64 : decode cX6_child 64 = .ok (.iload_n 3, 1) := by decide +kernel
theorem dX6_child_65 : decode cX6_child 65 = .ok (.iadd, 1) := by decide +kernel
theorem dX6_child_66 : decode cX6_child 66 = .ok (.iconst (-1), 1) := by decide +kernel
theorem dX6_child_67 : decode cX6_child 67 = .ok (.iastore, 1) := by decide +kernel
theorem dX6_child_68 : decode cX6_child 68 = .ok (.iinc 3 1, 3) := by decide +kernel
theorem dX6_child_71 : decode cX6_child 71 = .ok (.goto (-23), 3) := by decide +kernel
theorem dX6_child_74 : decode cX6_child 74 = .ok (.aload_n 0, 1) := by decide +kernel
theorem dX6_child_75 : decode cX6_child 75 = .ok (.getfield 9, 3) := by decide +kernel
theorem dX6_child_78 : decode cX6_child 78 = .ok (.iconst 0, 1) := by decide +kernel
theorem dX6_child_79 : decode cX6_child 79 = .ok (.dup2, 1) := by decide +kernel
theorem dX6_child_80 : decode cX6_child 80 = .ok (.iaload, 1) := by decide +kernel
theorem dX6_child_81 : decode cX6_child 81 = .ok (.iconst 1, 1) := by decide +kernel
theorem dX6_child_82 : decode cX6_child 82 = .ok (.iadd, 1) := by decide +kernel
theorem dX6_child_83 : decode cX6_child 83 = .ok (.iastore, 1) := by decide +kernel
theorem dX6_child_84 : decode cX6_child 84 = .ok (.iload_n 2, 1) := by decide +kernel
theorem dX6_child_85 : decode cX6_child 85 = .ok (.ireturn, 1) := by decide +kernel
set_option maxRecDepth 20000 in
theorem ggX6_age_X6_isChild : GoodIn wsX6_age wsX6_isChild := goodIn_r _ [6, 1, 7, 8, 5, 9, 10, 11, 12, 13, 14, 15, 16, 17, 18, 19, 20, 21, 22, 23, 24, 25, 26, 27] (by decide +kernel) (by decide +kernel)
set_option maxRecDepth 20000 in
theorem gX6_age_X6_isChild : GoodIn wsX6_age (wsV RX6 36 RX6 yX6_isChild wsX6_isChild) := goodIn_app (goodIn_of _ (by decide +kernel)) ggX6_age_X6_isChild
theorem dX6_age_0 : decode cX6_age 0 = .ok (.aload_n 0, 1) := by decide +kernel
theorem dX6_age_1 : decode cX6_age 1 = .ok (.iload_n 1, 1) := by decide +kernel
theorem dX6_age_2 : decode cX6_age 2 = .ok (.invokevirtual 36, 3) := by decide +kernel
theorem dX6_age_5 : decode cX6_age 5 = .ok (.ifCond .eq 16, 3) := by decide +kernel
theorem dX6_age_8 : decode cX6_age 8 = .ok (.aload_n 0, 1) := by decide +kernel
theorem dX6_age_9 : decode cX6_age 9 = .ok (.getfield 9, 3) := by decide +kernel
theorem dX6_age_12 : decode cX6_age 12 = .ok (.sipush 130, 3) := by decide +kernel
theorem dX6_age_15 : decode cX6_age 15 = .ok (.iload_n 1, 1) := by decide +kernel
theorem dX6_age_16 : decode cX6_age 16 = .ok (.iadd, 1) := by decide +kernel
theorem dX6_age_17 : decode cX6_age 17 = .ok (.iaload, 1) := by decide +kernel
theorem dX6_age_18 : decode cX6_age 18 = .ok (.goto 4, 3) := by decide +kernel
theorem dX6_age_21 : decode cX6_age 21 = .ok (.iconst (-1), 1) := by decide +kernel
theorem dX6_age_22 : decode cX6_age 22 = .ok (.ireturn, 1) := by decide +kernel
set_option maxRecDepth 20000 in
theorem ggX6_grow_X6_in : GoodIn wsX6_grow wsX6_in := goodIn_r _ [5] (by decide +kernel) (by decide +kernel)
set_option maxRecDepth 20000 in
theorem gX6_grow_X6_in : GoodIn wsX6_grow (va_wsS RX6 32 yX6_in wsX6_in) := goodIn_app (goodIn_of _ (by decide +kernel)) ggX6_grow_X6_in
theorem dX6_grow_0 : decode cX6_grow 0 = .ok (.iload_n 1, 1) := by decide +kernel
theorem dX6_grow_1 : decode cX6_grow 1 = .ok (.iconst 1, 1) := by decide +kernel
theorem dX6_grow_2 : decode cX6_grow 2 = .ok (.bipush 60, 2) := by decide +kernel
theorem dX6_grow_4 : decode cX6_grow 4 = .ok (.invokestatic 32, 3) := by decide +kernel
theorem dX6_grow_7 : decode cX6_grow 7 = .ok (.ifCond .ne 6, 3) := by decide +kernel
theorem dX6_grow_10 : decode cX6_grow 10 = .ok (.bipush (-2), 2) := by decide +kernel
theorem dX6_grow_12 : decode cX6_grow 12 = .ok (.ireturn, 1) := by decide +kernel
theorem dX6_grow_13 : decode cX6_grow 13 = .ok (.iconst 0, 1) := by decide +kernel
theorem dX6_grow_14 : decode cX6_grow 14 = .ok (.istore_n 2, 1) := by decide +kernel
theorem dX6_grow_15 : decode cX6_grow 15 = .ok (.iload_n 2, 1) := by decide +kernel
theorem dX6_grow_16 : decode cX6_grow 16 = .ok (.aload_n 0, 1) := by decide +kernel
theorem dX6_grow_17 : decode cX6_grow 17 = .ok (.getfield 9, 3) := by decide +kernel
theorem dX6_grow_20 : decode cX6_grow 20 = .ok (.iconst 0, 1) := by decide +kernel
theorem dX6_grow_21 : decode cX6_grow 21 = .ok (.iaload, 1) := by decide +kernel
theorem dX6_grow_22 : decode cX6_grow 22 = .ok (.if_icmp .ge 53, 3) := by decide +kernel
theorem dX6_grow_25 : decode cX6_grow 25 = .ok (.aload_n 0, 1) := by decide +kernel
theorem dX6_grow_26 : decode cX6_grow 26 = .ok (.getfield 9, 3) := by decide +kernel
theorem dX6_grow_29 : decode cX6_grow 29 = .ok (.sipush 130, 3) := by decide +kernel
theorem dX6_grow_32 : decode cX6_grow 32 = .ok (.iload_n 2, 1) := by decide +kernel
theorem dX6_grow_33 : decode cX6_grow 33 = .ok (.iadd, 1) := by decide +kernel
theorem dX6_grow_34 : decode cX6_grow 34 = .ok (.aload_n 0, 1) := by decide +kernel
theorem dX6_grow_35 : decode cX6_grow 35 = .ok (.getfield 9, 3) := by decide +kernel
theorem dX6_grow_38 : decode cX6_grow 38 = .ok (.sipush 130, 3) := by decide +kernel
theorem dX6_grow_41 : decode cX6_grow 41 = .ok (.iload_n 2, 1) := by decide +kernel
theorem dX6_grow_42 : decode cX6_grow 42 = .ok (.iadd, 1) := by decide +kernel
theorem dX6_grow_43 : decode cX6_grow 43 = .ok (.iaload, 1) := by decide +kernel
theorem dX6_grow_44 : decode cX6_grow 44 = .ok (.iload_n 1, 1) := by decide +kernel
theorem dX6_grow_45 : decode cX6_grow 45 = .ok (.iadd, 1) := by decide +kernel
theorem dX6_grow_46 : decode cX6_grow 46 = .ok (.bipush 120, 2) := by decide +kernel
theorem dX6_grow_48 : decode cX6_grow 48 = .ok (.if_icmp .le 8, 3) := by decide +kernel
theorem dX6_grow_51 : decode cX6_grow 51 = .ok (.bipush 120, 2) := by decide +kernel
theorem dX6_grow_53 : decode cX6_grow 53 = .ok (.goto 15, 3) := by decide +kernel
theorem dX6_grow_56 : decode cX6_grow 56 = .ok (.aload_n 0, 1) := by decide +kernel
theorem dX6_grow_57 : decode cX6_grow 57 = .ok (.getfield 9, 3) := by decide +kernel
theorem dX6_grow_60 : decode cX6_grow 60 = .ok (.sipush 130, 3) := by decide +kernel
theorem dX6_grow_63 : decode cX6_grow 63 = .ok (.iload_n 2, 1) := by decide +kernel
theorem dX6_grow_64 : decode cX6_grow 64 = .ok (.iadd, 1) := by decide +kernel
theorem dX6_grow_65 : decode cX6_grow 65 = .ok (.iaload, 1) := by decide +kernel
theorem dX6_grow_66 : decode cX6_grow 66 = .ok (.iload_n 1, 1) := by decide +kernel
theorem dX6_grow_67 : decode cX6_grow 67 = .ok (.iadd, 1) := by decide +kernel
theorem dX6_grow_68 : decode cX6_grow 68 = .ok (.iastore, 1) := by decide +kernel
theorem dX6_grow_69 : decode cX6_grow 69 = .ok (.iinc 2 1, 3) := by decide +kernel
theorem dX6_grow_72 : decode cX6_grow 72 = .ok (.goto (-57), 3) := by decide +kernel
theorem dX6_grow_75 : decode cX6_grow 75 = .ok (.aload_n 0, 1) := by decide +kernel
theorem dX6_grow_76 : decode cX6_grow 76 = .ok (.getfield 9, 3) := by decide +kernel
theorem dX6_grow_79 : decode cX6_grow 79 = .ok (.iconst 0, 1) := by decide +kernel
theorem dX6_grow_80 : decode cX6_grow 80 = .ok (.iaload, 1) := by decide +kernel
theorem dX6_grow_81 : decode cX6_grow 81 = .ok (.ireturn, 1) := by decide +kernel
set_option maxRecDepth 20000 in
theorem ggX6_teach_X6_isChild : GoodIn wsX6_teach wsX6_isChild := goodIn_r _ [6, 1, 7, 8, 5, 9, 13, 14, 15, 16, 17, 18, 19, 20, 21, 22, 23, 24, 25, 26, 27, 28, 29, 30] (by decide +kernel) (by decide +kernel)
set_option maxRecDepth 20000 in
theorem gX6_teach_X6_isChild : GoodIn wsX6_teach (wsV RX6 36 RX6 yX6_isChild wsX6_isChild) := goodIn_app (goodIn_of _ (by decide +kernel)) ggX6_teach_X6_isChild
set_option maxRecDepth 20000 in
theorem ggX6_teach_X6_isStuff : GoodIn wsX6_teach wsX6_isStuff := goodIn_r _ [12, 7, 8, 5, 9] (by decide +kernel) (by decide +kernel)
set_option maxRecDepth 20000 in
theorem gX6_teach_X6_isStuff : GoodIn wsX6_teach (va_wsS RX6 40 yX6_isStuff wsX6_isStuff) := goodIn_app (goodIn_of _ (by decide +kernel)) ggX6_teach_X6_isStuff
theorem dX6_teach_0 : decode cX6_teach 0 = .ok (.aload_n 0, 1) := by decide +kernel
theorem dX6_teach_1 : decode cX6_teach 1 = .ok (.iload_n 1, 1) := by decide +kernel
theorem dX6_teach_2 : decode cX6_teach 2 = .ok (.invokevirtual 36, 3) := by decide +kernel
theorem dX6_teach_5 : decode cX6_teach 5 = .ok (.ifCond .eq 10, 3) := by decide +kernel
theorem dX6_teach_8 : decode cX6_teach 8 = .ok (.iload_n 2, 1) := by decide +kernel
theorem dX6_teach_9 : decode cX6_teach 9 = .ok (.invokestatic 40, 3) := by decide +kernel
theorem dX6_teach_12 : decode cX6_teach 12 = .ok (.ifCond .ne 5, 3) := by decide +kernel
theorem dX6_teach_15 : decode cX6_teach 15 = .ok (.iconst (-1), 1) := by decide +kernel
theorem dX6_teach_16 : decode cX6_teach 16 = .ok (.ireturn, 1) := by decide +kernel
theorem dX6_teach_17 : decode cX6_teach 17 = .ok (.sipush 138, 3) := by decide +kernel
theorem dX6_teach_20 : decode cX6_teach 20 = .ok (.iconst 4, 1) := by decide +kernel
theorem dX6_teach_21 : decode cX6_teach 21 = .ok (.iload_n 1, 1) := by decide +kernel
theorem dX6_teach_22 : decode cX6_teach 22 = .ok (.imul, 1) := by decide +kernel
theorem dX6_teach_23 : decode cX6_teach 23 = .ok (.iadd, 1) := by decide +kernel
theorem dX6_teach_24 : decode cX6_teach 24 = .ok (.iload_n 2, 1) := by decide +kernel
theorem dX6_teach_25 : decode cX6_teach 25 = .ok (.iadd, 1) := by decide +kernel
theorem dX6_teach_26 : decode cX6_teach 26 = .ok (.istore_n 3, 1) := by decide +kernel
theorem dX6_teach_27 : decode cX6_teach 27 = .ok (.aload_n 0, 1) := by decide +kernel
theorem dX6_teach_28 : decode cX6_teach 28 = .ok (.getfield 9, 3) := by decide +kernel
theorem dX6_teach_31 : decode cX6_teach 31 = .ok (.iload_n 3, 1) := by decide +kernel
theorem dX6_teach_32 : decode cX6_teach 32 = .ok (.iaload, 1) := by decide +kernel
theorem dX6_teach_33 : decode cX6_teach 33 = .ok (.iconst (-1), 1) := by decide +kernel
theorem dX6_teach_34 : decode cX6_teach 34 = .ok (.if_icmp .eq 7, 3) := by decide +kernel
theorem dX6_teach_37 : decode cX6_teach 37 = .ok (.iconst 1, 1) := by decide +kernel
theorem dX6_teach_38 : decode cX6_teach 38 = .ok (.goto 4, 3) := by decide +kernel
theorem dX6_teach_41 : decode cX6_teach 41 = .ok (.iconst 0, 1) := by decide +kernel
theorem dX6_teach_42 : decode cX6_teach 42 = .ok (.istore 4, 2) := by decide +kernel
theorem dX6_teach_44 : decode cX6_teach 44 = .ok (.aload_n 0, 1) := by decide +kernel
theorem dX6_teach_45 : decode cX6_teach 45 = .ok (.getfield 9, 3) := by decide +kernel
theorem dX6_teach_48 : decode cX6_teach 48 = .ok (.iload_n 3, 1) := by decide +kernel
theorem dX6_teach_49 : decode cX6_teach 49 = .ok (.iload 4, 2) := by decide +kernel
theorem dX6_teach_51 : decode cX6_teach 51 = .ok (.ifCond .eq 12, 3) := by decide +kernel
theorem dX6_teach_54 : decode cX6_teach 54 = .ok (.aload_n 0, 1) := by decide +kernel
theorem dX6_teach_55 : decode cX6_teach 55 = .ok (.getfield 9, 3) := by decide +kernel
theorem dX6_teach_58 : decode cX6_teach 58 = .ok (.iload_n 3, 1) := by decide +kernel
theorem dX6_teach_59 : decode cX6_teach 59 = .ok (.iaload, 1) := by decide +kernel
theorem dX6_teach_60 : decode cX6_teach 60 = .ok (.goto 13, 3) := by decide +kernel
theorem dX6_teach_63 : decode cX6_teach 63 = .ok (.aload_n 0, 1) := by decide +kernel
theorem dX6_teach_64 : decode cX6_teach 64 = .ok (.getfield 9, 3) := by decide +kernel
theorem dX6_teach_67 : decode cX6_teach 67 = .ok (.sipush 130, 3) := by decide +kernel
theorem dX6_teach_70 : decode cX6_teach 70 = .ok (.iload_n 1, 1) := by decide +kernel
theorem dX6_teach_71 : decode cX6_teach 71 = .ok (.iadd, 1) := by decide +kernel
theorem dX6_teach_72 : decode cX6_teach 72 = .ok (.iaload, 1) := by decide +kernel
theorem dX6_teach_73 : decode cX6_teach 73 = .ok (.iastore, 1) := by decide +kernel
theorem dX6_teach_74 : decode cX6_teach 74 = .ok (.iload 4, 2) := by decide +kernel
theorem dX6_teach_76 : decode cX6_teach 76 = .ok (.ifCond .eq 7, 3) := by decide +kernel
theorem dX6_teach_79 : decode cX6_teach 79 = .ok (.iconst 0, 1) := by decide +kernel
theorem dX6_teach_80 : decode cX6_teach 80 = .ok (.goto 4, 3) := by decide +kernel
theorem dX6_teach_83 : decode cX6_teach 83 = .ok (.iconst 1, 1) := by decide +kernel
theorem dX6_teach_84 : decode cX6_teach 84 = .ok (.ireturn, 1) := by decide +kernel
set_option maxRecDepth 20000 in
theorem ggX6_asking_X6_isStuff : GoodIn wsX6_asking wsX6_isStuff := goodIn_r _ [5, 6, 7, 4, 8] (by decide +kernel) (by decide +kernel)
set_option maxRecDepth 20000 in
theorem gX6_asking_X6_isStuff : GoodIn wsX6_asking (va_wsS RX6 40 yX6_isStuff wsX6_isStuff) := goodIn_app (goodIn_of _ (by decide +kernel)) ggX6_asking_X6_isStuff
set_option maxRecDepth 20000 in
theorem ggX6_asking_X6_in : GoodIn wsX6_asking wsX6_in := goodIn_r _ [8] (by decide +kernel) (by decide +kernel)
set_option maxRecDepth 20000 in
theorem gX6_asking_X6_in : GoodIn wsX6_asking (va_wsS RX6 32 yX6_in wsX6_in) := goodIn_app (goodIn_of _ (by decide +kernel)) ggX6_asking_X6_in
theorem dX6_asking_0 : decode cX6_asking 0 = .ok (.iload_n 1, 1) := by decide +kernel
theorem dX6_asking_1 : decode cX6_asking 1 = .ok (.invokestatic 40, 3) := by decide +kernel
theorem dX6_asking_4 : decode cX6_asking 4 = .ok (.ifCond .eq 12, 3) := by decide +kernel
theorem dX6_asking_7 : decode cX6_asking 7 = .ok (.iload_n 2, 1) := by decide +kernel
theorem dX6_asking_8 : decode cX6_asking 8 = .ok (.iconst 0, 1) := by decide +kernel
theorem dX6_asking_9 : decode cX6_asking 9 = .ok (.iconst 2, 1) := by decide +kernel
theorem dX6_asking_10 : decode cX6_asking 10 = .ok (.invokestatic 32, 3) := by decide +kernel
theorem dX6_asking_13 : decode cX6_asking 13 = .ok (.ifCond .ne 5, 3) := by decide +kernel
theorem dX6_asking_16 : decode cX6_asking 16 = .ok (.iconst (-1), 1) := by decide +kernel
theorem dX6_asking_17 : decode cX6_asking 17 = .ok (.ireturn, 1) := by decide +kernel
theorem dX6_asking_18 : decode cX6_asking 18 = .ok (.iload_n 3, 1) := by decide +kernel
theorem dX6_asking_19 : decode cX6_asking 19 = .ok (.iconst 1, 1) := by decide +kernel
theorem dX6_asking_20 : decode cX6_asking 20 = .ok (.iconst 2, 1) := by decide +kernel
theorem dX6_asking_21 : decode cX6_asking 21 = .ok (.invokestatic 32, 3) := by decide +kernel
theorem dX6_asking_24 : decode cX6_asking 24 = .ok (.ifCond .eq 35, 3) := by decide +kernel
theorem dX6_asking_27 : decode cX6_asking 27 = .ok (.iload 5, 2) := by decide +kernel
theorem dX6_asking_29 : decode cX6_asking 29 = .ok (.iconst 0, 1) := by decide +kernel
theorem dX6_asking_30 : decode cX6_asking 30 = .ok (.iconst 3, 1) := by decide +kernel
theorem dX6_asking_31 : decode cX6_asking 31 = .ok (.invokestatic 32, 3) := by decide +kernel
theorem dX6_asking_34 : decode cX6_asking 34 = .ok (.ifCond .eq 25, 3) := by decide +kernel
theorem dX6_asking_37 : decode cX6_asking 37 = .ok (.iload 6, 2) := by decide +kernel
theorem dX6_asking_39 : decode cX6_asking 39 = .ok (.bipush (-9), 2) := by decide +kernel
theorem dX6_asking_41 : decode cX6_asking 41 = .ok (.bipush 9, 2) := by decide +kernel
theorem dX6_asking_43 : decode cX6_asking 43 = .ok (.invokestatic 32, 3) := by decide +kernel
theorem dX6_asking_46 : decode cX6_asking 46 = .ok (.ifCond .eq 13, 3) := by decide +kernel
theorem dX6_asking_49 : decode cX6_asking 49 = .ok (.iload 7, 2) := by decide +kernel
theorem dX6_asking_51 : decode cX6_asking 51 = .ok (.iconst (-1), 1) := by decide +kernel
theorem dX6_asking_52 : decode cX6_asking 52 = .ok (.iconst 1, 1) := by decide +kernel
theorem dX6_asking_53 : decode cX6_asking 53 = .ok (.invokestatic 32, 3) := by decide +kernel
theorem dX6_asking_56 : decode cX6_asking 56 = .ok (.ifCond .ne 6, 3) := by decide +kernel
theorem dX6_asking_59 : decode cX6_asking 59 = .ok (.bipush (-2), 2) := by decide +kernel
theorem dX6_asking_61 : decode cX6_asking 61 = .ok (.ireturn, 1) := by decide +kernel
theorem dX6_asking_62 : decode cX6_asking 62 = .ok (.aload_n 0, 1) := by decide +kernel
theorem dX6_asking_63 : decode cX6_asking 63 = .ok (.getfield 9, 3) := by decide +kernel
theorem dX6_asking_66 : decode cX6_asking 66 = .ok (.iconst 1, 1) := by decide +kernel
theorem dX6_asking_67 : decode cX6_asking 67 = .ok (.iaload, 1) := by decide +kernel
theorem dX6_asking_68 : decode cX6_asking 68 = .ok (.bipush 16, 2) := by decide +kernel
theorem dX6_asking_70 : decode cX6_asking 70 = .ok (.if_icmp .ne 6, 3) := by decide +kernel
theorem dX6_asking_73 : decode cX6_asking 73 = .ok (.bipush (-4), 2) := by decide +kernel
theorem dX6_asking_75 : decode cX6_asking 75 = .ok (.ireturn, 1) := by decide +kernel
theorem dX6_asking_76 : decode cX6_asking 76 = .ok (.aload_n 0, 1) := by decide +kernel
theorem dX6_asking_77 : decode cX6_asking 77 = .ok (.getfield 9, 3) := by decide +kernel
theorem dX6_asking_80 : decode cX6_asking 80 = .ok (.iconst 1, 1) := by decide +kernel
theorem dX6_asking_81 : decode cX6_asking 81 = .ok (.iaload, 1) := by decide +kernel
theorem dX6_asking_82 : decode cX6_asking 82 = .ok (.istore 8, 2) := by decide +kernel
theorem dX6_asking_84 : decode cX6_asking 84 = .ok (.aload_n 0, 1) := by decide +kernel
theorem dX6_asking_85 : decode cX6_asking 85 = .ok (.getfield 9, 3) := by decide +kernel
theorem dX6_asking_88 : decode cX6_asking 88 = .ok (.sipush 170, 3) := by decide +kernel
theorem dX6_asking_91 : decode cX6_asking 91 = .ok (.iload 8, 2) := by decide +kernel
theorem dX6_asking_93 : decode cX6_asking 93 = .ok (.iadd, 1) := by decide +kernel
theorem dX6_asking_94 : decode cX6_asking 94 = .ok (.iload_n 1, 1) := by decide +kernel
theorem dX6_asking_95 : decode cX6_asking 95 = .ok (.iastore, 1) := by decide +kernel
theorem dX6_asking_96 : decode cX6_asking 96 = .ok (.aload_n 0, 1) := by decide +kernel
theorem dX6_asking_97 : decode cX6_asking 97 = .ok (.getfield 9, 3) := by decide +kernel
theorem dX6_asking_100 : decode cX6_asking 100 = .ok (.sipush 186, 3) := by decide +kernel
theorem dX6_asking_103 : decode cX6_asking 103 = .ok (.iload 8, 2) := by decide +kernel
theorem dX6_asking_105 : decode cX6_asking 105 = .ok (.iadd, 1) := by decide +kernel
theorem dX6_asking_106 : decode cX6_asking 106 = .ok (.iload_n 2, 1) := by decide +kernel
theorem dX6_asking_107 : decode cX6_asking 107 = .ok (.iastore, 1) := by decide +kernel
theorem dX6_asking_108 : decode cX6_asking 108 = .ok (.aload_n 0, 1) := by decide +kernel
theorem dX6_asking_109 : decode cX6_asking 109 = .ok (.getfield 9, 3) := by decide +kernel
theorem dX6_asking_112 : decode cX6_asking 112 = .ok (.sipush 202, 3) := by decide +kernel
theorem dX6_asking_115 : decode cX6_asking 115 = .ok (.iload 8, 2) := by decide +kernel
theorem dX6_asking_117 : decode cX6_asking 117 = .ok (.iadd, 1) := by decide +kernel
theorem dX6_asking_118 : decode cX6_asking 118 = .ok (.iload_n 3, 1) := by decide +kernel
theorem dX6_asking_119 : decode cX6_asking 119 = .ok (.iastore, 1) := by decide +kernel
theorem dX6_asking_120 : decode cX6_asking 120 = .ok (.aload_n 0, 1) := by decide +kernel
theorem dX6_asking_121 : decode cX6_asking 121 = .ok (.getfield 9, 3) := by decide +kernel
theorem dX6_asking_124 : decode cX6_asking 124 = .ok (.sipush 218, 3) := by decide +kernel
theorem dX6_asking_127 : decode cX6_asking 127 = .ok (.iload 8, 2) := by decide +kernel
theorem dX6_asking_129 : decode cX6_asking 129 = .ok (.iadd, 1) := by decide +kernel
theorem dX6_asking_130 : decode cX6_asking 130 = .ok (.iload 4, 2) := by decide +kernel
theorem dX6_asking_132 : decode cX6_asking 132 = .ok (.ifCond .eq 7, 3) := by decide +kernel
theorem dX6_asking_135 : decode cX6_asking 135 = .ok (.iconst 1, 1) := by decide +kernel
theorem dX6_asking_136 : decode cX6_asking 136 = .ok (.goto 4, 3) := by decide +kernel
theorem dX6_asking_139 : decode cX6_asking 139 = .ok (.iconst 0, 1) := by decide +kernel
theorem dX6_asking_140 : decode cX6_asking 140 = .ok (.iastore, 1) := by decide +kernel
theorem dX6_asking_141 : decode cX6_asking 141 = .ok (.aload_n 0, 1) := by decide +kernel
theorem dX6_asking_142 : decode cX6_asking 142 = .ok (.getfield 9, 3) := by decide +kernel
theorem dX6_asking_145 : decode cX6_asking 145 = .ok (.sipush 234, 3) := by decide +kernel
theorem dX6_asking_148 : decode cX6_asking 148 = .ok (.iload 8, 2) := by decide +kernel
theorem dX6_asking_150 : decode cX6_asking 150 = .ok (.iadd, 1) := by decide +kernel
theorem dX6_asking_151 : decode cX6_asking 151 = .ok (.iload 5, 2) := by decide +kernel
theorem dX6_asking_153 : decode cX6_asking 153 = .ok (.iastore, 1) := by decide +kernel
theorem dX6_asking_154 : decode cX6_asking 154 = .ok (.aload_n 0, 1) := by decide +kernel
theorem dX6_asking_155 : decode cX6_asking 155 = .ok (.getfield 9, 3) := by decide +kernel
theorem dX6_asking_158 : decode cX6_asking 158 = .ok (.sipush 250, 3) := by decide +kernel
theorem dX6_asking_161 : decode cX6_asking 161 = .ok (.iload 8, 2) := by decide +kernel
theorem dX6_asking_163 : decode cX6_asking 163 = .ok (.iadd, 1) := by decide +kernel
theorem dX6_asking_164 : decode cX6_asking 164 = .ok (.iload 6, 2) := by decide +kernel
theorem dX6_asking_166 : decode cX6_asking 166 = .ok (.iastore, 1) := by decide +kernel
theorem dX6_asking_167 : decode cX6_asking 167 = .ok (.aload_n 0, 1) := by decide +kernel
theorem dX6_asking_168 : decode cX6_asking 168 = .ok (.getfield 9, 3) := by decide +kernel
theorem dX6_asking_171 : decode cX6_asking 171 = .ok (.sipush 266, 3) := by decide +kernel
theorem dX6_asking_174 : decode cX6_asking 174 = .ok (.iload 8, 2) := by decide +kernel
theorem dX6_asking_176 : decode cX6_asking 176 = .ok (.iadd, 1) := by decide +kernel
theorem dX6_asking_177 : decode cX6_asking 177 = .ok (.iload 7, 2) := by decide +kernel
theorem dX6_asking_179 : decode cX6_asking 179 = .ok (.iastore, 1) := by decide +kernel
theorem dX6_asking_180 : decode cX6_asking 180 = .ok (.aload_n 0, 1) := by decide +kernel
theorem dX6_asking_181 : decode cX6_asking 181 = .ok (.getfield 9, 3) := by decide +kernel
theorem dX6_asking_184 : decode cX6_asking 184 = .ok (.iconst 1, 1) := by decide +kernel
theorem dX6_asking_185 : decode cX6_asking 185 = .ok (.dup2, 1) := by decide +kernel
theorem dX6_asking_186 : decode cX6_asking 186 = .ok (.iaload, 1) := by decide +kernel
theorem dX6_asking_187 : decode cX6_asking 187 = .ok (.iconst 1, 1) := by decide +kernel
theorem dX6_asking_188 : decode cX6_asking 188 = .ok (.iadd, 1) := by decide +kernel
theorem dX6_asking_189 : decode cX6_asking 189 = .ok (.iastore, 1) := by decide +kernel
theorem dX6_asking_190 : decode cX6_asking 190 = .ok (.iload 8, 2) := by decide +kernel
theorem dX6_asking_192 : decode cX6_asking 192 = .ok (.ireturn, 1) := by decide +kernel
set_option maxRecDepth 20000 in
theorem ggX6_of_X6_isAsking : GoodIn wsX6_of wsX6_isAsking := goodIn_r _ [6, 1, 7, 8, 5, 9, 10, 11, 12, 13, 14, 15, 16, 17, 18, 19, 20, 21, 22, 23, 24, 25, 26, 27] (by decide +kernel) (by decide +kernel)
set_option maxRecDepth 20000 in
theorem gX6_of_X6_isAsking : GoodIn wsX6_of (wsV RX6 43 RX6 yX6_isAsking wsX6_isAsking) := goodIn_app (goodIn_of _ (by decide +kernel)) ggX6_of_X6_isAsking
set_option maxRecDepth 20000 in
theorem ggX6_of_X6_in : GoodIn wsX6_of wsX6_in := goodIn_r _ [9] (by decide +kernel) (by decide +kernel)
set_option maxRecDepth 20000 in
theorem gX6_of_X6_in : GoodIn wsX6_of (va_wsS RX6 32 yX6_in wsX6_in) := goodIn_app (goodIn_of _ (by decide +kernel)) ggX6_of_X6_in
theorem dX6_of_0 : decode cX6_of 0 = .ok (.aload_n 0, 1) := by decide +kernel
theorem dX6_of_1 : decode cX6_of 1 = .ok (.iload_n 1, 1) := by decide +kernel
theorem dX6_of_2 : decode cX6_of 2 = .ok (.invokevirtual 43, 3) := by decide +kernel
theorem dX6_of_5 : decode cX6_of 5 = .ok (.ifCond .eq 31, 3) := by decide +kernel
theorem dX6_of_8 : decode cX6_of 8 = .ok (.iload_n 2, 1) := by decide +kernel
theorem dX6_of_9 : decode cX6_of 9 = .ok (.iconst 0, 1) := by decide +kernel
theorem dX6_of_10 : decode cX6_of 10 = .ok (.bipush 6, 2) := by decide +kernel
theorem dX6_of_12 : decode cX6_of 12 = .ok (.invokestatic 32, 3) := by decide +kernel
theorem dX6_of_15 : decode cX6_of 15 = .ok (.ifCond .eq 21, 3) := by decide +kernel
theorem dX6_of_18 : decode cX6_of 18 = .ok (.aload_n 0, 1) := by decide +kernel
theorem dX6_of_19 : decode cX6_of 19 = .ok (.getfield 9, 3) := by decide +kernel
theorem dX6_of_22 : decode cX6_of 22 = .ok (.sipush 170, 3) := by decide +kernel
theorem dX6_of_25 : decode cX6_of 25 = .ok (.bipush 16, 2) := by decide +kernel
theorem dX6_of_27 : decode cX6_of 27 = .ok (.iload_n 2, 1) := by decide +kernel
theorem dX6_of_28 : decode cX6_of 28 = .ok (.imul, 1) := by decide +kernel
theorem dX6_of_29 : decode cX6_of 29 = .ok (.iadd, 1) := by decide +kernel
theorem dX6_of_30 : decode cX6_of 30 = .ok (.iload_n 1, 1) := by decide +kernel
theorem dX6_of_31 : decode cX6_of 31 = .ok (.iadd, 1) := by decide +kernel
theorem dX6_of_32 : decode cX6_of 32 = .ok (.iaload, 1) := by decide +kernel
theorem dX6_of_33 : decode cX6_of 33 = .ok (.goto 6, 3) := by decide +kernel
theorem dX6_of_36 : decode cX6_of 36 = .ok (.sipush (-1001), 3) := by decide +kernel
theorem dX6_of_39 : decode cX6_of 39 = .ok (.ireturn, 1) := by decide +kernel
set_option maxRecDepth 20000 in
theorem ggX6_answer_X6_isChild : GoodIn wsX6_answer wsX6_isChild := goodIn_r _ [6, 1, 7, 8, 5, 9, 14, 15, 16, 17, 18, 19, 20, 21, 22, 23, 24, 25, 26, 27, 28, 29, 30, 31] (by decide +kernel) (by decide +kernel)
set_option maxRecDepth 20000 in
theorem gX6_answer_X6_isChild : GoodIn wsX6_answer (wsV RX6 36 RX6 yX6_isChild wsX6_isChild) := goodIn_app (goodIn_of _ (by decide +kernel)) ggX6_answer_X6_isChild
set_option maxRecDepth 20000 in
theorem ggX6_answer_X6_isAsking : GoodIn wsX6_answer wsX6_isAsking := goodIn_r _ [13, 1, 7, 8, 5, 9, 14, 15, 16, 17, 18, 19, 20, 21, 22, 23, 24, 25, 26, 27, 28, 29, 30, 31] (by decide +kernel) (by decide +kernel)
set_option maxRecDepth 20000 in
theorem gX6_answer_X6_isAsking : GoodIn wsX6_answer (wsV RX6 43 RX6 yX6_isAsking wsX6_isAsking) := goodIn_app (goodIn_of _ (by decide +kernel)) ggX6_answer_X6_isAsking
set_option maxRecDepth 20000 in
theorem ggX6_answer_X6_in : GoodIn wsX6_answer wsX6_in := goodIn_r _ [9] (by decide +kernel) (by decide +kernel)
set_option maxRecDepth 20000 in
theorem gX6_answer_X6_in : GoodIn wsX6_answer (va_wsS RX6 32 yX6_in wsX6_in) := goodIn_app (goodIn_of _ (by decide +kernel)) ggX6_answer_X6_in
theorem dX6_answer_0 : decode cX6_answer 0 = .ok (.aload_n 0, 1) := by decide +kernel
theorem dX6_answer_1 : decode cX6_answer 1 = .ok (.iload_n 1, 1) := by decide +kernel
theorem dX6_answer_2 : decode cX6_answer 2 = .ok (.invokevirtual 36, 3) := by decide +kernel
theorem dX6_answer_5 : decode cX6_answer 5 = .ok (.ifCond .eq 11, 3) := by decide +kernel
theorem dX6_answer_8 : decode cX6_answer 8 = .ok (.aload_n 0, 1) := by decide +kernel
theorem dX6_answer_9 : decode cX6_answer 9 = .ok (.iload_n 2, 1) := by decide +kernel
theorem dX6_answer_10 : decode cX6_answer 10 = .ok (.invokevirtual 43, 3) := by decide +kernel
theorem dX6_answer_13 : decode cX6_answer 13 = .ok (.ifCond .ne 5, 3) := by decide +kernel
theorem dX6_answer_16 : decode cX6_answer 16 = .ok (.iconst (-1), 1) := by decide +kernel
theorem dX6_answer_17 : decode cX6_answer 17 = .ok (.ireturn, 1) := by decide +kernel
theorem dX6_answer_18 : decode cX6_answer 18 = .ok (.iload_n 3, 1) := by decide +kernel
theorem dX6_answer_19 : decode cX6_answer 19 = .ok (.iconst 0, 1) := by decide +kernel
theorem dX6_answer_20 : decode cX6_answer 20 = .ok (.iconst 2, 1) := by decide +kernel
theorem dX6_answer_21 : decode cX6_answer 21 = .ok (.invokestatic 32, 3) := by decide +kernel
theorem dX6_answer_24 : decode cX6_answer 24 = .ok (.ifCond .ne 6, 3) := by decide +kernel
theorem dX6_answer_27 : decode cX6_answer 27 = .ok (.bipush (-2), 2) := by decide +kernel
theorem dX6_answer_29 : decode cX6_answer 29 = .ok (.ireturn, 1) := by decide +kernel
theorem dX6_answer_30 : decode cX6_answer 30 = .ok (.aload_n 0, 1) := by decide +kernel
theorem dX6_answer_31 : decode cX6_answer 31 = .ok (.getfield 9, 3) := by decide +kernel
theorem dX6_answer_34 : decode cX6_answer 34 = .ok (.iconst 2, 1) := by decide +kernel
theorem dX6_answer_35 : decode cX6_answer 35 = .ok (.iaload, 1) := by decide +kernel
theorem dX6_answer_36 : decode cX6_answer 36 = .ok (.bipush 40, 2) := by decide +kernel
theorem dX6_answer_38 : decode cX6_answer 38 = .ok (.if_icmp .ne 6, 3) := by decide +kernel
theorem dX6_answer_41 : decode cX6_answer 41 = .ok (.bipush (-4), 2) := by decide +kernel
theorem dX6_answer_43 : decode cX6_answer 43 = .ok (.ireturn, 1) := by decide +kernel
theorem dX6_answer_44 : decode cX6_answer 44 = .ok (.aload_n 0, 1) := by decide +kernel
theorem dX6_answer_45 : decode cX6_answer 45 = .ok (.getfield 9, 3) := by decide +kernel
theorem dX6_answer_48 : decode cX6_answer 48 = .ok (.iconst 2, 1) := by decide +kernel
theorem dX6_answer_49 : decode cX6_answer 49 = .ok (.iaload, 1) := by decide +kernel
theorem dX6_answer_50 : decode cX6_answer 50 = .ok (.istore 5, 2) := by decide +kernel
theorem dX6_answer_52 : decode cX6_answer 52 = .ok (.aload_n 0, 1) := by decide +kernel
theorem dX6_answer_53 : decode cX6_answer 53 = .ok (.getfield 9, 3) := by decide +kernel
theorem dX6_answer_56 : decode cX6_answer 56 = .ok (.sipush 282, 3) := by decide +kernel
theorem dX6_answer_59 : decode cX6_answer 59 = .ok (.iload 5, 2) := by decide +kernel
theorem dX6_answer_61 : decode cX6_answer 61 = .ok (.iadd, 1) := by decide +kernel
theorem dX6_answer_62 : decode cX6_answer 62 = .ok (.iload_n 1, 1) := by decide +kernel
theorem dX6_answer_63 : decode cX6_answer 63 = .ok (.iastore, 1) := by decide +kernel
theorem dX6_answer_64 : decode cX6_answer 64 = .ok (.aload_n 0, 1) := by decide +kernel
theorem dX6_answer_65 : decode cX6_answer 65 = .ok (.getfield 9, 3) := by decide +kernel
theorem dX6_answer_68 : decode cX6_answer 68 = .ok (.sipush 322, 3) := by decide +kernel
theorem dX6_answer_71 : decode cX6_answer 71 = .ok (.iload 5, 2) := by decide +kernel
theorem dX6_answer_73 : decode cX6_answer 73 = .ok (.iadd, 1) := by decide +kernel
theorem dX6_answer_74 : decode cX6_answer 74 = .ok (.iload_n 2, 1) := by decide +kernel
theorem dX6_answer_75 : decode cX6_answer 75 = .ok (.iastore, 1) := by decide +kernel
theorem dX6_answer_76 : decode cX6_answer 76 = .ok (.aload_n 0, 1) := by decide +kernel
theorem dX6_answer_77 : decode cX6_answer 77 = .ok (.getfield 9, 3) := by decide +kernel
theorem dX6_answer_80 : decode cX6_answer 80 = .ok (.sipush 362, 3) := by decide +kernel
theorem dX6_answer_83 : decode cX6_answer 83 = .ok (.iload 5, 2) := by decide +kernel
theorem dX6_answer_85 : decode cX6_answer 85 = .ok (.iadd, 1) := by decide +kernel
theorem dX6_answer_86 : decode cX6_answer 86 = .ok (.iload_n 3, 1) := by decide +kernel
theorem dX6_answer_87 : decode cX6_answer 87 = .ok (.iastore, 1) := by decide +kernel
theorem dX6_answer_88 : decode cX6_answer 88 = .ok (.aload_n 0, 1) := by decide +kernel
theorem dX6_answer_89 : decode cX6_answer 89 = .ok (.getfield 9, 3) := by decide +kernel
theorem dX6_answer_92 : decode cX6_answer 92 = .ok (.sipush 402, 3) := by decide +kernel
theorem dX6_answer_95 : decode cX6_answer 95 = .ok (.iload 5, 2) := by decide +kernel
theorem dX6_answer_97 : decode cX6_answer 97 = .ok (.iadd, 1) := by decide +kernel
theorem dX6_answer_98 : decode cX6_answer 98 = .ok (.iload 4, 2) := by decide +kernel
theorem dX6_answer_100 : decode cX6_answer 100 = .ok (.ifCond .eq 7, 3) := by decide +kernel
theorem dX6_answer_103 : decode cX6_answer 103 = .ok (.iconst 1, 1) := by decide +kernel
theorem dX6_answer_104 : decode cX6_answer 104 = .ok (.goto 4, 3) := by decide +kernel
theorem dX6_answer_107 : decode cX6_answer 107 = .ok (.iconst 0, 1) := by decide +kernel
theorem dX6_answer_108 : decode cX6_answer 108 = .ok (.iastore, 1) := by decide +kernel
theorem dX6_answer_109 : decode cX6_answer 109 = .ok (.aload_n 0, 1) := by decide +kernel
theorem dX6_answer_110 : decode cX6_answer 110 = .ok (.getfield 9, 3) := by decide +kernel
theorem dX6_answer_113 : decode cX6_answer 113 = .ok (.sipush 442, 3) := by decide +kernel
theorem dX6_answer_116 : decode cX6_answer 116 = .ok (.iload 5, 2) := by decide +kernel
theorem dX6_answer_118 : decode cX6_answer 118 = .ok (.iadd, 1) := by decide +kernel
theorem dX6_answer_119 : decode cX6_answer 119 = .ok (.aload_n 0, 1) := by decide +kernel
theorem dX6_answer_120 : decode cX6_answer 120 = .ok (.getfield 9, 3) := by decide +kernel
theorem dX6_answer_123 : decode cX6_answer 123 = .ok (.sipush 130, 3) := by decide +kernel
theorem dX6_answer_126 : decode cX6_answer 126 = .ok (.iload_n 1, 1) := by decide +kernel
theorem dX6_answer_127 : decode cX6_answer 127 = .ok (.iadd, 1) := by decide +kernel
theorem dX6_answer_128 : decode cX6_answer 128 = .ok (.iaload, 1) := by decide +kernel
theorem dX6_answer_129 : decode cX6_answer 129 = .ok (.iastore, 1) := by decide +kernel
theorem dX6_answer_130 : decode cX6_answer 130 = .ok (.aload_n 0, 1) := by decide +kernel
theorem dX6_answer_131 : decode cX6_answer 131 = .ok (.getfield 9, 3) := by decide +kernel
theorem dX6_answer_134 : decode cX6_answer 134 = .ok (.iconst 2, 1) := by decide +kernel
theorem dX6_answer_135 : decode cX6_answer 135 = .ok (.dup2, 1) := by decide +kernel
theorem dX6_answer_136 : decode cX6_answer 136 = .ok (.iaload, 1) := by decide +kernel
theorem dX6_answer_137 : decode cX6_answer 137 = .ok (.iconst 1, 1) := by decide +kernel
theorem dX6_answer_138 : decode cX6_answer 138 = .ok (.iadd, 1) := by decide +kernel
theorem dX6_answer_139 : decode cX6_answer 139 = .ok (.iastore, 1) := by decide +kernel
theorem dX6_answer_140 : decode cX6_answer 140 = .ok (.iload 5, 2) := by decide +kernel
theorem dX6_answer_142 : decode cX6_answer 142 = .ok (.ireturn, 1) := by decide +kernel
set_option maxRecDepth 20000 in
theorem ggX6_answered_X6_isAnswer : GoodIn wsX6_answered wsX6_isAnswer := goodIn_r _ [6, 1, 7, 8, 5, 9, 10, 11, 12, 13, 14, 15, 16, 17, 18, 19, 20, 21, 22, 23, 24, 25, 26, 27] (by decide +kernel) (by decide +kernel)
set_option maxRecDepth 20000 in
theorem gX6_answered_X6_isAnswer : GoodIn wsX6_answered (wsV RX6 46 RX6 yX6_isAnswer wsX6_isAnswer) := goodIn_app (goodIn_of _ (by decide +kernel)) ggX6_answered_X6_isAnswer
set_option maxRecDepth 20000 in
theorem ggX6_answered_X6_in : GoodIn wsX6_answered wsX6_in := goodIn_r _ [9] (by decide +kernel) (by decide +kernel)
set_option maxRecDepth 20000 in
theorem gX6_answered_X6_in : GoodIn wsX6_answered (va_wsS RX6 32 yX6_in wsX6_in) := goodIn_app (goodIn_of _ (by decide +kernel)) ggX6_answered_X6_in
theorem dX6_answered_0 : decode cX6_answered 0 = .ok (.aload_n 0, 1) := by decide +kernel
theorem dX6_answered_1 : decode cX6_answered 1 = .ok (.iload_n 1, 1) := by decide +kernel
theorem dX6_answered_2 : decode cX6_answered 2 = .ok (.invokevirtual 46, 3) := by decide +kernel
theorem dX6_answered_5 : decode cX6_answered 5 = .ok (.ifCond .eq 30, 3) := by decide +kernel
theorem dX6_answered_8 : decode cX6_answered 8 = .ok (.iload_n 2, 1) := by decide +kernel
theorem dX6_answered_9 : decode cX6_answered 9 = .ok (.iconst 0, 1) := by decide +kernel
theorem dX6_answered_10 : decode cX6_answered 10 = .ok (.iconst 4, 1) := by decide +kernel
theorem dX6_answered_11 : decode cX6_answered 11 = .ok (.invokestatic 32, 3) := by decide +kernel
theorem dX6_answered_14 : decode cX6_answered 14 = .ok (.ifCond .eq 21, 3) := by decide +kernel
theorem dX6_answered_17 : decode cX6_answered 17 = .ok (.aload_n 0, 1) := by decide +kernel
theorem dX6_answered_18 : decode cX6_answered 18 = .ok (.getfield 9, 3) := by decide +kernel
theorem dX6_answered_21 : decode cX6_answered 21 = .ok (.sipush 282, 3) := by decide +kernel
theorem dX6_answered_24 : decode cX6_answered 24 = .ok (.bipush 40, 2) := by decide +kernel
theorem dX6_answered_26 : decode cX6_answered 26 = .ok (.iload_n 2, 1) := by decide +kernel
theorem dX6_answered_27 : decode cX6_answered 27 = .ok (.imul, 1) := by decide +kernel
theorem dX6_answered_28 : decode cX6_answered 28 = .ok (.iadd, 1) := by decide +kernel
theorem dX6_answered_29 : decode cX6_answered 29 = .ok (.iload_n 1, 1) := by decide +kernel
theorem dX6_answered_30 : decode cX6_answered 30 = .ok (.iadd, 1) := by decide +kernel
theorem dX6_answered_31 : decode cX6_answered 31 = .ok (.iaload, 1) := by decide +kernel
theorem dX6_answered_32 : decode cX6_answered 32 = .ok (.goto 4, 3) := by decide +kernel
theorem dX6_answered_35 : decode cX6_answered 35 = .ok (.iconst (-1), 1) := by decide +kernel
theorem dX6_answered_36 : decode cX6_answered 36 = .ok (.ireturn, 1) := by decide +kernel
set_option maxRecDepth 20000 in
theorem ggX6_feed_X6_in : GoodIn wsX6_feed wsX6_in := goodIn_r _ [6] (by decide +kernel) (by decide +kernel)
set_option maxRecDepth 20000 in
theorem gX6_feed_X6_in : GoodIn wsX6_feed (va_wsS RX6 32 yX6_in wsX6_in) := goodIn_app (goodIn_of _ (by decide +kernel)) ggX6_feed_X6_in
theorem dX6_feed_0 : decode cX6_feed 0 = .ok (.iload_n 3, 1) := by decide +kernel
theorem dX6_feed_1 : decode cX6_feed 1 = .ok (.iconst 1, 1) := by decide +kernel
theorem dX6_feed_2 : decode cX6_feed 2 = .ok (.bipush 8, 2) := by decide +kernel
theorem dX6_feed_4 : decode cX6_feed 4 = .ok (.invokestatic 32, 3) := by decide +kernel
theorem dX6_feed_7 : decode cX6_feed 7 = .ok (.ifCond .ne 6, 3) := by decide +kernel
theorem dX6_feed_10 : decode cX6_feed 10 = .ok (.bipush (-2), 2) := by decide +kernel
theorem dX6_feed_12 : decode cX6_feed 12 = .ok (.ireturn, 1) := by decide +kernel
theorem dX6_feed_13 : decode cX6_feed 13 = .ok (.aload_n 0, 1) := by decide +kernel
theorem dX6_feed_14 : decode cX6_feed 14 = .ok (.getfield 9, 3) := by decide +kernel
theorem dX6_feed_17 : decode cX6_feed 17 = .ok (.iconst 4, 1) := by decide +kernel
theorem dX6_feed_18 : decode cX6_feed 18 = .ok (.iaload, 1) := by decide +kernel
theorem dX6_feed_19 : decode cX6_feed 19 = .ok (.iload_n 3, 1) := by decide +kernel
theorem dX6_feed_20 : decode cX6_feed 20 = .ok (.iadd, 1) := by decide +kernel
theorem dX6_feed_21 : decode cX6_feed 21 = .ok (.bipush 120, 2) := by decide +kernel
theorem dX6_feed_23 : decode cX6_feed 23 = .ok (.if_icmp .le 6, 3) := by decide +kernel
theorem dX6_feed_26 : decode cX6_feed 26 = .ok (.bipush (-4), 2) := by decide +kernel
theorem dX6_feed_28 : decode cX6_feed 28 = .ok (.ireturn, 1) := by decide +kernel
theorem dX6_feed_29 : decode cX6_feed 29 = .ok (.iload_n 3, 1) := by decide +kernel
theorem dX6_feed_30 : decode cX6_feed 30 = .ok (.iconst 1, 1) := by decide +kernel
theorem dX6_feed_31 : decode cX6_feed 31 = .ok (.isub, 1) := by decide +kernel
theorem dX6_feed_32 : decode cX6_feed 32 = .ok (.istore 4, 2) := by decide +kernel
theorem dX6_feed_34 : decode cX6_feed 34 = .ok (.iload 4, 2) := by decide +kernel
theorem dX6_feed_36 : decode cX6_feed 36 = .ok (.ifCond .lt 45, 3) := by decide +kernel
theorem dX6_feed_39 : decode cX6_feed 39 = .ok (.aload_n 0, 1) := by decide +kernel
theorem dX6_feed_40 : decode cX6_feed 40 = .ok (.getfield 9, 3) := by decide +kernel
theorem dX6_feed_43 : decode cX6_feed 43 = .ok (.bipush 10, 2) := by decide +kernel
theorem dX6_feed_45 : decode cX6_feed 45 = .ok (.aload_n 0, 1) := by decide +kernel
theorem dX6_feed_46 : decode cX6_feed 46 = .ok (.getfield 9, 3) := by decide +kernel
theorem dX6_feed_49 : decode cX6_feed 49 = .ok (.iconst 4, 1) := by decide +kernel
theorem dX6_feed_50 : decode cX6_feed 50 = .ok (.iaload, 1) := by decide +kernel
theorem dX6_feed_51 : decode cX6_feed 51 = .ok (.iadd, 1) := by decide +kernel
theorem dX6_feed_52 : decode cX6_feed 52 = .ok (.lload_n 1, 1) := by decide +kernel
theorem dX6_feed_53 : decode cX6_feed 53 = .ok (.bipush 8, 2) := by decide +kernel
theorem dX6_feed_55 : decode cX6_feed 55 = .ok (.iload 4, 2) := by decide +kernel
theorem dX6_feed_57 : decode cX6_feed 57 = .ok (.imul, 1) := by decide +kernel
theorem dX6_feed_58 : decode cX6_feed 58 = .ok (.lshr, 1) := by decide +kernel
theorem dX6_feed_59 : decode cX6_feed 59 = .ok (.ldc2_w 49, 3) := by decide +kernel
theorem dX6_feed_62 : decode cX6_feed 62 = .ok (.land, 1) := by decide +kernel
theorem dX6_feed_63 : decode cX6_feed 63 = .ok (.l2i, 1) := by decide +kernel
theorem dX6_feed_64 : decode cX6_feed 64 = .ok (.iastore, 1) := by decide +kernel
theorem dX6_feed_65 : decode cX6_feed 65 = .ok (.aload_n 0, 1) := by decide +kernel
theorem dX6_feed_66 : decode cX6_feed 66 = .ok (.getfield 9, 3) := by decide +kernel
theorem dX6_feed_69 : decode cX6_feed 69 = .ok (.iconst 4, 1) := by decide +kernel
theorem dX6_feed_70 : decode cX6_feed 70 = .ok (.dup2, 1) := by decide +kernel
theorem dX6_feed_71 : decode cX6_feed 71 = .ok (.iaload, 1) := by decide +kernel
theorem dX6_feed_72 : decode cX6_feed 72 = .ok (.iconst 1, 1) := by decide +kernel
theorem dX6_feed_73 : decode cX6_feed 73 = .ok (.iadd, 1) := by decide +kernel
theorem dX6_feed_74 : decode cX6_feed 74 = .ok (.iastore, 1) := by decide +kernel
theorem dX6_feed_75 : decode cX6_feed 75 = .ok (.iinc 4 (-1), 3) := by decide +kernel
theorem dX6_feed_78 : decode cX6_feed 78 = .ok (.goto (-44), 3) := by decide +kernel
theorem dX6_feed_81 : decode cX6_feed 81 = .ok (.aload_n 0, 1) := by decide +kernel
theorem dX6_feed_82 : decode cX6_feed 82 = .ok (.getfield 9, 3) := by decide +kernel
theorem dX6_feed_85 : decode cX6_feed 85 = .ok (.iconst 4, 1) := by decide +kernel
theorem dX6_feed_86 : decode cX6_feed 86 = .ok (.iaload, 1) := by decide +kernel
theorem dX6_feed_87 : decode cX6_feed 87 = .ok (.ireturn, 1) := by decide +kernel
theorem dX6_here_0 : decode cX6_here 0 = .ok (.aload_n 0, 1) := by decide +kernel
theorem dX6_here_1 : decode cX6_here 1 = .ok (.getfield 51, 3) := by decide +kernel
theorem dX6_here_4 : decode cX6_here 4 = .ok (.aload_n 0, 1) := by decide +kernel
theorem dX6_here_5 : decode cX6_here 5 = .ok (.getfield 54, 3) := by decide +kernel
theorem dX6_here_8 : decode cX6_here 8 = .ok (.if_icmp .ge 18, 3) := by decide +kernel
theorem dX6_here_11 : decode cX6_here 11 = .ok (.aload_n 0, 1) := by decide +kernel
theorem dX6_here_12 : decode cX6_here 12 = .ok (.getfield 9, 3) := by decide +kernel
theorem dX6_here_15 : decode cX6_here 15 = .ok (.bipush 10, 2) := by decide +kernel
theorem dX6_here_17 : decode cX6_here 17 = .ok (.aload_n 0, 1) := by decide +kernel
theorem dX6_here_18 : decode cX6_here 18 = .ok (.getfield 51, 3) := by decide +kernel
theorem dX6_here_21 : decode cX6_here 21 = .ok (.iadd, 1) := by decide +kernel
theorem dX6_here_22 : decode cX6_here 22 = .ok (.iaload, 1) := by decide +kernel
theorem dX6_here_23 : decode cX6_here 23 = .ok (.goto 4, 3) := by decide +kernel
theorem dX6_here_26 : decode cX6_here 26 = .ok (.iconst (-1), 1) := by decide +kernel
theorem dX6_here_27 : decode cX6_here 27 = .ok (.ireturn, 1) := by decide +kernel
set_option maxRecDepth 20000 in
theorem ggX6_must_X6_here : GoodIn wsX6_must wsX6_here := goodIn_r _ [7, 2, 8, 9, 10, 11, 12, 13, 14, 15, 16, 17, 18, 19, 20, 21, 22, 23, 24, 25, 26, 27] (by decide +kernel) (by decide +kernel)
set_option maxRecDepth 20000 in
theorem gX6_must_X6_here : GoodIn wsX6_must (wsV RX6 61 RX6 yX6_here wsX6_here) := goodIn_app (goodIn_of _ (by decide +kernel)) ggX6_must_X6_here
theorem dX6_must_0 : decode cX6_must 0 = .ok (.aload_n 0, 1) := by decide +kernel
theorem dX6_must_1 : decode cX6_must 1 = .ok (.aload_n 0, 1) := by decide +kernel
theorem dX6_must_2 : decode cX6_must 2 = .ok (.getfield 57, 3) := by decide +kernel
theorem dX6_must_5 : decode cX6_must 5 = .ok (.ifCond .ne 11, 3) := by decide +kernel
theorem dX6_must_8 : decode cX6_must 8 = .ok (.aload_n 0, 1) := by decide +kernel
theorem dX6_must_9 : decode cX6_must 9 = .ok (.invokevirtual 61, 3) := by decide +kernel
theorem dX6_must_12 : decode cX6_must 12 = .ok (.iload_n 1, 1) := by decide +kernel
theorem dX6_must_13 : decode cX6_must 13 = .ok (.if_icmp .eq 7, 3) := by decide +kernel
theorem dX6_must_16 : decode cX6_must 16 = .ok (.iconst 1, 1) := by decide +kernel
theorem dX6_must_17 : decode cX6_must 17 = .ok (.goto 4, 3) := by decide +kernel
theorem dX6_must_20 : decode cX6_must 20 = .ok (.iconst 0, 1) := by decide +kernel
theorem dX6_must_21 : decode cX6_must 21 = .ok (.putfield 57, 3) := by decide +kernel
theorem dX6_must_24 : decode cX6_must 24 = .ok (.aload_n 0, 1) := by decide +kernel
theorem dX6_must_25 : decode cX6_must 25 = .ok (.dup, 1) := by decide +kernel
theorem dX6_must_26 : decode cX6_must 26 = .ok (.getfield 51, 3) := by decide +kernel
theorem dX6_must_29 : decode cX6_must 29 = .ok (.aload_n 0, 1) := by decide +kernel
theorem dX6_must_30 : decode cX6_must 30 = .ok (.getfield 57, 3) := by decide +kernel
theorem dX6_must_33 : decode cX6_must 33 = .ok (.ifCond .eq 7, 3) := by decide +kernel
theorem dX6_must_36 : decode cX6_must 36 = .ok (.iconst 0, 1) := by decide +kernel
theorem dX6_must_37 : decode cX6_must 37 = .ok (.goto 4, 3) := by decide +kernel
theorem dX6_must_40 : decode cX6_must 40 = .ok (.iconst 1, 1) := by decide +kernel
theorem dX6_must_41 : decode cX6_must 41 = .ok (.iadd, 1) := by decide +kernel
theorem dX6_must_42 : decode cX6_must 42 = .ok (.putfield 51, 3) := by decide +kernel
theorem dX6_must_45 : decode cX6_must 45 = .ok (.return_, 1) := by decide +kernel
set_option maxRecDepth 20000 in
theorem ggX6_spells_J0_length_8abf5 : GoodIn wsX6_spells wsJ0_length_8abf5 := goodIn_r _ [5, 6, 7, 8, 9, 4, 10, 11, 12] (by decide +kernel) (by decide +kernel)
set_option maxRecDepth 20000 in
theorem gX6_spells_J0_length_8abf5 : GoodIn wsX6_spells (wsV RX6 65 RJ0 yJ0_length_8abf5 wsJ0_length_8abf5) := goodIn_app (goodIn_of _ (by decide +kernel)) ggX6_spells_J0_length_8abf5
set_option maxRecDepth 20000 in
theorem ggX6_spells_J0_charAt_5068e : GoodIn wsX6_spells wsJ0_charAt_5068e := goodIn_r _ [16, 6, 17, 18, 19, 4, 20, 11, 12, 21, 22, 23, 24, 25, 26, 27, 28, 29, 30, 31, 32, 33, 34, 35, 36, 37, 38, 39, 40, 41, 42, 43, 44, 45, 46, 47, 48, 49] (by decide +kernel) (by decide +kernel)
set_option maxRecDepth 20000 in
theorem gX6_spells_J0_charAt_5068e : GoodIn wsX6_spells (wsV RX6 70 RJ0 yJ0_charAt_5068e wsJ0_charAt_5068e) := goodIn_app (goodIn_of _ (by decide +kernel)) ggX6_spells_J0_charAt_5068e
set_option maxRecDepth 20000 in
theorem ggX6_spells_X6_must : GoodIn wsX6_spells wsX6_must := goodIn_r _ [54, 55, 56, 57, 58, 59, 53, 60, 61, 62, 63, 64, 65, 66, 67, 68, 69, 70, 71, 72, 73, 74, 75, 76, 77, 78, 79, 80] (by decide +kernel) (by decide +kernel)
set_option maxRecDepth 20000 in
theorem gX6_spells_X6_must : GoodIn wsX6_spells (wsV RX6 74 RX6 yX6_must wsX6_must) := goodIn_app (goodIn_of _ (by decide +kernel)) ggX6_spells_X6_must
theorem dX6_spells_0 : decode cX6_spells 0 = .ok (.iconst 0, 1) := by decide +kernel
theorem dX6_spells_1 : decode cX6_spells 1 = .ok (.istore_n 2, 1) := by decide +kernel
theorem dX6_spells_2 : decode cX6_spells 2 = .ok (.iload_n 2, 1) := by decide +kernel
theorem dX6_spells_3 : decode cX6_spells 3 = .ok (.aload_n 1, 1) := by decide +kernel
theorem dX6_spells_4 : decode cX6_spells 4 = .ok (.invokevirtual 65, 3) := by decide +kernel
theorem dX6_spells_7 : decode cX6_spells 7 = .ok (.if_icmp .ge 18, 3) := by decide +kernel
theorem dX6_spells_10 : decode cX6_spells 10 = .ok (.aload_n 0, 1) := by decide +kernel
theorem dX6_spells_11 : decode cX6_spells 11 = .ok (.aload_n 1, 1) := by decide +kernel
theorem dX6_spells_12 : decode cX6_spells 12 = .ok (.iload_n 2, 1) := by decide +kernel
theorem dX6_spells_13 : decode cX6_spells 13 = .ok (.invokevirtual 70, 3) := by decide +kernel
theorem dX6_spells_16 : decode cX6_spells 16 = .ok (.invokevirtual 74, 3) := by decide +kernel
theorem dX6_spells_19 : decode cX6_spells 19 = .ok (.iinc 2 1, 3) := by decide +kernel
theorem dX6_spells_22 : decode cX6_spells 22 = .ok (.goto (-20), 3) := by decide +kernel
theorem dX6_spells_25 : decode cX6_spells 25 = .ok (.return_, 1) := by decide +kernel
set_option maxRecDepth 20000 in
theorem ggX6_figures_X6_here : GoodIn wsX6_figures wsX6_here := goodIn_r _ [7, 2, 8, 9, 13, 14, 15, 16, 17, 18, 19, 20, 21, 22, 23, 24, 25, 26, 27, 28, 29, 30] (by decide +kernel) (by decide +kernel)
set_option maxRecDepth 20000 in
theorem gX6_figures_X6_here : GoodIn wsX6_figures (wsV RX6 61 RX6 yX6_here wsX6_here) := goodIn_app (goodIn_of _ (by decide +kernel)) ggX6_figures_X6_here
set_option maxRecDepth 20000 in
theorem ggX6_figures_X6_in : GoodIn wsX6_figures wsX6_in := goodIn_r _ [12] (by decide +kernel) (by decide +kernel)
set_option maxRecDepth 20000 in
theorem gX6_figures_X6_in : GoodIn wsX6_figures (va_wsS RX6 32 yX6_in wsX6_in) := goodIn_app (goodIn_of _ (by decide +kernel)) ggX6_figures_X6_in
theorem dX6_figures_0 : decode cX6_figures 0 = .ok (.aload_n 0, 1) := by decide +kernel
theorem dX6_figures_1 : decode cX6_figures 1 = .ok (.aload_n 0, 1) := by decide +kernel
theorem dX6_figures_2 : decode cX6_figures 2 = .ok (.getfield 57, 3) := by decide +kernel
theorem dX6_figures_5 : decode cX6_figures 5 = .ok (.ifCond .ne 17, 3) := by decide +kernel
theorem dX6_figures_8 : decode cX6_figures 8 = .ok (.aload_n 0, 1) := by decide +kernel
theorem dX6_figures_9 : decode cX6_figures 9 = .ok (.invokevirtual 61, 3) := by decide +kernel
theorem dX6_figures_12 : decode cX6_figures 12 = .ok (.bipush 48, 2) := by decide +kernel
theorem dX6_figures_14 : decode cX6_figures 14 = .ok (.bipush 57, 2) := by decide +kernel
theorem dX6_figures_16 : decode cX6_figures 16 = .ok (.invokestatic 32, 3) := by decide +kernel
theorem dX6_figures_19 : decode cX6_figures 19 = .ok (.ifCond .ne 7, 3) := by decide +kernel
theorem dX6_figures_22 : decode cX6_figures 22 = .ok (.iconst 1, 1) := by decide +kernel
theorem dX6_figures_23 : decode cX6_figures 23 = .ok (.goto 4, 3) := by decide +kernel
theorem dX6_figures_26 : decode cX6_figures 26 = .ok (.iconst 0, 1) := by decide +kernel
theorem dX6_figures_27 : decode cX6_figures 27 = .ok (.putfield 57, 3) := by decide +kernel
theorem dX6_figures_30 : decode cX6_figures 30 = .ok (.iconst 0, 1) := by decide +kernel
theorem dX6_figures_31 : decode cX6_figures 31 = .ok (.istore_n 1, 1) := by decide +kernel
theorem dX6_figures_32 : decode cX6_figures 32 = .ok (.iconst 0, 1) := by decide +kernel
theorem dX6_figures_33 : decode cX6_figures 33 = .ok (.istore_n 2, 1) := by decide +kernel
theorem dX6_figures_34 : decode cX6_figures 34 = .ok (.iload_n 2, 1) := by decide +kernel
theorem dX6_figures_35 : decode cX6_figures 35 = .ok (.iconst 3, 1) := by decide +kernel
theorem dX6_figures_36 : decode cX6_figures 36 = .ok (.if_icmp .ge 61, 3) := by decide +kernel
theorem dX6_figures_39 : decode cX6_figures 39 = .ok (.aload_n 0, 1) := by decide +kernel
theorem dX6_figures_40 : decode cX6_figures 40 = .ok (.getfield 57, 3) := by decide +kernel
theorem dX6_figures_43 : decode cX6_figures 43 = .ok (.ifCond .ne 54, 3) := by decide +kernel
theorem dX6_figures_46 : decode cX6_figures 46 = .ok (.aload_n 0, 1) := by decide +kernel
theorem dX6_figures_47 : decode cX6_figures 47 = .ok (.invokevirtual 61, 3) := by decide +kernel
theorem dX6_figures_50 : decode cX6_figures 50 = .ok (.bipush 48, 2) := by decide +kernel
theorem dX6_figures_52 : decode cX6_figures 52 = .ok (.bipush 57, 2) := by decide +kernel
theorem dX6_figures_54 : decode cX6_figures 54 = .ok (.invokestatic 32, 3) := by decide +kernel
theorem dX6_figures_57 : decode cX6_figures 57 = .ok (.ifCond .eq 40, 3) := by decide +kernel
theorem dX6_figures_60 : decode cX6_figures 60 = .ok (.iload_n 2, 1) := by decide +kernel
theorem dX6_figures_61 : decode cX6_figures 61 = .ok (.ifCond .eq 7, 3) := by decide +kernel
theorem dX6_figures_64 : decode cX6_figures 64 = .ok (.iload_n 1, 1) := by decide +kernel
theorem dX6_figures_65 : decode cX6_figures 65 = .ok (.ifCond .le 32, 3) := by decide +kernel
theorem dX6_figures_68 : decode cX6_figures 68 = .ok (.bipush 10, 2) := by decide +kernel
theorem dX6_figures_70 : decode cX6_figures 70 = .ok (.iload_n 1, 1) := by decide +kernel
theorem dX6_figures_71 : decode cX6_figures 71 = .ok (.imul, 1) := by decide +kernel
theorem dX6_figures_72 : decode cX6_figures 72 = .ok (.aload_n 0, 1) := by decide +kernel
theorem dX6_figures_73 : decode cX6_figures 73 = .ok (.invokevirtual 61, 3) := by decide +kernel
theorem dX6_figures_76 : decode cX6_figures 76 = .ok (.iadd, 1) := by decide +kernel
theorem dX6_figures_77 : decode cX6_figures 77 = .ok (.bipush 48, 2) := by decide +kernel
theorem dX6_figures_79 : decode cX6_figures 79 = .ok (.isub, 1) := by decide +kernel
theorem dX6_figures_80 : decode cX6_figures 80 = .ok (.istore_n 1, 1) := by decide +kernel
theorem dX6_figures_81 : decode cX6_figures 81 = .ok (.aload_n 0, 1) := by decide +kernel
theorem dX6_figures_82 : decode cX6_figures 82 = .ok (.dup, 1) := by decide +kernel
theorem dX6_figures_83 : decode cX6_figures 83 = .ok (.getfield 51, 3) := by decide +kernel
theorem dX6_figures_86 : decode cX6_figures 86 = .ok (.iconst 1, 1) := by decide +kernel
theorem dX6_figures_87 : decode cX6_figures 87 = .ok (.iadd, 1) := by decide +kernel
theorem dX6_figures_88 : decode cX6_figures 88 = .ok (.putfield 51, 3) := by decide +kernel
theorem dX6_figures_91 : decode cX6_figures 91 = .ok (.iinc 2 1, 3) := by decide +kernel
theorem dX6_figures_94 : decode cX6_figures 94 = .ok (.goto (-60), 3) := by decide +kernel
theorem dX6_figures_97 : decode cX6_figures 97 = .ok (.iload_n 1, 1) := by decide +kernel
theorem dX6_figures_98 : decode cX6_figures 98 = .ok (.ireturn, 1) := by decide +kernel
set_option maxRecDepth 20000 in
theorem ggX6_figure_X6_here : GoodIn wsX6_figure wsX6_here := goodIn_r _ [7, 2, 8, 9, 13, 14, 15, 16, 17, 18, 19, 20, 21, 22, 23, 24, 25, 26, 27, 28, 29, 30] (by decide +kernel) (by decide +kernel)
set_option maxRecDepth 20000 in
theorem gX6_figure_X6_here : GoodIn wsX6_figure (wsV RX6 61 RX6 yX6_here wsX6_here) := goodIn_app (goodIn_of _ (by decide +kernel)) ggX6_figure_X6_here
set_option maxRecDepth 20000 in
theorem ggX6_figure_X6_in : GoodIn wsX6_figure wsX6_in := goodIn_r _ [12] (by decide +kernel) (by decide +kernel)
set_option maxRecDepth 20000 in
theorem gX6_figure_X6_in : GoodIn wsX6_figure (va_wsS RX6 32 yX6_in wsX6_in) := goodIn_app (goodIn_of _ (by decide +kernel)) ggX6_figure_X6_in
theorem dX6_figure_0 : decode cX6_figure 0 = .ok (.aload_n 0, 1) := by decide +kernel
theorem dX6_figure_1 : decode cX6_figure 1 = .ok (.aload_n 0, 1) := by decide +kernel
theorem dX6_figure_2 : decode cX6_figure 2 = .ok (.getfield 57, 3) := by decide +kernel
theorem dX6_figure_5 : decode cX6_figure 5 = .ok (.ifCond .ne 19, 3) := by decide +kernel
theorem dX6_figure_8 : decode cX6_figure 8 = .ok (.aload_n 0, 1) := by decide +kernel
theorem dX6_figure_9 : decode cX6_figure 9 = .ok (.invokevirtual 61, 3) := by decide +kernel
theorem dX6_figure_12 : decode cX6_figure 12 = .ok (.bipush 48, 2) := by decide +kernel
theorem dX6_figure_14 : decode cX6_figure 14 = .ok (.bipush 48, 2) := by decide +kernel
theorem dX6_figure_16 : decode cX6_figure 16 = .ok (.iload_n 1, 1) := by decide +kernel
theorem dX6_figure_17 : decode cX6_figure 17 = .ok (.iadd, 1) := by decide +kernel
theorem dX6_figure_18 : decode cX6_figure 18 = .ok (.invokestatic 32, 3) := by decide +kernel
theorem dX6_figure_21 : decode cX6_figure 21 = .ok (.ifCond .ne 7, 3) := by decide +kernel
theorem dX6_figure_24 : decode cX6_figure 24 = .ok (.iconst 1, 1) := by decide +kernel
theorem dX6_figure_25 : decode cX6_figure 25 = .ok (.goto 4, 3) := by decide +kernel
theorem dX6_figure_28 : decode cX6_figure 28 = .ok (.iconst 0, 1) := by decide +kernel
theorem dX6_figure_29 : decode cX6_figure 29 = .ok (.putfield 57, 3) := by decide +kernel
theorem dX6_figure_32 : decode cX6_figure 32 = .ok (.aload_n 0, 1) := by decide +kernel
theorem dX6_figure_33 : decode cX6_figure 33 = .ok (.getfield 57, 3) := by decide +kernel
theorem dX6_figure_36 : decode cX6_figure 36 = .ok (.ifCond .eq 7, 3) := by decide +kernel
theorem dX6_figure_39 : decode cX6_figure 39 = .ok (.iconst 0, 1) := by decide +kernel
theorem dX6_figure_40 : decode cX6_figure 40 = .ok (.goto 10, 3) := by decide +kernel
theorem dX6_figure_43 : decode cX6_figure 43 = .ok (.aload_n 0, 1) := by decide +kernel
theorem dX6_figure_44 : decode cX6_figure 44 = .ok (.invokevirtual 61, 3) := by decide +kernel
theorem dX6_figure_47 : decode cX6_figure 47 = .ok (.bipush 48, 2) := by decide +kernel
theorem dX6_figure_49 : decode cX6_figure 49 = .ok (.isub, 1) := by decide +kernel
theorem dX6_figure_50 : decode cX6_figure 50 = .ok (.istore_n 2, 1) := by decide +kernel
theorem dX6_figure_51 : decode cX6_figure 51 = .ok (.aload_n 0, 1) := by decide +kernel
theorem dX6_figure_52 : decode cX6_figure 52 = .ok (.dup, 1) := by decide +kernel
theorem dX6_figure_53 : decode cX6_figure 53 = .ok (.getfield 51, 3) := by decide +kernel
theorem dX6_figure_56 : decode cX6_figure 56 = .ok (.aload_n 0, 1) := by decide +kernel
theorem dX6_figure_57 : decode cX6_figure 57 = .ok (.getfield 57, 3) := by decide +kernel
theorem dX6_figure_60 : decode cX6_figure 60 = .ok (.ifCond .eq 7, 3) := by decide +kernel
theorem dX6_figure_63 : decode cX6_figure 63 = .ok (.iconst 0, 1) := by decide +kernel
theorem dX6_figure_64 : decode cX6_figure 64 = .ok (.goto 4, 3) := by decide +kernel
theorem dX6_figure_67 : decode cX6_figure 67 = .ok (.iconst 1, 1) := by decide +kernel
theorem dX6_figure_68 : decode cX6_figure 68 = .ok (.iadd, 1) := by decide +kernel
theorem dX6_figure_69 : decode cX6_figure 69 = .ok (.putfield 51, 3) := by decide +kernel
theorem dX6_figure_72 : decode cX6_figure 72 = .ok (.iload_n 2, 1) := by decide +kernel
theorem dX6_figure_73 : decode cX6_figure 73 = .ok (.ireturn, 1) := by decide +kernel
set_option maxRecDepth 20000 in
theorem ggX6_among_J0_length_8abf5 : GoodIn wsX6_among wsJ0_length_8abf5 := goodIn_r _ [6, 7, 8, 9, 10, 5, 11, 12, 13] (by decide +kernel) (by decide +kernel)
set_option maxRecDepth 20000 in
theorem gX6_among_J0_length_8abf5 : GoodIn wsX6_among (wsV RX6 65 RJ0 yJ0_length_8abf5 wsJ0_length_8abf5) := goodIn_app (goodIn_of _ (by decide +kernel)) ggX6_among_J0_length_8abf5
set_option maxRecDepth 20000 in
theorem ggX6_among_X6_here : GoodIn wsX6_among wsX6_here := goodIn_r _ [18, 1, 19, 20, 58, 59, 60, 61, 62, 63, 64, 65, 66, 67, 68, 69, 70, 71, 72, 73, 74, 75] (by decide +kernel) (by decide +kernel)
set_option maxRecDepth 20000 in
theorem gX6_among_X6_here : GoodIn wsX6_among (wsV RX6 61 RX6 yX6_here wsX6_here) := goodIn_app (goodIn_of _ (by decide +kernel)) ggX6_among_X6_here
set_option maxRecDepth 20000 in
theorem ggX6_among_J0_charAt_5068e : GoodIn wsX6_among wsJ0_charAt_5068e := goodIn_r _ [24, 7, 25, 26, 27, 5, 28, 12, 13, 29, 30, 31, 32, 33, 34, 35, 36, 37, 38, 39, 40, 41, 42, 43, 44, 45, 46, 47, 48, 49, 50, 51, 52, 53, 54, 55, 56, 57] (by decide +kernel) (by decide +kernel)
set_option maxRecDepth 20000 in
theorem gX6_among_J0_charAt_5068e : GoodIn wsX6_among (wsV RX6 70 RJ0 yJ0_charAt_5068e wsJ0_charAt_5068e) := goodIn_app (goodIn_of _ (by decide +kernel)) ggX6_among_J0_charAt_5068e
theorem dX6_among_0 : decode cX6_among 0 = .ok (.iconst 0, 1) := by decide +kernel
theorem dX6_among_1 : decode cX6_among 1 = .ok (.istore_n 2, 1) := by decide +kernel
theorem dX6_among_2 : decode cX6_among 2 = .ok (.iload_n 2, 1) := by decide +kernel
theorem dX6_among_3 : decode cX6_among 3 = .ok (.aload_n 1, 1) := by decide +kernel
theorem dX6_among_4 : decode cX6_among 4 = .ok (.invokevirtual 65, 3) := by decide +kernel
theorem dX6_among_7 : decode cX6_among 7 = .ok (.if_icmp .ge 33, 3) := by decide +kernel
theorem dX6_among_10 : decode cX6_among 10 = .ok (.aload_n 0, 1) := by decide +kernel
theorem dX6_among_11 : decode cX6_among 11 = .ok (.invokevirtual 61, 3) := by decide +kernel
theorem dX6_among_14 : decode cX6_among 14 = .ok (.aload_n 1, 1) := by decide +kernel
theorem dX6_among_15 : decode cX6_among 15 = .ok (.iload_n 2, 1) := by decide +kernel
theorem dX6_among_16 : decode cX6_among 16 = .ok (.invokevirtual 70, 3) := by decide +kernel
theorem dX6_among_19 : decode cX6_among 19 = .ok (.if_icmp .ne 15, 3) := by decide +kernel
theorem dX6_among_22 : decode cX6_among 22 = .ok (.aload_n 0, 1) := by decide +kernel
theorem dX6_among_23 : decode cX6_among 23 = .ok (.dup, 1) := by decide +kernel
theorem dX6_among_24 : decode cX6_among 24 = .ok (.getfield 51, 3) := by decide +kernel
theorem dX6_among_27 : decode cX6_among 27 = .ok (.iconst 1, 1) := by decide +kernel
theorem dX6_among_28 : decode cX6_among 28 = .ok (.iadd, 1) := by decide +kernel
theorem dX6_among_29 : decode cX6_among 29 = .ok (.putfield 51, 3) := by decide +kernel
theorem dX6_among_32 : decode cX6_among 32 = .ok (.iload_n 2, 1) := by decide +kernel
theorem dX6_among_33 : decode cX6_among 33 = .ok (.ireturn, 1) := by decide +kernel
theorem dX6_among_34 : decode cX6_among 34 = .ok (.iinc 2 1, 3) := by decide +kernel
theorem dX6_among_37 : decode cX6_among 37 = .ok (.goto (-35), 3) := by decide +kernel
theorem dX6_among_40 : decode cX6_among 40 = .ok (.iconst (-1), 1) := by decide +kernel
theorem dX6_among_41 : decode cX6_among 41 = .ok (.ireturn, 1) := by decide +kernel
theorem dX6_emits_0 : decode cX6_emits 0 = .ok (.aload_n 0, 1) := by decide +kernel
theorem dX6_emits_1 : decode cX6_emits 1 = .ok (.getfield 57, 3) := by decide +kernel
theorem dX6_emits_4 : decode cX6_emits 4 = .ok (.ifCond .ne 52, 3) := by decide +kernel
theorem dX6_emits_7 : decode cX6_emits 7 = .ok (.aload_n 0, 1) := by decide +kernel
theorem dX6_emits_8 : decode cX6_emits 8 = .ok (.getfield 9, 3) := by decide +kernel
theorem dX6_emits_11 : decode cX6_emits 11 = .ok (.sipush 794, 3) := by decide +kernel
theorem dX6_emits_14 : decode cX6_emits 14 = .ok (.sipush 140, 3) := by decide +kernel
theorem dX6_emits_17 : decode cX6_emits 17 = .ok (.aload_n 0, 1) := by decide +kernel
theorem dX6_emits_18 : decode cX6_emits 18 = .ok (.getfield 78, 3) := by decide +kernel
theorem dX6_emits_21 : decode cX6_emits 21 = .ok (.imul, 1) := by decide +kernel
theorem dX6_emits_22 : decode cX6_emits 22 = .ok (.iadd, 1) := by decide +kernel
theorem dX6_emits_23 : decode cX6_emits 23 = .ok (.aload_n 0, 1) := by decide +kernel
theorem dX6_emits_24 : decode cX6_emits 24 = .ok (.getfield 9, 3) := by decide +kernel
theorem dX6_emits_27 : decode cX6_emits 27 = .ok (.sipush 786, 3) := by decide +kernel
theorem dX6_emits_30 : decode cX6_emits 30 = .ok (.aload_n 0, 1) := by decide +kernel
theorem dX6_emits_31 : decode cX6_emits 31 = .ok (.getfield 78, 3) := by decide +kernel
theorem dX6_emits_34 : decode cX6_emits 34 = .ok (.iadd, 1) := by decide +kernel
theorem dX6_emits_35 : decode cX6_emits 35 = .ok (.iaload, 1) := by decide +kernel
theorem dX6_emits_36 : decode cX6_emits 36 = .ok (.iadd, 1) := by decide +kernel
theorem dX6_emits_37 : decode cX6_emits 37 = .ok (.iload_n 1, 1) := by decide +kernel
theorem dX6_emits_38 : decode cX6_emits 38 = .ok (.iastore, 1) := by decide +kernel
theorem dX6_emits_39 : decode cX6_emits 39 = .ok (.aload_n 0, 1) := by decide +kernel
theorem dX6_emits_40 : decode cX6_emits 40 = .ok (.getfield 9, 3) := by decide +kernel
theorem dX6_emits_43 : decode cX6_emits 43 = .ok (.sipush 786, 3) := by decide +kernel
theorem dX6_emits_46 : decode cX6_emits 46 = .ok (.aload_n 0, 1) := by decide +kernel
theorem dX6_emits_47 : decode cX6_emits 47 = .ok (.getfield 78, 3) := by decide +kernel
theorem dX6_emits_50 : decode cX6_emits 50 = .ok (.iadd, 1) := by decide +kernel
theorem dX6_emits_51 : decode cX6_emits 51 = .ok (.dup2, 1) := by decide +kernel
theorem dX6_emits_52 : decode cX6_emits 52 = .ok (.iaload, 1) := by decide +kernel
theorem dX6_emits_53 : decode cX6_emits 53 = .ok (.iconst 1, 1) := by decide +kernel
theorem dX6_emits_54 : decode cX6_emits 54 = .ok (.iadd, 1) := by decide +kernel
theorem dX6_emits_55 : decode cX6_emits 55 = .ok (.iastore, 1) := by decide +kernel
theorem dX6_emits_56 : decode cX6_emits 56 = .ok (.return_, 1) := by decide +kernel
set_option maxRecDepth 20000 in
theorem ggX6_factor_X6_here : GoodIn wsX6_factor wsX6_here := goodIn_r _ [8, 3, 9, 10, 91, 92, 93, 94, 95, 96, 97, 98, 99, 100, 101, 102, 103, 104, 105, 106, 107, 108] (by decide +kernel) (by decide +kernel)
set_option maxRecDepth 20000 in
theorem gX6_factor_X6_here : GoodIn wsX6_factor (wsV RX6 61 RX6 yX6_here wsX6_here) := goodIn_app (goodIn_of _ (by decide +kernel)) ggX6_factor_X6_here
set_option maxRecDepth 20000 in
theorem ggX6_factor_X6_factor : GoodIn wsX6_factor wsX6_factor := goodIn_r _ [0, 1, 2, 3, 4, 5, 6, 7, 8, 9, 10, 11, 12, 13, 14, 15, 16, 17, 18, 19, 20, 21, 22, 23, 24, 25, 26, 27, 28, 29, 30, 31, 32, 33, 34, 35, 36, 37, 38, 39, 40, 41, 42, 43, 44, 45, 46, 47, 48, 49, 50, 51, 52, 53, 54, 55, 56, 57, 58, 59, 60, 61, 62, 63, 64, 65, 66, 67, 68, 69, 70, 71, 72, 73, 74, 75, 76, 77, 78, 79, 80, 81, 82, 83, 84, 85, 86, 87, 88, 89, 90, 91, 92, 93, 94, 95, 96, 97, 98, 99, 100, 101, 102, 103, 104, 105, 106, 107, 108] (by decide +kernel) (by decide +kernel)
set_option maxRecDepth 20000 in
theorem gX6_factor_X6_factor : GoodIn wsX6_factor (wsV RX6 84 RX6 yX6_factor wsX6_factor) := goodIn_app (goodIn_of _ (by decide +kernel)) ggX6_factor_X6_factor
set_option maxRecDepth 20000 in
theorem ggX6_factor_X6_emits : GoodIn wsX6_factor wsX6_emits := goodIn_r _ [17, 1, 10, 18, 91, 92, 93, 94, 95, 96, 97, 98, 99, 100, 101, 102, 103, 104, 105, 106, 107, 108] (by decide +kernel) (by decide +kernel)
set_option maxRecDepth 20000 in
theorem gX6_factor_X6_emits : GoodIn wsX6_factor (wsV RX6 87 RX6 yX6_emits wsX6_emits) := goodIn_app (goodIn_of _ (by decide +kernel)) ggX6_factor_X6_emits
set_option maxRecDepth 20000 in
theorem ggX6_factor_X6_some : GoodIn wsX6_factor wsX6_some := goodIn_r _ [87, 1, 3, 88, 89, 90, 7, 4, 5, 6, 8, 9, 10, 14, 15, 16, 17, 18, 86, 11, 12, 13, 0, 2, 19, 20, 21, 22, 23, 24, 25, 26, 27, 28, 29, 30, 31, 32, 33, 34, 35, 36, 37, 38, 39, 40, 41, 42, 43, 44, 45, 46, 47, 48, 49, 50, 51, 52, 53, 54, 55, 56, 57, 58, 59, 60, 61, 62, 63, 64, 65, 66, 67, 68, 69, 70, 71, 72, 73, 74, 75, 76, 77, 78, 79, 80, 81, 82, 83, 84, 85, 91, 92, 93, 94, 95, 96, 97, 98, 99, 100, 101, 102, 103, 104, 105, 106, 107, 108] (by decide +kernel) (by decide +kernel)
set_option maxRecDepth 20000 in
theorem gX6_factor_X6_some : GoodIn wsX6_factor (wsV RX6 90 RX6 yX6_some wsX6_some) := goodIn_app (goodIn_of _ (by decide +kernel)) ggX6_factor_X6_some
set_option maxRecDepth 20000 in
theorem ggX6_factor_X6_must : GoodIn wsX6_factor wsX6_must := goodIn_r _ [25, 1, 3, 4, 5, 6, 7, 8, 9, 10, 91, 92, 93, 94, 95, 96, 97, 98, 99, 100, 101, 102, 103, 104, 105, 106, 107, 108] (by decide +kernel) (by decide +kernel)
set_option maxRecDepth 20000 in
theorem gX6_factor_X6_must : GoodIn wsX6_factor (wsV RX6 74 RX6 yX6_must wsX6_must) := goodIn_app (goodIn_of _ (by decide +kernel)) ggX6_factor_X6_must
set_option maxRecDepth 20000 in
theorem ggX6_factor_X6_among : GoodIn wsX6_factor wsX6_among := goodIn_r _ [29, 3, 30, 31, 32, 33, 34, 35, 36, 37, 38, 39, 40, 41, 4, 5, 6, 7, 8, 9, 10, 42, 43, 44, 45, 46, 47, 48, 49, 50, 51, 52, 53, 54, 55, 56, 57, 58, 59, 60, 61, 62, 63, 64, 65, 66, 67, 68, 69, 70, 71, 72, 73, 74, 75, 76, 77, 78, 91, 92, 93, 94, 95, 96, 97, 98, 99, 100, 101, 102, 103, 104, 105, 106, 107, 108] (by decide +kernel) (by decide +kernel)
set_option maxRecDepth 20000 in
theorem gX6_factor_X6_among : GoodIn wsX6_factor (wsV RX6 95 RX6 yX6_among wsX6_among) := goodIn_app (goodIn_of _ (by decide +kernel)) ggX6_factor_X6_among
set_option maxRecDepth 20000 in
theorem ggX6_factor_X6_figures : GoodIn wsX6_factor wsX6_figures := goodIn_r _ [82, 1, 3, 4, 5, 6, 7, 8, 9, 10, 83, 84, 85, 91, 92, 93, 94, 95, 96, 97, 98, 99, 100, 101, 102, 103, 104, 105, 106, 107, 108] (by decide +kernel) (by decide +kernel)
set_option maxRecDepth 20000 in
theorem gX6_factor_X6_figures : GoodIn wsX6_factor (wsV RX6 101 RX6 yX6_figures wsX6_figures) := goodIn_app (goodIn_of _ (by decide +kernel)) ggX6_factor_X6_figures
theorem dX6_factor_0 : decode cX6_factor 0 = .ok (.aload_n 0, 1) := by decide +kernel
theorem dX6_factor_1 : decode cX6_factor 1 = .ok (.getfield 57, 3) := by decide +kernel
theorem dX6_factor_4 : decode cX6_factor 4 = .ok (.ifCond .eq 4, 3) := by decide +kernel
theorem dX6_factor_7 : decode cX6_factor 7 = .ok (.return_, 1) := by decide +kernel
theorem dX6_factor_8 : decode cX6_factor 8 = .ok (.aload_n 0, 1) := by decide +kernel
theorem dX6_factor_9 : decode cX6_factor 9 = .ok (.invokevirtual 61, 3) := by decide +kernel
theorem dX6_factor_12 : decode cX6_factor 12 = .ok (.istore_n 1, 1) := by decide +kernel
theorem dX6_factor_13 : decode cX6_factor 13 = .ok (.iload_n 1, 1) := by decide +kernel
theorem dX6_factor_14 : decode cX6_factor 14 = .ok (.bipush 33, 2) := by decide +kernel
theorem dX6_factor_16 : decode cX6_factor 16 = .ok (.if_icmp .eq 9, 3) := by decide +kernel
theorem dX6_factor_19 : decode cX6_factor 19 = .ok (.iload_n 1, 1) := by decide +kernel
theorem dX6_factor_20 : decode cX6_factor 20 = .ok (.bipush 40, 2) := by decide +kernel
theorem dX6_factor_22 : decode cX6_factor 22 = .ok (.if_icmp .ne 90, 3) := by decide +kernel
theorem dX6_factor_25 : decode cX6_factor 25 = .ok (.aload_n 0, 1) := by decide +kernel
theorem dX6_factor_26 : decode cX6_factor 26 = .ok (.aload_n 0, 1) := by decide +kernel
theorem dX6_factor_27 : decode cX6_factor 27 = .ok (.getfield 81, 3) := by decide +kernel
theorem dX6_factor_30 : decode cX6_factor 30 = .ok (.iconst 5, 1) := by decide +kernel
theorem dX6_factor_31 : decode cX6_factor 31 = .ok (.if_icmp .ne 7, 3) := by decide +kernel
theorem dX6_factor_34 : decode cX6_factor 34 = .ok (.iconst 1, 1) := by decide +kernel
theorem dX6_factor_35 : decode cX6_factor 35 = .ok (.goto 4, 3) := by decide +kernel
theorem dX6_factor_38 : decode cX6_factor 38 = .ok (.iconst 0, 1) := by decide +kernel
theorem dX6_factor_39 : decode cX6_factor 39 = .ok (.putfield 57, 3) := by decide +kernel
theorem dX6_factor_42 : decode cX6_factor 42 = .ok (.aload_n 0, 1) := by decide +kernel
theorem dX6_factor_43 : decode cX6_factor 43 = .ok (.dup, 1) := by decide +kernel
theorem dX6_factor_44 : decode cX6_factor 44 = .ok (.getfield 81, 3) := by decide +kernel
theorem dX6_factor_47 : decode cX6_factor 47 = .ok (.iconst 1, 1) := by decide +kernel
theorem dX6_factor_48 : decode cX6_factor 48 = .ok (.iadd, 1) := by decide +kernel
theorem dX6_factor_49 : decode cX6_factor 49 = .ok (.putfield 81, 3) := by decide +kernel
theorem dX6_factor_52 : decode cX6_factor 52 = .ok (.aload_n 0, 1) := by decide +kernel
theorem dX6_factor_53 : decode cX6_factor 53 = .ok (.dup, 1) := by decide +kernel
theorem dX6_factor_54 : decode cX6_factor 54 = .ok (.getfield 51, 3) := by decide +kernel
theorem dX6_factor_57 : decode cX6_factor 57 = .ok (.aload_n 0, 1) := by decide +kernel
theorem dX6_factor_58 : decode cX6_factor 58 = .ok (.getfield 57, 3) := by decide +kernel
theorem dX6_factor_61 : decode cX6_factor 61 = .ok (.ifCond .eq 7, 3) := by decide +kernel
theorem dX6_factor_64 : decode cX6_factor 64 = .ok (.iconst 0, 1) := by decide +kernel
theorem dX6_factor_65 : decode cX6_factor 65 = .ok (.goto 4, 3) := by decide +kernel
theorem dX6_factor_68 : decode cX6_factor 68 = .ok (.iconst 1, 1) := by decide +kernel
theorem dX6_factor_69 : decode cX6_factor 69 = .ok (.iadd, 1) := by decide +kernel
theorem dX6_factor_70 : decode cX6_factor 70 = .ok (.putfield 51, 3) := by decide +kernel
theorem dX6_factor_73 : decode cX6_factor 73 = .ok (.iload_n 1, 1) := by decide +kernel
theorem dX6_factor_74 : decode cX6_factor 74 = .ok (.bipush 33, 2) := by decide +kernel
theorem dX6_factor_76 : decode cX6_factor 76 = .ok (.if_icmp .ne 15, 3) := by decide +kernel
theorem dX6_factor_79 : decode cX6_factor 79 = .ok (.aload_n 0, 1) := by decide +kernel
theorem dX6_factor_80 : decode cX6_factor 80 = .ok (.invokevirtual 84, 3) := by decide +kernel
theorem dX6_factor_83 : decode cX6_factor 83 = .ok (.aload_n 0, 1) := by decide +kernel
theorem dX6_factor_84 : decode cX6_factor 84 = .ok (.iconst (-1), 1) := by decide +kernel
theorem dX6_factor_85 : decode cX6_factor 85 = .ok (.invokevirtual 87, 3) := by decide +kernel
theorem dX6_factor_88 : decode cX6_factor 88 = .ok (.goto 13, 3) := by decide +kernel
theorem dX6_factor_91 : decode cX6_factor 91 = .ok (.aload_n 0, 1) := by decide +kernel
theorem dX6_factor_92 : decode cX6_factor 92 = .ok (.invokevirtual 90, 3) := by decide +kernel
theorem dX6_factor_95 : decode cX6_factor 95 = .ok (.aload_n 0, 1) := by decide +kernel
theorem dX6_factor_96 : decode cX6_factor 96 = .ok (.bipush 41, 2) := by decide +kernel
theorem dX6_factor_98 : decode cX6_factor 98 = .ok (.invokevirtual 74, 3) := by decide +kernel
theorem dX6_factor_101 : decode cX6_factor 101 = .ok (.aload_n 0, 1) := by decide +kernel
theorem dX6_factor_102 : decode cX6_factor 102 = .ok (.dup, 1) := by decide +kernel
theorem dX6_factor_103 : decode cX6_factor 103 = .ok (.getfield 81, 3) := by decide +kernel
theorem dX6_factor_106 : decode cX6_factor 106 = .ok (.iconst 1, 1) := by decide +kernel
theorem dX6_factor_107 : decode cX6_factor 107 = .ok (.isub, 1) := by decide +kernel
theorem dX6_factor_108 : decode cX6_factor 108 = .ok (.putfield 81, 3) := by decide +kernel
theorem dX6_factor_111 : decode cX6_factor 111 = .ok (.return_, 1) := by decide +kernel
theorem dX6_factor_112 : decode cX6_factor 112 = .ok (.aload_n 0, 1) := by decide +kernel
theorem dX6_factor_113 : decode cX6_factor 113 = .ok (.ldc 93, 2) := by decide +kernel
theorem dX6_factor_115 : decode cX6_factor 115 = .ok (.invokevirtual 95, 3) := by decide +kernel
theorem dX6_factor_118 : decode cX6_factor 118 = .ok (.istore_n 2, 1) := by decide +kernel
theorem dX6_factor_119 : decode cX6_factor 119 = .ok (.aload_n 0, 1) := by decide +kernel
theorem dX6_factor_120 : decode cX6_factor 120 = .ok (.iload_n 2, 1) := by decide +kernel
theorem dX6_factor_121 : decode cX6_factor 121 = .ok (.iconst (-1), 1) := by decide +kernel
theorem dX6_factor_122 : decode cX6_factor 122 = .ok (.if_icmp .ne 7, 3) := by decide +kernel
theorem dX6_factor_125 : decode cX6_factor 125 = .ok (.iconst 1, 1) := by decide +kernel
theorem dX6_factor_126 : decode cX6_factor 126 = .ok (.goto 4, 3) := by decide +kernel
theorem dX6_factor_129 : decode cX6_factor 129 = .ok (.iconst 0, 1) := by decide +kernel
theorem dX6_factor_130 : decode cX6_factor 130 = .ok (.putfield 57, 3) := by decide +kernel
theorem dX6_factor_133 : decode cX6_factor 133 = .ok (.aload_n 0, 1) := by decide +kernel
theorem dX6_factor_134 : decode cX6_factor 134 = .ok (.getfield 57, 3) := by decide +kernel
theorem dX6_factor_137 : decode cX6_factor 137 = .ok (.ifCond .eq 7, 3) := by decide +kernel
theorem dX6_factor_140 : decode cX6_factor 140 = .ok (.iconst 0, 1) := by decide +kernel
theorem dX6_factor_141 : decode cX6_factor 141 = .ok (.goto 9, 3) := by decide +kernel
theorem dX6_factor_144 : decode cX6_factor 144 = .ok (.aload_n 0, 1) := by decide +kernel
theorem dX6_factor_145 : decode cX6_factor 145 = .ok (.ldc 99, 2) := by decide +kernel
theorem dX6_factor_147 : decode cX6_factor 147 = .ok (.invokevirtual 95, 3) := by decide +kernel
theorem dX6_factor_150 : decode cX6_factor 150 = .ok (.istore_n 3, 1) := by decide +kernel
theorem dX6_factor_151 : decode cX6_factor 151 = .ok (.aload_n 0, 1) := by decide +kernel
theorem dX6_factor_152 : decode cX6_factor 152 = .ok (.aload_n 0, 1) := by decide +kernel
theorem dX6_factor_153 : decode cX6_factor 153 = .ok (.getfield 57, 3) := by decide +kernel
theorem dX6_factor_156 : decode cX6_factor 156 = .ok (.ifCond .ne 8, 3) := by decide +kernel
theorem dX6_factor_159 : decode cX6_factor 159 = .ok (.iload_n 3, 1) := by decide +kernel
theorem dX6_factor_160 : decode cX6_factor 160 = .ok (.iconst (-1), 1) := by decide +kernel
theorem dX6_factor_161 : decode cX6_factor 161 = .ok (.if_icmp .ne 7, 3) := by decide +kernel
theorem dX6_factor_164 : decode cX6_factor 164 = .ok (.iconst 1, 1) := by decide +kernel
theorem dX6_factor_165 : decode cX6_factor 165 = .ok (.goto 4, 3) := by decide +kernel
theorem dX6_factor_168 : decode cX6_factor 168 = .ok (.iconst 0, 1) := by decide +kernel
theorem dX6_factor_169 : decode cX6_factor 169 = .ok (.putfield 57, 3) := by decide +kernel
theorem dX6_factor_172 : decode cX6_factor 172 = .ok (.aload_n 0, 1) := by decide +kernel
theorem dX6_factor_173 : decode cX6_factor 173 = .ok (.invokevirtual 101, 3) := by decide +kernel
theorem dX6_factor_176 : decode cX6_factor 176 = .ok (.istore 4, 2) := by decide +kernel
theorem dX6_factor_178 : decode cX6_factor 178 = .ok (.aload_n 0, 1) := by decide +kernel
theorem dX6_factor_179 : decode cX6_factor 179 = .ok (.iload_n 2, 1) := by decide +kernel
theorem dX6_factor_180 : decode cX6_factor 180 = .ok (.bipush 8, 2) := by decide +kernel
theorem dX6_factor_182 : decode cX6_factor 182 = .ok (.iload_n 3, 1) := by decide +kernel
theorem dX6_factor_183 : decode cX6_factor 183 = .ok (.imul, 1) := by decide +kernel
theorem dX6_factor_184 : decode cX6_factor 184 = .ok (.iadd, 1) := by decide +kernel
theorem dX6_factor_185 : decode cX6_factor 185 = .ok (.bipush 32, 2) := by decide +kernel
theorem dX6_factor_187 : decode cX6_factor 187 = .ok (.iload 4, 2) := by decide +kernel
theorem dX6_factor_189 : decode cX6_factor 189 = .ok (.imul, 1) := by decide +kernel
theorem dX6_factor_190 : decode cX6_factor 190 = .ok (.iadd, 1) := by decide +kernel
theorem dX6_factor_191 : decode cX6_factor 191 = .ok (.invokevirtual 87, 3) := by decide +kernel
theorem dX6_factor_194 : decode cX6_factor 194 = .ok (.return_, 1) := by decide +kernel
set_option maxRecDepth 20000 in
theorem ggX6_every_X6_factor : GoodIn wsX6_every wsX6_factor := goodIn_r _ [18, 1, 19, 2, 7, 8, 9, 6, 10, 11, 12, 3, 4, 5, 13, 14, 15, 16, 17, 20, 21, 22, 23, 24, 25, 26, 27, 28, 29, 30, 31, 32, 33, 34, 35, 36, 37, 38, 39, 40, 41, 42, 43, 44, 45, 46, 47, 48, 49, 50, 51, 52, 53, 54, 55, 56, 57, 58, 59, 60, 61, 62, 63, 64, 65, 66, 67, 68, 69, 70, 71, 72, 73, 74, 75, 76, 77, 78, 79, 80, 81, 82, 83, 84, 85, 86, 0, 87, 88, 89, 90, 91, 92, 93, 94, 95, 96, 97, 98, 99, 100, 101, 102, 103, 104, 105, 106, 107, 108] (by decide +kernel) (by decide +kernel)
set_option maxRecDepth 20000 in
theorem gX6_every_X6_factor : GoodIn wsX6_every (wsV RX6 84 RX6 yX6_factor wsX6_factor) := goodIn_app (goodIn_of _ (by decide +kernel)) ggX6_every_X6_factor
set_option maxRecDepth 20000 in
theorem ggX6_every_X6_here : GoodIn wsX6_every wsX6_here := goodIn_r _ [10, 2, 11, 12, 91, 92, 93, 94, 95, 96, 97, 98, 99, 100, 101, 102, 103, 104, 105, 106, 107, 108] (by decide +kernel) (by decide +kernel)
set_option maxRecDepth 20000 in
theorem gX6_every_X6_here : GoodIn wsX6_every (wsV RX6 61 RX6 yX6_here wsX6_here) := goodIn_app (goodIn_of _ (by decide +kernel)) ggX6_every_X6_here
set_option maxRecDepth 20000 in
theorem ggX6_every_X6_emits : GoodIn wsX6_every wsX6_emits := goodIn_r _ [16, 1, 12, 17, 91, 92, 93, 94, 95, 96, 97, 98, 99, 100, 101, 102, 103, 104, 105, 106, 107, 108] (by decide +kernel) (by decide +kernel)
set_option maxRecDepth 20000 in
theorem gX6_every_X6_emits : GoodIn wsX6_every (wsV RX6 87 RX6 yX6_emits wsX6_emits) := goodIn_app (goodIn_of _ (by decide +kernel)) ggX6_every_X6_emits
theorem dX6_every_0 : decode cX6_every 0 = .ok (.aload_n 0, 1) := by decide +kernel
theorem dX6_every_1 : decode cX6_every 1 = .ok (.invokevirtual 84, 3) := by decide +kernel
theorem dX6_every_4 : decode cX6_every 4 = .ok (.aload_n 0, 1) := by decide +kernel
theorem dX6_every_5 : decode cX6_every 5 = .ok (.getfield 57, 3) := by decide +kernel
theorem dX6_every_8 : decode cX6_every 8 = .ok (.ifCond .ne 35, 3) := by decide +kernel
theorem dX6_every_11 : decode cX6_every 11 = .ok (.aload_n 0, 1) := by decide +kernel
theorem dX6_every_12 : decode cX6_every 12 = .ok (.invokevirtual 61, 3) := by decide +kernel
theorem dX6_every_15 : decode cX6_every 15 = .ok (.bipush 38, 2) := by decide +kernel
theorem dX6_every_17 : decode cX6_every 17 = .ok (.if_icmp .ne 26, 3) := by decide +kernel
theorem dX6_every_20 : decode cX6_every 20 = .ok (.aload_n 0, 1) := by decide +kernel
theorem dX6_every_21 : decode cX6_every 21 = .ok (.dup, 1) := by decide +kernel
theorem dX6_every_22 : decode cX6_every 22 = .ok (.getfield 51, 3) := by decide +kernel
theorem dX6_every_25 : decode cX6_every 25 = .ok (.iconst 1, 1) := by decide +kernel
theorem dX6_every_26 : decode cX6_every 26 = .ok (.iadd, 1) := by decide +kernel
theorem dX6_every_27 : decode cX6_every 27 = .ok (.putfield 51, 3) := by decide +kernel
theorem dX6_every_30 : decode cX6_every 30 = .ok (.aload_n 0, 1) := by decide +kernel
theorem dX6_every_31 : decode cX6_every 31 = .ok (.invokevirtual 84, 3) := by decide +kernel
theorem dX6_every_34 : decode cX6_every 34 = .ok (.aload_n 0, 1) := by decide +kernel
theorem dX6_every_35 : decode cX6_every 35 = .ok (.bipush (-2), 2) := by decide +kernel
theorem dX6_every_37 : decode cX6_every 37 = .ok (.invokevirtual 87, 3) := by decide +kernel
theorem dX6_every_40 : decode cX6_every 40 = .ok (.goto (-36), 3) := by decide +kernel
theorem dX6_every_43 : decode cX6_every 43 = .ok (.return_, 1) := by decide +kernel
set_option maxRecDepth 20000 in
theorem ggX6_some_X6_every : GoodIn wsX6_some wsX6_every := goodIn_r _ [18, 1, 2, 19, 20, 21, 6, 7, 8, 9, 10, 11, 12, 13, 14, 15, 16, 17, 22, 23, 24, 25, 26, 27, 28, 29, 30, 31, 32, 33, 34, 35, 36, 37, 38, 39, 40, 41, 42, 43, 44, 45, 46, 47, 48, 49, 50, 51, 52, 53, 54, 55, 56, 57, 58, 59, 60, 61, 62, 63, 64, 65, 66, 67, 68, 69, 70, 71, 72, 73, 74, 75, 76, 77, 78, 79, 80, 81, 82, 83, 84, 85, 86, 87, 88, 89, 90, 0, 3, 4, 5, 91, 92, 93, 94, 95, 96, 97, 98, 99, 100, 101, 102, 103, 104, 105, 106, 107, 108] (by decide +kernel) (by decide +kernel)
set_option maxRecDepth 20000 in
theorem gX6_some_X6_every : GoodIn wsX6_some (wsV RX6 104 RX6 yX6_every wsX6_every) := goodIn_app (goodIn_of _ (by decide +kernel)) ggX6_some_X6_every
set_option maxRecDepth 20000 in
theorem ggX6_some_X6_here : GoodIn wsX6_some wsX6_here := goodIn_r _ [10, 2, 11, 12, 91, 92, 93, 94, 95, 96, 97, 98, 99, 100, 101, 102, 103, 104, 105, 106, 107, 108] (by decide +kernel) (by decide +kernel)
set_option maxRecDepth 20000 in
theorem gX6_some_X6_here : GoodIn wsX6_some (wsV RX6 61 RX6 yX6_here wsX6_here) := goodIn_app (goodIn_of _ (by decide +kernel)) ggX6_some_X6_here
set_option maxRecDepth 20000 in
theorem ggX6_some_X6_emits : GoodIn wsX6_some wsX6_emits := goodIn_r _ [16, 1, 12, 17, 91, 92, 93, 94, 95, 96, 97, 98, 99, 100, 101, 102, 103, 104, 105, 106, 107, 108] (by decide +kernel) (by decide +kernel)
set_option maxRecDepth 20000 in
theorem gX6_some_X6_emits : GoodIn wsX6_some (wsV RX6 87 RX6 yX6_emits wsX6_emits) := goodIn_app (goodIn_of _ (by decide +kernel)) ggX6_some_X6_emits
theorem dX6_some_0 : decode cX6_some 0 = .ok (.aload_n 0, 1) := by decide +kernel
theorem dX6_some_1 : decode cX6_some 1 = .ok (.invokevirtual 104, 3) := by decide +kernel
theorem dX6_some_4 : decode cX6_some 4 = .ok (.aload_n 0, 1) := by decide +kernel
theorem dX6_some_5 : decode cX6_some 5 = .ok (.getfield 57, 3) := by decide +kernel
theorem dX6_some_8 : decode cX6_some 8 = .ok (.ifCond .ne 35, 3) := by decide +kernel
theorem dX6_some_11 : decode cX6_some 11 = .ok (.aload_n 0, 1) := by decide +kernel
theorem dX6_some_12 : decode cX6_some 12 = .ok (.invokevirtual 61, 3) := by decide +kernel
theorem dX6_some_15 : decode cX6_some 15 = .ok (.bipush 124, 2) := by decide +kernel
theorem dX6_some_17 : decode cX6_some 17 = .ok (.if_icmp .ne 26, 3) := by decide +kernel
theorem dX6_some_20 : decode cX6_some 20 = .ok (.aload_n 0, 1) := by decide +kernel
theorem dX6_some_21 : decode cX6_some 21 = .ok (.dup, 1) := by decide +kernel
theorem dX6_some_22 : decode cX6_some 22 = .ok (.getfield 51, 3) := by decide +kernel
theorem dX6_some_25 : decode cX6_some 25 = .ok (.iconst 1, 1) := by decide +kernel
theorem dX6_some_26 : decode cX6_some 26 = .ok (.iadd, 1) := by decide +kernel
theorem dX6_some_27 : decode cX6_some 27 = .ok (.putfield 51, 3) := by decide +kernel
theorem dX6_some_30 : decode cX6_some 30 = .ok (.aload_n 0, 1) := by decide +kernel
theorem dX6_some_31 : decode cX6_some 31 = .ok (.invokevirtual 104, 3) := by decide +kernel
theorem dX6_some_34 : decode cX6_some 34 = .ok (.aload_n 0, 1) := by decide +kernel
theorem dX6_some_35 : decode cX6_some 35 = .ok (.bipush (-3), 2) := by decide +kernel
theorem dX6_some_37 : decode cX6_some 37 = .ok (.invokevirtual 87, 3) := by decide +kernel
theorem dX6_some_40 : decode cX6_some 40 = .ok (.goto (-36), 3) := by decide +kernel
theorem dX6_some_43 : decode cX6_some 43 = .ok (.return_, 1) := by decide +kernel
set_option maxRecDepth 20000 in
theorem ggX6_froms_X6_spells : GoodIn wsX6_froms wsX6_spells := goodIn_r _ [8, 9, 10, 11, 12, 13, 14, 15, 16, 17, 18, 19, 20, 21, 22, 23, 24, 25, 26, 27, 28, 29, 30, 31, 32, 33, 34, 35, 36, 37, 38, 39, 40, 41, 42, 43, 44, 45, 46, 47, 48, 49, 50, 51, 52, 53, 54, 55, 56, 57, 58, 59, 60, 7, 61, 1, 62, 63, 64, 65, 66, 67, 2, 79, 80, 81, 82, 83, 84, 85, 86, 87, 88, 89, 90, 91, 92, 93, 94, 95, 96] (by decide +kernel) (by decide +kernel)
set_option maxRecDepth 20000 in
theorem gX6_froms_X6_spells : GoodIn wsX6_froms (wsV RX6 109 RX6 yX6_spells wsX6_spells) := goodIn_app (goodIn_of _ (by decide +kernel)) ggX6_froms_X6_spells
set_option maxRecDepth 20000 in
theorem ggX6_froms_X6_figure : GoodIn wsX6_froms wsX6_figure := goodIn_r _ [71, 1, 62, 63, 64, 65, 7, 66, 67, 2, 72, 73, 74, 79, 80, 81, 82, 83, 84, 85, 86, 87, 88, 89, 90, 91, 92, 93, 94, 95, 96] (by decide +kernel) (by decide +kernel)
set_option maxRecDepth 20000 in
theorem gX6_froms_X6_figure : GoodIn wsX6_froms (wsV RX6 113 RX6 yX6_figure wsX6_figure) := goodIn_app (goodIn_of _ (by decide +kernel)) ggX6_froms_X6_figure
set_option maxRecDepth 20000 in
theorem ggX6_froms_X6_must : GoodIn wsX6_froms wsX6_must := goodIn_r _ [61, 1, 62, 63, 64, 65, 7, 66, 67, 2, 79, 80, 81, 82, 83, 84, 85, 86, 87, 88, 89, 90, 91, 92, 93, 94, 95, 96] (by decide +kernel) (by decide +kernel)
set_option maxRecDepth 20000 in
theorem gX6_froms_X6_must : GoodIn wsX6_froms (wsV RX6 74 RX6 yX6_must wsX6_must) := goodIn_app (goodIn_of _ (by decide +kernel)) ggX6_froms_X6_must
set_option maxRecDepth 20000 in
theorem ggX6_froms_X6_figures : GoodIn wsX6_froms wsX6_figures := goodIn_r _ [78, 1, 62, 63, 64, 65, 7, 66, 67, 2, 72, 73, 74, 79, 80, 81, 82, 83, 84, 85, 86, 87, 88, 89, 90, 91, 92, 93, 94, 95, 96] (by decide +kernel) (by decide +kernel)
set_option maxRecDepth 20000 in
theorem gX6_froms_X6_figures : GoodIn wsX6_froms (wsV RX6 101 RX6 yX6_figures wsX6_figures) := goodIn_app (goodIn_of _ (by decide +kernel)) ggX6_froms_X6_figures
theorem dX6_froms_0 : decode cX6_froms 0 = .ok (.aload_n 0, 1) := by decide +kernel
theorem dX6_froms_1 : decode cX6_froms 1 = .ok (.ldc 107, 2) := by decide +kernel
theorem dX6_froms_3 : decode cX6_froms 3 = .ok (.invokevirtual 109, 3) := by decide +kernel
theorem dX6_froms_6 : decode cX6_froms 6 = .ok (.aload_n 0, 1) := by decide +kernel
theorem dX6_froms_7 : decode cX6_froms 7 = .ok (.iconst 3, 1) := by decide +kernel
theorem dX6_froms_8 : decode cX6_froms 8 = .ok (.invokevirtual 113, 3) := by decide +kernel
theorem dX6_froms_11 : decode cX6_froms 11 = .ok (.istore_n 1, 1) := by decide +kernel
theorem dX6_froms_12 : decode cX6_froms 12 = .ok (.aload_n 0, 1) := by decide +kernel
theorem dX6_froms_13 : decode cX6_froms 13 = .ok (.bipush 32, 2) := by decide +kernel
theorem dX6_froms_15 : decode cX6_froms 15 = .ok (.invokevirtual 74, 3) := by decide +kernel
theorem dX6_froms_18 : decode cX6_froms 18 = .ok (.aload_n 0, 1) := by decide +kernel
theorem dX6_froms_19 : decode cX6_froms 19 = .ok (.invokevirtual 101, 3) := by decide +kernel
theorem dX6_froms_22 : decode cX6_froms 22 = .ok (.istore_n 2, 1) := by decide +kernel
theorem dX6_froms_23 : decode cX6_froms 23 = .ok (.aload_n 0, 1) := by decide +kernel
theorem dX6_froms_24 : decode cX6_froms 24 = .ok (.getfield 57, 3) := by decide +kernel
theorem dX6_froms_27 : decode cX6_froms 27 = .ok (.ifCond .ne 21, 3) := by decide +kernel
theorem dX6_froms_30 : decode cX6_froms 30 = .ok (.aload_n 0, 1) := by decide +kernel
theorem dX6_froms_31 : decode cX6_froms 31 = .ok (.getfield 9, 3) := by decide +kernel
theorem dX6_froms_34 : decode cX6_froms 34 = .ok (.sipush 506, 3) := by decide +kernel
theorem dX6_froms_37 : decode cX6_froms 37 = .ok (.iconst 4, 1) := by decide +kernel
theorem dX6_froms_38 : decode cX6_froms 38 = .ok (.aload_n 0, 1) := by decide +kernel
theorem dX6_froms_39 : decode cX6_froms 39 = .ok (.getfield 78, 3) := by decide +kernel
theorem dX6_froms_42 : decode cX6_froms 42 = .ok (.imul, 1) := by decide +kernel
theorem dX6_froms_43 : decode cX6_froms 43 = .ok (.iadd, 1) := by decide +kernel
theorem dX6_froms_44 : decode cX6_froms 44 = .ok (.iload_n 1, 1) := by decide +kernel
theorem dX6_froms_45 : decode cX6_froms 45 = .ok (.iadd, 1) := by decide +kernel
theorem dX6_froms_46 : decode cX6_froms 46 = .ok (.iload_n 2, 1) := by decide +kernel
theorem dX6_froms_47 : decode cX6_froms 47 = .ok (.iastore, 1) := by decide +kernel
theorem dX6_froms_48 : decode cX6_froms 48 = .ok (.return_, 1) := by decide +kernel
set_option maxRecDepth 20000 in
theorem ggX6_overs_X6_spells : GoodIn wsX6_overs wsX6_spells := goodIn_r _ [8, 9, 10, 11, 12, 13, 14, 15, 16, 17, 18, 19, 20, 21, 22, 23, 24, 25, 26, 27, 28, 29, 30, 31, 32, 33, 34, 35, 36, 37, 38, 39, 40, 41, 42, 43, 44, 45, 46, 47, 48, 49, 50, 51, 52, 53, 54, 55, 56, 57, 58, 59, 60, 7, 61, 1, 62, 63, 64, 65, 66, 67, 3, 79, 80, 81, 82, 83, 84, 85, 86, 87, 88, 89, 90, 91, 92, 93, 94, 95, 96] (by decide +kernel) (by decide +kernel)
set_option maxRecDepth 20000 in
theorem gX6_overs_X6_spells : GoodIn wsX6_overs (wsV RX6 109 RX6 yX6_spells wsX6_spells) := goodIn_app (goodIn_of _ (by decide +kernel)) ggX6_overs_X6_spells
set_option maxRecDepth 20000 in
theorem ggX6_overs_X6_figure : GoodIn wsX6_overs wsX6_figure := goodIn_r _ [71, 1, 62, 63, 64, 65, 7, 66, 67, 3, 72, 73, 74, 79, 80, 81, 82, 83, 84, 85, 86, 87, 88, 89, 90, 91, 92, 93, 94, 95, 96] (by decide +kernel) (by decide +kernel)
set_option maxRecDepth 20000 in
theorem gX6_overs_X6_figure : GoodIn wsX6_overs (wsV RX6 113 RX6 yX6_figure wsX6_figure) := goodIn_app (goodIn_of _ (by decide +kernel)) ggX6_overs_X6_figure
set_option maxRecDepth 20000 in
theorem ggX6_overs_X6_must : GoodIn wsX6_overs wsX6_must := goodIn_r _ [61, 1, 62, 63, 64, 65, 7, 66, 67, 3, 79, 80, 81, 82, 83, 84, 85, 86, 87, 88, 89, 90, 91, 92, 93, 94, 95, 96] (by decide +kernel) (by decide +kernel)
set_option maxRecDepth 20000 in
theorem gX6_overs_X6_must : GoodIn wsX6_overs (wsV RX6 74 RX6 yX6_must wsX6_must) := goodIn_app (goodIn_of _ (by decide +kernel)) ggX6_overs_X6_must
set_option maxRecDepth 20000 in
theorem ggX6_overs_X6_figures : GoodIn wsX6_overs wsX6_figures := goodIn_r _ [78, 1, 62, 63, 64, 65, 7, 66, 67, 3, 72, 73, 74, 79, 80, 81, 82, 83, 84, 85, 86, 87, 88, 89, 90, 91, 92, 93, 94, 95, 96] (by decide +kernel) (by decide +kernel)
set_option maxRecDepth 20000 in
theorem gX6_overs_X6_figures : GoodIn wsX6_overs (wsV RX6 101 RX6 yX6_figures wsX6_figures) := goodIn_app (goodIn_of _ (by decide +kernel)) ggX6_overs_X6_figures
theorem dX6_overs_0 : decode cX6_overs 0 = .ok (.aload_n 0, 1) := by decide +kernel
theorem dX6_overs_1 : decode cX6_overs 1 = .ok (.ldc 117, 2) := by decide +kernel
theorem dX6_overs_3 : decode cX6_overs 3 = .ok (.invokevirtual 109, 3) := by decide +kernel
theorem dX6_overs_6 : decode cX6_overs 6 = .ok (.aload_n 0, 1) := by decide +kernel
theorem dX6_overs_7 : decode cX6_overs 7 = .ok (.iconst 3, 1) := by decide +kernel
theorem dX6_overs_8 : decode cX6_overs 8 = .ok (.invokevirtual 113, 3) := by decide +kernel
theorem dX6_overs_11 : decode cX6_overs 11 = .ok (.istore_n 1, 1) := by decide +kernel
theorem dX6_overs_12 : decode cX6_overs 12 = .ok (.aload_n 0, 1) := by decide +kernel
theorem dX6_overs_13 : decode cX6_overs 13 = .ok (.bipush 32, 2) := by decide +kernel
theorem dX6_overs_15 : decode cX6_overs 15 = .ok (.invokevirtual 74, 3) := by decide +kernel
theorem dX6_overs_18 : decode cX6_overs 18 = .ok (.aload_n 0, 1) := by decide +kernel
theorem dX6_overs_19 : decode cX6_overs 19 = .ok (.iconst 3, 1) := by decide +kernel
theorem dX6_overs_20 : decode cX6_overs 20 = .ok (.invokevirtual 113, 3) := by decide +kernel
theorem dX6_overs_23 : decode cX6_overs 23 = .ok (.istore_n 2, 1) := by decide +kernel
theorem dX6_overs_24 : decode cX6_overs 24 = .ok (.aload_n 0, 1) := by decide +kernel
theorem dX6_overs_25 : decode cX6_overs 25 = .ok (.bipush 32, 2) := by decide +kernel
theorem dX6_overs_27 : decode cX6_overs 27 = .ok (.invokevirtual 74, 3) := by decide +kernel
theorem dX6_overs_30 : decode cX6_overs 30 = .ok (.aload_n 0, 1) := by decide +kernel
theorem dX6_overs_31 : decode cX6_overs 31 = .ok (.invokevirtual 101, 3) := by decide +kernel
theorem dX6_overs_34 : decode cX6_overs 34 = .ok (.istore_n 3, 1) := by decide +kernel
theorem dX6_overs_35 : decode cX6_overs 35 = .ok (.aload_n 0, 1) := by decide +kernel
theorem dX6_overs_36 : decode cX6_overs 36 = .ok (.getfield 57, 3) := by decide +kernel
theorem dX6_overs_39 : decode cX6_overs 39 = .ok (.ifCond .ne 77, 3) := by decide +kernel
theorem dX6_overs_42 : decode cX6_overs 42 = .ok (.sipush 546, 3) := by decide +kernel
theorem dX6_overs_45 : decode cX6_overs 45 = .ok (.iconst 3, 1) := by decide +kernel
theorem dX6_overs_46 : decode cX6_overs 46 = .ok (.bipush 10, 2) := by decide +kernel
theorem dX6_overs_48 : decode cX6_overs 48 = .ok (.aload_n 0, 1) := by decide +kernel
theorem dX6_overs_49 : decode cX6_overs 49 = .ok (.getfield 78, 3) := by decide +kernel
theorem dX6_overs_52 : decode cX6_overs 52 = .ok (.imul, 1) := by decide +kernel
theorem dX6_overs_53 : decode cX6_overs 53 = .ok (.aload_n 0, 1) := by decide +kernel
theorem dX6_overs_54 : decode cX6_overs 54 = .ok (.getfield 9, 3) := by decide +kernel
theorem dX6_overs_57 : decode cX6_overs 57 = .ok (.sipush 538, 3) := by decide +kernel
theorem dX6_overs_60 : decode cX6_overs 60 = .ok (.aload_n 0, 1) := by decide +kernel
theorem dX6_overs_61 : decode cX6_overs 61 = .ok (.getfield 78, 3) := by decide +kernel
theorem dX6_overs_64 : decode cX6_overs 64 = .ok (.iadd, 1) := by decide +kernel
theorem dX6_overs_65 : decode cX6_overs 65 = .ok (.iaload, 1) := by decide +kernel
theorem dX6_overs_66 : decode cX6_overs 66 = .ok (.iadd, 1) := by decide +kernel
theorem dX6_overs_67 : decode cX6_overs 67 = .ok (.imul, 1) := by decide +kernel
theorem dX6_overs_68 : decode cX6_overs 68 = .ok (.iadd, 1) := by decide +kernel
theorem dX6_overs_69 : decode cX6_overs 69 = .ok (.istore 4, 2) := by decide +kernel
theorem dX6_overs_71 : decode cX6_overs 71 = .ok (.aload_n 0, 1) := by decide +kernel
theorem dX6_overs_72 : decode cX6_overs 72 = .ok (.getfield 9, 3) := by decide +kernel
theorem dX6_overs_75 : decode cX6_overs 75 = .ok (.iload 4, 2) := by decide +kernel
theorem dX6_overs_77 : decode cX6_overs 77 = .ok (.iload_n 1, 1) := by decide +kernel
theorem dX6_overs_78 : decode cX6_overs 78 = .ok (.iastore, 1) := by decide +kernel
theorem dX6_overs_79 : decode cX6_overs 79 = .ok (.aload_n 0, 1) := by decide +kernel
theorem dX6_overs_80 : decode cX6_overs 80 = .ok (.getfield 9, 3) := by decide +kernel
theorem dX6_overs_83 : decode cX6_overs 83 = .ok (.iload 4, 2) := by decide +kernel
theorem dX6_overs_85 : decode cX6_overs 85 = .ok (.iconst 1, 1) := by decide +kernel
theorem dX6_overs_86 : decode cX6_overs 86 = .ok (.iadd, 1) := by decide +kernel
theorem dX6_overs_87 : decode cX6_overs 87 = .ok (.iload_n 2, 1) := by decide +kernel
theorem dX6_overs_88 : decode cX6_overs 88 = .ok (.iastore, 1) := by decide +kernel
theorem dX6_overs_89 : decode cX6_overs 89 = .ok (.aload_n 0, 1) := by decide +kernel
theorem dX6_overs_90 : decode cX6_overs 90 = .ok (.getfield 9, 3) := by decide +kernel
theorem dX6_overs_93 : decode cX6_overs 93 = .ok (.iload 4, 2) := by decide +kernel
theorem dX6_overs_95 : decode cX6_overs 95 = .ok (.iconst 2, 1) := by decide +kernel
theorem dX6_overs_96 : decode cX6_overs 96 = .ok (.iadd, 1) := by decide +kernel
theorem dX6_overs_97 : decode cX6_overs 97 = .ok (.iload_n 3, 1) := by decide +kernel
theorem dX6_overs_98 : decode cX6_overs 98 = .ok (.iastore, 1) := by decide +kernel
theorem dX6_overs_99 : decode cX6_overs 99 = .ok (.aload_n 0, 1) := by decide +kernel
theorem dX6_overs_100 : decode cX6_overs 100 = .ok (.getfield 9, 3) := by decide +kernel
theorem dX6_overs_103 : decode cX6_overs 103 = .ok (.sipush 538, 3) := by decide +kernel
theorem dX6_overs_106 : decode cX6_overs 106 = .ok (.aload_n 0, 1) := by decide +kernel
theorem dX6_overs_107 : decode cX6_overs 107 = .ok (.getfield 78, 3) := by decide +kernel
theorem dX6_overs_110 : decode cX6_overs 110 = .ok (.iadd, 1) := by decide +kernel
theorem dX6_overs_111 : decode cX6_overs 111 = .ok (.dup2, 1) := by decide +kernel
theorem dX6_overs_112 : decode cX6_overs 112 = .ok (.iaload, 1) := by decide +kernel
theorem dX6_overs_113 : decode cX6_overs 113 = .ok (.iconst 1, 1) := by decide +kernel
theorem dX6_overs_114 : decode cX6_overs 114 = .ok (.iadd, 1) := by decide +kernel
theorem dX6_overs_115 : decode cX6_overs 115 = .ok (.iastore, 1) := by decide +kernel
theorem dX6_overs_116 : decode cX6_overs 116 = .ok (.return_, 1) := by decide +kernel
set_option maxRecDepth 20000 in
theorem ggX6_sayings_X6_must : GoodIn wsX6_sayings wsX6_must := goodIn_r _ [8, 1, 9, 10, 11, 12, 7, 13, 14, 2, 100, 101, 102, 103, 104, 105, 106, 107, 108, 109, 110, 111, 112, 113, 114, 115, 116, 117] (by decide +kernel) (by decide +kernel)
set_option maxRecDepth 20000 in
theorem gX6_sayings_X6_must : GoodIn wsX6_sayings (wsV RX6 74 RX6 yX6_must wsX6_must) := goodIn_app (goodIn_of _ (by decide +kernel)) ggX6_sayings_X6_must
set_option maxRecDepth 20000 in
theorem ggX6_sayings_X6_here : GoodIn wsX6_sayings wsX6_here := goodIn_r _ [13, 9, 14, 2, 100, 101, 102, 103, 104, 105, 106, 107, 108, 109, 110, 111, 112, 113, 114, 115, 116, 117] (by decide +kernel) (by decide +kernel)
set_option maxRecDepth 20000 in
theorem gX6_sayings_X6_here : GoodIn wsX6_sayings (wsV RX6 61 RX6 yX6_here wsX6_here) := goodIn_app (goodIn_of _ (by decide +kernel)) ggX6_sayings_X6_here
set_option maxRecDepth 20000 in
theorem ggX6_sayings_X6_spells : GoodIn wsX6_sayings wsX6_spells := goodIn_r _ [18, 19, 20, 21, 22, 23, 24, 25, 26, 27, 28, 29, 30, 31, 32, 33, 34, 35, 36, 37, 38, 39, 40, 41, 42, 43, 44, 45, 46, 47, 48, 49, 50, 51, 52, 53, 54, 55, 56, 57, 58, 59, 60, 61, 62, 63, 64, 65, 66, 67, 4, 5, 6, 7, 8, 1, 9, 10, 11, 12, 13, 14, 2, 100, 101, 102, 103, 104, 105, 106, 107, 108, 109, 110, 111, 112, 113, 114, 115, 116, 117] (by decide +kernel) (by decide +kernel)
set_option maxRecDepth 20000 in
theorem gX6_sayings_X6_spells : GoodIn wsX6_sayings (wsV RX6 109 RX6 yX6_spells wsX6_spells) := goodIn_app (goodIn_of _ (by decide +kernel)) ggX6_sayings_X6_spells
set_option maxRecDepth 20000 in
theorem ggX6_sayings_X6_figures : GoodIn wsX6_sayings wsX6_figures := goodIn_r _ [71, 1, 9, 10, 11, 12, 7, 13, 14, 2, 72, 73, 74, 100, 101, 102, 103, 104, 105, 106, 107, 108, 109, 110, 111, 112, 113, 114, 115, 116, 117] (by decide +kernel) (by decide +kernel)
set_option maxRecDepth 20000 in
theorem gX6_sayings_X6_figures : GoodIn wsX6_sayings (wsV RX6 101 RX6 yX6_figures wsX6_figures) := goodIn_app (goodIn_of _ (by decide +kernel)) ggX6_sayings_X6_figures
set_option maxRecDepth 20000 in
theorem ggX6_sayings_X6_figure : GoodIn wsX6_sayings wsX6_figure := goodIn_r _ [78, 1, 9, 10, 11, 12, 7, 13, 14, 2, 72, 73, 74, 100, 101, 102, 103, 104, 105, 106, 107, 108, 109, 110, 111, 112, 113, 114, 115, 116, 117] (by decide +kernel) (by decide +kernel)
set_option maxRecDepth 20000 in
theorem gX6_sayings_X6_figure : GoodIn wsX6_sayings (wsV RX6 113 RX6 yX6_figure wsX6_figure) := goodIn_app (goodIn_of _ (by decide +kernel)) ggX6_sayings_X6_figure
set_option maxRecDepth 20000 in
theorem ggX6_sayings_X6_some : GoodIn wsX6_sayings wsX6_some := goodIn_r _ [82, 1, 9, 83, 84, 85, 7, 10, 11, 12, 13, 14, 2, 86, 87, 88, 89, 3, 90, 91, 92, 93, 94, 95, 79, 80, 81, 4, 5, 6, 8, 96, 97, 98, 99, 19, 20, 21, 22, 23, 24, 25, 26, 27, 28, 29, 30, 31, 32, 33, 34, 35, 36, 37, 38, 39, 40, 41, 42, 43, 44, 45, 46, 47, 48, 49, 50, 51, 52, 53, 54, 55, 56, 57, 58, 59, 60, 61, 62, 63, 64, 65, 66, 67, 68, 69, 70, 71, 72, 73, 74, 100, 101, 102, 103, 104, 105, 106, 107, 108, 109, 110, 111, 112, 113, 114, 115, 116, 117] (by decide +kernel) (by decide +kernel)
set_option maxRecDepth 20000 in
theorem gX6_sayings_X6_some : GoodIn wsX6_sayings (wsV RX6 90 RX6 yX6_some wsX6_some) := goodIn_app (goodIn_of _ (by decide +kernel)) ggX6_sayings_X6_some
set_option maxRecDepth 20000 in
theorem ggX6_sayings_X6_emits : GoodIn wsX6_sayings wsX6_emits := goodIn_r _ [89, 1, 2, 3, 100, 101, 102, 103, 104, 105, 106, 107, 108, 109, 110, 111, 112, 113, 114, 115, 116, 117] (by decide +kernel) (by decide +kernel)
set_option maxRecDepth 20000 in
theorem gX6_sayings_X6_emits : GoodIn wsX6_sayings (wsV RX6 87 RX6 yX6_emits wsX6_emits) := goodIn_app (goodIn_of _ (by decide +kernel)) ggX6_sayings_X6_emits
theorem dX6_sayings_0 : decode cX6_sayings 0 = .ok (.aload_n 0, 1) := by decide +kernel
theorem dX6_sayings_1 : decode cX6_sayings 1 = .ok (.bipush 115, 2) := by decide +kernel
theorem dX6_sayings_3 : decode cX6_sayings 3 = .ok (.invokevirtual 74, 3) := by decide +kernel
theorem dX6_sayings_6 : decode cX6_sayings 6 = .ok (.aload_n 0, 1) := by decide +kernel
theorem dX6_sayings_7 : decode cX6_sayings 7 = .ok (.getfield 57, 3) := by decide +kernel
theorem dX6_sayings_10 : decode cX6_sayings 10 = .ok (.ifCond .ne 72, 3) := by decide +kernel
theorem dX6_sayings_13 : decode cX6_sayings 13 = .ok (.aload_n 0, 1) := by decide +kernel
theorem dX6_sayings_14 : decode cX6_sayings 14 = .ok (.invokevirtual 61, 3) := by decide +kernel
theorem dX6_sayings_17 : decode cX6_sayings 17 = .ok (.bipush 108, 2) := by decide +kernel
theorem dX6_sayings_19 : decode cX6_sayings 19 = .ok (.if_icmp .ne 63, 3) := by decide +kernel
theorem dX6_sayings_22 : decode cX6_sayings 22 = .ok (.aload_n 0, 1) := by decide +kernel
theorem dX6_sayings_23 : decode cX6_sayings 23 = .ok (.ldc 119, 2) := by decide +kernel
theorem dX6_sayings_25 : decode cX6_sayings 25 = .ok (.invokevirtual 109, 3) := by decide +kernel
theorem dX6_sayings_28 : decode cX6_sayings 28 = .ok (.aload_n 0, 1) := by decide +kernel
theorem dX6_sayings_29 : decode cX6_sayings 29 = .ok (.invokevirtual 101, 3) := by decide +kernel
theorem dX6_sayings_32 : decode cX6_sayings 32 = .ok (.istore_n 1, 1) := by decide +kernel
theorem dX6_sayings_33 : decode cX6_sayings 33 = .ok (.aload_n 0, 1) := by decide +kernel
theorem dX6_sayings_34 : decode cX6_sayings 34 = .ok (.getfield 9, 3) := by decide +kernel
theorem dX6_sayings_37 : decode cX6_sayings 37 = .ok (.sipush 498, 3) := by decide +kernel
theorem dX6_sayings_40 : decode cX6_sayings 40 = .ok (.aload_n 0, 1) := by decide +kernel
theorem dX6_sayings_41 : decode cX6_sayings 41 = .ok (.getfield 78, 3) := by decide +kernel
theorem dX6_sayings_44 : decode cX6_sayings 44 = .ok (.iadd, 1) := by decide +kernel
theorem dX6_sayings_45 : decode cX6_sayings 45 = .ok (.aload_n 0, 1) := by decide +kernel
theorem dX6_sayings_46 : decode cX6_sayings 46 = .ok (.getfield 57, 3) := by decide +kernel
theorem dX6_sayings_49 : decode cX6_sayings 49 = .ok (.ifCond .eq 19, 3) := by decide +kernel
theorem dX6_sayings_52 : decode cX6_sayings 52 = .ok (.aload_n 0, 1) := by decide +kernel
theorem dX6_sayings_53 : decode cX6_sayings 53 = .ok (.getfield 9, 3) := by decide +kernel
theorem dX6_sayings_56 : decode cX6_sayings 56 = .ok (.sipush 498, 3) := by decide +kernel
theorem dX6_sayings_59 : decode cX6_sayings 59 = .ok (.aload_n 0, 1) := by decide +kernel
theorem dX6_sayings_60 : decode cX6_sayings 60 = .ok (.getfield 78, 3) := by decide +kernel
theorem dX6_sayings_63 : decode cX6_sayings 63 = .ok (.iadd, 1) := by decide +kernel
theorem dX6_sayings_64 : decode cX6_sayings 64 = .ok (.iaload, 1) := by decide +kernel
theorem dX6_sayings_65 : decode cX6_sayings 65 = .ok (.goto 15, 3) := by decide +kernel
theorem dX6_sayings_68 : decode cX6_sayings 68 = .ok (.iload_n 1, 1) := by decide +kernel
theorem dX6_sayings_69 : decode cX6_sayings 69 = .ok (.bipush 100, 2) := by decide +kernel
theorem dX6_sayings_71 : decode cX6_sayings 71 = .ok (.if_icmp .le 8, 3) := by decide +kernel
theorem dX6_sayings_74 : decode cX6_sayings 74 = .ok (.bipush 100, 2) := by decide +kernel
theorem dX6_sayings_76 : decode cX6_sayings 76 = .ok (.goto 4, 3) := by decide +kernel
theorem dX6_sayings_79 : decode cX6_sayings 79 = .ok (.iload_n 1, 1) := by decide +kernel
theorem dX6_sayings_80 : decode cX6_sayings 80 = .ok (.iastore, 1) := by decide +kernel
theorem dX6_sayings_81 : decode cX6_sayings 81 = .ok (.return_, 1) := by decide +kernel
theorem dX6_sayings_82 : decode cX6_sayings 82 = .ok (.aload_n 0, 1) := by decide +kernel
theorem dX6_sayings_83 : decode cX6_sayings 83 = .ok (.ldc 121, 2) := by decide +kernel
theorem dX6_sayings_85 : decode cX6_sayings 85 = .ok (.invokevirtual 109, 3) := by decide +kernel
theorem dX6_sayings_88 : decode cX6_sayings 88 = .ok (.aload_n 0, 1) := by decide +kernel
theorem dX6_sayings_89 : decode cX6_sayings 89 = .ok (.iconst 2, 1) := by decide +kernel
theorem dX6_sayings_90 : decode cX6_sayings 90 = .ok (.invokevirtual 113, 3) := by decide +kernel
theorem dX6_sayings_93 : decode cX6_sayings 93 = .ok (.istore_n 1, 1) := by decide +kernel
theorem dX6_sayings_94 : decode cX6_sayings 94 = .ok (.aload_n 0, 1) := by decide +kernel
theorem dX6_sayings_95 : decode cX6_sayings 95 = .ok (.bipush 32, 2) := by decide +kernel
theorem dX6_sayings_97 : decode cX6_sayings 97 = .ok (.invokevirtual 74, 3) := by decide +kernel
theorem dX6_sayings_100 : decode cX6_sayings 100 = .ok (.aload_n 0, 1) := by decide +kernel
theorem dX6_sayings_101 : decode cX6_sayings 101 = .ok (.invokevirtual 90, 3) := by decide +kernel
theorem dX6_sayings_104 : decode cX6_sayings 104 = .ok (.aload_n 0, 1) := by decide +kernel
theorem dX6_sayings_105 : decode cX6_sayings 105 = .ok (.bipush (-10), 2) := by decide +kernel
theorem dX6_sayings_107 : decode cX6_sayings 107 = .ok (.iload_n 1, 1) := by decide +kernel
theorem dX6_sayings_108 : decode cX6_sayings 108 = .ok (.isub, 1) := by decide +kernel
theorem dX6_sayings_109 : decode cX6_sayings 109 = .ok (.invokevirtual 87, 3) := by decide +kernel
theorem dX6_sayings_112 : decode cX6_sayings 112 = .ok (.return_, 1) := by decide +kernel
set_option maxRecDepth 20000 in
theorem ggX6_clauseHere_X6_here : GoodIn wsX6_clauseHere wsX6_here := goodIn_r _ [6, 7, 8, 9, 112, 113, 114, 115, 116, 117, 118, 119, 120, 121, 122, 123, 124, 125, 126, 127, 128, 129] (by decide +kernel) (by decide +kernel)
set_option maxRecDepth 20000 in
theorem gX6_clauseHere_X6_here : GoodIn wsX6_clauseHere (wsV RX6 61 RX6 yX6_here wsX6_here) := goodIn_app (goodIn_of _ (by decide +kernel)) ggX6_clauseHere_X6_here
set_option maxRecDepth 20000 in
theorem ggX6_clauseHere_X6_froms : GoodIn wsX6_clauseHere wsX6_froms := goodIn_r _ [13, 1, 9, 14, 15, 16, 17, 5, 18, 19, 20, 21, 22, 23, 24, 25, 26, 27, 28, 29, 30, 31, 32, 33, 34, 35, 36, 37, 38, 39, 40, 41, 42, 43, 44, 45, 46, 47, 48, 49, 50, 51, 52, 53, 54, 55, 56, 57, 58, 59, 60, 61, 62, 63, 64, 65, 66, 67, 68, 69, 70, 71, 7, 2, 3, 4, 6, 8, 72, 73, 74, 75, 76, 77, 78, 79, 80, 81, 82, 112, 113, 114, 115, 116, 117, 118, 119, 120, 121, 122, 123, 124, 125, 126, 127, 128, 129] (by decide +kernel) (by decide +kernel)
set_option maxRecDepth 20000 in
theorem gX6_clauseHere_X6_froms : GoodIn wsX6_clauseHere (wsV RX6 123 RX6 yX6_froms wsX6_froms) := goodIn_app (goodIn_of _ (by decide +kernel)) ggX6_clauseHere_X6_froms
set_option maxRecDepth 20000 in
theorem ggX6_clauseHere_X6_overs : GoodIn wsX6_clauseHere wsX6_overs := goodIn_r _ [86, 1, 14, 9, 15, 16, 17, 5, 18, 19, 20, 21, 22, 23, 24, 25, 26, 27, 28, 29, 30, 31, 32, 33, 34, 35, 36, 37, 38, 39, 40, 41, 42, 43, 44, 45, 46, 47, 48, 49, 50, 51, 52, 53, 54, 55, 56, 57, 58, 59, 60, 61, 62, 63, 64, 65, 66, 67, 68, 69, 70, 71, 7, 2, 3, 4, 6, 8, 72, 73, 74, 75, 76, 77, 78, 79, 80, 81, 82, 112, 113, 114, 115, 116, 117, 118, 119, 120, 121, 122, 123, 124, 125, 126, 127, 128, 129] (by decide +kernel) (by decide +kernel)
set_option maxRecDepth 20000 in
theorem gX6_clauseHere_X6_overs : GoodIn wsX6_clauseHere (wsV RX6 126 RX6 yX6_overs wsX6_overs) := goodIn_app (goodIn_of _ (by decide +kernel)) ggX6_clauseHere_X6_overs
set_option maxRecDepth 20000 in
theorem ggX6_clauseHere_X6_sayings : GoodIn wsX6_clauseHere wsX6_sayings := goodIn_r _ [90, 1, 9, 14, 68, 69, 70, 5, 71, 7, 2, 3, 4, 6, 8, 15, 16, 17, 18, 19, 20, 21, 22, 23, 24, 25, 26, 27, 28, 29, 30, 31, 32, 33, 34, 35, 36, 37, 38, 39, 40, 41, 42, 43, 44, 45, 46, 47, 48, 49, 50, 51, 52, 53, 54, 55, 56, 57, 58, 59, 60, 61, 62, 63, 64, 65, 66, 67, 79, 80, 81, 82, 76, 77, 78, 72, 73, 74, 75, 91, 92, 93, 94, 95, 96, 97, 98, 99, 100, 101, 102, 103, 104, 105, 106, 107, 108, 109, 110, 111, 112, 113, 114, 115, 116, 117, 118, 119, 120, 121, 122, 123, 124, 125, 126, 127, 128, 129] (by decide +kernel) (by decide +kernel)
set_option maxRecDepth 20000 in
theorem gX6_clauseHere_X6_sayings : GoodIn wsX6_clauseHere (wsV RX6 129 RX6 yX6_sayings wsX6_sayings) := goodIn_app (goodIn_of _ (by decide +kernel)) ggX6_clauseHere_X6_sayings
theorem dX6_clauseHere_0 : decode cX6_clauseHere 0 = .ok (.aload_n 0, 1) := by decide +kernel
theorem dX6_clauseHere_1 : decode cX6_clauseHere 1 = .ok (.invokevirtual 61, 3) := by decide +kernel
theorem dX6_clauseHere_4 : decode cX6_clauseHere 4 = .ok (.lookupswitch 57 #[(102, 36), (111, 43), (115, 50)], 36) := by decide +kernel
theorem dX6_clauseHere_40 : decode cX6_clauseHere 40 = .ok (.aload_n 0, 1) := by decide +kernel
theorem dX6_clauseHere_41 : decode cX6_clauseHere 41 = .ok (.invokevirtual 123, 3) := by decide +kernel
theorem dX6_clauseHere_44 : decode cX6_clauseHere 44 = .ok (.goto 22, 3) := by decide +kernel
theorem dX6_clauseHere_47 : decode cX6_clauseHere 47 = .ok (.aload_n 0, 1) := by decide +kernel
theorem dX6_clauseHere_48 : decode cX6_clauseHere 48 = .ok (.invokevirtual 126, 3) := by decide +kernel
theorem dX6_clauseHere_51 : decode cX6_clauseHere 51 = .ok (.goto 15, 3) := by decide +kernel
theorem dX6_clauseHere_54 : decode cX6_clauseHere 54 = .ok (.aload_n 0, 1) := by decide +kernel
theorem dX6_clauseHere_55 : decode cX6_clauseHere 55 = .ok (.invokevirtual 129, 3) := by decide +kernel
theorem dX6_clauseHere_58 : decode cX6_clauseHere 58 = .ok (.goto 8, 3) := by decide +kernel
theorem dX6_clauseHere_61 : decode cX6_clauseHere 61 = .ok (.aload_n 0, 1) := by decide +kernel
theorem dX6_clauseHere_62 : decode cX6_clauseHere 62 = .ok (.iconst 1, 1) := by decide +kernel
theorem dX6_clauseHere_63 : decode cX6_clauseHere 63 = .ok (.putfield 57, 3) := by decide +kernel
theorem dX6_clauseHere_66 : decode cX6_clauseHere 66 = .ok (.return_, 1) := by decide +kernel
set_option maxRecDepth 20000 in
theorem ggX6_law_X6_in : GoodIn wsX6_law wsX6_in := goodIn_r _ [10] (by decide +kernel) (by decide +kernel)
set_option maxRecDepth 20000 in
theorem gX6_law_X6_in : GoodIn wsX6_law (va_wsS RX6 32 yX6_in wsX6_in) := goodIn_app (goodIn_of _ (by decide +kernel)) ggX6_law_X6_in
set_option maxRecDepth 20000 in
theorem ggX6_law_X6_clauseHere : GoodIn wsX6_law wsX6_clauseHere := goodIn_r _ [14, 5, 15, 16, 17, 9, 18, 4, 3, 1, 19, 20, 21, 22, 2, 23, 24, 25, 26, 27, 28, 29, 30, 31, 32, 33, 34, 35, 36, 37, 38, 39, 40, 41, 42, 43, 44, 45, 46, 47, 48, 49, 50, 51, 52, 53, 54, 55, 56, 57, 58, 59, 60, 61, 62, 63, 64, 65, 66, 67, 68, 69, 70, 71, 72, 73, 74, 75, 76, 77, 78, 79, 80, 81, 82, 83, 7, 8, 10, 84, 85, 86, 87, 88, 89, 90, 91, 92, 93, 94, 95, 96, 97, 98, 99, 100, 101, 102, 103, 104, 105, 106, 107, 108, 109, 110, 111, 6, 112, 113, 114, 115, 116, 117, 118, 119, 120, 121, 122, 123, 124, 125, 126, 127, 128, 129, 130, 131, 132, 133] (by decide +kernel) (by decide +kernel)
set_option maxRecDepth 20000 in
theorem gX6_law_X6_clauseHere : GoodIn wsX6_law (wsV RX6 132 RX6 yX6_clauseHere wsX6_clauseHere) := goodIn_app (goodIn_of _ (by decide +kernel)) ggX6_law_X6_clauseHere
set_option maxRecDepth 20000 in
theorem ggX6_law_X6_here : GoodIn wsX6_law wsX6_here := goodIn_r _ [18, 4, 3, 1, 116, 117, 118, 119, 120, 121, 122, 123, 124, 125, 126, 127, 128, 129, 130, 131, 132, 133] (by decide +kernel) (by decide +kernel)
set_option maxRecDepth 20000 in
theorem gX6_law_X6_here : GoodIn wsX6_law (wsV RX6 61 RX6 yX6_here wsX6_here) := goodIn_app (goodIn_of _ (by decide +kernel)) ggX6_law_X6_here
theorem dX6_law_0 : decode cX6_law 0 = .ok (.iload_n 1, 1) := by decide +kernel
theorem dX6_law_1 : decode cX6_law 1 = .ok (.iconst 0, 1) := by decide +kernel
theorem dX6_law_2 : decode cX6_law 2 = .ok (.bipush 6, 2) := by decide +kernel
theorem dX6_law_4 : decode cX6_law 4 = .ok (.invokestatic 32, 3) := by decide +kernel
theorem dX6_law_7 : decode cX6_law 7 = .ok (.ifCond .ne 5, 3) := by decide +kernel
theorem dX6_law_10 : decode cX6_law 10 = .ok (.iconst (-1), 1) := by decide +kernel
theorem dX6_law_11 : decode cX6_law 11 = .ok (.ireturn, 1) := by decide +kernel
theorem dX6_law_12 : decode cX6_law 12 = .ok (.iload_n 2, 1) := by decide +kernel
theorem dX6_law_13 : decode cX6_law 13 = .ok (.iconst 0, 1) := by decide +kernel
theorem dX6_law_14 : decode cX6_law 14 = .ok (.bipush 9, 2) := by decide +kernel
theorem dX6_law_16 : decode cX6_law 16 = .ok (.invokestatic 32, 3) := by decide +kernel
theorem dX6_law_19 : decode cX6_law 19 = .ok (.ifCond .ne 6, 3) := by decide +kernel
theorem dX6_law_22 : decode cX6_law 22 = .ok (.bipush (-2), 2) := by decide +kernel
theorem dX6_law_24 : decode cX6_law 24 = .ok (.ireturn, 1) := by decide +kernel
theorem dX6_law_25 : decode cX6_law 25 = .ok (.aload_n 0, 1) := by decide +kernel
theorem dX6_law_26 : decode cX6_law 26 = .ok (.getfield 9, 3) := by decide +kernel
theorem dX6_law_29 : decode cX6_law 29 = .ok (.iconst 3, 1) := by decide +kernel
theorem dX6_law_30 : decode cX6_law 30 = .ok (.iaload, 1) := by decide +kernel
theorem dX6_law_31 : decode cX6_law 31 = .ok (.bipush 8, 2) := by decide +kernel
theorem dX6_law_33 : decode cX6_law 33 = .ok (.if_icmp .ne 6, 3) := by decide +kernel
theorem dX6_law_36 : decode cX6_law 36 = .ok (.bipush (-4), 2) := by decide +kernel
theorem dX6_law_38 : decode cX6_law 38 = .ok (.ireturn, 1) := by decide +kernel
theorem dX6_law_39 : decode cX6_law 39 = .ok (.aload_n 0, 1) := by decide +kernel
theorem dX6_law_40 : decode cX6_law 40 = .ok (.aload_n 0, 1) := by decide +kernel
theorem dX6_law_41 : decode cX6_law 41 = .ok (.getfield 9, 3) := by decide +kernel
theorem dX6_law_44 : decode cX6_law 44 = .ok (.iconst 3, 1) := by decide +kernel
theorem dX6_law_45 : decode cX6_law 45 = .ok (.iaload, 1) := by decide +kernel
theorem dX6_law_46 : decode cX6_law 46 = .ok (.putfield 78, 3) := by decide +kernel
theorem dX6_law_49 : decode cX6_law 49 = .ok (.aload_n 0, 1) := by decide +kernel
theorem dX6_law_50 : decode cX6_law 50 = .ok (.aload_n 0, 1) := by decide +kernel
theorem dX6_law_51 : decode cX6_law 51 = .ok (.getfield 9, 3) := by decide +kernel
theorem dX6_law_54 : decode cX6_law 54 = .ok (.iconst 4, 1) := by decide +kernel
theorem dX6_law_55 : decode cX6_law 55 = .ok (.iaload, 1) := by decide +kernel
theorem dX6_law_56 : decode cX6_law 56 = .ok (.putfield 54, 3) := by decide +kernel
theorem dX6_law_59 : decode cX6_law 59 = .ok (.aload_n 0, 1) := by decide +kernel
theorem dX6_law_60 : decode cX6_law 60 = .ok (.getfield 9, 3) := by decide +kernel
theorem dX6_law_63 : decode cX6_law 63 = .ok (.iconst 4, 1) := by decide +kernel
theorem dX6_law_64 : decode cX6_law 64 = .ok (.iconst 0, 1) := by decide +kernel
theorem dX6_law_65 : decode cX6_law 65 = .ok (.iastore, 1) := by decide +kernel
theorem dX6_law_66 : decode cX6_law 66 = .ok (.aload_n 0, 1) := by decide +kernel
theorem dX6_law_67 : decode cX6_law 67 = .ok (.getfield 9, 3) := by decide +kernel
theorem dX6_law_70 : decode cX6_law 70 = .ok (.sipush 482, 3) := by decide +kernel
theorem dX6_law_73 : decode cX6_law 73 = .ok (.aload_n 0, 1) := by decide +kernel
theorem dX6_law_74 : decode cX6_law 74 = .ok (.getfield 78, 3) := by decide +kernel
theorem dX6_law_77 : decode cX6_law 77 = .ok (.iadd, 1) := by decide +kernel
theorem dX6_law_78 : decode cX6_law 78 = .ok (.iload_n 1, 1) := by decide +kernel
theorem dX6_law_79 : decode cX6_law 79 = .ok (.iastore, 1) := by decide +kernel
theorem dX6_law_80 : decode cX6_law 80 = .ok (.aload_n 0, 1) := by decide +kernel
theorem dX6_law_81 : decode cX6_law 81 = .ok (.getfield 9, 3) := by decide +kernel
theorem dX6_law_84 : decode cX6_law 84 = .ok (.sipush 490, 3) := by decide +kernel
theorem dX6_law_87 : decode cX6_law 87 = .ok (.aload_n 0, 1) := by decide +kernel
theorem dX6_law_88 : decode cX6_law 88 = .ok (.getfield 78, 3) := by decide +kernel
theorem dX6_law_91 : decode cX6_law 91 = .ok (.iadd, 1) := by decide +kernel
theorem dX6_law_92 : decode cX6_law 92 = .ok (.iload_n 2, 1) := by decide +kernel
theorem dX6_law_93 : decode cX6_law 93 = .ok (.iastore, 1) := by decide +kernel
theorem dX6_law_94 : decode cX6_law 94 = .ok (.aload_n 0, 1) := by decide +kernel
theorem dX6_law_95 : decode cX6_law 95 = .ok (.getfield 9, 3) := by decide +kernel
theorem dX6_law_98 : decode cX6_law 98 = .ok (.sipush 498, 3) := by decide +kernel
theorem dX6_law_101 : decode cX6_law 101 = .ok (.aload_n 0, 1) := by decide +kernel
theorem dX6_law_102 : decode cX6_law 102 = .ok (.getfield 78, 3) := by decide +kernel
theorem dX6_law_105 : decode cX6_law 105 = .ok (.iadd, 1) := by decide +kernel
theorem dX6_law_106 : decode cX6_law 106 = .ok (.iconst 0, 1) := by decide +kernel
theorem dX6_law_107 : decode cX6_law 107 = .ok (.iastore, 1) := by decide +kernel
theorem dX6_law_108 : decode cX6_law 108 = .ok (.aload_n 0, 1) := by decide +kernel
theorem dX6_law_109 : decode cX6_law 109 = .ok (.getfield 9, 3) := by decide +kernel
theorem dX6_law_112 : decode cX6_law 112 = .ok (.sipush 538, 3) := by decide +kernel
theorem dX6_law_115 : decode cX6_law 115 = .ok (.aload_n 0, 1) := by decide +kernel
theorem dX6_law_116 : decode cX6_law 116 = .ok (.getfield 78, 3) := by decide +kernel
theorem dX6_law_119 : decode cX6_law 119 = .ok (.iadd, 1) := by decide +kernel
theorem dX6_law_120 : decode cX6_law 120 = .ok (.iconst 0, 1) := by decide +kernel
theorem dX6_law_121 : decode cX6_law 121 = .ok (.iastore, 1) := by decide +kernel
theorem dX6_law_122 : decode cX6_law 122 = .ok (.aload_n 0, 1) := by decide +kernel
theorem dX6_law_123 : decode cX6_law 123 = .ok (.getfield 9, 3) := by decide +kernel
theorem dX6_law_126 : decode cX6_law 126 = .ok (.sipush 786, 3) := by decide +kernel
theorem dX6_law_129 : decode cX6_law 129 = .ok (.aload_n 0, 1) := by decide +kernel
theorem dX6_law_130 : decode cX6_law 130 = .ok (.getfield 78, 3) := by decide +kernel
theorem dX6_law_133 : decode cX6_law 133 = .ok (.iadd, 1) := by decide +kernel
theorem dX6_law_134 : decode cX6_law 134 = .ok (.iconst 0, 1) := by decide +kernel
theorem dX6_law_135 : decode cX6_law 135 = .ok (.iastore, 1) := by decide +kernel
theorem dX6_law_136 : decode cX6_law 136 = .ok (.iconst 0, 1) := by decide +kernel
theorem dX6_law_137 : decode cX6_law 137 = .ok (.istore_n 3, 1) := by decide +kernel
theorem dX6_law_138 : decode cX6_law 138 = .ok (.iload_n 3, 1) := by decide +kernel
theorem dX6_law_139 : decode cX6_law 139 = .ok (.iconst 4, 1) := by decide +kernel
theorem dX6_law_140 : decode cX6_law 140 = .ok (.if_icmp .ge 28, 3) := by decide +kernel
theorem dX6_law_143 : decode cX6_law 143 = .ok (.aload_n 0, 1) := by decide +kernel
theorem dX6_law_144 : decode cX6_law 144 = .ok (.getfield 9, 3) := by decide +kernel
theorem dX6_law_147 : decode cX6_law 147 = .ok (.sipush 506, 3) := by decide +kernel
theorem dX6_law_150 : decode cX6_law 150 = .ok (.iconst 4, 1) := by decide +kernel
theorem dX6_law_151 : decode cX6_law 151 = .ok (.aload_n 0, 1) := by decide +kernel
theorem dX6_law_152 : decode cX6_law 152 = .ok (.getfield 78, 3) := by decide +kernel
theorem dX6_law_155 : decode cX6_law 155 = .ok (.imul, 1) := by decide +kernel
theorem dX6_law_156 : decode cX6_law 156 = .ok (.iadd, 1) := by decide +kernel
theorem dX6_law_157 : decode cX6_law 157 = .ok (.iload_n 3, 1) := by decide +kernel
theorem dX6_law_158 : decode cX6_law 158 = .ok (.iadd, 1) := by decide +kernel
theorem dX6_law_159 : decode cX6_law 159 = .ok (.bipush 84, 2) := by decide +kernel
theorem dX6_law_161 : decode cX6_law 161 = .ok (.iastore, 1) := by decide +kernel
theorem dX6_law_162 : decode cX6_law 162 = .ok (.iinc 3 1, 3) := by decide +kernel
theorem dX6_law_165 : decode cX6_law 165 = .ok (.goto (-27), 3) := by decide +kernel
theorem dX6_law_168 : decode cX6_law 168 = .ok (.aload_n 0, 1) := by decide +kernel
theorem dX6_law_169 : decode cX6_law 169 = .ok (.iconst 0, 1) := by decide +kernel
theorem dX6_law_170 : decode cX6_law 170 = .ok (.putfield 51, 3) := by decide +kernel
theorem dX6_law_173 : decode cX6_law 173 = .ok (.aload_n 0, 1) := by decide +kernel
theorem dX6_law_174 : decode cX6_law 174 = .ok (.iconst 0, 1) := by decide +kernel
theorem dX6_law_175 : decode cX6_law 175 = .ok (.putfield 57, 3) := by decide +kernel
theorem dX6_law_178 : decode cX6_law 178 = .ok (.aload_n 0, 1) := by decide +kernel
theorem dX6_law_179 : decode cX6_law 179 = .ok (.iconst 0, 1) := by decide +kernel
theorem dX6_law_180 : decode cX6_law 180 = .ok (.putfield 81, 3) := by decide +kernel
theorem dX6_law_183 : decode cX6_law 183 = .ok (.iconst 1, 1) := by decide +kernel
theorem dX6_law_184 : decode cX6_law 184 = .ok (.istore_n 3, 1) := by decide +kernel
theorem dX6_law_185 : decode cX6_law 185 = .ok (.aload_n 0, 1) := by decide +kernel
theorem dX6_law_186 : decode cX6_law 186 = .ok (.invokevirtual 132, 3) := by decide +kernel
theorem dX6_law_189 : decode cX6_law 189 = .ok (.aload_n 0, 1) := by decide +kernel
theorem dX6_law_190 : decode cX6_law 190 = .ok (.getfield 57, 3) := by decide +kernel
theorem dX6_law_193 : decode cX6_law 193 = .ok (.ifCond .ne 38, 3) := by decide +kernel
theorem dX6_law_196 : decode cX6_law 196 = .ok (.iload_n 3, 1) := by decide +kernel
theorem dX6_law_197 : decode cX6_law 197 = .ok (.bipush 10, 2) := by decide +kernel
theorem dX6_law_199 : decode cX6_law 199 = .ok (.if_icmp .ge 32, 3) := by decide +kernel
theorem dX6_law_202 : decode cX6_law 202 = .ok (.aload_n 0, 1) := by decide +kernel
theorem dX6_law_203 : decode cX6_law 203 = .ok (.invokevirtual 61, 3) := by decide +kernel
theorem dX6_law_206 : decode cX6_law 206 = .ok (.bipush 59, 2) := by decide +kernel
theorem dX6_law_208 : decode cX6_law 208 = .ok (.if_icmp .ne 23, 3) := by decide +kernel
theorem dX6_law_211 : decode cX6_law 211 = .ok (.aload_n 0, 1) := by decide +kernel
theorem dX6_law_212 : decode cX6_law 212 = .ok (.dup, 1) := by decide +kernel
theorem dX6_law_213 : decode cX6_law 213 = .ok (.getfield 51, 3) := by decide +kernel
theorem dX6_law_216 : decode cX6_law 216 = .ok (.iconst 1, 1) := by decide +kernel
theorem dX6_law_217 : decode cX6_law 217 = .ok (.iadd, 1) := by decide +kernel
theorem dX6_law_218 : decode cX6_law 218 = .ok (.putfield 51, 3) := by decide +kernel
theorem dX6_law_221 : decode cX6_law 221 = .ok (.aload_n 0, 1) := by decide +kernel
theorem dX6_law_222 : decode cX6_law 222 = .ok (.invokevirtual 132, 3) := by decide +kernel
theorem dX6_law_225 : decode cX6_law 225 = .ok (.iinc 3 1, 3) := by decide +kernel
theorem dX6_law_228 : decode cX6_law 228 = .ok (.goto (-39), 3) := by decide +kernel
theorem dX6_law_231 : decode cX6_law 231 = .ok (.aload_n 0, 1) := by decide +kernel
theorem dX6_law_232 : decode cX6_law 232 = .ok (.getfield 57, 3) := by decide +kernel
theorem dX6_law_235 : decode cX6_law 235 = .ok (.ifCond .ne 14, 3) := by decide +kernel
theorem dX6_law_238 : decode cX6_law 238 = .ok (.aload_n 0, 1) := by decide +kernel
theorem dX6_law_239 : decode cX6_law 239 = .ok (.getfield 51, 3) := by decide +kernel
theorem dX6_law_242 : decode cX6_law 242 = .ok (.aload_n 0, 1) := by decide +kernel
theorem dX6_law_243 : decode cX6_law 243 = .ok (.getfield 54, 3) := by decide +kernel
theorem dX6_law_246 : decode cX6_law 246 = .ok (.if_icmp .eq 11, 3) := by decide +kernel
theorem dX6_law_249 : decode cX6_law 249 = .ok (.bipush (-10), 2) := by decide +kernel
theorem dX6_law_251 : decode cX6_law 251 = .ok (.aload_n 0, 1) := by decide +kernel
theorem dX6_law_252 : decode cX6_law 252 = .ok (.getfield 51, 3) := by decide +kernel
theorem dX6_law_255 : decode cX6_law 255 = .ok (.isub, 1) := by decide +kernel
theorem dX6_law_256 : decode cX6_law 256 = .ok (.ireturn, 1) := by decide +kernel
theorem dX6_law_257 : decode cX6_law 257 = .ok (.aload_n 0, 1) := by decide +kernel
theorem dX6_law_258 : decode cX6_law 258 = .ok (.getfield 9, 3) := by decide +kernel
theorem dX6_law_261 : decode cX6_law 261 = .ok (.iconst 3, 1) := by decide +kernel
theorem dX6_law_262 : decode cX6_law 262 = .ok (.dup2, 1) := by decide +kernel
theorem dX6_law_263 : decode cX6_law 263 = .ok (.iaload, 1) := by decide +kernel
theorem dX6_law_264 : decode cX6_law 264 = .ok (.iconst 1, 1) := by decide +kernel
theorem dX6_law_265 : decode cX6_law 265 = .ok (.iadd, 1) := by decide +kernel
theorem dX6_law_266 : decode cX6_law 266 = .ok (.iastore, 1) := by decide +kernel
theorem dX6_law_267 : decode cX6_law 267 = .ok (.aload_n 0, 1) := by decide +kernel
theorem dX6_law_268 : decode cX6_law 268 = .ok (.getfield 78, 3) := by decide +kernel
theorem dX6_law_271 : decode cX6_law 271 = .ok (.ireturn, 1) := by decide +kernel
set_option maxRecDepth 20000 in
theorem ggX6_told_X6_isLaw : GoodIn wsX6_told wsX6_isLaw := goodIn_r _ [6, 1, 7, 8, 5, 9, 10, 11, 12, 13, 14, 15, 16, 17, 18, 19, 20, 21, 22, 23, 24, 25, 26, 27] (by decide +kernel) (by decide +kernel)
set_option maxRecDepth 20000 in
theorem gX6_told_X6_isLaw : GoodIn wsX6_told (wsV RX6 135 RX6 yX6_isLaw wsX6_isLaw) := goodIn_app (goodIn_of _ (by decide +kernel)) ggX6_told_X6_isLaw
set_option maxRecDepth 20000 in
theorem ggX6_told_X6_in : GoodIn wsX6_told wsX6_in := goodIn_r _ [9] (by decide +kernel) (by decide +kernel)
set_option maxRecDepth 20000 in
theorem gX6_told_X6_in : GoodIn wsX6_told (va_wsS RX6 32 yX6_in wsX6_in) := goodIn_app (goodIn_of _ (by decide +kernel)) ggX6_told_X6_in
theorem dX6_told_0 : decode cX6_told 0 = .ok (.aload_n 0, 1) := by decide +kernel
theorem dX6_told_1 : decode cX6_told 1 = .ok (.iload_n 1, 1) := by decide +kernel
theorem dX6_told_2 : decode cX6_told 2 = .ok (.invokevirtual 135, 3) := by decide +kernel
theorem dX6_told_5 : decode cX6_told 5 = .ok (.ifCond .ne 5, 3) := by decide +kernel
theorem dX6_told_8 : decode cX6_told 8 = .ok (.iconst (-1), 1) := by decide +kernel
theorem dX6_told_9 : decode cX6_told 9 = .ok (.ireturn, 1) := by decide +kernel
theorem dX6_told_10 : decode cX6_told 10 = .ok (.iload_n 2, 1) := by decide +kernel
theorem dX6_told_11 : decode cX6_told 11 = .ok (.iconst 0, 1) := by decide +kernel
theorem dX6_told_12 : decode cX6_told 12 = .ok (.iconst 2, 1) := by decide +kernel
theorem dX6_told_13 : decode cX6_told 13 = .ok (.invokestatic 32, 3) := by decide +kernel
theorem dX6_told_16 : decode cX6_told 16 = .ok (.ifCond .eq 21, 3) := by decide +kernel
theorem dX6_told_19 : decode cX6_told 19 = .ok (.aload_n 0, 1) := by decide +kernel
theorem dX6_told_20 : decode cX6_told 20 = .ok (.getfield 9, 3) := by decide +kernel
theorem dX6_told_23 : decode cX6_told 23 = .ok (.sipush 482, 3) := by decide +kernel
theorem dX6_told_26 : decode cX6_told 26 = .ok (.bipush 8, 2) := by decide +kernel
theorem dX6_told_28 : decode cX6_told 28 = .ok (.iload_n 2, 1) := by decide +kernel
theorem dX6_told_29 : decode cX6_told 29 = .ok (.imul, 1) := by decide +kernel
theorem dX6_told_30 : decode cX6_told 30 = .ok (.iadd, 1) := by decide +kernel
theorem dX6_told_31 : decode cX6_told 31 = .ok (.iload_n 1, 1) := by decide +kernel
theorem dX6_told_32 : decode cX6_told 32 = .ok (.iadd, 1) := by decide +kernel
theorem dX6_told_33 : decode cX6_told 33 = .ok (.iaload, 1) := by decide +kernel
theorem dX6_told_34 : decode cX6_told 34 = .ok (.goto 35, 3) := by decide +kernel
theorem dX6_told_37 : decode cX6_told 37 = .ok (.iload_n 2, 1) := by decide +kernel
theorem dX6_told_38 : decode cX6_told 38 = .ok (.bipush 10, 2) := by decide +kernel
theorem dX6_told_40 : decode cX6_told 40 = .ok (.bipush 13, 2) := by decide +kernel
theorem dX6_told_42 : decode cX6_told 42 = .ok (.invokestatic 32, 3) := by decide +kernel
theorem dX6_told_45 : decode cX6_told 45 = .ok (.ifCond .eq 23, 3) := by decide +kernel
theorem dX6_told_48 : decode cX6_told 48 = .ok (.aload_n 0, 1) := by decide +kernel
theorem dX6_told_49 : decode cX6_told 49 = .ok (.getfield 9, 3) := by decide +kernel
theorem dX6_told_52 : decode cX6_told 52 = .ok (.sipush 506, 3) := by decide +kernel
theorem dX6_told_55 : decode cX6_told 55 = .ok (.iconst 4, 1) := by decide +kernel
theorem dX6_told_56 : decode cX6_told 56 = .ok (.iload_n 1, 1) := by decide +kernel
theorem dX6_told_57 : decode cX6_told 57 = .ok (.imul, 1) := by decide +kernel
theorem dX6_told_58 : decode cX6_told 58 = .ok (.iadd, 1) := by decide +kernel
theorem dX6_told_59 : decode cX6_told 59 = .ok (.iload_n 2, 1) := by decide +kernel
theorem dX6_told_60 : decode cX6_told 60 = .ok (.iadd, 1) := by decide +kernel
theorem dX6_told_61 : decode cX6_told 61 = .ok (.bipush 10, 2) := by decide +kernel
theorem dX6_told_63 : decode cX6_told 63 = .ok (.isub, 1) := by decide +kernel
theorem dX6_told_64 : decode cX6_told 64 = .ok (.iaload, 1) := by decide +kernel
theorem dX6_told_65 : decode cX6_told 65 = .ok (.goto 4, 3) := by decide +kernel
theorem dX6_told_68 : decode cX6_told 68 = .ok (.iconst (-1), 1) := by decide +kernel
theorem dX6_told_69 : decode cX6_told 69 = .ok (.ireturn, 1) := by decide +kernel
theorem dX6_isKept_0 : decode cX6_isKept 0 = .ok (.aload_n 0, 1) := by decide +kernel
theorem dX6_isKept_1 : decode cX6_isKept 1 = .ok (.getfield 9, 3) := by decide +kernel
theorem dX6_isKept_4 : decode cX6_isKept 4 = .ok (.sipush 138, 3) := by decide +kernel
theorem dX6_isKept_7 : decode cX6_isKept 7 = .ok (.iconst 4, 1) := by decide +kernel
theorem dX6_isKept_8 : decode cX6_isKept 8 = .ok (.iload_n 2, 1) := by decide +kernel
theorem dX6_isKept_9 : decode cX6_isKept 9 = .ok (.imul, 1) := by decide +kernel
theorem dX6_isKept_10 : decode cX6_isKept 10 = .ok (.iadd, 1) := by decide +kernel
theorem dX6_isKept_11 : decode cX6_isKept 11 = .ok (.iload_n 3, 1) := by decide +kernel
theorem dX6_isKept_12 : decode cX6_isKept 12 = .ok (.iadd, 1) := by decide +kernel
theorem dX6_isKept_13 : decode cX6_isKept 13 = .ok (.iaload, 1) := by decide +kernel
theorem dX6_isKept_14 : decode cX6_isKept 14 = .ok (.istore 5, 2) := by decide +kernel
theorem dX6_isKept_16 : decode cX6_isKept 16 = .ok (.iload 4, 2) := by decide +kernel
theorem dX6_isKept_18 : decode cX6_isKept 18 = .ok (.aload_n 0, 1) := by decide +kernel
theorem dX6_isKept_19 : decode cX6_isKept 19 = .ok (.getfield 9, 3) := by decide +kernel
theorem dX6_isKept_22 : decode cX6_isKept 22 = .ok (.sipush 506, 3) := by decide +kernel
theorem dX6_isKept_25 : decode cX6_isKept 25 = .ok (.iconst 4, 1) := by decide +kernel
theorem dX6_isKept_26 : decode cX6_isKept 26 = .ok (.iload_n 1, 1) := by decide +kernel
theorem dX6_isKept_27 : decode cX6_isKept 27 = .ok (.imul, 1) := by decide +kernel
theorem dX6_isKept_28 : decode cX6_isKept 28 = .ok (.iadd, 1) := by decide +kernel
theorem dX6_isKept_29 : decode cX6_isKept 29 = .ok (.iload_n 3, 1) := by decide +kernel
theorem dX6_isKept_30 : decode cX6_isKept 30 = .ok (.iadd, 1) := by decide +kernel
theorem dX6_isKept_31 : decode cX6_isKept 31 = .ok (.iaload, 1) := by decide +kernel
theorem dX6_isKept_32 : decode cX6_isKept 32 = .ok (.if_icmp .ge 16, 3) := by decide +kernel
theorem dX6_isKept_35 : decode cX6_isKept 35 = .ok (.iload 5, 2) := by decide +kernel
theorem dX6_isKept_37 : decode cX6_isKept 37 = .ok (.iconst (-1), 1) := by decide +kernel
theorem dX6_isKept_38 : decode cX6_isKept 38 = .ok (.if_icmp .eq 14, 3) := by decide +kernel
theorem dX6_isKept_41 : decode cX6_isKept 41 = .ok (.iload 5, 2) := by decide +kernel
theorem dX6_isKept_43 : decode cX6_isKept 43 = .ok (.iload 4, 2) := by decide +kernel
theorem dX6_isKept_45 : decode cX6_isKept 45 = .ok (.if_icmp .gt 7, 3) := by decide +kernel
theorem dX6_isKept_48 : decode cX6_isKept 48 = .ok (.iconst 1, 1) := by decide +kernel
theorem dX6_isKept_49 : decode cX6_isKept 49 = .ok (.goto 4, 3) := by decide +kernel
theorem dX6_isKept_52 : decode cX6_isKept 52 = .ok (.iconst 0, 1) := by decide +kernel
theorem dX6_isKept_53 : decode cX6_isKept 53 = .ok (.istore 6, 2) := by decide +kernel
theorem dX6_isKept_55 : decode cX6_isKept 55 = .ok (.iconst 0, 1) := by decide +kernel
theorem dX6_isKept_56 : decode cX6_isKept 56 = .ok (.istore 7, 2) := by decide +kernel
theorem dX6_isKept_58 : decode cX6_isKept 58 = .ok (.iload 7, 2) := by decide +kernel
theorem dX6_isKept_60 : decode cX6_isKept 60 = .ok (.aload_n 0, 1) := by decide +kernel
theorem dX6_isKept_61 : decode cX6_isKept 61 = .ok (.getfield 9, 3) := by decide +kernel
theorem dX6_isKept_64 : decode cX6_isKept 64 = .ok (.sipush 538, 3) := by decide +kernel
theorem dX6_isKept_67 : decode cX6_isKept 67 = .ok (.iload_n 1, 1) := by decide +kernel
theorem dX6_isKept_68 : decode cX6_isKept 68 = .ok (.iadd, 1) := by decide +kernel
theorem dX6_isKept_69 : decode cX6_isKept 69 = .ok (.iaload, 1) := by decide +kernel
theorem dX6_isKept_70 : decode cX6_isKept 70 = .ok (.if_icmp .ge 94, 3) := by decide +kernel
theorem dX6_isKept_73 : decode cX6_isKept 73 = .ok (.sipush 546, 3) := by decide +kernel
theorem dX6_isKept_76 : decode cX6_isKept 76 = .ok (.iconst 3, 1) := by decide +kernel
theorem dX6_isKept_77 : decode cX6_isKept 77 = .ok (.bipush 10, 2) := by decide +kernel
theorem dX6_isKept_79 : decode cX6_isKept 79 = .ok (.iload_n 1, 1) := by decide +kernel
theorem dX6_isKept_80 : decode cX6_isKept 80 = .ok (.imul, 1) := by decide +kernel
theorem dX6_isKept_81 : decode cX6_isKept 81 = .ok (.iload 7, 2) := by decide +kernel
theorem dX6_isKept_83 : decode cX6_isKept 83 = .ok (.iadd, 1) := by decide +kernel
theorem dX6_isKept_84 : decode cX6_isKept 84 = .ok (.imul, 1) := by decide +kernel
theorem dX6_isKept_85 : decode cX6_isKept 85 = .ok (.iadd, 1) := by decide +kernel
theorem dX6_isKept_86 : decode cX6_isKept 86 = .ok (.istore 8, 2) := by decide +kernel
theorem dX6_isKept_88 : decode cX6_isKept 88 = .ok (.aload_n 0, 1) := by decide +kernel
theorem dX6_isKept_89 : decode cX6_isKept 89 = .ok (.getfield 9, 3) := by decide +kernel
theorem dX6_isKept_92 : decode cX6_isKept 92 = .ok (.sipush 138, 3) := by decide +kernel
theorem dX6_isKept_95 : decode cX6_isKept 95 = .ok (.iconst 4, 1) := by decide +kernel
theorem dX6_isKept_96 : decode cX6_isKept 96 = .ok (.iload_n 2, 1) := by decide +kernel
theorem dX6_isKept_97 : decode cX6_isKept 97 = .ok (.imul, 1) := by decide +kernel
theorem dX6_isKept_98 : decode cX6_isKept 98 = .ok (.iadd, 1) := by decide +kernel
theorem dX6_isKept_99 : decode cX6_isKept 99 = .ok (.aload_n 0, 1) := by decide +kernel
theorem dX6_isKept_100 : decode cX6_isKept 100 = .ok (.getfield 9, 3) := by decide +kernel
theorem dX6_isKept_103 : decode cX6_isKept 103 = .ok (.iload 8, 2) := by decide +kernel
theorem dX6_isKept_105 : decode cX6_isKept 105 = .ok (.iaload, 1) := by decide +kernel
theorem dX6_isKept_106 : decode cX6_isKept 106 = .ok (.iadd, 1) := by decide +kernel
theorem dX6_isKept_107 : decode cX6_isKept 107 = .ok (.iaload, 1) := by decide +kernel
theorem dX6_isKept_108 : decode cX6_isKept 108 = .ok (.istore 9, 2) := by decide +kernel
theorem dX6_isKept_110 : decode cX6_isKept 110 = .ok (.iload 6, 2) := by decide +kernel
theorem dX6_isKept_112 : decode cX6_isKept 112 = .ok (.ifCond .ne 39, 3) := by decide +kernel
theorem dX6_isKept_115 : decode cX6_isKept 115 = .ok (.aload_n 0, 1) := by decide +kernel
theorem dX6_isKept_116 : decode cX6_isKept 116 = .ok (.getfield 9, 3) := by decide +kernel
theorem dX6_isKept_119 : decode cX6_isKept 119 = .ok (.iload 8, 2) := by decide +kernel
theorem dX6_isKept_121 : decode cX6_isKept 121 = .ok (.iconst 1, 1) := by decide +kernel
theorem dX6_isKept_122 : decode cX6_isKept 122 = .ok (.iadd, 1) := by decide +kernel
theorem dX6_isKept_123 : decode cX6_isKept 123 = .ok (.iaload, 1) := by decide +kernel
theorem dX6_isKept_124 : decode cX6_isKept 124 = .ok (.iload_n 3, 1) := by decide +kernel
theorem dX6_isKept_125 : decode cX6_isKept 125 = .ok (.if_icmp .ne 30, 3) := by decide +kernel
theorem dX6_isKept_128 : decode cX6_isKept 128 = .ok (.iload 9, 2) := by decide +kernel
theorem dX6_isKept_130 : decode cX6_isKept 130 = .ok (.iconst (-1), 1) := by decide +kernel
theorem dX6_isKept_131 : decode cX6_isKept 131 = .ok (.if_icmp .eq 24, 3) := by decide +kernel
theorem dX6_isKept_134 : decode cX6_isKept 134 = .ok (.iload 4, 2) := by decide +kernel
theorem dX6_isKept_136 : decode cX6_isKept 136 = .ok (.iload 9, 2) := by decide +kernel
theorem dX6_isKept_138 : decode cX6_isKept 138 = .ok (.isub, 1) := by decide +kernel
theorem dX6_isKept_139 : decode cX6_isKept 139 = .ok (.aload_n 0, 1) := by decide +kernel
theorem dX6_isKept_140 : decode cX6_isKept 140 = .ok (.getfield 9, 3) := by decide +kernel
theorem dX6_isKept_143 : decode cX6_isKept 143 = .ok (.iload 8, 2) := by decide +kernel
theorem dX6_isKept_145 : decode cX6_isKept 145 = .ok (.iconst 2, 1) := by decide +kernel
theorem dX6_isKept_146 : decode cX6_isKept 146 = .ok (.iadd, 1) := by decide +kernel
theorem dX6_isKept_147 : decode cX6_isKept 147 = .ok (.iaload, 1) := by decide +kernel
theorem dX6_isKept_148 : decode cX6_isKept 148 = .ok (.if_icmp .lt 7, 3) := by decide +kernel
theorem dX6_isKept_151 : decode cX6_isKept 151 = .ok (.iconst 1, 1) := by decide +kernel
theorem dX6_isKept_152 : decode cX6_isKept 152 = .ok (.goto 4, 3) := by decide +kernel
theorem dX6_isKept_155 : decode cX6_isKept 155 = .ok (.iconst 0, 1) := by decide +kernel
theorem dX6_isKept_156 : decode cX6_isKept 156 = .ok (.istore 6, 2) := by decide +kernel
theorem dX6_isKept_158 : decode cX6_isKept 158 = .ok (.iinc 7 1, 3) := by decide +kernel
theorem dX6_isKept_161 : decode cX6_isKept 161 = .ok (.goto (-103), 3) := by decide +kernel
theorem dX6_isKept_164 : decode cX6_isKept 164 = .ok (.iload 6, 2) := by decide +kernel
theorem dX6_isKept_166 : decode cX6_isKept 166 = .ok (.ireturn, 1) := by decide +kernel
set_option maxRecDepth 20000 in
theorem ggX6_isKeptEach_X6_isKept : GoodIn wsX6_isKeptEach wsX6_isKept := goodIn_r _ [5, 6, 7, 8, 9, 10, 11, 12, 13, 14, 15, 16, 17, 18, 19, 20, 21, 22, 23, 24] (by decide +kernel) (by decide +kernel)
set_option maxRecDepth 20000 in
theorem gX6_isKeptEach_X6_isKept : GoodIn wsX6_isKeptEach (wsV RX6 138 RX6 yX6_isKept wsX6_isKept) := goodIn_app (goodIn_of _ (by decide +kernel)) ggX6_isKeptEach_X6_isKept
theorem dX6_isKeptEach_0 : decode cX6_isKeptEach 0 = .ok (.iconst 1, 1) := by decide +kernel
theorem dX6_isKeptEach_1 : decode cX6_isKeptEach 1 = .ok (.istore 5, 2) := by decide +kernel
theorem dX6_isKeptEach_3 : decode cX6_isKeptEach 3 = .ok (.iconst 0, 1) := by decide +kernel
theorem dX6_isKeptEach_4 : decode cX6_isKeptEach 4 = .ok (.istore 6, 2) := by decide +kernel
theorem dX6_isKeptEach_6 : decode cX6_isKeptEach 6 = .ok (.iload 6, 2) := by decide +kernel
theorem dX6_isKeptEach_8 : decode cX6_isKeptEach 8 = .ok (.iload_n 3, 1) := by decide +kernel
theorem dX6_isKeptEach_9 : decode cX6_isKeptEach 9 = .ok (.if_icmp .gt 34, 3) := by decide +kernel
theorem dX6_isKeptEach_12 : decode cX6_isKeptEach 12 = .ok (.iload 5, 2) := by decide +kernel
theorem dX6_isKeptEach_14 : decode cX6_isKeptEach 14 = .ok (.ifCond .eq 20, 3) := by decide +kernel
theorem dX6_isKeptEach_17 : decode cX6_isKeptEach 17 = .ok (.aload_n 0, 1) := by decide +kernel
theorem dX6_isKeptEach_18 : decode cX6_isKeptEach 18 = .ok (.iload_n 1, 1) := by decide +kernel
theorem dX6_isKeptEach_19 : decode cX6_isKeptEach 19 = .ok (.iload_n 2, 1) := by decide +kernel
theorem dX6_isKeptEach_20 : decode cX6_isKeptEach 20 = .ok (.iload 6, 2) := by decide +kernel
theorem dX6_isKeptEach_22 : decode cX6_isKeptEach 22 = .ok (.iload 4, 2) := by decide +kernel
theorem dX6_isKeptEach_24 : decode cX6_isKeptEach 24 = .ok (.invokevirtual 138, 3) := by decide +kernel
theorem dX6_isKeptEach_27 : decode cX6_isKeptEach 27 = .ok (.ifCond .eq 7, 3) := by decide +kernel
theorem dX6_isKeptEach_30 : decode cX6_isKeptEach 30 = .ok (.iconst 1, 1) := by decide +kernel
theorem dX6_isKeptEach_31 : decode cX6_isKeptEach 31 = .ok (.goto 4, 3) := by decide +kernel
theorem dX6_isKeptEach_34 : decode cX6_isKeptEach 34 = .ok (.iconst 0, 1) := by decide +kernel
theorem dX6_isKeptEach_35 : decode cX6_isKeptEach 35 = .ok (.istore 5, 2) := by decide +kernel
theorem dX6_isKeptEach_37 : decode cX6_isKeptEach 37 = .ok (.iinc 6 1, 3) := by decide +kernel
theorem dX6_isKeptEach_40 : decode cX6_isKeptEach 40 = .ok (.goto (-34), 3) := by decide +kernel
theorem dX6_isKeptEach_43 : decode cX6_isKeptEach 43 = .ok (.iload 5, 2) := by decide +kernel
theorem dX6_isKeptEach_45 : decode cX6_isKeptEach 45 = .ok (.ireturn, 1) := by decide +kernel
set_option maxRecDepth 20000 in
theorem ggX6_keeps_X6_isLaw : GoodIn wsX6_keeps wsX6_isLaw := goodIn_r _ [6, 1, 7, 8, 5, 9, 21, 22, 23, 24, 25, 26, 27, 28, 29, 30, 31, 32, 33, 34, 35, 36, 37, 38] (by decide +kernel) (by decide +kernel)
set_option maxRecDepth 20000 in
theorem gX6_keeps_X6_isLaw : GoodIn wsX6_keeps (wsV RX6 135 RX6 yX6_isLaw wsX6_isLaw) := goodIn_app (goodIn_of _ (by decide +kernel)) ggX6_keeps_X6_isLaw
set_option maxRecDepth 20000 in
theorem ggX6_keeps_X6_isChild : GoodIn wsX6_keeps wsX6_isChild := goodIn_r _ [13, 1, 7, 8, 5, 9, 21, 22, 23, 24, 25, 26, 27, 28, 29, 30, 31, 32, 33, 34, 35, 36, 37, 38] (by decide +kernel) (by decide +kernel)
set_option maxRecDepth 20000 in
theorem gX6_keeps_X6_isChild : GoodIn wsX6_keeps (wsV RX6 36 RX6 yX6_isChild wsX6_isChild) := goodIn_app (goodIn_of _ (by decide +kernel)) ggX6_keeps_X6_isChild
set_option maxRecDepth 20000 in
theorem ggX6_keeps_X6_isStuff : GoodIn wsX6_keeps wsX6_isStuff := goodIn_r _ [16, 7, 8, 5, 9] (by decide +kernel) (by decide +kernel)
set_option maxRecDepth 20000 in
theorem gX6_keeps_X6_isStuff : GoodIn wsX6_keeps (va_wsS RX6 40 yX6_isStuff wsX6_isStuff) := goodIn_app (goodIn_of _ (by decide +kernel)) ggX6_keeps_X6_isStuff
set_option maxRecDepth 20000 in
theorem ggX6_keeps_X6_isKept : GoodIn wsX6_keeps wsX6_isKept := goodIn_r _ [20, 1, 21, 22, 23, 24, 25, 26, 27, 28, 29, 30, 31, 32, 33, 34, 35, 36, 37, 38] (by decide +kernel) (by decide +kernel)
set_option maxRecDepth 20000 in
theorem gX6_keeps_X6_isKept : GoodIn wsX6_keeps (wsV RX6 138 RX6 yX6_isKept wsX6_isKept) := goodIn_app (goodIn_of _ (by decide +kernel)) ggX6_keeps_X6_isKept
theorem dX6_keeps_0 : decode cX6_keeps 0 = .ok (.aload_n 0, 1) := by decide +kernel
theorem dX6_keeps_1 : decode cX6_keeps 1 = .ok (.iload_n 1, 1) := by decide +kernel
theorem dX6_keeps_2 : decode cX6_keeps 2 = .ok (.invokevirtual 135, 3) := by decide +kernel
theorem dX6_keeps_5 : decode cX6_keeps 5 = .ok (.ifCond .eq 18, 3) := by decide +kernel
theorem dX6_keeps_8 : decode cX6_keeps 8 = .ok (.aload_n 0, 1) := by decide +kernel
theorem dX6_keeps_9 : decode cX6_keeps 9 = .ok (.iload_n 2, 1) := by decide +kernel
theorem dX6_keeps_10 : decode cX6_keeps 10 = .ok (.invokevirtual 36, 3) := by decide +kernel
theorem dX6_keeps_13 : decode cX6_keeps 13 = .ok (.ifCond .eq 10, 3) := by decide +kernel
theorem dX6_keeps_16 : decode cX6_keeps 16 = .ok (.iload_n 3, 1) := by decide +kernel
theorem dX6_keeps_17 : decode cX6_keeps 17 = .ok (.invokestatic 40, 3) := by decide +kernel
theorem dX6_keeps_20 : decode cX6_keeps 20 = .ok (.ifCond .ne 5, 3) := by decide +kernel
theorem dX6_keeps_23 : decode cX6_keeps 23 = .ok (.iconst (-1), 1) := by decide +kernel
theorem dX6_keeps_24 : decode cX6_keeps 24 = .ok (.ireturn, 1) := by decide +kernel
theorem dX6_keeps_25 : decode cX6_keeps 25 = .ok (.aload_n 0, 1) := by decide +kernel
theorem dX6_keeps_26 : decode cX6_keeps 26 = .ok (.iload_n 1, 1) := by decide +kernel
theorem dX6_keeps_27 : decode cX6_keeps 27 = .ok (.iload_n 2, 1) := by decide +kernel
theorem dX6_keeps_28 : decode cX6_keeps 28 = .ok (.iload_n 3, 1) := by decide +kernel
theorem dX6_keeps_29 : decode cX6_keeps 29 = .ok (.aload_n 0, 1) := by decide +kernel
theorem dX6_keeps_30 : decode cX6_keeps 30 = .ok (.getfield 9, 3) := by decide +kernel
theorem dX6_keeps_33 : decode cX6_keeps 33 = .ok (.sipush 130, 3) := by decide +kernel
theorem dX6_keeps_36 : decode cX6_keeps 36 = .ok (.iload_n 2, 1) := by decide +kernel
theorem dX6_keeps_37 : decode cX6_keeps 37 = .ok (.iadd, 1) := by decide +kernel
theorem dX6_keeps_38 : decode cX6_keeps 38 = .ok (.iaload, 1) := by decide +kernel
theorem dX6_keeps_39 : decode cX6_keeps 39 = .ok (.invokevirtual 138, 3) := by decide +kernel
theorem dX6_keeps_42 : decode cX6_keeps 42 = .ok (.ifCond .eq 7, 3) := by decide +kernel
theorem dX6_keeps_45 : decode cX6_keeps 45 = .ok (.iconst 1, 1) := by decide +kernel
theorem dX6_keeps_46 : decode cX6_keeps 46 = .ok (.goto 4, 3) := by decide +kernel
theorem dX6_keeps_49 : decode cX6_keeps 49 = .ok (.iconst 0, 1) := by decide +kernel
theorem dX6_keeps_50 : decode cX6_keeps 50 = .ok (.ireturn, 1) := by decide +kernel
theorem dX6_letter_0 : decode cX6_letter 0 = .ok (.iload_n 1, 1) := by decide +kernel
theorem dX6_letter_1 : decode cX6_letter 1 = .ok (.tableswitch 96 0 5 #[39, 41, 52, 63, 74, 85], 39) := by decide +kernel
theorem dX6_letter_40 : decode cX6_letter 40 = .ok (.iload_n 3, 1) := by decide +kernel
theorem dX6_letter_41 : decode cX6_letter 41 = .ok (.ireturn, 1) := by decide +kernel
theorem dX6_letter_42 : decode cX6_letter 42 = .ok (.aload_n 0, 1) := by decide +kernel
theorem dX6_letter_43 : decode cX6_letter 43 = .ok (.getfield 9, 3) := by decide +kernel
theorem dX6_letter_46 : decode cX6_letter 46 = .ok (.sipush 170, 3) := by decide +kernel
theorem dX6_letter_49 : decode cX6_letter 49 = .ok (.iload_n 2, 1) := by decide +kernel
theorem dX6_letter_50 : decode cX6_letter 50 = .ok (.iadd, 1) := by decide +kernel
theorem dX6_letter_51 : decode cX6_letter 51 = .ok (.iaload, 1) := by decide +kernel
theorem dX6_letter_52 : decode cX6_letter 52 = .ok (.ireturn, 1) := by decide +kernel
theorem dX6_letter_53 : decode cX6_letter 53 = .ok (.aload_n 0, 1) := by decide +kernel
theorem dX6_letter_54 : decode cX6_letter 54 = .ok (.getfield 9, 3) := by decide +kernel
theorem dX6_letter_57 : decode cX6_letter 57 = .ok (.sipush 186, 3) := by decide +kernel
theorem dX6_letter_60 : decode cX6_letter 60 = .ok (.iload_n 2, 1) := by decide +kernel
theorem dX6_letter_61 : decode cX6_letter 61 = .ok (.iadd, 1) := by decide +kernel
theorem dX6_letter_62 : decode cX6_letter 62 = .ok (.iaload, 1) := by decide +kernel
theorem dX6_letter_63 : decode cX6_letter 63 = .ok (.ireturn, 1) := by decide +kernel
theorem dX6_letter_64 : decode cX6_letter 64 = .ok (.aload_n 0, 1) := by decide +kernel
theorem dX6_letter_65 : decode cX6_letter 65 = .ok (.getfield 9, 3) := by decide +kernel
theorem dX6_letter_68 : decode cX6_letter 68 = .ok (.sipush 202, 3) := by decide +kernel
theorem dX6_letter_71 : decode cX6_letter 71 = .ok (.iload_n 2, 1) := by decide +kernel
theorem dX6_letter_72 : decode cX6_letter 72 = .ok (.iadd, 1) := by decide +kernel
theorem dX6_letter_73 : decode cX6_letter 73 = .ok (.iaload, 1) := by decide +kernel
theorem dX6_letter_74 : decode cX6_letter 74 = .ok (.ireturn, 1) := by decide +kernel
theorem dX6_letter_75 : decode cX6_letter 75 = .ok (.aload_n 0, 1) := by decide +kernel
theorem dX6_letter_76 : decode cX6_letter 76 = .ok (.getfield 9, 3) := by decide +kernel
theorem dX6_letter_79 : decode cX6_letter 79 = .ok (.sipush 218, 3) := by decide +kernel
theorem dX6_letter_82 : decode cX6_letter 82 = .ok (.iload_n 2, 1) := by decide +kernel
theorem dX6_letter_83 : decode cX6_letter 83 = .ok (.iadd, 1) := by decide +kernel
theorem dX6_letter_84 : decode cX6_letter 84 = .ok (.iaload, 1) := by decide +kernel
theorem dX6_letter_85 : decode cX6_letter 85 = .ok (.ireturn, 1) := by decide +kernel
theorem dX6_letter_86 : decode cX6_letter 86 = .ok (.aload_n 0, 1) := by decide +kernel
theorem dX6_letter_87 : decode cX6_letter 87 = .ok (.getfield 9, 3) := by decide +kernel
theorem dX6_letter_90 : decode cX6_letter 90 = .ok (.sipush 234, 3) := by decide +kernel
theorem dX6_letter_93 : decode cX6_letter 93 = .ok (.iload_n 2, 1) := by decide +kernel
theorem dX6_letter_94 : decode cX6_letter 94 = .ok (.iadd, 1) := by decide +kernel
theorem dX6_letter_95 : decode cX6_letter 95 = .ok (.iaload, 1) := by decide +kernel
theorem dX6_letter_96 : decode cX6_letter 96 = .ok (.ireturn, 1) := by decide +kernel
theorem dX6_letter_97 : decode cX6_letter 97 = .ok (.aload_n 0, 1) := by decide +kernel
theorem dX6_letter_98 : decode cX6_letter 98 = .ok (.getfield 9, 3) := by decide +kernel
theorem dX6_letter_101 : decode cX6_letter 101 = .ok (.sipush 266, 3) := by decide +kernel
theorem dX6_letter_104 : decode cX6_letter 104 = .ok (.iload_n 2, 1) := by decide +kernel
theorem dX6_letter_105 : decode cX6_letter 105 = .ok (.iadd, 1) := by decide +kernel
theorem dX6_letter_106 : decode cX6_letter 106 = .ok (.iaload, 1) := by decide +kernel
theorem dX6_letter_107 : decode cX6_letter 107 = .ok (.ifCond .ne 7, 3) := by decide +kernel
theorem dX6_letter_110 : decode cX6_letter 110 = .ok (.iconst 0, 1) := by decide +kernel
theorem dX6_letter_111 : decode cX6_letter 111 = .ok (.goto 4, 3) := by decide +kernel
theorem dX6_letter_114 : decode cX6_letter 114 = .ok (.iconst 1, 1) := by decide +kernel
theorem dX6_letter_115 : decode cX6_letter 115 = .ok (.ireturn, 1) := by decide +kernel
set_option maxRecDepth 20000 in
theorem ggX6_saying_X6_letter : GoodIn wsX6_saying wsX6_letter := goodIn_r _ [7, 1, 8, 9, 10, 11, 12, 13, 14, 15, 16, 17, 18, 19, 20, 21, 22, 23, 24, 25] (by decide +kernel) (by decide +kernel)
set_option maxRecDepth 20000 in
theorem gX6_saying_X6_letter : GoodIn wsX6_saying (wsV RX6 142 RX6 yX6_letter wsX6_letter) := goodIn_app (goodIn_of _ (by decide +kernel)) ggX6_saying_X6_letter
theorem dX6_saying_0 : decode cX6_saying 0 = .ok (.iconst 0, 1) := by decide +kernel
theorem dX6_saying_1 : decode cX6_saying 1 = .ok (.istore 4, 2) := by decide +kernel
theorem dX6_saying_3 : decode cX6_saying 3 = .ok (.sipush 794, 3) := by decide +kernel
theorem dX6_saying_6 : decode cX6_saying 6 = .ok (.sipush 140, 3) := by decide +kernel
theorem dX6_saying_9 : decode cX6_saying 9 = .ok (.iload_n 1, 1) := by decide +kernel
theorem dX6_saying_10 : decode cX6_saying 10 = .ok (.imul, 1) := by decide +kernel
theorem dX6_saying_11 : decode cX6_saying 11 = .ok (.iadd, 1) := by decide +kernel
theorem dX6_saying_12 : decode cX6_saying 12 = .ok (.istore 5, 2) := by decide +kernel
theorem dX6_saying_14 : decode cX6_saying 14 = .ok (.iload 5, 2) := by decide +kernel
theorem dX6_saying_16 : decode cX6_saying 16 = .ok (.sipush 794, 3) := by decide +kernel
theorem dX6_saying_19 : decode cX6_saying 19 = .ok (.sipush 140, 3) := by decide +kernel
theorem dX6_saying_22 : decode cX6_saying 22 = .ok (.iload_n 1, 1) := by decide +kernel
theorem dX6_saying_23 : decode cX6_saying 23 = .ok (.imul, 1) := by decide +kernel
theorem dX6_saying_24 : decode cX6_saying 24 = .ok (.iadd, 1) := by decide +kernel
theorem dX6_saying_25 : decode cX6_saying 25 = .ok (.aload_n 0, 1) := by decide +kernel
theorem dX6_saying_26 : decode cX6_saying 26 = .ok (.getfield 9, 3) := by decide +kernel
theorem dX6_saying_29 : decode cX6_saying 29 = .ok (.sipush 786, 3) := by decide +kernel
theorem dX6_saying_32 : decode cX6_saying 32 = .ok (.iload_n 1, 1) := by decide +kernel
theorem dX6_saying_33 : decode cX6_saying 33 = .ok (.iadd, 1) := by decide +kernel
theorem dX6_saying_34 : decode cX6_saying 34 = .ok (.iaload, 1) := by decide +kernel
theorem dX6_saying_35 : decode cX6_saying 35 = .ok (.iadd, 1) := by decide +kernel
theorem dX6_saying_36 : decode cX6_saying 36 = .ok (.if_icmp .ge 257, 3) := by decide +kernel
theorem dX6_saying_39 : decode cX6_saying 39 = .ok (.aload_n 0, 1) := by decide +kernel
theorem dX6_saying_40 : decode cX6_saying 40 = .ok (.getfield 9, 3) := by decide +kernel
theorem dX6_saying_43 : decode cX6_saying 43 = .ok (.iload 5, 2) := by decide +kernel
theorem dX6_saying_45 : decode cX6_saying 45 = .ok (.iaload, 1) := by decide +kernel
theorem dX6_saying_46 : decode cX6_saying 46 = .ok (.istore 6, 2) := by decide +kernel
theorem dX6_saying_48 : decode cX6_saying 48 = .ok (.iload 6, 2) := by decide +kernel
theorem dX6_saying_50 : decode cX6_saying 50 = .ok (.ifCond .lt 98, 3) := by decide +kernel
theorem dX6_saying_53 : decode cX6_saying 53 = .ok (.aload_n 0, 1) := by decide +kernel
theorem dX6_saying_54 : decode cX6_saying 54 = .ok (.iload 6, 2) := by decide +kernel
theorem dX6_saying_56 : decode cX6_saying 56 = .ok (.bipush 8, 2) := by decide +kernel
theorem dX6_saying_58 : decode cX6_saying 58 = .ok (.irem, 1) := by decide +kernel
theorem dX6_saying_59 : decode cX6_saying 59 = .ok (.iload_n 2, 1) := by decide +kernel
theorem dX6_saying_60 : decode cX6_saying 60 = .ok (.iload_n 3, 1) := by decide +kernel
theorem dX6_saying_61 : decode cX6_saying 61 = .ok (.invokevirtual 142, 3) := by decide +kernel
theorem dX6_saying_64 : decode cX6_saying 64 = .ok (.istore 7, 2) := by decide +kernel
theorem dX6_saying_66 : decode cX6_saying 66 = .ok (.iload 6, 2) := by decide +kernel
theorem dX6_saying_68 : decode cX6_saying 68 = .ok (.bipush 8, 2) := by decide +kernel
theorem dX6_saying_70 : decode cX6_saying 70 = .ok (.idiv, 1) := by decide +kernel
theorem dX6_saying_71 : decode cX6_saying 71 = .ok (.iconst 4, 1) := by decide +kernel
theorem dX6_saying_72 : decode cX6_saying 72 = .ok (.irem, 1) := by decide +kernel
theorem dX6_saying_73 : decode cX6_saying 73 = .ok (.istore 8, 2) := by decide +kernel
theorem dX6_saying_75 : decode cX6_saying 75 = .ok (.iload 6, 2) := by decide +kernel
