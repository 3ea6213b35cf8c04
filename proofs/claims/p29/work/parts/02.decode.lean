theorem dX0_init_0 : decode cX0_init 0 = .ok (.aload_n 0, 1) := by decide +kernel
theorem dX0_init_1 : decode cX0_init 1 = .ok (.invokespecial 3, 3) := by decide +kernel
theorem dX0_init_4 : decode cX0_init 4 = .ok (.return_, 1) := by decide +kernel
theorem dX0_begin_0 : decode cX0_begin 0 = .ok (.aload_n 0, 1) := by decide +kernel
theorem dX0_begin_1 : decode cX0_begin 1 = .ok (.iload_n 2, 1) := by decide +kernel
theorem dX0_begin_2 : decode cX0_begin 2 = .ok (.putfield 9, 3) := by decide +kernel
theorem dX0_begin_5 : decode cX0_begin 5 = .ok (.aload_n 0, 1) := by decide +kernel
theorem dX0_begin_6 : decode cX0_begin 6 = .ok (.iload_n 1, 1) := by decide +kernel
theorem dX0_begin_7 : decode cX0_begin 7 = .ok (.putfield 15, 3) := by decide +kernel
theorem dX0_begin_10 : decode cX0_begin 10 = .ok (.aload_n 0, 1) := by decide +kernel
theorem dX0_begin_11 : decode cX0_begin 11 = .ok (.bipush (-4), 2) := by decide +kernel
theorem dX0_begin_13 : decode cX0_begin 13 = .ok (.putfield 18, 3) := by decide +kernel
theorem dX0_begin_16 : decode cX0_begin 16 = .ok (.aload_n 0, 1) := by decide +kernel
theorem dX0_begin_17 : decode cX0_begin 17 = .ok (.bipush (-4), 2) := by decide +kernel
theorem dX0_begin_19 : decode cX0_begin 19 = .ok (.putfield 21, 3) := by decide +kernel
theorem dX0_begin_22 : decode cX0_begin 22 = .ok (.aload_n 0, 1) := by decide +kernel
theorem dX0_begin_23 : decode cX0_begin 23 = .ok (.iload_n 3, 1) := by decide +kernel
theorem dX0_begin_24 : decode cX0_begin 24 = .ok (.putfield 24, 3) := by decide +kernel
theorem dX0_begin_27 : decode cX0_begin 27 = .ok (.aload_n 0, 1) := by decide +kernel
theorem dX0_begin_28 : decode cX0_begin 28 = .ok (.iconst 0, 1) := by decide +kernel
theorem dX0_begin_29 : decode cX0_begin 29 = .ok (.putfield 27, 3) := by decide +kernel
theorem dX0_begin_32 : decode cX0_begin 32 = .ok (.aload_n 0, 1) := by decide +kernel
theorem dX0_begin_33 : decode cX0_begin 33 = .ok (.iconst 0, 1) := by decide +kernel
theorem dX0_begin_34 : decode cX0_begin 34 = .ok (.putfield 31, 3) := by decide +kernel
theorem dX0_begin_37 : decode cX0_begin 37 = .ok (.aload_n 0, 1) := by decide +kernel
theorem dX0_begin_38 : decode cX0_begin 38 = .ok (.iload 4, 2) := by decide +kernel
theorem dX0_begin_40 : decode cX0_begin 40 = .ok (.putfield 34, 3) := by decide +kernel
theorem dX0_begin_43 : decode cX0_begin 43 = .ok (.return_, 1) := by decide +kernel
theorem dX0_copyFrom_0 : decode cX0_copyFrom 0 = .ok (.aload_n 0, 1) := by decide +kernel
theorem dX0_copyFrom_1 : decode cX0_copyFrom 1 = .ok (.aload_n 1, 1) := by decide +kernel
theorem dX0_copyFrom_2 : decode cX0_copyFrom 2 = .ok (.getfield 9, 3) := by decide +kernel
theorem dX0_copyFrom_5 : decode cX0_copyFrom 5 = .ok (.putfield 9, 3) := by decide +kernel
theorem dX0_copyFrom_8 : decode cX0_copyFrom 8 = .ok (.aload_n 0, 1) := by decide +kernel
theorem dX0_copyFrom_9 : decode cX0_copyFrom 9 = .ok (.aload_n 1, 1) := by decide +kernel
theorem dX0_copyFrom_10 : decode cX0_copyFrom 10 = .ok (.getfield 15, 3) := by decide +kernel
theorem dX0_copyFrom_13 : decode cX0_copyFrom 13 = .ok (.putfield 15, 3) := by decide +kernel
theorem dX0_copyFrom_16 : decode cX0_copyFrom 16 = .ok (.aload_n 0, 1) := by decide +kernel
theorem dX0_copyFrom_17 : decode cX0_copyFrom 17 = .ok (.aload_n 1, 1) := by decide +kernel
theorem dX0_copyFrom_18 : decode cX0_copyFrom 18 = .ok (.getfield 18, 3) := by decide +kernel
theorem dX0_copyFrom_21 : decode cX0_copyFrom 21 = .ok (.putfield 18, 3) := by decide +kernel
theorem dX0_copyFrom_24 : decode cX0_copyFrom 24 = .ok (.aload_n 0, 1) := by decide +kernel
theorem dX0_copyFrom_25 : decode cX0_copyFrom 25 = .ok (.aload_n 1, 1) := by decide +kernel
theorem dX0_copyFrom_26 : decode cX0_copyFrom 26 = .ok (.getfield 21, 3) := by decide +kernel
theorem dX0_copyFrom_29 : decode cX0_copyFrom 29 = .ok (.putfield 21, 3) := by decide +kernel
theorem dX0_copyFrom_32 : decode cX0_copyFrom 32 = .ok (.aload_n 0, 1) := by decide +kernel
theorem dX0_copyFrom_33 : decode cX0_copyFrom 33 = .ok (.aload_n 1, 1) := by decide +kernel
theorem dX0_copyFrom_34 : decode cX0_copyFrom 34 = .ok (.getfield 24, 3) := by decide +kernel
theorem dX0_copyFrom_37 : decode cX0_copyFrom 37 = .ok (.putfield 24, 3) := by decide +kernel
theorem dX0_copyFrom_40 : decode cX0_copyFrom 40 = .ok (.aload_n 0, 1) := by decide +kernel
theorem dX0_copyFrom_41 : decode cX0_copyFrom 41 = .ok (.aload_n 1, 1) := by decide +kernel
theorem dX0_copyFrom_42 : decode cX0_copyFrom 42 = .ok (.getfield 27, 3) := by decide +kernel
theorem dX0_copyFrom_45 : decode cX0_copyFrom 45 = .ok (.putfield 27, 3) := by decide +kernel
theorem dX0_copyFrom_48 : decode cX0_copyFrom 48 = .ok (.aload_n 0, 1) := by decide +kernel
theorem dX0_copyFrom_49 : decode cX0_copyFrom 49 = .ok (.aload_n 1, 1) := by decide +kernel
theorem dX0_copyFrom_50 : decode cX0_copyFrom 50 = .ok (.getfield 31, 3) := by decide +kernel
theorem dX0_copyFrom_53 : decode cX0_copyFrom 53 = .ok (.putfield 31, 3) := by decide +kernel
theorem dX0_copyFrom_56 : decode cX0_copyFrom 56 = .ok (.aload_n 0, 1) := by decide +kernel
theorem dX0_copyFrom_57 : decode cX0_copyFrom 57 = .ok (.aload_n 1, 1) := by decide +kernel
theorem dX0_copyFrom_58 : decode cX0_copyFrom 58 = .ok (.getfield 34, 3) := by decide +kernel
theorem dX0_copyFrom_61 : decode cX0_copyFrom 61 = .ok (.putfield 34, 3) := by decide +kernel
theorem dX0_copyFrom_64 : decode cX0_copyFrom 64 = .ok (.return_, 1) := by decide +kernel
theorem dX1_init_0 : decode cX1_init 0 = .ok (.aload_n 0, 1) := by decide +kernel
theorem dX1_init_1 : decode cX1_init 1 = .ok (.invokespecial 3, 3) := by decide +kernel
theorem dX1_init_4 : decode cX1_init 4 = .ok (.aload_n 0, 1) := by decide +kernel
theorem dX1_init_5 : decode cX1_init 5 = .ok (.bipush 7, 2) := by decide +kernel
theorem dX1_init_7 : decode cX1_init 7 = .ok (.newarray .int, 2) := by decide +kernel
theorem dX1_init_9 : decode cX1_init 9 = .ok (.putfield 9, 3) := by decide +kernel
theorem dX1_init_12 : decode cX1_init 12 = .ok (.return_, 1) := by decide +kernel
theorem dX1_begin_0 : decode cX1_begin 0 = .ok (.aload_n 0, 1) := by decide +kernel
theorem dX1_begin_1 : decode cX1_begin 1 = .ok (.iconst 0, 1) := by decide +kernel
theorem dX1_begin_2 : decode cX1_begin 2 = .ok (.putfield 15, 3) := by decide +kernel
theorem dX1_begin_5 : decode cX1_begin 5 = .ok (.aload_n 0, 1) := by decide +kernel
theorem dX1_begin_6 : decode cX1_begin 6 = .ok (.iconst 0, 1) := by decide +kernel
theorem dX1_begin_7 : decode cX1_begin 7 = .ok (.putfield 19, 3) := by decide +kernel
theorem dX1_begin_10 : decode cX1_begin 10 = .ok (.aload_n 0, 1) := by decide +kernel
theorem dX1_begin_11 : decode cX1_begin 11 = .ok (.iconst 0, 1) := by decide +kernel
theorem dX1_begin_12 : decode cX1_begin 12 = .ok (.putfield 22, 3) := by decide +kernel
theorem dX1_begin_15 : decode cX1_begin 15 = .ok (.aload_n 0, 1) := by decide +kernel
theorem dX1_begin_16 : decode cX1_begin 16 = .ok (.iconst 0, 1) := by decide +kernel
theorem dX1_begin_17 : decode cX1_begin 17 = .ok (.putfield 25, 3) := by decide +kernel
theorem dX1_begin_20 : decode cX1_begin 20 = .ok (.aload_n 0, 1) := by decide +kernel
theorem dX1_begin_21 : decode cX1_begin 21 = .ok (.iconst 0, 1) := by decide +kernel
theorem dX1_begin_22 : decode cX1_begin 22 = .ok (.putfield 28, 3) := by decide +kernel
theorem dX1_begin_25 : decode cX1_begin 25 = .ok (.return_, 1) := by decide +kernel
theorem dX1_addTown_0 : decode cX1_addTown 0 = .ok (.aload_n 0, 1) := by decide +kernel
theorem dX1_addTown_1 : decode cX1_addTown 1 = .ok (.getfield 15, 3) := by decide +kernel
theorem dX1_addTown_4 : decode cX1_addTown 4 = .ok (.ifCond .lt 35, 3) := by decide +kernel
theorem dX1_addTown_7 : decode cX1_addTown 7 = .ok (.aload_n 0, 1) := by decide +kernel
theorem dX1_addTown_8 : decode cX1_addTown 8 = .ok (.getfield 15, 3) := by decide +kernel
theorem dX1_addTown_11 : decode cX1_addTown 11 = .ok (.aload_n 0, 1) := by decide +kernel
theorem dX1_addTown_12 : decode cX1_addTown 12 = .ok (.getfield 9, 3) := by decide +kernel
theorem dX1_addTown_15 : decode cX1_addTown 15 = .ok (.arraylength, 1) := by decide +kernel
theorem dX1_addTown_16 : decode cX1_addTown 16 = .ok (.if_icmp .ge 23, 3) := by decide +kernel
theorem dX1_addTown_19 : decode cX1_addTown 19 = .ok (.aload_n 0, 1) := by decide +kernel
theorem dX1_addTown_20 : decode cX1_addTown 20 = .ok (.getfield 9, 3) := by decide +kernel
theorem dX1_addTown_23 : decode cX1_addTown 23 = .ok (.aload_n 0, 1) := by decide +kernel
theorem dX1_addTown_24 : decode cX1_addTown 24 = .ok (.getfield 15, 3) := by decide +kernel
theorem dX1_addTown_27 : decode cX1_addTown 27 = .ok (.iload_n 1, 1) := by decide +kernel
theorem dX1_addTown_28 : decode cX1_addTown 28 = .ok (.iastore, 1) := by decide +kernel
theorem dX1_addTown_29 : decode cX1_addTown 29 = .ok (.aload_n 0, 1) := by decide +kernel
theorem dX1_addTown_30 : decode cX1_addTown 30 = .ok (.dup, 1) := by decide +kernel
theorem dX1_addTown_31 : decode cX1_addTown 31 = .ok (.getfield 15, 3) := by decide +kernel
theorem dX1_addTown_34 : decode cX1_addTown 34 = .ok (.iconst 1, 1) := by decide +kernel
theorem dX1_addTown_35 : decode cX1_addTown 35 = .ok (.iadd, 1) := by decide +kernel
theorem dX1_addTown_36 : decode cX1_addTown 36 = .ok (.putfield 15, 3) := by decide +kernel
theorem dX1_addTown_39 : decode cX1_addTown 39 = .ok (.return_, 1) := by decide +kernel
theorem dX1_copyFrom_0 : decode cX1_copyFrom 0 = .ok (.iconst 0, 1) := by decide +kernel
theorem dX1_copyFrom_1 : decode cX1_copyFrom 1 = .ok (.istore_n 2, 1) := by decide +kernel
theorem dX1_copyFrom_2 : decode cX1_copyFrom 2 = .ok (.iload_n 2, 1) := by decide +kernel
theorem dX1_copyFrom_3 : decode cX1_copyFrom 3 = .ok (.aload_n 0, 1) := by decide +kernel
theorem dX1_copyFrom_4 : decode cX1_copyFrom 4 = .ok (.getfield 9, 3) := by decide +kernel
theorem dX1_copyFrom_7 : decode cX1_copyFrom 7 = .ok (.arraylength, 1) := by decide +kernel
theorem dX1_copyFrom_8 : decode cX1_copyFrom 8 = .ok (.if_icmp .ge 30, 3) := by decide +kernel
theorem dX1_copyFrom_11 : decode cX1_copyFrom 11 = .ok (.iload_n 2, 1) := by decide +kernel
theorem dX1_copyFrom_12 : decode cX1_copyFrom 12 = .ok (.aload_n 1, 1) := by decide +kernel
theorem dX1_copyFrom_13 : decode cX1_copyFrom 13 = .ok (.getfield 9, 3) := by decide +kernel
theorem dX1_copyFrom_16 : decode cX1_copyFrom 16 = .ok (.arraylength, 1) := by decide +kernel
theorem dX1_copyFrom_17 : decode cX1_copyFrom 17 = .ok (.if_icmp .ge 21, 3) := by decide +kernel
theorem dX1_copyFrom_20 : decode cX1_copyFrom 20 = .ok (.aload_n 0, 1) := by decide +kernel
theorem dX1_copyFrom_21 : decode cX1_copyFrom 21 = .ok (.getfield 9, 3) := by decide +kernel
theorem dX1_copyFrom_24 : decode cX1_copyFrom 24 = .ok (.iload_n 2, 1) := by decide +kernel
theorem dX1_copyFrom_25 : decode cX1_copyFrom 25 = .ok (.aload_n 1, 1) := by decide +kernel
theorem dX1_copyFrom_26 : decode cX1_copyFrom 26 = .ok (.getfield 9, 3) := by decide +kernel
theorem dX1_copyFrom_29 : decode cX1_copyFrom 29 = .ok (.iload_n 2, 1) := by decide +kernel
theorem dX1_copyFrom_30 : decode cX1_copyFrom 30 = .ok (.iaload, 1) := by decide +kernel
theorem dX1_copyFrom_31 : decode cX1_copyFrom 31 = .ok (.iastore, 1) := by decide +kernel
theorem dX1_copyFrom_32 : decode cX1_copyFrom 32 = .ok (.iinc 2 1, 3) := by decide +kernel
theorem dX1_copyFrom_35 : decode cX1_copyFrom 35 = .ok (.goto (-33), 3) := by decide +kernel
theorem dX1_copyFrom_38 : decode cX1_copyFrom 38 = .ok (.aload_n 0, 1) := by decide +kernel
theorem dX1_copyFrom_39 : decode cX1_copyFrom 39 = .ok (.aload_n 1, 1) := by decide +kernel
theorem dX1_copyFrom_40 : decode cX1_copyFrom 40 = .ok (.getfield 15, 3) := by decide +kernel
theorem dX1_copyFrom_43 : decode cX1_copyFrom 43 = .ok (.putfield 15, 3) := by decide +kernel
theorem dX1_copyFrom_46 : decode cX1_copyFrom 46 = .ok (.aload_n 0, 1) := by decide +kernel
theorem dX1_copyFrom_47 : decode cX1_copyFrom 47 = .ok (.aload_n 1, 1) := by decide +kernel
theorem dX1_copyFrom_48 : decode cX1_copyFrom 48 = .ok (.getfield 19, 3) := by decide +kernel
theorem dX1_copyFrom_51 : decode cX1_copyFrom 51 = .ok (.putfield 19, 3) := by decide +kernel
theorem dX1_copyFrom_54 : decode cX1_copyFrom 54 = .ok (.aload_n 0, 1) := by decide +kernel
theorem dX1_copyFrom_55 : decode cX1_copyFrom 55 = .ok (.aload_n 1, 1) := by decide +kernel
theorem dX1_copyFrom_56 : decode cX1_copyFrom 56 = .ok (.getfield 22, 3) := by decide +kernel
theorem dX1_copyFrom_59 : decode cX1_copyFrom 59 = .ok (.putfield 22, 3) := by decide +kernel
theorem dX1_copyFrom_62 : decode cX1_copyFrom 62 = .ok (.aload_n 0, 1) := by decide +kernel
theorem dX1_copyFrom_63 : decode cX1_copyFrom 63 = .ok (.aload_n 1, 1) := by decide +kernel
theorem dX1_copyFrom_64 : decode cX1_copyFrom 64 = .ok (.getfield 25, 3) := by decide +kernel
theorem dX1_copyFrom_67 : decode cX1_copyFrom 67 = .ok (.putfield 25, 3) := by decide +kernel
theorem dX1_copyFrom_70 : decode cX1_copyFrom 70 = .ok (.aload_n 0, 1) := by decide +kernel
theorem dX1_copyFrom_71 : decode cX1_copyFrom 71 = .ok (.aload_n 1, 1) := by decide +kernel
theorem dX1_copyFrom_72 : decode cX1_copyFrom 72 = .ok (.getfield 28, 3) := by decide +kernel
theorem dX1_copyFrom_75 : decode cX1_copyFrom 75 = .ok (.putfield 28, 3) := by decide +kernel
theorem dX1_copyFrom_78 : decode cX1_copyFrom 78 = .ok (.return_, 1) := by decide +kernel
theorem dX2_init_0 : decode cX2_init 0 = .ok (.aload_n 0, 1) := by decide +kernel
theorem dX2_init_1 : decode cX2_init 1 = .ok (.invokespecial 3, 3) := by decide +kernel
theorem dX2_init_4 : decode cX2_init 4 = .ok (.aload_n 0, 1) := by decide +kernel
theorem dX2_init_5 : decode cX2_init 5 = .ok (.iconst 4, 1) := by decide +kernel
theorem dX2_init_6 : decode cX2_init 6 = .ok (.newarray .int, 2) := by decide +kernel
theorem dX2_init_8 : decode cX2_init 8 = .ok (.putfield 9, 3) := by decide +kernel
theorem dX2_init_11 : decode cX2_init 11 = .ok (.return_, 1) := by decide +kernel
theorem dX2_ifLying_0 : decode cX2_ifLying 0 = .ok (.aload_n 0, 1) := by decide +kernel
theorem dX2_ifLying_1 : decode cX2_ifLying 1 = .ok (.aload_n 1, 1) := by decide +kernel
theorem dX2_ifLying_2 : decode cX2_ifLying 2 = .ok (.iload_n 2, 1) := by decide +kernel
theorem dX2_ifLying_3 : decode cX2_ifLying 3 = .ok (.iload_n 3, 1) := by decide +kernel
theorem dX2_ifLying_4 : decode cX2_ifLying 4 = .ok (.iload 4, 2) := by decide +kernel
theorem dX2_ifLying_6 : decode cX2_ifLying 6 = .ok (.invokevirtual 15, 3) := by decide +kernel
theorem dX2_ifLying_9 : decode cX2_ifLying 9 = .ok (.aload_n 0, 1) := by decide +kernel
theorem dX2_ifLying_10 : decode cX2_ifLying 10 = .ok (.getfield 19, 3) := by decide +kernel
theorem dX2_ifLying_13 : decode cX2_ifLying 13 = .ok (.ldc 23, 2) := by decide +kernel
theorem dX2_ifLying_15 : decode cX2_ifLying 15 = .ok (.if_icmp .ne 8, 3) := by decide +kernel
theorem dX2_ifLying_18 : decode cX2_ifLying 18 = .ok (.bipush (-4), 2) := by decide +kernel
theorem dX2_ifLying_20 : decode cX2_ifLying 20 = .ok (.goto 7, 3) := by decide +kernel
theorem dX2_ifLying_23 : decode cX2_ifLying 23 = .ok (.aload_n 0, 1) := by decide +kernel
theorem dX2_ifLying_24 : decode cX2_ifLying 24 = .ok (.getfield 19, 3) := by decide +kernel
theorem dX2_ifLying_27 : decode cX2_ifLying 27 = .ok (.ireturn, 1) := by decide +kernel
theorem dX2_arrivalOf_0 : decode cX2_arrivalOf 0 = .ok (.aload_n 2, 1) := by decide +kernel
theorem dX2_arrivalOf_1 : decode cX2_arrivalOf 1 = .ok (.getfield 24, 3) := by decide +kernel
theorem dX2_arrivalOf_4 : decode cX2_arrivalOf 4 = .ok (.bipush (-4), 2) := by decide +kernel
theorem dX2_arrivalOf_6 : decode cX2_arrivalOf 6 = .ok (.if_icmp .eq 8, 3) := by decide +kernel
theorem dX2_arrivalOf_9 : decode cX2_arrivalOf 9 = .ok (.aload_n 2, 1) := by decide +kernel
theorem dX2_arrivalOf_10 : decode cX2_arrivalOf 10 = .ok (.getfield 24, 3) := by decide +kernel
theorem dX2_arrivalOf_13 : decode cX2_arrivalOf 13 = .ok (.ireturn, 1) := by decide +kernel
theorem dX2_arrivalOf_14 : decode cX2_arrivalOf 14 = .ok (.aload_n 0, 1) := by decide +kernel
theorem dX2_arrivalOf_15 : decode cX2_arrivalOf 15 = .ok (.aload_n 1, 1) := by decide +kernel
theorem dX2_arrivalOf_16 : decode cX2_arrivalOf 16 = .ok (.aload_n 2, 1) := by decide +kernel
theorem dX2_arrivalOf_17 : decode cX2_arrivalOf 17 = .ok (.getfield 29, 3) := by decide +kernel
theorem dX2_arrivalOf_20 : decode cX2_arrivalOf 20 = .ok (.aload_n 2, 1) := by decide +kernel
theorem dX2_arrivalOf_21 : decode cX2_arrivalOf 21 = .ok (.getfield 32, 3) := by decide +kernel
theorem dX2_arrivalOf_24 : decode cX2_arrivalOf 24 = .ok (.aload_n 1, 1) := by decide +kernel
theorem dX2_arrivalOf_25 : decode cX2_arrivalOf 25 = .ok (.getfield 35, 3) := by decide +kernel
theorem dX2_arrivalOf_28 : decode cX2_arrivalOf 28 = .ok (.invokevirtual 15, 3) := by decide +kernel
theorem dX2_arrivalOf_31 : decode cX2_arrivalOf 31 = .ok (.aload_n 0, 1) := by decide +kernel
theorem dX2_arrivalOf_32 : decode cX2_arrivalOf 32 = .ok (.aload_n 2, 1) := by decide +kernel
theorem dX2_arrivalOf_33 : decode cX2_arrivalOf 33 = .ok (.invokevirtual 40, 3) := by decide +kernel
theorem dX2_arrivalOf_36 : decode cX2_arrivalOf 36 = .ok (.istore_n 3, 1) := by decide +kernel
theorem dX2_arrivalOf_37 : decode cX2_arrivalOf 37 = .ok (.iload_n 3, 1) := by decide +kernel
theorem dX2_arrivalOf_38 : decode cX2_arrivalOf 38 = .ok (.ldc 23, 2) := by decide +kernel
theorem dX2_arrivalOf_40 : decode cX2_arrivalOf 40 = .ok (.if_icmp .ne 8, 3) := by decide +kernel
theorem dX2_arrivalOf_43 : decode cX2_arrivalOf 43 = .ok (.bipush (-4), 2) := by decide +kernel
theorem dX2_arrivalOf_45 : decode cX2_arrivalOf 45 = .ok (.goto 4, 3) := by decide +kernel
theorem dX2_arrivalOf_48 : decode cX2_arrivalOf 48 = .ok (.iload_n 3, 1) := by decide +kernel
theorem dX2_arrivalOf_49 : decode cX2_arrivalOf 49 = .ok (.ireturn, 1) := by decide +kernel
theorem dX2_addUpArrivals_0 : decode cX2_addUpArrivals 0 = .ok (.aload_n 0, 1) := by decide +kernel
theorem dX2_addUpArrivals_1 : decode cX2_addUpArrivals 1 = .ok (.iconst 0, 1) := by decide +kernel
theorem dX2_addUpArrivals_2 : decode cX2_addUpArrivals 2 = .ok (.putfield 44, 3) := by decide +kernel
theorem dX2_addUpArrivals_5 : decode cX2_addUpArrivals 5 = .ok (.aload_n 0, 1) := by decide +kernel
theorem dX2_addUpArrivals_6 : decode cX2_addUpArrivals 6 = .ok (.iconst 0, 1) := by decide +kernel
theorem dX2_addUpArrivals_7 : decode cX2_addUpArrivals 7 = .ok (.putfield 47, 3) := by decide +kernel
theorem dX2_addUpArrivals_10 : decode cX2_addUpArrivals 10 = .ok (.iconst 0, 1) := by decide +kernel
theorem dX2_addUpArrivals_11 : decode cX2_addUpArrivals 11 = .ok (.istore_n 2, 1) := by decide +kernel
theorem dX2_addUpArrivals_12 : decode cX2_addUpArrivals 12 = .ok (.iload_n 2, 1) := by decide +kernel
theorem dX2_addUpArrivals_13 : decode cX2_addUpArrivals 13 = .ok (.aload_n 1, 1) := by decide +kernel
theorem dX2_addUpArrivals_14 : decode cX2_addUpArrivals 14 = .ok (.getfield 50, 3) := by decide +kernel
theorem dX2_addUpArrivals_17 : decode cX2_addUpArrivals 17 = .ok (.if_icmp .ge 67, 3) := by decide +kernel
theorem dX2_addUpArrivals_20 : decode cX2_addUpArrivals 20 = .ok (.aload_n 1, 1) := by decide +kernel
theorem dX2_addUpArrivals_21 : decode cX2_addUpArrivals 21 = .ok (.iload_n 2, 1) := by decide +kernel
theorem dX2_addUpArrivals_22 : decode cX2_addUpArrivals 22 = .ok (.invokevirtual 53, 3) := by decide +kernel
theorem dX2_addUpArrivals_25 : decode cX2_addUpArrivals 25 = .ok (.astore_n 3, 1) := by decide +kernel
theorem dX2_addUpArrivals_26 : decode cX2_addUpArrivals 26 = .ok (.aload_n 3, 1) := by decide +kernel
theorem dX2_addUpArrivals_27 : decode cX2_addUpArrivals 27 = .ok (.ifnull 51, 3) := by decide +kernel
theorem dX2_addUpArrivals_30 : decode cX2_addUpArrivals 30 = .ok (.aload_n 3, 1) := by decide +kernel
theorem dX2_addUpArrivals_31 : decode cX2_addUpArrivals 31 = .ok (.getfield 24, 3) := by decide +kernel
theorem dX2_addUpArrivals_34 : decode cX2_addUpArrivals 34 = .ok (.bipush (-4), 2) := by decide +kernel
theorem dX2_addUpArrivals_36 : decode cX2_addUpArrivals 36 = .ok (.if_icmp .eq 6, 3) := by decide +kernel
theorem dX2_addUpArrivals_39 : decode cX2_addUpArrivals 39 = .ok (.goto 39, 3) := by decide +kernel
theorem dX2_addUpArrivals_42 : decode cX2_addUpArrivals 42 = .ok (.aload_n 0, 1) := by decide +kernel
theorem dX2_addUpArrivals_43 : decode cX2_addUpArrivals 43 = .ok (.aload_n 1, 1) := by decide +kernel
theorem dX2_addUpArrivals_44 : decode cX2_addUpArrivals 44 = .ok (.aload_n 3, 1) := by decide +kernel
theorem dX2_addUpArrivals_45 : decode cX2_addUpArrivals 45 = .ok (.invokevirtual 57, 3) := by decide +kernel
theorem dX2_addUpArrivals_48 : decode cX2_addUpArrivals 48 = .ok (.istore 4, 2) := by decide +kernel
theorem dX2_addUpArrivals_50 : decode cX2_addUpArrivals 50 = .ok (.iload 4, 2) := by decide +kernel
theorem dX2_addUpArrivals_52 : decode cX2_addUpArrivals 52 = .ok (.bipush (-4), 2) := by decide +kernel
theorem dX2_addUpArrivals_54 : decode cX2_addUpArrivals 54 = .ok (.if_icmp .eq 24, 3) := by decide +kernel
theorem dX2_addUpArrivals_57 : decode cX2_addUpArrivals 57 = .ok (.aload_n 0, 1) := by decide +kernel
theorem dX2_addUpArrivals_58 : decode cX2_addUpArrivals 58 = .ok (.dup, 1) := by decide +kernel
theorem dX2_addUpArrivals_59 : decode cX2_addUpArrivals 59 = .ok (.getfield 44, 3) := by decide +kernel
theorem dX2_addUpArrivals_62 : decode cX2_addUpArrivals 62 = .ok (.iconst 1, 1) := by decide +kernel
theorem dX2_addUpArrivals_63 : decode cX2_addUpArrivals 63 = .ok (.iadd, 1) := by decide +kernel
theorem dX2_addUpArrivals_64 : decode cX2_addUpArrivals 64 = .ok (.putfield 44, 3) := by decide +kernel
theorem dX2_addUpArrivals_67 : decode cX2_addUpArrivals 67 = .ok (.aload_n 0, 1) := by decide +kernel
theorem dX2_addUpArrivals_68 : decode cX2_addUpArrivals 68 = .ok (.dup, 1) := by decide +kernel
theorem dX2_addUpArrivals_69 : decode cX2_addUpArrivals 69 = .ok (.getfield 47, 3) := by decide +kernel
theorem dX2_addUpArrivals_72 : decode cX2_addUpArrivals 72 = .ok (.iload 4, 2) := by decide +kernel
theorem dX2_addUpArrivals_74 : decode cX2_addUpArrivals 74 = .ok (.iadd, 1) := by decide +kernel
theorem dX2_addUpArrivals_75 : decode cX2_addUpArrivals 75 = .ok (.putfield 47, 3) := by decide +kernel
theorem dX2_addUpArrivals_78 : decode cX2_addUpArrivals 78 = .ok (.iinc 2 1, 3) := by decide +kernel
theorem dX2_addUpArrivals_81 : decode cX2_addUpArrivals 81 = .ok (.goto (-69), 3) := by decide +kernel
theorem dX2_addUpArrivals_84 : decode cX2_addUpArrivals 84 = .ok (.return_, 1) := by decide +kernel
theorem dX2_bestTaker_0 : decode cX2_bestTaker 0 = .ok (.aload_n 0, 1) := by decide +kernel
theorem dX2_bestTaker_1 : decode cX2_bestTaker 1 = .ok (.aload_n 1, 1) := by decide +kernel
theorem dX2_bestTaker_2 : decode cX2_bestTaker 2 = .ok (.aload_n 2, 1) := by decide +kernel
theorem dX2_bestTaker_3 : decode cX2_bestTaker 3 = .ok (.getfield 29, 3) := by decide +kernel
theorem dX2_bestTaker_6 : decode cX2_bestTaker 6 = .ok (.aload_n 2, 1) := by decide +kernel
theorem dX2_bestTaker_7 : decode cX2_bestTaker 7 = .ok (.getfield 32, 3) := by decide +kernel
theorem dX2_bestTaker_10 : decode cX2_bestTaker 10 = .ok (.aload_n 1, 1) := by decide +kernel
theorem dX2_bestTaker_11 : decode cX2_bestTaker 11 = .ok (.getfield 35, 3) := by decide +kernel
theorem dX2_bestTaker_14 : decode cX2_bestTaker 14 = .ok (.invokevirtual 15, 3) := by decide +kernel
theorem dX2_bestTaker_17 : decode cX2_bestTaker 17 = .ok (.bipush (-4), 2) := by decide +kernel
theorem dX2_bestTaker_19 : decode cX2_bestTaker 19 = .ok (.istore 4, 2) := by decide +kernel
theorem dX2_bestTaker_21 : decode cX2_bestTaker 21 = .ok (.aload_n 0, 1) := by decide +kernel
theorem dX2_bestTaker_22 : decode cX2_bestTaker 22 = .ok (.aload_n 2, 1) := by decide +kernel
theorem dX2_bestTaker_23 : decode cX2_bestTaker 23 = .ok (.invokevirtual 40, 3) := by decide +kernel
theorem dX2_bestTaker_26 : decode cX2_bestTaker 26 = .ok (.istore 5, 2) := by decide +kernel
theorem dX2_bestTaker_28 : decode cX2_bestTaker 28 = .ok (.iconst 0, 1) := by decide +kernel
theorem dX2_bestTaker_29 : decode cX2_bestTaker 29 = .ok (.istore 6, 2) := by decide +kernel
theorem dX2_bestTaker_31 : decode cX2_bestTaker 31 = .ok (.iload 6, 2) := by decide +kernel
theorem dX2_bestTaker_33 : decode cX2_bestTaker 33 = .ok (.aload_n 0, 1) := by decide +kernel
theorem dX2_bestTaker_34 : decode cX2_bestTaker 34 = .ok (.getfield 9, 3) := by decide +kernel
theorem dX2_bestTaker_37 : decode cX2_bestTaker 37 = .ok (.arraylength, 1) := by decide +kernel
theorem dX2_bestTaker_38 : decode cX2_bestTaker 38 = .ok (.if_icmp .ge 43, 3) := by decide +kernel
theorem dX2_bestTaker_41 : decode cX2_bestTaker 41 = .ok (.iload_n 3, 1) := by decide +kernel
theorem dX2_bestTaker_42 : decode cX2_bestTaker 42 = .ok (.iconst 1, 1) := by decide +kernel
theorem dX2_bestTaker_43 : decode cX2_bestTaker 43 = .ok (.iload 6, 2) := by decide +kernel
theorem dX2_bestTaker_45 : decode cX2_bestTaker 45 = .ok (.ishl, 1) := by decide +kernel
theorem dX2_bestTaker_46 : decode cX2_bestTaker 46 = .ok (.iand, 1) := by decide +kernel
theorem dX2_bestTaker_47 : decode cX2_bestTaker 47 = .ok (.ifCond .eq 28, 3) := by decide +kernel
theorem dX2_bestTaker_50 : decode cX2_bestTaker 50 = .ok (.aload_n 0, 1) := by decide +kernel
theorem dX2_bestTaker_51 : decode cX2_bestTaker 51 = .ok (.getfield 9, 3) := by decide +kernel
theorem dX2_bestTaker_54 : decode cX2_bestTaker 54 = .ok (.iload 6, 2) := by decide +kernel
theorem dX2_bestTaker_56 : decode cX2_bestTaker 56 = .ok (.iaload, 1) := by decide +kernel
theorem dX2_bestTaker_57 : decode cX2_bestTaker 57 = .ok (.iload 5, 2) := by decide +kernel
theorem dX2_bestTaker_59 : decode cX2_bestTaker 59 = .ok (.if_icmp .ge 16, 3) := by decide +kernel
theorem dX2_bestTaker_62 : decode cX2_bestTaker 62 = .ok (.aload_n 0, 1) := by decide +kernel
theorem dX2_bestTaker_63 : decode cX2_bestTaker 63 = .ok (.getfield 9, 3) := by decide +kernel
theorem dX2_bestTaker_66 : decode cX2_bestTaker 66 = .ok (.iload 6, 2) := by decide +kernel
theorem dX2_bestTaker_68 : decode cX2_bestTaker 68 = .ok (.iaload, 1) := by decide +kernel
theorem dX2_bestTaker_69 : decode cX2_bestTaker 69 = .ok (.istore 5, 2) := by decide +kernel
theorem dX2_bestTaker_71 : decode cX2_bestTaker 71 = .ok (.iload 6, 2) := by decide +kernel
theorem dX2_bestTaker_73 : decode cX2_bestTaker 73 = .ok (.istore 4, 2) := by decide +kernel
theorem dX2_bestTaker_75 : decode cX2_bestTaker 75 = .ok (.iinc 6 1, 3) := by decide +kernel
theorem dX2_bestTaker_78 : decode cX2_bestTaker 78 = .ok (.goto (-47), 3) := by decide +kernel
theorem dX2_bestTaker_81 : decode cX2_bestTaker 81 = .ok (.iload 4, 2) := by decide +kernel
theorem dX2_bestTaker_83 : decode cX2_bestTaker 83 = .ok (.ireturn, 1) := by decide +kernel
theorem dX2_ifStaying_0 : decode cX2_ifStaying 0 = .ok (.aload_n 1, 1) := by decide +kernel
theorem dX2_ifStaying_1 : decode cX2_ifStaying 1 = .ok (.getfield 61, 3) := by decide +kernel
theorem dX2_ifStaying_4 : decode cX2_ifStaying 4 = .ok (.bipush (-4), 2) := by decide +kernel
theorem dX2_ifStaying_6 : decode cX2_ifStaying 6 = .ok (.if_icmp .ne 8, 3) := by decide +kernel
theorem dX2_ifStaying_9 : decode cX2_ifStaying 9 = .ok (.aload_n 0, 1) := by decide +kernel
theorem dX2_ifStaying_10 : decode cX2_ifStaying 10 = .ok (.getfield 19, 3) := by decide +kernel
theorem dX2_ifStaying_13 : decode cX2_ifStaying 13 = .ok (.ireturn, 1) := by decide +kernel
theorem dX2_ifStaying_14 : decode cX2_ifStaying 14 = .ok (.aload_n 1, 1) := by decide +kernel
theorem dX2_ifStaying_15 : decode cX2_ifStaying 15 = .ok (.getfield 61, 3) := by decide +kernel
theorem dX2_ifStaying_18 : decode cX2_ifStaying 18 = .ok (.ifCond .lt 27, 3) := by decide +kernel
theorem dX2_ifStaying_21 : decode cX2_ifStaying 21 = .ok (.aload_n 1, 1) := by decide +kernel
theorem dX2_ifStaying_22 : decode cX2_ifStaying 22 = .ok (.getfield 61, 3) := by decide +kernel
theorem dX2_ifStaying_25 : decode cX2_ifStaying 25 = .ok (.aload_n 0, 1) := by decide +kernel
theorem dX2_ifStaying_26 : decode cX2_ifStaying 26 = .ok (.getfield 9, 3) := by decide +kernel
theorem dX2_ifStaying_29 : decode cX2_ifStaying 29 = .ok (.arraylength, 1) := by decide +kernel
theorem dX2_ifStaying_30 : decode cX2_ifStaying 30 = .ok (.if_icmp .ge 15, 3) := by decide +kernel
theorem dX2_ifStaying_33 : decode cX2_ifStaying 33 = .ok (.aload_n 0, 1) := by decide +kernel
theorem dX2_ifStaying_34 : decode cX2_ifStaying 34 = .ok (.getfield 9, 3) := by decide +kernel
theorem dX2_ifStaying_37 : decode cX2_ifStaying 37 = .ok (.aload_n 1, 1) := by decide +kernel
theorem dX2_ifStaying_38 : decode cX2_ifStaying 38 = .ok (.getfield 61, 3) := by decide +kernel
theorem dX2_ifStaying_41 : decode cX2_ifStaying 41 = .ok (.iaload, 1) := by decide +kernel
theorem dX2_ifStaying_42 : decode cX2_ifStaying 42 = .ok (.goto 5, 3) := by decide +kernel
theorem dX2_ifStaying_45 : decode cX2_ifStaying 45 = .ok (.ldc 23, 2) := by decide +kernel
theorem dX2_ifStaying_47 : decode cX2_ifStaying 47 = .ok (.ireturn, 1) := by decide +kernel
theorem dX2_lookBack_0 : decode cX2_lookBack 0 = .ok (.aload_n 0, 1) := by decide +kernel
theorem dX2_lookBack_1 : decode cX2_lookBack 1 = .ok (.getfield 9, 3) := by decide +kernel
theorem dX2_lookBack_4 : decode cX2_lookBack 4 = .ok (.ldc 23, 2) := by decide +kernel
theorem dX2_lookBack_6 : decode cX2_lookBack 6 = .ok (.invokestatic 64, 3) := by decide +kernel
theorem dX2_lookBack_9 : decode cX2_lookBack 9 = .ok (.aload_n 0, 1) := by decide +kernel
theorem dX2_lookBack_10 : decode cX2_lookBack 10 = .ok (.ldc 23, 2) := by decide +kernel
theorem dX2_lookBack_12 : decode cX2_lookBack 12 = .ok (.putfield 19, 3) := by decide +kernel
theorem dX2_lookBack_15 : decode cX2_lookBack 15 = .ok (.bipush 30, 2) := by decide +kernel
theorem dX2_lookBack_17 : decode cX2_lookBack 17 = .ok (.istore 5, 2) := by decide +kernel
theorem dX2_lookBack_19 : decode cX2_lookBack 19 = .ok (.iload 5, 2) := by decide +kernel
theorem dX2_lookBack_21 : decode cX2_lookBack 21 = .ok (.iconst 1, 1) := by decide +kernel
theorem dX2_lookBack_22 : decode cX2_lookBack 22 = .ok (.if_icmp .lt 21, 3) := by decide +kernel
theorem dX2_lookBack_25 : decode cX2_lookBack 25 = .ok (.aload_n 0, 1) := by decide +kernel
theorem dX2_lookBack_26 : decode cX2_lookBack 26 = .ok (.aload_n 1, 1) := by decide +kernel
theorem dX2_lookBack_27 : decode cX2_lookBack 27 = .ok (.iload_n 2, 1) := by decide +kernel
theorem dX2_lookBack_28 : decode cX2_lookBack 28 = .ok (.iload_n 3, 1) := by decide +kernel
theorem dX2_lookBack_29 : decode cX2_lookBack 29 = .ok (.iload 4, 2) := by decide +kernel
theorem dX2_lookBack_31 : decode cX2_lookBack 31 = .ok (.iload 5, 2) := by decide +kernel
theorem dX2_lookBack_33 : decode cX2_lookBack 33 = .ok (.iadd, 1) := by decide +kernel
theorem dX2_lookBack_34 : decode cX2_lookBack 34 = .ok (.invokevirtual 70, 3) := by decide +kernel
theorem dX2_lookBack_37 : decode cX2_lookBack 37 = .ok (.iinc 5 (-1), 3) := by decide +kernel
theorem dX2_lookBack_40 : decode cX2_lookBack 40 = .ok (.goto (-21), 3) := by decide +kernel
theorem dX2_lookBack_43 : decode cX2_lookBack 43 = .ok (.return_, 1) := by decide +kernel
theorem dX2_stepBack_0 : decode cX2_stepBack 0 = .ok (.aload_n 1, 1) := by decide +kernel
theorem dX2_stepBack_1 : decode cX2_stepBack 1 = .ok (.iload 4, 2) := by decide +kernel
theorem dX2_stepBack_3 : decode cX2_stepBack 3 = .ok (.invokevirtual 73, 3) := by decide +kernel
theorem dX2_stepBack_6 : decode cX2_stepBack 6 = .ok (.istore 5, 2) := by decide +kernel
theorem dX2_stepBack_8 : decode cX2_stepBack 8 = .ok (.ldc 23, 2) := by decide +kernel
theorem dX2_stepBack_10 : decode cX2_stepBack 10 = .ok (.istore 6, 2) := by decide +kernel
theorem dX2_stepBack_12 : decode cX2_stepBack 12 = .ok (.iconst 0, 1) := by decide +kernel
theorem dX2_stepBack_13 : decode cX2_stepBack 13 = .ok (.istore 7, 2) := by decide +kernel
theorem dX2_stepBack_15 : decode cX2_stepBack 15 = .ok (.iload 7, 2) := by decide +kernel
theorem dX2_stepBack_17 : decode cX2_stepBack 17 = .ok (.aload_n 0, 1) := by decide +kernel
theorem dX2_stepBack_18 : decode cX2_stepBack 18 = .ok (.getfield 9, 3) := by decide +kernel
theorem dX2_stepBack_21 : decode cX2_stepBack 21 = .ok (.arraylength, 1) := by decide +kernel
theorem dX2_stepBack_22 : decode cX2_stepBack 22 = .ok (.if_icmp .ge 64, 3) := by decide +kernel
theorem dX2_stepBack_25 : decode cX2_stepBack 25 = .ok (.aload_n 1, 1) := by decide +kernel
theorem dX2_stepBack_26 : decode cX2_stepBack 26 = .ok (.iload 7, 2) := by decide +kernel
theorem dX2_stepBack_28 : decode cX2_stepBack 28 = .ok (.iload 4, 2) := by decide +kernel
theorem dX2_stepBack_30 : decode cX2_stepBack 30 = .ok (.invokevirtual 77, 3) := by decide +kernel
theorem dX2_stepBack_33 : decode cX2_stepBack 33 = .ok (.istore 8, 2) := by decide +kernel
theorem dX2_stepBack_35 : decode cX2_stepBack 35 = .ok (.iload 8, 2) := by decide +kernel
theorem dX2_stepBack_37 : decode cX2_stepBack 37 = .ok (.iload 5, 2) := by decide +kernel
theorem dX2_stepBack_39 : decode cX2_stepBack 39 = .ok (.if_icmp .ne 17, 3) := by decide +kernel
theorem dX2_stepBack_42 : decode cX2_stepBack 42 = .ok (.iload 6, 2) := by decide +kernel
theorem dX2_stepBack_44 : decode cX2_stepBack 44 = .ok (.aload_n 0, 1) := by decide +kernel
theorem dX2_stepBack_45 : decode cX2_stepBack 45 = .ok (.getfield 9, 3) := by decide +kernel
theorem dX2_stepBack_48 : decode cX2_stepBack 48 = .ok (.iload 7, 2) := by decide +kernel
theorem dX2_stepBack_50 : decode cX2_stepBack 50 = .ok (.iaload, 1) := by decide +kernel
theorem dX2_stepBack_51 : decode cX2_stepBack 51 = .ok (.invokestatic 81, 3) := by decide +kernel
theorem dX2_stepBack_54 : decode cX2_stepBack 54 = .ok (.istore 6, 2) := by decide +kernel
theorem dX2_stepBack_56 : decode cX2_stepBack 56 = .ok (.iload 8, 2) := by decide +kernel
theorem dX2_stepBack_58 : decode cX2_stepBack 58 = .ok (.iload_n 2, 1) := by decide +kernel
theorem dX2_stepBack_59 : decode cX2_stepBack 59 = .ok (.if_icmp .ne 21, 3) := by decide +kernel
theorem dX2_stepBack_62 : decode cX2_stepBack 62 = .ok (.aload_n 0, 1) := by decide +kernel
theorem dX2_stepBack_63 : decode cX2_stepBack 63 = .ok (.aload_n 0, 1) := by decide +kernel
theorem dX2_stepBack_64 : decode cX2_stepBack 64 = .ok (.getfield 19, 3) := by decide +kernel
theorem dX2_stepBack_67 : decode cX2_stepBack 67 = .ok (.aload_n 0, 1) := by decide +kernel
theorem dX2_stepBack_68 : decode cX2_stepBack 68 = .ok (.getfield 9, 3) := by decide +kernel
theorem dX2_stepBack_71 : decode cX2_stepBack 71 = .ok (.iload 7, 2) := by decide +kernel
theorem dX2_stepBack_73 : decode cX2_stepBack 73 = .ok (.iaload, 1) := by decide +kernel
theorem dX2_stepBack_74 : decode cX2_stepBack 74 = .ok (.invokestatic 81, 3) := by decide +kernel
theorem dX2_stepBack_77 : decode cX2_stepBack 77 = .ok (.putfield 19, 3) := by decide +kernel
theorem dX2_stepBack_80 : decode cX2_stepBack 80 = .ok (.iinc 7 1, 3) := by decide +kernel
theorem dX2_stepBack_83 : decode cX2_stepBack 83 = .ok (.goto (-68), 3) := by decide +kernel
theorem dX2_stepBack_86 : decode cX2_stepBack 86 = .ok (.iconst 0, 1) := by decide +kernel
theorem dX2_stepBack_87 : decode cX2_stepBack 87 = .ok (.istore 7, 2) := by decide +kernel
theorem dX2_stepBack_89 : decode cX2_stepBack 89 = .ok (.iload 7, 2) := by decide +kernel
theorem dX2_stepBack_91 : decode cX2_stepBack 91 = .ok (.aload_n 0, 1) := by decide +kernel
theorem dX2_stepBack_92 : decode cX2_stepBack 92 = .ok (.getfield 9, 3) := by decide +kernel
theorem dX2_stepBack_95 : decode cX2_stepBack 95 = .ok (.arraylength, 1) := by decide +kernel
theorem dX2_stepBack_96 : decode cX2_stepBack 96 = .ok (.if_icmp .ge 53, 3) := by decide +kernel
theorem dX2_stepBack_99 : decode cX2_stepBack 99 = .ok (.aload_n 1, 1) := by decide +kernel
theorem dX2_stepBack_100 : decode cX2_stepBack 100 = .ok (.iload 7, 2) := by decide +kernel
theorem dX2_stepBack_102 : decode cX2_stepBack 102 = .ok (.iload 4, 2) := by decide +kernel
theorem dX2_stepBack_104 : decode cX2_stepBack 104 = .ok (.invokevirtual 77, 3) := by decide +kernel
theorem dX2_stepBack_107 : decode cX2_stepBack 107 = .ok (.istore 8, 2) := by decide +kernel
theorem dX2_stepBack_109 : decode cX2_stepBack 109 = .ok (.iload 8, 2) := by decide +kernel
theorem dX2_stepBack_111 : decode cX2_stepBack 111 = .ok (.iload_n 3, 1) := by decide +kernel
theorem dX2_stepBack_112 : decode cX2_stepBack 112 = .ok (.if_icmp .ne 15, 3) := by decide +kernel
theorem dX2_stepBack_115 : decode cX2_stepBack 115 = .ok (.aload_n 0, 1) := by decide +kernel
theorem dX2_stepBack_116 : decode cX2_stepBack 116 = .ok (.getfield 9, 3) := by decide +kernel
theorem dX2_stepBack_119 : decode cX2_stepBack 119 = .ok (.iload 7, 2) := by decide +kernel
theorem dX2_stepBack_121 : decode cX2_stepBack 121 = .ok (.iload 4, 2) := by decide +kernel
theorem dX2_stepBack_123 : decode cX2_stepBack 123 = .ok (.iastore, 1) := by decide +kernel
theorem dX2_stepBack_124 : decode cX2_stepBack 124 = .ok (.goto 19, 3) := by decide +kernel
theorem dX2_stepBack_127 : decode cX2_stepBack 127 = .ok (.iload 8, 2) := by decide +kernel
theorem dX2_stepBack_129 : decode cX2_stepBack 129 = .ok (.iload 5, 2) := by decide +kernel
theorem dX2_stepBack_131 : decode cX2_stepBack 131 = .ok (.if_icmp .ne 12, 3) := by decide +kernel
theorem dX2_stepBack_134 : decode cX2_stepBack 134 = .ok (.aload_n 0, 1) := by decide +kernel
theorem dX2_stepBack_135 : decode cX2_stepBack 135 = .ok (.getfield 9, 3) := by decide +kernel
theorem dX2_stepBack_138 : decode cX2_stepBack 138 = .ok (.iload 7, 2) := by decide +kernel
theorem dX2_stepBack_140 : decode cX2_stepBack 140 = .ok (.iload 6, 2) := by decide +kernel
theorem dX2_stepBack_142 : decode cX2_stepBack 142 = .ok (.iastore, 1) := by decide +kernel
theorem dX2_stepBack_143 : decode cX2_stepBack 143 = .ok (.iinc 7 1, 3) := by decide +kernel
theorem dX2_stepBack_146 : decode cX2_stepBack 146 = .ok (.goto (-57), 3) := by decide +kernel
theorem dX2_stepBack_149 : decode cX2_stepBack 149 = .ok (.return_, 1) := by decide +kernel
theorem dX2_arrivalByHands_0 : decode cX2_arrivalByHands 0 = .ok (.aload_n 2, 1) := by decide +kernel
theorem dX2_arrivalByHands_1 : decode cX2_arrivalByHands 1 = .ok (.getfield 24, 3) := by decide +kernel
theorem dX2_arrivalByHands_4 : decode cX2_arrivalByHands 4 = .ok (.bipush (-4), 2) := by decide +kernel
theorem dX2_arrivalByHands_6 : decode cX2_arrivalByHands 6 = .ok (.if_icmp .eq 8, 3) := by decide +kernel
theorem dX2_arrivalByHands_9 : decode cX2_arrivalByHands 9 = .ok (.aload_n 2, 1) := by decide +kernel
theorem dX2_arrivalByHands_10 : decode cX2_arrivalByHands 10 = .ok (.getfield 24, 3) := by decide +kernel
theorem dX2_arrivalByHands_13 : decode cX2_arrivalByHands 13 = .ok (.ireturn, 1) := by decide +kernel
theorem dX2_arrivalByHands_14 : decode cX2_arrivalByHands 14 = .ok (.aload_n 2, 1) := by decide +kernel
theorem dX2_arrivalByHands_15 : decode cX2_arrivalByHands 15 = .ok (.getfield 61, 3) := by decide +kernel
theorem dX2_arrivalByHands_18 : decode cX2_arrivalByHands 18 = .ok (.bipush (-4), 2) := by decide +kernel
theorem dX2_arrivalByHands_20 : decode cX2_arrivalByHands 20 = .ok (.if_icmp .ne 7, 3) := by decide +kernel
theorem dX2_arrivalByHands_23 : decode cX2_arrivalByHands 23 = .ok (.iconst 0, 1) := by decide +kernel
theorem dX2_arrivalByHands_24 : decode cX2_arrivalByHands 24 = .ok (.goto 9, 3) := by decide +kernel
theorem dX2_arrivalByHands_27 : decode cX2_arrivalByHands 27 = .ok (.iconst 1, 1) := by decide +kernel
theorem dX2_arrivalByHands_28 : decode cX2_arrivalByHands 28 = .ok (.aload_n 2, 1) := by decide +kernel
theorem dX2_arrivalByHands_29 : decode cX2_arrivalByHands 29 = .ok (.getfield 61, 3) := by decide +kernel
theorem dX2_arrivalByHands_32 : decode cX2_arrivalByHands 32 = .ok (.ishl, 1) := by decide +kernel
theorem dX2_arrivalByHands_33 : decode cX2_arrivalByHands 33 = .ok (.istore_n 3, 1) := by decide +kernel
theorem dX2_arrivalByHands_34 : decode cX2_arrivalByHands 34 = .ok (.iconst 1, 1) := by decide +kernel
theorem dX2_arrivalByHands_35 : decode cX2_arrivalByHands 35 = .ok (.istore 4, 2) := by decide +kernel
theorem dX2_arrivalByHands_37 : decode cX2_arrivalByHands 37 = .ok (.iload 4, 2) := by decide +kernel
theorem dX2_arrivalByHands_39 : decode cX2_arrivalByHands 39 = .ok (.bipush 30, 2) := by decide +kernel
theorem dX2_arrivalByHands_41 : decode cX2_arrivalByHands 41 = .ok (.if_icmp .gt 75, 3) := by decide +kernel
theorem dX2_arrivalByHands_44 : decode cX2_arrivalByHands 44 = .ok (.aload_n 1, 1) := by decide +kernel
theorem dX2_arrivalByHands_45 : decode cX2_arrivalByHands 45 = .ok (.getfield 35, 3) := by decide +kernel
theorem dX2_arrivalByHands_48 : decode cX2_arrivalByHands 48 = .ok (.iload 4, 2) := by decide +kernel
theorem dX2_arrivalByHands_50 : decode cX2_arrivalByHands 50 = .ok (.iadd, 1) := by decide +kernel
theorem dX2_arrivalByHands_51 : decode cX2_arrivalByHands 51 = .ok (.istore 5, 2) := by decide +kernel
theorem dX2_arrivalByHands_53 : decode cX2_arrivalByHands 53 = .ok (.iload_n 3, 1) := by decide +kernel
theorem dX2_arrivalByHands_54 : decode cX2_arrivalByHands 54 = .ok (.aload_n 1, 1) := by decide +kernel
theorem dX2_arrivalByHands_55 : decode cX2_arrivalByHands 55 = .ok (.aload_n 2, 1) := by decide +kernel
theorem dX2_arrivalByHands_56 : decode cX2_arrivalByHands 56 = .ok (.getfield 32, 3) := by decide +kernel
theorem dX2_arrivalByHands_59 : decode cX2_arrivalByHands 59 = .ok (.iload 5, 2) := by decide +kernel
theorem dX2_arrivalByHands_61 : decode cX2_arrivalByHands 61 = .ok (.invokevirtual 86, 3) := by decide +kernel
theorem dX2_arrivalByHands_64 : decode cX2_arrivalByHands 64 = .ok (.iand, 1) := by decide +kernel
theorem dX2_arrivalByHands_65 : decode cX2_arrivalByHands 65 = .ok (.ifCond .eq 6, 3) := by decide +kernel
theorem dX2_arrivalByHands_68 : decode cX2_arrivalByHands 68 = .ok (.iload 5, 2) := by decide +kernel
theorem dX2_arrivalByHands_70 : decode cX2_arrivalByHands 70 = .ok (.ireturn, 1) := by decide +kernel
theorem dX2_arrivalByHands_71 : decode cX2_arrivalByHands 71 = .ok (.aload_n 1, 1) := by decide +kernel
theorem dX2_arrivalByHands_72 : decode cX2_arrivalByHands 72 = .ok (.aload_n 1, 1) := by decide +kernel
theorem dX2_arrivalByHands_73 : decode cX2_arrivalByHands 73 = .ok (.iload 5, 2) := by decide +kernel
theorem dX2_arrivalByHands_75 : decode cX2_arrivalByHands 75 = .ok (.invokevirtual 73, 3) := by decide +kernel
theorem dX2_arrivalByHands_78 : decode cX2_arrivalByHands 78 = .ok (.iload 5, 2) := by decide +kernel
theorem dX2_arrivalByHands_80 : decode cX2_arrivalByHands 80 = .ok (.invokevirtual 86, 3) := by decide +kernel
theorem dX2_arrivalByHands_83 : decode cX2_arrivalByHands 83 = .ok (.istore 6, 2) := by decide +kernel
theorem dX2_arrivalByHands_85 : decode cX2_arrivalByHands 85 = .ok (.iload_n 3, 1) := by decide +kernel
theorem dX2_arrivalByHands_86 : decode cX2_arrivalByHands 86 = .ok (.iload 6, 2) := by decide +kernel
theorem dX2_arrivalByHands_88 : decode cX2_arrivalByHands 88 = .ok (.iand, 1) := by decide +kernel
theorem dX2_arrivalByHands_89 : decode cX2_arrivalByHands 89 = .ok (.ifCond .eq 8, 3) := by decide +kernel
theorem dX2_arrivalByHands_92 : decode cX2_arrivalByHands 92 = .ok (.iload_n 3, 1) := by decide +kernel
theorem dX2_arrivalByHands_93 : decode cX2_arrivalByHands 93 = .ok (.iload 6, 2) := by decide +kernel
theorem dX2_arrivalByHands_95 : decode cX2_arrivalByHands 95 = .ok (.ior, 1) := by decide +kernel
theorem dX2_arrivalByHands_96 : decode cX2_arrivalByHands 96 = .ok (.istore_n 3, 1) := by decide +kernel
theorem dX2_arrivalByHands_97 : decode cX2_arrivalByHands 97 = .ok (.iload_n 3, 1) := by decide +kernel
theorem dX2_arrivalByHands_98 : decode cX2_arrivalByHands 98 = .ok (.aload_n 1, 1) := by decide +kernel
theorem dX2_arrivalByHands_99 : decode cX2_arrivalByHands 99 = .ok (.aload_n 2, 1) := by decide +kernel
theorem dX2_arrivalByHands_100 : decode cX2_arrivalByHands 100 = .ok (.getfield 29, 3) := by decide +kernel
theorem dX2_arrivalByHands_103 : decode cX2_arrivalByHands 103 = .ok (.iload 5, 2) := by decide +kernel
theorem dX2_arrivalByHands_105 : decode cX2_arrivalByHands 105 = .ok (.invokevirtual 86, 3) := by decide +kernel
theorem dX2_arrivalByHands_108 : decode cX2_arrivalByHands 108 = .ok (.ior, 1) := by decide +kernel
theorem dX2_arrivalByHands_109 : decode cX2_arrivalByHands 109 = .ok (.istore_n 3, 1) := by decide +kernel
theorem dX2_arrivalByHands_110 : decode cX2_arrivalByHands 110 = .ok (.iinc 4 1, 3) := by decide +kernel
theorem dX2_arrivalByHands_113 : decode cX2_arrivalByHands 113 = .ok (.goto (-76), 3) := by decide +kernel
theorem dX2_arrivalByHands_116 : decode cX2_arrivalByHands 116 = .ok (.bipush (-4), 2) := by decide +kernel
theorem dX2_arrivalByHands_118 : decode cX2_arrivalByHands 118 = .ok (.ireturn, 1) := by decide +kernel
theorem dX3_init_0 : decode cX3_init 0 = .ok (.aload_n 0, 1) := by decide +kernel
theorem dX3_init_1 : decode cX3_init 1 = .ok (.invokespecial 3, 3) := by decide +kernel
theorem dX3_init_4 : decode cX3_init 4 = .ok (.aload_n 0, 1) := by decide +kernel
theorem dX3_init_5 : decode cX3_init 5 = .ok (.iconst 4, 1) := by decide +kernel
theorem dX3_init_6 : decode cX3_init 6 = .ok (.anewarray 9, 3) := by decide +kernel
theorem dX3_init_9 : decode cX3_init 9 = .ok (.putfield 11, 3) := by decide +kernel
theorem dX3_init_12 : decode cX3_init 12 = .ok (.iconst 0, 1) := by decide +kernel
theorem dX3_init_13 : decode cX3_init 13 = .ok (.istore_n 1, 1) := by decide +kernel
theorem dX3_init_14 : decode cX3_init 14 = .ok (.iload_n 1, 1) := by decide +kernel
theorem dX3_init_15 : decode cX3_init 15 = .ok (.aload_n 0, 1) := by decide +kernel
theorem dX3_init_16 : decode cX3_init 16 = .ok (.getfield 11, 3) := by decide +kernel
theorem dX3_init_19 : decode cX3_init 19 = .ok (.arraylength, 1) := by decide +kernel
theorem dX3_init_20 : decode cX3_init 20 = .ok (.if_icmp .ge 22, 3) := by decide +kernel
theorem dX3_init_23 : decode cX3_init 23 = .ok (.aload_n 0, 1) := by decide +kernel
theorem dX3_init_24 : decode cX3_init 24 = .ok (.getfield 11, 3) := by decide +kernel
theorem dX3_init_27 : decode cX3_init 27 = .ok (.iload_n 1, 1) := by decide +kernel
theorem dX3_init_28 : decode cX3_init 28 = .ok (.new 9, 3) := by decide +kernel
theorem dX3_init_31 : decode cX3_init 31 = .ok (.dup, 1) := by decide +kernel
theorem dX3_init_32 : decode cX3_init 32 = .ok (.invokespecial 17, 3) := by decide +kernel
theorem dX3_init_35 : decode cX3_init 35 = .ok (.aastore, 1) := by decide +kernel
theorem dX3_init_36 : decode cX3_init 36 = .ok (.iinc 1 1, 3) := by decide +kernel
theorem dX3_init_39 : decode cX3_init 39 = .ok (.goto (-25), 3) := by decide +kernel
theorem dX3_init_42 : decode cX3_init 42 = .ok (.return_, 1) := by decide +kernel
theorem dX3_keep_0 : decode cX3_keep 0 = .ok (.aload_n 0, 1) := by decide +kernel
theorem dX3_keep_1 : decode cX3_keep 1 = .ok (.getfield 18, 3) := by decide +kernel
theorem dX3_keep_4 : decode cX3_keep 4 = .ok (.aload_n 0, 1) := by decide +kernel
theorem dX3_keep_5 : decode cX3_keep 5 = .ok (.getfield 11, 3) := by decide +kernel
theorem dX3_keep_8 : decode cX3_keep 8 = .ok (.arraylength, 1) := by decide +kernel
theorem dX3_keep_9 : decode cX3_keep 9 = .ok (.if_icmp .lt 7, 3) := by decide +kernel
theorem dX3_keep_12 : decode cX3_keep 12 = .ok (.aload_n 0, 1) := by decide +kernel
theorem dX3_keep_13 : decode cX3_keep 13 = .ok (.invokevirtual 22, 3) := by decide +kernel
theorem dX3_keep_16 : decode cX3_keep 16 = .ok (.aload_n 0, 1) := by decide +kernel
theorem dX3_keep_17 : decode cX3_keep 17 = .ok (.aload_n 0, 1) := by decide +kernel
theorem dX3_keep_18 : decode cX3_keep 18 = .ok (.getfield 18, 3) := by decide +kernel
theorem dX3_keep_21 : decode cX3_keep 21 = .ok (.invokevirtual 25, 3) := by decide +kernel
theorem dX3_keep_24 : decode cX3_keep 24 = .ok (.astore_n 2, 1) := by decide +kernel
theorem dX3_keep_25 : decode cX3_keep 25 = .ok (.aload_n 2, 1) := by decide +kernel
theorem dX3_keep_26 : decode cX3_keep 26 = .ok (.ifnull 18, 3) := by decide +kernel
theorem dX3_keep_29 : decode cX3_keep 29 = .ok (.aload_n 2, 1) := by decide +kernel
theorem dX3_keep_30 : decode cX3_keep 30 = .ok (.aload_n 1, 1) := by decide +kernel
theorem dX3_keep_31 : decode cX3_keep 31 = .ok (.invokevirtual 29, 3) := by decide +kernel
theorem dX3_keep_34 : decode cX3_keep 34 = .ok (.aload_n 0, 1) := by decide +kernel
theorem dX3_keep_35 : decode cX3_keep 35 = .ok (.dup, 1) := by decide +kernel
theorem dX3_keep_36 : decode cX3_keep 36 = .ok (.getfield 18, 3) := by decide +kernel
theorem dX3_keep_39 : decode cX3_keep 39 = .ok (.iconst 1, 1) := by decide +kernel
theorem dX3_keep_40 : decode cX3_keep 40 = .ok (.iadd, 1) := by decide +kernel
theorem dX3_keep_41 : decode cX3_keep 41 = .ok (.putfield 18, 3) := by decide +kernel
theorem dX3_keep_44 : decode cX3_keep 44 = .ok (.return_, 1) := by decide +kernel
theorem dX3_takeBack_0 : decode cX3_takeBack 0 = .ok (.aload_n 0, 1) := by decide +kernel
theorem dX3_takeBack_1 : decode cX3_takeBack 1 = .ok (.aload_n 0, 1) := by decide +kernel
theorem dX3_takeBack_2 : decode cX3_takeBack 2 = .ok (.getfield 18, 3) := by decide +kernel
theorem dX3_takeBack_5 : decode cX3_takeBack 5 = .ok (.iconst 1, 1) := by decide +kernel
theorem dX3_takeBack_6 : decode cX3_takeBack 6 = .ok (.isub, 1) := by decide +kernel
theorem dX3_takeBack_7 : decode cX3_takeBack 7 = .ok (.invokevirtual 25, 3) := by decide +kernel
theorem dX3_takeBack_10 : decode cX3_takeBack 10 = .ok (.astore_n 2, 1) := by decide +kernel
theorem dX3_takeBack_11 : decode cX3_takeBack 11 = .ok (.aload_n 2, 1) := by decide +kernel
theorem dX3_takeBack_12 : decode cX3_takeBack 12 = .ok (.ifnull 18, 3) := by decide +kernel
theorem dX3_takeBack_15 : decode cX3_takeBack 15 = .ok (.aload_n 1, 1) := by decide +kernel
theorem dX3_takeBack_16 : decode cX3_takeBack 16 = .ok (.aload_n 2, 1) := by decide +kernel
theorem dX3_takeBack_17 : decode cX3_takeBack 17 = .ok (.invokevirtual 29, 3) := by decide +kernel
theorem dX3_takeBack_20 : decode cX3_takeBack 20 = .ok (.aload_n 0, 1) := by decide +kernel
theorem dX3_takeBack_21 : decode cX3_takeBack 21 = .ok (.dup, 1) := by decide +kernel
theorem dX3_takeBack_22 : decode cX3_takeBack 22 = .ok (.getfield 18, 3) := by decide +kernel
theorem dX3_takeBack_25 : decode cX3_takeBack 25 = .ok (.iconst 1, 1) := by decide +kernel
theorem dX3_takeBack_26 : decode cX3_takeBack 26 = .ok (.isub, 1) := by decide +kernel
theorem dX3_takeBack_27 : decode cX3_takeBack 27 = .ok (.putfield 18, 3) := by decide +kernel
theorem dX3_takeBack_30 : decode cX3_takeBack 30 = .ok (.return_, 1) := by decide +kernel
theorem dX3_stateAt_0 : decode cX3_stateAt 0 = .ok (.iload_n 1, 1) := by decide +kernel
theorem dX3_stateAt_1 : decode cX3_stateAt 1 = .ok (.ifCond .lt 21, 3) := by decide +kernel
theorem dX3_stateAt_4 : decode cX3_stateAt 4 = .ok (.iload_n 1, 1) := by decide +kernel
theorem dX3_stateAt_5 : decode cX3_stateAt 5 = .ok (.aload_n 0, 1) := by decide +kernel
theorem dX3_stateAt_6 : decode cX3_stateAt 6 = .ok (.getfield 11, 3) := by decide +kernel
theorem dX3_stateAt_9 : decode cX3_stateAt 9 = .ok (.arraylength, 1) := by decide +kernel
theorem dX3_stateAt_10 : decode cX3_stateAt 10 = .ok (.if_icmp .ge 12, 3) := by decide +kernel
theorem dX3_stateAt_13 : decode cX3_stateAt 13 = .ok (.aload_n 0, 1) := by decide +kernel
theorem dX3_stateAt_14 : decode cX3_stateAt 14 = .ok (.getfield 11, 3) := by decide +kernel
theorem dX3_stateAt_17 : decode cX3_stateAt 17 = .ok (.iload_n 1, 1) := by decide +kernel
theorem dX3_stateAt_18 : decode cX3_stateAt 18 = .ok (.aaload, 1) := by decide +kernel
theorem dX3_stateAt_19 : decode cX3_stateAt 19 = .ok (.goto 4, 3) := by decide +kernel
theorem dX3_stateAt_22 : decode cX3_stateAt 22 = .ok (.aconst_null, 1) := by decide +kernel
theorem dX3_stateAt_23 : decode cX3_stateAt 23 = .ok (.areturn, 1) := by decide +kernel
theorem dX3_dropOldest_0 : decode cX3_dropOldest 0 = .ok (.aload_n 0, 1) := by decide +kernel
theorem dX3_dropOldest_1 : decode cX3_dropOldest 1 = .ok (.iconst 0, 1) := by decide +kernel
theorem dX3_dropOldest_2 : decode cX3_dropOldest 2 = .ok (.invokevirtual 25, 3) := by decide +kernel
theorem dX3_dropOldest_5 : decode cX3_dropOldest 5 = .ok (.astore_n 1, 1) := by decide +kernel
theorem dX3_dropOldest_6 : decode cX3_dropOldest 6 = .ok (.iconst 0, 1) := by decide +kernel
theorem dX3_dropOldest_7 : decode cX3_dropOldest 7 = .ok (.istore_n 2, 1) := by decide +kernel
theorem dX3_dropOldest_8 : decode cX3_dropOldest 8 = .ok (.iconst 0, 1) := by decide +kernel
theorem dX3_dropOldest_9 : decode cX3_dropOldest 9 = .ok (.istore_n 3, 1) := by decide +kernel
theorem dX3_dropOldest_10 : decode cX3_dropOldest 10 = .ok (.iload_n 3, 1) := by decide +kernel
theorem dX3_dropOldest_11 : decode cX3_dropOldest 11 = .ok (.iconst 1, 1) := by decide +kernel
theorem dX3_dropOldest_12 : decode cX3_dropOldest 12 = .ok (.iadd, 1) := by decide +kernel
theorem dX3_dropOldest_13 : decode cX3_dropOldest 13 = .ok (.aload_n 0, 1) := by decide +kernel
theorem dX3_dropOldest_14 : decode cX3_dropOldest 14 = .ok (.getfield 11, 3) := by decide +kernel
theorem dX3_dropOldest_17 : decode cX3_dropOldest 17 = .ok (.arraylength, 1) := by decide +kernel
theorem dX3_dropOldest_18 : decode cX3_dropOldest 18 = .ok (.if_icmp .ge 27, 3) := by decide +kernel
theorem dX3_dropOldest_21 : decode cX3_dropOldest 21 = .ok (.aload_n 0, 1) := by decide +kernel
theorem dX3_dropOldest_22 : decode cX3_dropOldest 22 = .ok (.getfield 11, 3) := by decide +kernel
theorem dX3_dropOldest_25 : decode cX3_dropOldest 25 = .ok (.iload_n 3, 1) := by decide +kernel
theorem dX3_dropOldest_26 : decode cX3_dropOldest 26 = .ok (.aload_n 0, 1) := by decide +kernel
theorem dX3_dropOldest_27 : decode cX3_dropOldest 27 = .ok (.getfield 11, 3) := by decide +kernel
theorem dX3_dropOldest_30 : decode cX3_dropOldest 30 = .ok (.iload_n 3, 1) := by decide +kernel
theorem dX3_dropOldest_31 : decode cX3_dropOldest 31 = .ok (.iconst 1, 1) := by decide +kernel
theorem dX3_dropOldest_32 : decode cX3_dropOldest 32 = .ok (.iadd, 1) := by decide +kernel
theorem dX3_dropOldest_33 : decode cX3_dropOldest 33 = .ok (.aaload, 1) := by decide +kernel
theorem dX3_dropOldest_34 : decode cX3_dropOldest 34 = .ok (.aastore, 1) := by decide +kernel
theorem dX3_dropOldest_35 : decode cX3_dropOldest 35 = .ok (.iload_n 3, 1) := by decide +kernel
theorem dX3_dropOldest_36 : decode cX3_dropOldest 36 = .ok (.iconst 1, 1) := by decide +kernel
theorem dX3_dropOldest_37 : decode cX3_dropOldest 37 = .ok (.iadd, 1) := by decide +kernel
theorem dX3_dropOldest_38 : decode cX3_dropOldest 38 = .ok (.istore_n 2, 1) := by decide +kernel
theorem dX3_dropOldest_39 : decode cX3_dropOldest 39 = .ok (.iinc 3 1, 3) := by decide +kernel
theorem dX3_dropOldest_42 : decode cX3_dropOldest 42 = .ok (.goto (-32), 3) := by decide +kernel
theorem dX3_dropOldest_45 : decode cX3_dropOldest 45 = .ok (.iload_n 2, 1) := by decide +kernel
theorem dX3_dropOldest_46 : decode cX3_dropOldest 46 = .ok (.aload_n 0, 1) := by decide +kernel
theorem dX3_dropOldest_47 : decode cX3_dropOldest 47 = .ok (.getfield 11, 3) := by decide +kernel
theorem dX3_dropOldest_50 : decode cX3_dropOldest 50 = .ok (.arraylength, 1) := by decide +kernel
theorem dX3_dropOldest_51 : decode cX3_dropOldest 51 = .ok (.if_icmp .ge 10, 3) := by decide +kernel
theorem dX3_dropOldest_54 : decode cX3_dropOldest 54 = .ok (.aload_n 0, 1) := by decide +kernel
theorem dX3_dropOldest_55 : decode cX3_dropOldest 55 = .ok (.getfield 11, 3) := by decide +kernel
theorem dX3_dropOldest_58 : decode cX3_dropOldest 58 = .ok (.iload_n 2, 1) := by decide +kernel
theorem dX3_dropOldest_59 : decode cX3_dropOldest 59 = .ok (.aload_n 1, 1) := by decide +kernel
theorem dX3_dropOldest_60 : decode cX3_dropOldest 60 = .ok (.aastore, 1) := by decide +kernel
theorem dX3_dropOldest_61 : decode cX3_dropOldest 61 = .ok (.aload_n 0, 1) := by decide +kernel
theorem dX3_dropOldest_62 : decode cX3_dropOldest 62 = .ok (.iload_n 2, 1) := by decide +kernel
theorem dX3_dropOldest_63 : decode cX3_dropOldest 63 = .ok (.putfield 18, 3) := by decide +kernel
theorem dX3_dropOldest_66 : decode cX3_dropOldest 66 = .ok (.return_, 1) := by decide +kernel
theorem dX4_init_0 : decode cX4_init 0 = .ok (.aload_n 0, 1) := by decide +kernel
theorem dX4_init_1 : decode cX4_init 1 = .ok (.invokespecial 3, 3) := by decide +kernel
theorem dX4_init_4 : decode cX4_init 4 = .ok (.aload_n 0, 1) := by decide +kernel
theorem dX4_init_5 : decode cX4_init 5 = .ok (.bipush 60, 2) := by decide +kernel
theorem dX4_init_7 : decode cX4_init 7 = .ok (.newarray .int, 2) := by decide +kernel
theorem dX4_init_9 : decode cX4_init 9 = .ok (.putfield 9, 3) := by decide +kernel
theorem dX4_init_12 : decode cX4_init 12 = .ok (.return_, 1) := by decide +kernel
theorem dX4_add_0 : decode cX4_add 0 = .ok (.aload_n 0, 1) := by decide +kernel
theorem dX4_add_1 : decode cX4_add 1 = .ok (.getfield 15, 3) := by decide +kernel
theorem dX4_add_4 : decode cX4_add 4 = .ok (.ifCond .lt 35, 3) := by decide +kernel
theorem dX4_add_7 : decode cX4_add 7 = .ok (.aload_n 0, 1) := by decide +kernel
theorem dX4_add_8 : decode cX4_add 8 = .ok (.getfield 15, 3) := by decide +kernel
theorem dX4_add_11 : decode cX4_add 11 = .ok (.aload_n 0, 1) := by decide +kernel
theorem dX4_add_12 : decode cX4_add 12 = .ok (.getfield 9, 3) := by decide +kernel
theorem dX4_add_15 : decode cX4_add 15 = .ok (.arraylength, 1) := by decide +kernel
theorem dX4_add_16 : decode cX4_add 16 = .ok (.if_icmp .ge 23, 3) := by decide +kernel
theorem dX4_add_19 : decode cX4_add 19 = .ok (.aload_n 0, 1) := by decide +kernel
theorem dX4_add_20 : decode cX4_add 20 = .ok (.getfield 9, 3) := by decide +kernel
theorem dX4_add_23 : decode cX4_add 23 = .ok (.aload_n 0, 1) := by decide +kernel
theorem dX4_add_24 : decode cX4_add 24 = .ok (.getfield 15, 3) := by decide +kernel
theorem dX4_add_27 : decode cX4_add 27 = .ok (.iload_n 1, 1) := by decide +kernel
theorem dX4_add_28 : decode cX4_add 28 = .ok (.iastore, 1) := by decide +kernel
theorem dX4_add_29 : decode cX4_add 29 = .ok (.aload_n 0, 1) := by decide +kernel
theorem dX4_add_30 : decode cX4_add 30 = .ok (.dup, 1) := by decide +kernel
theorem dX4_add_31 : decode cX4_add 31 = .ok (.getfield 15, 3) := by decide +kernel
theorem dX4_add_34 : decode cX4_add 34 = .ok (.iconst 1, 1) := by decide +kernel
theorem dX4_add_35 : decode cX4_add 35 = .ok (.iadd, 1) := by decide +kernel
theorem dX4_add_36 : decode cX4_add 36 = .ok (.putfield 15, 3) := by decide +kernel
theorem dX4_add_39 : decode cX4_add 39 = .ok (.return_, 1) := by decide +kernel
theorem dX4_signAt_0 : decode cX4_signAt 0 = .ok (.iload_n 1, 1) := by decide +kernel
theorem dX4_signAt_1 : decode cX4_signAt 1 = .ok (.ifCond .lt 29, 3) := by decide +kernel
theorem dX4_signAt_4 : decode cX4_signAt 4 = .ok (.iload_n 1, 1) := by decide +kernel
theorem dX4_signAt_5 : decode cX4_signAt 5 = .ok (.aload_n 0, 1) := by decide +kernel
theorem dX4_signAt_6 : decode cX4_signAt 6 = .ok (.getfield 15, 3) := by decide +kernel
theorem dX4_signAt_9 : decode cX4_signAt 9 = .ok (.if_icmp .ge 21, 3) := by decide +kernel
theorem dX4_signAt_12 : decode cX4_signAt 12 = .ok (.iload_n 1, 1) := by decide +kernel
theorem dX4_signAt_13 : decode cX4_signAt 13 = .ok (.aload_n 0, 1) := by decide +kernel
theorem dX4_signAt_14 : decode cX4_signAt 14 = .ok (.getfield 9, 3) := by decide +kernel
theorem dX4_signAt_17 : decode cX4_signAt 17 = .ok (.arraylength, 1) := by decide +kernel
theorem dX4_signAt_18 : decode cX4_signAt 18 = .ok (.if_icmp .ge 12, 3) := by decide +kernel
theorem dX4_signAt_21 : decode cX4_signAt 21 = .ok (.aload_n 0, 1) := by decide +kernel
theorem dX4_signAt_22 : decode cX4_signAt 22 = .ok (.getfield 9, 3) := by decide +kernel
theorem dX4_signAt_25 : decode cX4_signAt 25 = .ok (.iload_n 1, 1) := by decide +kernel
theorem dX4_signAt_26 : decode cX4_signAt 26 = .ok (.iaload, 1) := by decide +kernel
theorem dX4_signAt_27 : decode cX4_signAt 27 = .ok (.goto 4, 3) := by decide +kernel
theorem dX4_signAt_30 : decode cX4_signAt 30 = .ok (.iconst 0, 1) := by decide +kernel
theorem dX4_signAt_31 : decode cX4_signAt 31 = .ok (.ireturn, 1) := by decide +kernel
theorem dX4_parts_0 : decode cX4_parts 0 = .ok (.iconst 1, 1) := by decide +kernel
theorem dX4_parts_1 : decode cX4_parts 1 = .ok (.istore_n 2, 1) := by decide +kernel
theorem dX4_parts_2 : decode cX4_parts 2 = .ok (.iconst 0, 1) := by decide +kernel
theorem dX4_parts_3 : decode cX4_parts 3 = .ok (.istore_n 3, 1) := by decide +kernel
theorem dX4_parts_4 : decode cX4_parts 4 = .ok (.iload_n 3, 1) := by decide +kernel
theorem dX4_parts_5 : decode cX4_parts 5 = .ok (.aload_n 0, 1) := by decide +kernel
theorem dX4_parts_6 : decode cX4_parts 6 = .ok (.getfield 15, 3) := by decide +kernel
theorem dX4_parts_9 : decode cX4_parts 9 = .ok (.if_icmp .ge 21, 3) := by decide +kernel
theorem dX4_parts_12 : decode cX4_parts 12 = .ok (.aload_n 0, 1) := by decide +kernel
theorem dX4_parts_13 : decode cX4_parts 13 = .ok (.iload_n 3, 1) := by decide +kernel
theorem dX4_parts_14 : decode cX4_parts 14 = .ok (.invokevirtual 19, 3) := by decide +kernel
theorem dX4_parts_17 : decode cX4_parts 17 = .ok (.iload_n 1, 1) := by decide +kernel
theorem dX4_parts_18 : decode cX4_parts 18 = .ok (.if_icmp .ne 6, 3) := by decide +kernel
theorem dX4_parts_21 : decode cX4_parts 21 = .ok (.iinc 2 1, 3) := by decide +kernel
theorem dX4_parts_24 : decode cX4_parts 24 = .ok (.iinc 3 1, 3) := by decide +kernel
theorem dX4_parts_27 : decode cX4_parts 27 = .ok (.goto (-23), 3) := by decide +kernel
theorem dX4_parts_30 : decode cX4_parts 30 = .ok (.iload_n 2, 1) := by decide +kernel
theorem dX4_parts_31 : decode cX4_parts 31 = .ok (.ireturn, 1) := by decide +kernel
theorem dX4_faultAsTours_0 : decode cX4_faultAsTours 0 = .ok (.iconst 0, 1) := by decide +kernel
theorem dX4_faultAsTours_1 : decode cX4_faultAsTours 1 = .ok (.istore_n 1, 1) := by decide +kernel
theorem dX4_faultAsTours_2 : decode cX4_faultAsTours 2 = .ok (.iconst 0, 1) := by decide +kernel
theorem dX4_faultAsTours_3 : decode cX4_faultAsTours 3 = .ok (.istore_n 2, 1) := by decide +kernel
theorem dX4_faultAsTours_4 : decode cX4_faultAsTours 4 = .ok (.iload_n 2, 1) := by decide +kernel
theorem dX4_faultAsTours_5 : decode cX4_faultAsTours 5 = .ok (.aload_n 0, 1) := by decide +kernel
theorem dX4_faultAsTours_6 : decode cX4_faultAsTours 6 = .ok (.getfield 15, 3) := by decide +kernel
theorem dX4_faultAsTours_9 : decode cX4_faultAsTours 9 = .ok (.if_icmp .ge 26, 3) := by decide +kernel
theorem dX4_faultAsTours_12 : decode cX4_faultAsTours 12 = .ok (.iload_n 1, 1) := by decide +kernel
theorem dX4_faultAsTours_13 : decode cX4_faultAsTours 13 = .ok (.aload_n 0, 1) := by decide +kernel
theorem dX4_faultAsTours_14 : decode cX4_faultAsTours 14 = .ok (.iload_n 2, 1) := by decide +kernel
theorem dX4_faultAsTours_15 : decode cX4_faultAsTours 15 = .ok (.invokevirtual 19, 3) := by decide +kernel
theorem dX4_faultAsTours_18 : decode cX4_faultAsTours 18 = .ok (.invokestatic 23, 3) := by decide +kernel
theorem dX4_faultAsTours_21 : decode cX4_faultAsTours 21 = .ok (.istore_n 1, 1) := by decide +kernel
theorem dX4_faultAsTours_22 : decode cX4_faultAsTours 22 = .ok (.iload_n 1, 1) := by decide +kernel
theorem dX4_faultAsTours_23 : decode cX4_faultAsTours 23 = .ok (.iconst (-1), 1) := by decide +kernel
theorem dX4_faultAsTours_24 : decode cX4_faultAsTours 24 = .ok (.if_icmp .ne 5, 3) := by decide +kernel
theorem dX4_faultAsTours_27 : decode cX4_faultAsTours 27 = .ok (.iload_n 2, 1) := by decide +kernel
theorem dX4_faultAsTours_28 : decode cX4_faultAsTours 28 = .ok (.ireturn, 1) := by decide +kernel
theorem dX4_faultAsTours_29 : decode cX4_faultAsTours 29 = .ok (.iinc 2 1, 3) := by decide +kernel
theorem dX4_faultAsTours_32 : decode cX4_faultAsTours 32 = .ok (.goto (-28), 3) := by decide +kernel
theorem dX4_faultAsTours_35 : decode cX4_faultAsTours 35 = .ok (.iload_n 1, 1) := by decide +kernel
theorem dX4_faultAsTours_36 : decode cX4_faultAsTours 36 = .ok (.ifCond .eq 9, 3) := by decide +kernel
theorem dX4_faultAsTours_39 : decode cX4_faultAsTours 39 = .ok (.iload_n 1, 1) := by decide +kernel
theorem dX4_faultAsTours_40 : decode cX4_faultAsTours 40 = .ok (.bipush 8, 2) := by decide +kernel
theorem dX4_faultAsTours_42 : decode cX4_faultAsTours 42 = .ok (.if_icmp .ne 10, 3) := by decide +kernel
theorem dX4_faultAsTours_45 : decode cX4_faultAsTours 45 = .ok (.aload_n 0, 1) := by decide +kernel
theorem dX4_faultAsTours_46 : decode cX4_faultAsTours 46 = .ok (.getfield 15, 3) := by decide +kernel
theorem dX4_faultAsTours_49 : decode cX4_faultAsTours 49 = .ok (.goto 5, 3) := by decide +kernel
theorem dX4_faultAsTours_52 : decode cX4_faultAsTours 52 = .ok (.bipush (-4), 2) := by decide +kernel
theorem dX4_faultAsTours_54 : decode cX4_faultAsTours 54 = .ok (.ireturn, 1) := by decide +kernel
theorem dX4_readTourSign_0 : decode cX4_readTourSign 0 = .ok (.iload_n 0, 1) := by decide +kernel
theorem dX4_readTourSign_1 : decode cX4_readTourSign 1 = .ok (.bipush 8, 2) := by decide +kernel
theorem dX4_readTourSign_3 : decode cX4_readTourSign 3 = .ok (.if_icmp .ne 22, 3) := by decide +kernel
theorem dX4_readTourSign_6 : decode cX4_readTourSign 6 = .ok (.iload_n 1, 1) := by decide +kernel
theorem dX4_readTourSign_7 : decode cX4_readTourSign 7 = .ok (.bipush 48, 2) := by decide +kernel
theorem dX4_readTourSign_9 : decode cX4_readTourSign 9 = .ok (.if_icmp .lt 14, 3) := by decide +kernel
theorem dX4_readTourSign_12 : decode cX4_readTourSign 12 = .ok (.iload_n 1, 1) := by decide +kernel
theorem dX4_readTourSign_13 : decode cX4_readTourSign 13 = .ok (.bipush 57, 2) := by decide +kernel
theorem dX4_readTourSign_15 : decode cX4_readTourSign 15 = .ok (.if_icmp .gt 8, 3) := by decide +kernel
theorem dX4_readTourSign_18 : decode cX4_readTourSign 18 = .ok (.bipush 9, 2) := by decide +kernel
theorem dX4_readTourSign_20 : decode cX4_readTourSign 20 = .ok (.goto 4, 3) := by decide +kernel
theorem dX4_readTourSign_23 : decode cX4_readTourSign 23 = .ok (.iconst (-1), 1) := by decide +kernel
theorem dX4_readTourSign_24 : decode cX4_readTourSign 24 = .ok (.ireturn, 1) := by decide +kernel
theorem dX4_readTourSign_25 : decode cX4_readTourSign 25 = .ok (.iload_n 1, 1) := by decide +kernel
theorem dX4_readTourSign_26 : decode cX4_readTourSign 26 = .ok (.bipush 59, 2) := by decide +kernel
theorem dX4_readTourSign_28 : decode cX4_readTourSign 28 = .ok (.if_icmp .ne 13, 3) := by decide +kernel
theorem dX4_readTourSign_31 : decode cX4_readTourSign 31 = .ok (.iload_n 0, 1) := by decide +kernel
theorem dX4_readTourSign_32 : decode cX4_readTourSign 32 = .ok (.ifCond .ne 7, 3) := by decide +kernel
theorem dX4_readTourSign_35 : decode cX4_readTourSign 35 = .ok (.iconst (-1), 1) := by decide +kernel
theorem dX4_readTourSign_36 : decode cX4_readTourSign 36 = .ok (.goto 4, 3) := by decide +kernel
theorem dX4_readTourSign_39 : decode cX4_readTourSign 39 = .ok (.iconst 0, 1) := by decide +kernel
theorem dX4_readTourSign_40 : decode cX4_readTourSign 40 = .ok (.ireturn, 1) := by decide +kernel
theorem dX4_readTourSign_41 : decode cX4_readTourSign 41 = .ok (.iload_n 1, 1) := by decide +kernel
theorem dX4_readTourSign_42 : decode cX4_readTourSign 42 = .ok (.bipush 42, 2) := by decide +kernel
theorem dX4_readTourSign_44 : decode cX4_readTourSign 44 = .ok (.if_icmp .ne 20, 3) := by decide +kernel
theorem dX4_readTourSign_47 : decode cX4_readTourSign 47 = .ok (.iload_n 0, 1) := by decide +kernel
theorem dX4_readTourSign_48 : decode cX4_readTourSign 48 = .ok (.ifCond .eq 9, 3) := by decide +kernel
theorem dX4_readTourSign_51 : decode cX4_readTourSign 51 = .ok (.iload_n 0, 1) := by decide +kernel
theorem dX4_readTourSign_52 : decode cX4_readTourSign 52 = .ok (.bipush 9, 2) := by decide +kernel
theorem dX4_readTourSign_54 : decode cX4_readTourSign 54 = .ok (.if_icmp .ne 7, 3) := by decide +kernel
theorem dX4_readTourSign_57 : decode cX4_readTourSign 57 = .ok (.iconst (-1), 1) := by decide +kernel
theorem dX4_readTourSign_58 : decode cX4_readTourSign 58 = .ok (.goto 5, 3) := by decide +kernel
theorem dX4_readTourSign_61 : decode cX4_readTourSign 61 = .ok (.bipush 8, 2) := by decide +kernel
theorem dX4_readTourSign_63 : decode cX4_readTourSign 63 = .ok (.ireturn, 1) := by decide +kernel
theorem dX4_readTourSign_64 : decode cX4_readTourSign 64 = .ok (.iload_n 1, 1) := by decide +kernel
theorem dX4_readTourSign_65 : decode cX4_readTourSign 65 = .ok (.invokestatic 27, 3) := by decide +kernel
theorem dX4_readTourSign_68 : decode cX4_readTourSign 68 = .ok (.ifCond .eq 15, 3) := by decide +kernel
theorem dX4_readTourSign_71 : decode cX4_readTourSign 71 = .ok (.iload_n 0, 1) := by decide +kernel
theorem dX4_readTourSign_72 : decode cX4_readTourSign 72 = .ok (.bipush 7, 2) := by decide +kernel
theorem dX4_readTourSign_74 : decode cX4_readTourSign 74 = .ok (.if_icmp .ge 9, 3) := by decide +kernel
theorem dX4_readTourSign_77 : decode cX4_readTourSign 77 = .ok (.iload_n 0, 1) := by decide +kernel
theorem dX4_readTourSign_78 : decode cX4_readTourSign 78 = .ok (.iconst 1, 1) := by decide +kernel
theorem dX4_readTourSign_79 : decode cX4_readTourSign 79 = .ok (.iadd, 1) := by decide +kernel
theorem dX4_readTourSign_80 : decode cX4_readTourSign 80 = .ok (.goto 4, 3) := by decide +kernel
theorem dX4_readTourSign_83 : decode cX4_readTourSign 83 = .ok (.iconst (-1), 1) := by decide +kernel
theorem dX4_readTourSign_84 : decode cX4_readTourSign 84 = .ok (.ireturn, 1) := by decide +kernel
theorem dX4_faultAsLetters_0 : decode cX4_faultAsLetters 0 = .ok (.iconst 0, 1) := by decide +kernel
theorem dX4_faultAsLetters_1 : decode cX4_faultAsLetters 1 = .ok (.istore_n 1, 1) := by decide +kernel
theorem dX4_faultAsLetters_2 : decode cX4_faultAsLetters 2 = .ok (.iload_n 1, 1) := by decide +kernel
theorem dX4_faultAsLetters_3 : decode cX4_faultAsLetters 3 = .ok (.aload_n 0, 1) := by decide +kernel
theorem dX4_faultAsLetters_4 : decode cX4_faultAsLetters 4 = .ok (.getfield 15, 3) := by decide +kernel
theorem dX4_faultAsLetters_7 : decode cX4_faultAsLetters 7 = .ok (.if_icmp .ge 19, 3) := by decide +kernel
theorem dX4_faultAsLetters_10 : decode cX4_faultAsLetters 10 = .ok (.aload_n 0, 1) := by decide +kernel
theorem dX4_faultAsLetters_11 : decode cX4_faultAsLetters 11 = .ok (.iload_n 1, 1) := by decide +kernel
theorem dX4_faultAsLetters_12 : decode cX4_faultAsLetters 12 = .ok (.invokevirtual 31, 3) := by decide +kernel
theorem dX4_faultAsLetters_15 : decode cX4_faultAsLetters 15 = .ok (.ifCond .ne 5, 3) := by decide +kernel
theorem dX4_faultAsLetters_18 : decode cX4_faultAsLetters 18 = .ok (.iload_n 1, 1) := by decide +kernel
theorem dX4_faultAsLetters_19 : decode cX4_faultAsLetters 19 = .ok (.ireturn, 1) := by decide +kernel
theorem dX4_faultAsLetters_20 : decode cX4_faultAsLetters 20 = .ok (.iinc 1 1, 3) := by decide +kernel
theorem dX4_faultAsLetters_23 : decode cX4_faultAsLetters 23 = .ok (.goto (-21), 3) := by decide +kernel
theorem dX4_faultAsLetters_26 : decode cX4_faultAsLetters 26 = .ok (.aload_n 0, 1) := by decide +kernel
theorem dX4_faultAsLetters_27 : decode cX4_faultAsLetters 27 = .ok (.getfield 15, 3) := by decide +kernel
theorem dX4_faultAsLetters_30 : decode cX4_faultAsLetters 30 = .ok (.iconst 4, 1) := by decide +kernel
theorem dX4_faultAsLetters_31 : decode cX4_faultAsLetters 31 = .ok (.irem, 1) := by decide +kernel
theorem dX4_faultAsLetters_32 : decode cX4_faultAsLetters 32 = .ok (.iconst 3, 1) := by decide +kernel
theorem dX4_faultAsLetters_33 : decode cX4_faultAsLetters 33 = .ok (.if_icmp .ne 8, 3) := by decide +kernel
theorem dX4_faultAsLetters_36 : decode cX4_faultAsLetters 36 = .ok (.bipush (-4), 2) := by decide +kernel
theorem dX4_faultAsLetters_38 : decode cX4_faultAsLetters 38 = .ok (.goto 7, 3) := by decide +kernel
theorem dX4_faultAsLetters_41 : decode cX4_faultAsLetters 41 = .ok (.aload_n 0, 1) := by decide +kernel
theorem dX4_faultAsLetters_42 : decode cX4_faultAsLetters 42 = .ok (.getfield 15, 3) := by decide +kernel
theorem dX4_faultAsLetters_45 : decode cX4_faultAsLetters 45 = .ok (.ireturn, 1) := by decide +kernel
theorem dX4_fitsLetters_0 : decode cX4_fitsLetters 0 = .ok (.aload_n 0, 1) := by decide +kernel
theorem dX4_fitsLetters_1 : decode cX4_fitsLetters 1 = .ok (.iload_n 1, 1) := by decide +kernel
theorem dX4_fitsLetters_2 : decode cX4_fitsLetters 2 = .ok (.invokevirtual 19, 3) := by decide +kernel
theorem dX4_fitsLetters_5 : decode cX4_fitsLetters 5 = .ok (.istore_n 2, 1) := by decide +kernel
theorem dX4_fitsLetters_6 : decode cX4_fitsLetters 6 = .ok (.iload_n 1, 1) := by decide +kernel
theorem dX4_fitsLetters_7 : decode cX4_fitsLetters 7 = .ok (.iconst 4, 1) := by decide +kernel
theorem dX4_fitsLetters_8 : decode cX4_fitsLetters 8 = .ok (.irem, 1) := by decide +kernel
theorem dX4_fitsLetters_9 : decode cX4_fitsLetters 9 = .ok (.tableswitch 68 0 2 #[27, 32, 44], 27) := by decide +kernel
theorem dX4_fitsLetters_36 : decode cX4_fitsLetters 36 = .ok (.iload_n 2, 1) := by decide +kernel
theorem dX4_fitsLetters_37 : decode cX4_fitsLetters 37 = .ok (.invokestatic 27, 3) := by decide +kernel
theorem dX4_fitsLetters_40 : decode cX4_fitsLetters 40 = .ok (.ireturn, 1) := by decide +kernel
theorem dX4_fitsLetters_41 : decode cX4_fitsLetters 41 = .ok (.iload_n 2, 1) := by decide +kernel
theorem dX4_fitsLetters_42 : decode cX4_fitsLetters 42 = .ok (.bipush 62, 2) := by decide +kernel
theorem dX4_fitsLetters_44 : decode cX4_fitsLetters 44 = .ok (.if_icmp .ne 7, 3) := by decide +kernel
theorem dX4_fitsLetters_47 : decode cX4_fitsLetters 47 = .ok (.iconst 1, 1) := by decide +kernel
theorem dX4_fitsLetters_48 : decode cX4_fitsLetters 48 = .ok (.goto 4, 3) := by decide +kernel
theorem dX4_fitsLetters_51 : decode cX4_fitsLetters 51 = .ok (.iconst 0, 1) := by decide +kernel
theorem dX4_fitsLetters_52 : decode cX4_fitsLetters 52 = .ok (.ireturn, 1) := by decide +kernel
theorem dX4_fitsLetters_53 : decode cX4_fitsLetters 53 = .ok (.iload_n 2, 1) := by decide +kernel
theorem dX4_fitsLetters_54 : decode cX4_fitsLetters 54 = .ok (.invokestatic 27, 3) := by decide +kernel
theorem dX4_fitsLetters_57 : decode cX4_fitsLetters 57 = .ok (.ifCond .eq 18, 3) := by decide +kernel
theorem dX4_fitsLetters_60 : decode cX4_fitsLetters 60 = .ok (.iload_n 2, 1) := by decide +kernel
theorem dX4_fitsLetters_61 : decode cX4_fitsLetters 61 = .ok (.aload_n 0, 1) := by decide +kernel
theorem dX4_fitsLetters_62 : decode cX4_fitsLetters 62 = .ok (.iload_n 1, 1) := by decide +kernel
theorem dX4_fitsLetters_63 : decode cX4_fitsLetters 63 = .ok (.iconst 2, 1) := by decide +kernel
theorem dX4_fitsLetters_64 : decode cX4_fitsLetters 64 = .ok (.isub, 1) := by decide +kernel
theorem dX4_fitsLetters_65 : decode cX4_fitsLetters 65 = .ok (.invokevirtual 19, 3) := by decide +kernel
theorem dX4_fitsLetters_68 : decode cX4_fitsLetters 68 = .ok (.if_icmp .eq 7, 3) := by decide +kernel
theorem dX4_fitsLetters_71 : decode cX4_fitsLetters 71 = .ok (.iconst 1, 1) := by decide +kernel
theorem dX4_fitsLetters_72 : decode cX4_fitsLetters 72 = .ok (.goto 4, 3) := by decide +kernel
theorem dX4_fitsLetters_75 : decode cX4_fitsLetters 75 = .ok (.iconst 0, 1) := by decide +kernel
theorem dX4_fitsLetters_76 : decode cX4_fitsLetters 76 = .ok (.ireturn, 1) := by decide +kernel
theorem dX4_fitsLetters_77 : decode cX4_fitsLetters 77 = .ok (.iload_n 2, 1) := by decide +kernel
theorem dX4_fitsLetters_78 : decode cX4_fitsLetters 78 = .ok (.bipush 44, 2) := by decide +kernel
theorem dX4_fitsLetters_80 : decode cX4_fitsLetters 80 = .ok (.if_icmp .ne 7, 3) := by decide +kernel
theorem dX4_fitsLetters_83 : decode cX4_fitsLetters 83 = .ok (.iconst 1, 1) := by decide +kernel
theorem dX4_fitsLetters_84 : decode cX4_fitsLetters 84 = .ok (.goto 4, 3) := by decide +kernel
theorem dX4_fitsLetters_87 : decode cX4_fitsLetters 87 = .ok (.iconst 0, 1) := by decide +kernel
theorem dX4_fitsLetters_88 : decode cX4_fitsLetters 88 = .ok (.ireturn, 1) := by decide +kernel
theorem dX4_isTown_0 : decode cX4_isTown 0 = .ok (.iload_n 0, 1) := by decide +kernel
theorem dX4_isTown_1 : decode cX4_isTown 1 = .ok (.bipush 48, 2) := by decide +kernel
theorem dX4_isTown_3 : decode cX4_isTown 3 = .ok (.if_icmp .lt 13, 3) := by decide +kernel
theorem dX4_isTown_6 : decode cX4_isTown 6 = .ok (.iload_n 0, 1) := by decide +kernel
theorem dX4_isTown_7 : decode cX4_isTown 7 = .ok (.bipush 54, 2) := by decide +kernel
theorem dX4_isTown_9 : decode cX4_isTown 9 = .ok (.if_icmp .ge 7, 3) := by decide +kernel
theorem dX4_isTown_12 : decode cX4_isTown 12 = .ok (.iconst 1, 1) := by decide +kernel
theorem dX4_isTown_13 : decode cX4_isTown 13 = .ok (.goto 4, 3) := by decide +kernel
theorem dX4_isTown_16 : decode cX4_isTown 16 = .ok (.iconst 0, 1) := by decide +kernel
theorem dX4_isTown_17 : decode cX4_isTown 17 = .ok (.ireturn, 1) := by decide +kernel
theorem dX5_init_0 : decode cX5_init 0 = .ok (.aload_n 0, 1) := by decide +kernel
theorem dX5_init_1 : decode cX5_init 1 = .ok (.invokespecial 3, 3) := by decide +kernel
theorem dX5_init_4 : decode cX5_init 4 = .ok (.aload_n 0, 1) := by decide +kernel
theorem dX5_init_5 : decode cX5_init 5 = .ok (.bipush 7, 2) := by decide +kernel
theorem dX5_init_7 : decode cX5_init 7 = .ok (.newarray .int, 2) := by decide +kernel
theorem dX5_init_9 : decode cX5_init 9 = .ok (.putfield 9, 3) := by decide +kernel
theorem dX5_init_12 : decode cX5_init 12 = .ok (.aload_n 0, 1) := by decide +kernel
theorem dX5_init_13 : decode cX5_init 13 = .ok (.iconst 4, 1) := by decide +kernel
theorem dX5_init_14 : decode cX5_init 14 = .ok (.anewarray 15, 3) := by decide +kernel
theorem dX5_init_17 : decode cX5_init 17 = .ok (.putfield 17, 3) := by decide +kernel
theorem dX5_init_20 : decode cX5_init 20 = .ok (.aload_n 0, 1) := by decide +kernel
theorem dX5_init_21 : decode cX5_init 21 = .ok (.bipush 8, 2) := by decide +kernel
theorem dX5_init_23 : decode cX5_init 23 = .ok (.anewarray 21, 3) := by decide +kernel
theorem dX5_init_26 : decode cX5_init 26 = .ok (.putfield 23, 3) := by decide +kernel
theorem dX5_init_29 : decode cX5_init 29 = .ok (.aload_n 0, 1) := by decide +kernel
theorem dX5_init_30 : decode cX5_init 30 = .ok (.iconst 3, 1) := by decide +kernel
theorem dX5_init_31 : decode cX5_init 31 = .ok (.putfield 27, 3) := by decide +kernel
theorem dX5_init_34 : decode cX5_init 34 = .ok (.aload_n 0, 1) := by decide +kernel
theorem dX5_init_35 : decode cX5_init 35 = .ok (.iconst 1, 1) := by decide +kernel
theorem dX5_init_36 : decode cX5_init 36 = .ok (.putfield 31, 3) := by decide +kernel
theorem dX5_init_39 : decode cX5_init 39 = .ok (.iconst 0, 1) := by decide +kernel
theorem dX5_init_40 : decode cX5_init 40 = .ok (.istore_n 1, 1) := by decide +kernel
theorem dX5_init_41 : decode cX5_init 41 = .ok (.iload_n 1, 1) := by decide +kernel
theorem dX5_init_42 : decode cX5_init 42 = .ok (.aload_n 0, 1) := by decide +kernel
theorem dX5_init_43 : decode cX5_init 43 = .ok (.getfield 17, 3) := by decide +kernel
theorem dX5_init_46 : decode cX5_init 46 = .ok (.arraylength, 1) := by decide +kernel
theorem dX5_init_47 : decode cX5_init 47 = .ok (.if_icmp .ge 22, 3) := by decide +kernel
theorem dX5_init_50 : decode cX5_init 50 = .ok (.aload_n 0, 1) := by decide +kernel
theorem dX5_init_51 : decode cX5_init 51 = .ok (.getfield 17, 3) := by decide +kernel
theorem dX5_init_54 : decode cX5_init 54 = .ok (.iload_n 1, 1) := by decide +kernel
theorem dX5_init_55 : decode cX5_init 55 = .ok (.new 15, 3) := by decide +kernel
theorem dX5_init_58 : decode cX5_init 58 = .ok (.dup, 1) := by decide +kernel
theorem dX5_init_59 : decode cX5_init 59 = .ok (.invokespecial 34, 3) := by decide +kernel
theorem dX5_init_62 : decode cX5_init 62 = .ok (.aastore, 1) := by decide +kernel
theorem dX5_init_63 : decode cX5_init 63 = .ok (.iinc 1 1, 3) := by decide +kernel
theorem dX5_init_66 : decode cX5_init 66 = .ok (.goto (-25), 3) := by decide +kernel
theorem dX5_init_69 : decode cX5_init 69 = .ok (.iconst 0, 1) := by decide +kernel
theorem dX5_init_70 : decode cX5_init 70 = .ok (.istore_n 1, 1) := by decide +kernel
theorem dX5_init_71 : decode cX5_init 71 = .ok (.iload_n 1, 1) := by decide +kernel
theorem dX5_init_72 : decode cX5_init 72 = .ok (.aload_n 0, 1) := by decide +kernel
theorem dX5_init_73 : decode cX5_init 73 = .ok (.getfield 23, 3) := by decide +kernel
theorem dX5_init_76 : decode cX5_init 76 = .ok (.arraylength, 1) := by decide +kernel
theorem dX5_init_77 : decode cX5_init 77 = .ok (.if_icmp .ge 22, 3) := by decide +kernel
theorem dX5_init_80 : decode cX5_init 80 = .ok (.aload_n 0, 1) := by decide +kernel
theorem dX5_init_81 : decode cX5_init 81 = .ok (.getfield 23, 3) := by decide +kernel
theorem dX5_init_84 : decode cX5_init 84 = .ok (.iload_n 1, 1) := by decide +kernel
theorem dX5_init_85 : decode cX5_init 85 = .ok (.new 21, 3) := by decide +kernel
theorem dX5_init_88 : decode cX5_init 88 = .ok (.dup, 1) := by decide +kernel
theorem dX5_init_89 : decode cX5_init 89 = .ok (.invokespecial 35, 3) := by decide +kernel
theorem dX5_init_92 : decode cX5_init 92 = .ok (.aastore, 1) := by decide +kernel
theorem dX5_init_93 : decode cX5_init 93 = .ok (.iinc 1 1, 3) := by decide +kernel
theorem dX5_init_96 : decode cX5_init 96 = .ok (.goto (-25), 3) := by decide +kernel
theorem dX5_init_99 : decode cX5_init 99 = .ok (.return_, 1) := by decide +kernel
theorem dX5_copyFrom_0 : decode cX5_copyFrom 0 = .ok (.iconst 0, 1) := by decide +kernel
theorem dX5_copyFrom_1 : decode cX5_copyFrom 1 = .ok (.istore_n 2, 1) := by decide +kernel
theorem dX5_copyFrom_2 : decode cX5_copyFrom 2 = .ok (.iload_n 2, 1) := by decide +kernel
theorem dX5_copyFrom_3 : decode cX5_copyFrom 3 = .ok (.aload_n 0, 1) := by decide +kernel
theorem dX5_copyFrom_4 : decode cX5_copyFrom 4 = .ok (.getfield 9, 3) := by decide +kernel
theorem dX5_copyFrom_7 : decode cX5_copyFrom 7 = .ok (.arraylength, 1) := by decide +kernel
theorem dX5_copyFrom_8 : decode cX5_copyFrom 8 = .ok (.if_icmp .ge 30, 3) := by decide +kernel
theorem dX5_copyFrom_11 : decode cX5_copyFrom 11 = .ok (.iload_n 2, 1) := by decide +kernel
theorem dX5_copyFrom_12 : decode cX5_copyFrom 12 = .ok (.aload_n 1, 1) := by decide +kernel
theorem dX5_copyFrom_13 : decode cX5_copyFrom 13 = .ok (.getfield 9, 3) := by decide +kernel
theorem dX5_copyFrom_16 : decode cX5_copyFrom 16 = .ok (.arraylength, 1) := by decide +kernel
theorem dX5_copyFrom_17 : decode cX5_copyFrom 17 = .ok (.if_icmp .ge 21, 3) := by decide +kernel
theorem dX5_copyFrom_20 : decode cX5_copyFrom 20 = .ok (.aload_n 0, 1) := by decide +kernel
theorem dX5_copyFrom_21 : decode cX5_copyFrom 21 = .ok (.getfield 9, 3) := by decide +kernel
theorem dX5_copyFrom_24 : decode cX5_copyFrom 24 = .ok (.iload_n 2, 1) := by decide +kernel
theorem dX5_copyFrom_25 : decode cX5_copyFrom 25 = .ok (.aload_n 1, 1) := by decide +kernel
theorem dX5_copyFrom_26 : decode cX5_copyFrom 26 = .ok (.getfield 9, 3) := by decide +kernel
theorem dX5_copyFrom_29 : decode cX5_copyFrom 29 = .ok (.iload_n 2, 1) := by decide +kernel
theorem dX5_copyFrom_30 : decode cX5_copyFrom 30 = .ok (.iaload, 1) := by decide +kernel
theorem dX5_copyFrom_31 : decode cX5_copyFrom 31 = .ok (.iastore, 1) := by decide +kernel
theorem dX5_copyFrom_32 : decode cX5_copyFrom 32 = .ok (.iinc 2 1, 3) := by decide +kernel
theorem dX5_copyFrom_35 : decode cX5_copyFrom 35 = .ok (.goto (-33), 3) := by decide +kernel
theorem dX5_copyFrom_38 : decode cX5_copyFrom 38 = .ok (.aload_n 0, 1) := by decide +kernel
theorem dX5_copyFrom_39 : decode cX5_copyFrom 39 = .ok (.aload_n 1, 1) := by decide +kernel
theorem dX5_copyFrom_40 : decode cX5_copyFrom 40 = .ok (.getfield 36, 3) := by decide +kernel
theorem dX5_copyFrom_43 : decode cX5_copyFrom 43 = .ok (.putfield 36, 3) := by decide +kernel
theorem dX5_copyFrom_46 : decode cX5_copyFrom 46 = .ok (.aload_n 0, 1) := by decide +kernel
theorem dX5_copyFrom_47 : decode cX5_copyFrom 47 = .ok (.aload_n 1, 1) := by decide +kernel
theorem dX5_copyFrom_48 : decode cX5_copyFrom 48 = .ok (.getfield 39, 3) := by decide +kernel
theorem dX5_copyFrom_51 : decode cX5_copyFrom 51 = .ok (.putfield 39, 3) := by decide +kernel
theorem dX5_copyFrom_54 : decode cX5_copyFrom 54 = .ok (.iconst 0, 1) := by decide +kernel
theorem dX5_copyFrom_55 : decode cX5_copyFrom 55 = .ok (.istore_n 2, 1) := by decide +kernel
theorem dX5_copyFrom_56 : decode cX5_copyFrom 56 = .ok (.iload_n 2, 1) := by decide +kernel
theorem dX5_copyFrom_57 : decode cX5_copyFrom 57 = .ok (.aload_n 0, 1) := by decide +kernel
theorem dX5_copyFrom_58 : decode cX5_copyFrom 58 = .ok (.getfield 36, 3) := by decide +kernel
theorem dX5_copyFrom_61 : decode cX5_copyFrom 61 = .ok (.if_icmp .ge 22, 3) := by decide +kernel
theorem dX5_copyFrom_64 : decode cX5_copyFrom 64 = .ok (.aload_n 0, 1) := by decide +kernel
theorem dX5_copyFrom_65 : decode cX5_copyFrom 65 = .ok (.iload_n 2, 1) := by decide +kernel
theorem dX5_copyFrom_66 : decode cX5_copyFrom 66 = .ok (.invokevirtual 42, 3) := by decide +kernel
theorem dX5_copyFrom_69 : decode cX5_copyFrom 69 = .ok (.aload_n 1, 1) := by decide +kernel
theorem dX5_copyFrom_70 : decode cX5_copyFrom 70 = .ok (.iload_n 2, 1) := by decide +kernel
theorem dX5_copyFrom_71 : decode cX5_copyFrom 71 = .ok (.invokevirtual 42, 3) := by decide +kernel
theorem dX5_copyFrom_74 : decode cX5_copyFrom 74 = .ok (.invokestatic 46, 3) := by decide +kernel
theorem dX5_copyFrom_77 : decode cX5_copyFrom 77 = .ok (.iinc 2 1, 3) := by decide +kernel
theorem dX5_copyFrom_80 : decode cX5_copyFrom 80 = .ok (.goto (-24), 3) := by decide +kernel
theorem dX5_copyFrom_83 : decode cX5_copyFrom 83 = .ok (.iconst 0, 1) := by decide +kernel
theorem dX5_copyFrom_84 : decode cX5_copyFrom 84 = .ok (.istore_n 2, 1) := by decide +kernel
theorem dX5_copyFrom_85 : decode cX5_copyFrom 85 = .ok (.iload_n 2, 1) := by decide +kernel
theorem dX5_copyFrom_86 : decode cX5_copyFrom 86 = .ok (.aload_n 0, 1) := by decide +kernel
theorem dX5_copyFrom_87 : decode cX5_copyFrom 87 = .ok (.getfield 39, 3) := by decide +kernel
theorem dX5_copyFrom_90 : decode cX5_copyFrom 90 = .ok (.if_icmp .ge 22, 3) := by decide +kernel
theorem dX5_copyFrom_93 : decode cX5_copyFrom 93 = .ok (.aload_n 0, 1) := by decide +kernel
theorem dX5_copyFrom_94 : decode cX5_copyFrom 94 = .ok (.iload_n 2, 1) := by decide +kernel
theorem dX5_copyFrom_95 : decode cX5_copyFrom 95 = .ok (.invokevirtual 50, 3) := by decide +kernel
theorem dX5_copyFrom_98 : decode cX5_copyFrom 98 = .ok (.aload_n 1, 1) := by decide +kernel
theorem dX5_copyFrom_99 : decode cX5_copyFrom 99 = .ok (.iload_n 2, 1) := by decide +kernel
theorem dX5_copyFrom_100 : decode cX5_copyFrom 100 = .ok (.invokevirtual 50, 3) := by decide +kernel
theorem dX5_copyFrom_103 : decode cX5_copyFrom 103 = .ok (.invokestatic 54, 3) := by decide +kernel
theorem dX5_copyFrom_106 : decode cX5_copyFrom 106 = .ok (.iinc 2 1, 3) := by decide +kernel
theorem dX5_copyFrom_109 : decode cX5_copyFrom 109 = .ok (.goto (-24), 3) := by decide +kernel
theorem dX5_copyFrom_112 : decode cX5_copyFrom 112 = .ok (.aload_n 0, 1) := by decide +kernel
theorem dX5_copyFrom_113 : decode cX5_copyFrom 113 = .ok (.aload_n 1, 1) := by decide +kernel
theorem dX5_copyFrom_114 : decode cX5_copyFrom 114 = .ok (.getfield 58, 3) := by decide +kernel
theorem dX5_copyFrom_117 : decode cX5_copyFrom 117 = .ok (.putfield 58, 3) := by decide +kernel
theorem dX5_copyFrom_120 : decode cX5_copyFrom 120 = .ok (.aload_n 0, 1) := by decide +kernel
theorem dX5_copyFrom_121 : decode cX5_copyFrom 121 = .ok (.aload_n 1, 1) := by decide +kernel
theorem dX5_copyFrom_122 : decode cX5_copyFrom 122 = .ok (.getfield 27, 3) := by decide +kernel
theorem dX5_copyFrom_125 : decode cX5_copyFrom 125 = .ok (.putfield 27, 3) := by decide +kernel
theorem dX5_copyFrom_128 : decode cX5_copyFrom 128 = .ok (.aload_n 0, 1) := by decide +kernel
theorem dX5_copyFrom_129 : decode cX5_copyFrom 129 = .ok (.aload_n 1, 1) := by decide +kernel
theorem dX5_copyFrom_130 : decode cX5_copyFrom 130 = .ok (.getfield 31, 3) := by decide +kernel
theorem dX5_copyFrom_133 : decode cX5_copyFrom 133 = .ok (.putfield 31, 3) := by decide +kernel
theorem dX5_copyFrom_136 : decode cX5_copyFrom 136 = .ok (.aload_n 0, 1) := by decide +kernel
theorem dX5_copyFrom_137 : decode cX5_copyFrom 137 = .ok (.aload_n 1, 1) := by decide +kernel
theorem dX5_copyFrom_138 : decode cX5_copyFrom 138 = .ok (.getfield 61, 3) := by decide +kernel
theorem dX5_copyFrom_141 : decode cX5_copyFrom 141 = .ok (.putfield 61, 3) := by decide +kernel
theorem dX5_copyFrom_144 : decode cX5_copyFrom 144 = .ok (.aload_n 0, 1) := by decide +kernel
theorem dX5_copyFrom_145 : decode cX5_copyFrom 145 = .ok (.aload_n 1, 1) := by decide +kernel
theorem dX5_copyFrom_146 : decode cX5_copyFrom 146 = .ok (.getfield 64, 3) := by decide +kernel
theorem dX5_copyFrom_149 : decode cX5_copyFrom 149 = .ok (.putfield 64, 3) := by decide +kernel
theorem dX5_copyFrom_152 : decode cX5_copyFrom 152 = .ok (.aload_n 0, 1) := by decide +kernel
theorem dX5_copyFrom_153 : decode cX5_copyFrom 153 = .ok (.aload_n 1, 1) := by decide +kernel
theorem dX5_copyFrom_154 : decode cX5_copyFrom 154 = .ok (.getfield 67, 3) := by decide +kernel
theorem dX5_copyFrom_157 : decode cX5_copyFrom 157 = .ok (.putfield 67, 3) := by decide +kernel
theorem dX5_copyFrom_160 : decode cX5_copyFrom 160 = .ok (.aload_n 0, 1) := by decide +kernel
theorem dX5_copyFrom_161 : decode cX5_copyFrom 161 = .ok (.aload_n 1, 1) := by decide +kernel
theorem dX5_copyFrom_162 : decode cX5_copyFrom 162 = .ok (.getfield 70, 3) := by decide +kernel
theorem dX5_copyFrom_165 : decode cX5_copyFrom 165 = .ok (.putfield 70, 3) := by decide +kernel
theorem dX5_copyFrom_168 : decode cX5_copyFrom 168 = .ok (.return_, 1) := by decide +kernel
theorem dX5_copyCarrier_0 : decode cX5_copyCarrier 0 = .ok (.aload_n 0, 1) := by decide +kernel
theorem dX5_copyCarrier_1 : decode cX5_copyCarrier 1 = .ok (.ifnull 12, 3) := by decide +kernel
theorem dX5_copyCarrier_4 : decode cX5_copyCarrier 4 = .ok (.aload_n 1, 1) := by decide +kernel
theorem dX5_copyCarrier_5 : decode cX5_copyCarrier 5 = .ok (.ifnull 8, 3) := by decide +kernel
theorem dX5_copyCarrier_8 : decode cX5_copyCarrier 8 = .ok (.aload_n 0, 1) := by decide +kernel
theorem dX5_copyCarrier_9 : decode cX5_copyCarrier 9 = .ok (.aload_n 1, 1) := by decide +kernel
theorem dX5_copyCarrier_10 : decode cX5_copyCarrier 10 = .ok (.invokevirtual 73, 3) := by decide +kernel
theorem dX5_copyCarrier_13 : decode cX5_copyCarrier 13 = .ok (.return_, 1) := by decide +kernel
theorem dX5_copyBundle_0 : decode cX5_copyBundle 0 = .ok (.aload_n 0, 1) := by decide +kernel
theorem dX5_copyBundle_1 : decode cX5_copyBundle 1 = .ok (.ifnull 12, 3) := by decide +kernel
theorem dX5_copyBundle_4 : decode cX5_copyBundle 4 = .ok (.aload_n 1, 1) := by decide +kernel
theorem dX5_copyBundle_5 : decode cX5_copyBundle 5 = .ok (.ifnull 8, 3) := by decide +kernel
theorem dX5_copyBundle_8 : decode cX5_copyBundle 8 = .ok (.aload_n 0, 1) := by decide +kernel
theorem dX5_copyBundle_9 : decode cX5_copyBundle 9 = .ok (.aload_n 1, 1) := by decide +kernel
theorem dX5_copyBundle_10 : decode cX5_copyBundle 10 = .ok (.invokevirtual 77, 3) := by decide +kernel
theorem dX5_copyBundle_13 : decode cX5_copyBundle 13 = .ok (.return_, 1) := by decide +kernel
theorem dX5_hasCarrier_0 : decode cX5_hasCarrier 0 = .ok (.iload_n 1, 1) := by decide +kernel
theorem dX5_hasCarrier_1 : decode cX5_hasCarrier 1 = .ok (.ifCond .lt 15, 3) := by decide +kernel
theorem dX5_hasCarrier_4 : decode cX5_hasCarrier 4 = .ok (.iload_n 1, 1) := by decide +kernel
theorem dX5_hasCarrier_5 : decode cX5_hasCarrier 5 = .ok (.aload_n 0, 1) := by decide +kernel
theorem dX5_hasCarrier_6 : decode cX5_hasCarrier 6 = .ok (.getfield 36, 3) := by decide +kernel
theorem dX5_hasCarrier_9 : decode cX5_hasCarrier 9 = .ok (.if_icmp .ge 7, 3) := by decide +kernel
theorem dX5_hasCarrier_12 : decode cX5_hasCarrier 12 = .ok (.iconst 1, 1) := by decide +kernel
theorem dX5_hasCarrier_13 : decode cX5_hasCarrier 13 = .ok (.goto 4, 3) := by decide +kernel
theorem dX5_hasCarrier_16 : decode cX5_hasCarrier 16 = .ok (.iconst 0, 1) := by decide +kernel
theorem dX5_hasCarrier_17 : decode cX5_hasCarrier 17 = .ok (.ireturn, 1) := by decide +kernel
theorem dX5_carrierAt_0 : decode cX5_carrierAt 0 = .ok (.iload_n 1, 1) := by decide +kernel
theorem dX5_carrierAt_1 : decode cX5_carrierAt 1 = .ok (.ifCond .lt 24, 3) := by decide +kernel
theorem dX5_carrierAt_4 : decode cX5_carrierAt 4 = .ok (.iload_n 1, 1) := by decide +kernel
theorem dX5_carrierAt_5 : decode cX5_carrierAt 5 = .ok (.aload_n 0, 1) := by decide +kernel
theorem dX5_carrierAt_6 : decode cX5_carrierAt 6 = .ok (.getfield 36, 3) := by decide +kernel
theorem dX5_carrierAt_9 : decode cX5_carrierAt 9 = .ok (.if_icmp .ge 16, 3) := by decide +kernel
theorem dX5_carrierAt_12 : decode cX5_carrierAt 12 = .ok (.iload_n 1, 1) := by decide +kernel
theorem dX5_carrierAt_13 : decode cX5_carrierAt 13 = .ok (.aload_n 0, 1) := by decide +kernel
theorem dX5_carrierAt_14 : decode cX5_carrierAt 14 = .ok (.getfield 17, 3) := by decide +kernel
theorem dX5_carrierAt_17 : decode cX5_carrierAt 17 = .ok (.arraylength, 1) := by decide +kernel
theorem dX5_carrierAt_18 : decode cX5_carrierAt 18 = .ok (.if_icmp .ge 7, 3) := by decide +kernel
theorem dX5_carrierAt_21 : decode cX5_carrierAt 21 = .ok (.iconst 1, 1) := by decide +kernel
theorem dX5_carrierAt_22 : decode cX5_carrierAt 22 = .ok (.goto 4, 3) := by decide +kernel
theorem dX5_carrierAt_25 : decode cX5_carrierAt 25 = .ok (.iconst 0, 1) := by decide +kernel
theorem dX5_carrierAt_26 : decode cX5_carrierAt 26 = .ok (.istore_n 2, 1) := by decide +kernel
theorem dX5_carrierAt_27 : decode cX5_carrierAt 27 = .ok (.iload_n 2, 1) := by decide +kernel
theorem dX5_carrierAt_28 : decode cX5_carrierAt 28 = .ok (.ifCond .eq 12, 3) := by decide +kernel
theorem dX5_carrierAt_31 : decode cX5_carrierAt 31 = .ok (.aload_n 0, 1) := by decide +kernel
theorem dX5_carrierAt_32 : decode cX5_carrierAt 32 = .ok (.getfield 17, 3) := by decide +kernel
theorem dX5_carrierAt_35 : decode cX5_carrierAt 35 = .ok (.iload_n 1, 1) := by decide +kernel
theorem dX5_carrierAt_36 : decode cX5_carrierAt 36 = .ok (.aaload, 1) := by decide +kernel
theorem dX5_carrierAt_37 : decode cX5_carrierAt 37 = .ok (.goto 4, 3) := by decide +kernel
theorem dX5_carrierAt_40 : decode cX5_carrierAt 40 = .ok (.aconst_null, 1) := by decide +kernel
theorem dX5_carrierAt_41 : decode cX5_carrierAt 41 = .ok (.areturn, 1) := by decide +kernel
theorem dX5_bundleAt_0 : decode cX5_bundleAt 0 = .ok (.iload_n 1, 1) := by decide +kernel
theorem dX5_bundleAt_1 : decode cX5_bundleAt 1 = .ok (.ifCond .lt 24, 3) := by decide +kernel
theorem dX5_bundleAt_4 : decode cX5_bundleAt 4 = .ok (.iload_n 1, 1) := by decide +kernel
theorem dX5_bundleAt_5 : decode cX5_bundleAt 5 = .ok (.aload_n 0, 1) := by decide +kernel
theorem dX5_bundleAt_6 : decode cX5_bundleAt 6 = .ok (.getfield 39, 3) := by decide +kernel
theorem dX5_bundleAt_9 : decode cX5_bundleAt 9 = .ok (.if_icmp .ge 16, 3) := by decide +kernel
theorem dX5_bundleAt_12 : decode cX5_bundleAt 12 = .ok (.iload_n 1, 1) := by decide +kernel
theorem dX5_bundleAt_13 : decode cX5_bundleAt 13 = .ok (.aload_n 0, 1) := by decide +kernel
theorem dX5_bundleAt_14 : decode cX5_bundleAt 14 = .ok (.getfield 23, 3) := by decide +kernel
theorem dX5_bundleAt_17 : decode cX5_bundleAt 17 = .ok (.arraylength, 1) := by decide +kernel
theorem dX5_bundleAt_18 : decode cX5_bundleAt 18 = .ok (.if_icmp .ge 7, 3) := by decide +kernel
theorem dX5_bundleAt_21 : decode cX5_bundleAt 21 = .ok (.iconst 1, 1) := by decide +kernel
theorem dX5_bundleAt_22 : decode cX5_bundleAt 22 = .ok (.goto 4, 3) := by decide +kernel
theorem dX5_bundleAt_25 : decode cX5_bundleAt 25 = .ok (.iconst 0, 1) := by decide +kernel
theorem dX5_bundleAt_26 : decode cX5_bundleAt 26 = .ok (.istore_n 2, 1) := by decide +kernel
theorem dX5_bundleAt_27 : decode cX5_bundleAt 27 = .ok (.iload_n 2, 1) := by decide +kernel
theorem dX5_bundleAt_28 : decode cX5_bundleAt 28 = .ok (.ifCond .eq 12, 3) := by decide +kernel
theorem dX5_bundleAt_31 : decode cX5_bundleAt 31 = .ok (.aload_n 0, 1) := by decide +kernel
theorem dX5_bundleAt_32 : decode cX5_bundleAt 32 = .ok (.getfield 23, 3) := by decide +kernel
theorem dX5_bundleAt_35 : decode cX5_bundleAt 35 = .ok (.iload_n 1, 1) := by decide +kernel
theorem dX5_bundleAt_36 : decode cX5_bundleAt 36 = .ok (.aaload, 1) := by decide +kernel
theorem dX5_bundleAt_37 : decode cX5_bundleAt 37 = .ok (.goto 4, 3) := by decide +kernel
theorem dX5_bundleAt_40 : decode cX5_bundleAt 40 = .ok (.aconst_null, 1) := by decide +kernel
theorem dX5_bundleAt_41 : decode cX5_bundleAt 41 = .ok (.areturn, 1) := by decide +kernel
theorem dX5_addCarrier_0 : decode cX5_addCarrier 0 = .ok (.aload_n 0, 1) := by decide +kernel
theorem dX5_addCarrier_1 : decode cX5_addCarrier 1 = .ok (.getfield 36, 3) := by decide +kernel
theorem dX5_addCarrier_4 : decode cX5_addCarrier 4 = .ok (.ifCond .lt 15, 3) := by decide +kernel
theorem dX5_addCarrier_7 : decode cX5_addCarrier 7 = .ok (.aload_n 0, 1) := by decide +kernel
theorem dX5_addCarrier_8 : decode cX5_addCarrier 8 = .ok (.getfield 36, 3) := by decide +kernel
theorem dX5_addCarrier_11 : decode cX5_addCarrier 11 = .ok (.aload_n 0, 1) := by decide +kernel
theorem dX5_addCarrier_12 : decode cX5_addCarrier 12 = .ok (.getfield 17, 3) := by decide +kernel
theorem dX5_addCarrier_15 : decode cX5_addCarrier 15 = .ok (.arraylength, 1) := by decide +kernel
theorem dX5_addCarrier_16 : decode cX5_addCarrier 16 = .ok (.if_icmp .lt 5, 3) := by decide +kernel
theorem dX5_addCarrier_19 : decode cX5_addCarrier 19 = .ok (.aconst_null, 1) := by decide +kernel
theorem dX5_addCarrier_20 : decode cX5_addCarrier 20 = .ok (.areturn, 1) := by decide +kernel
theorem dX5_addCarrier_21 : decode cX5_addCarrier 21 = .ok (.aload_n 0, 1) := by decide +kernel
theorem dX5_addCarrier_22 : decode cX5_addCarrier 22 = .ok (.getfield 17, 3) := by decide +kernel
theorem dX5_addCarrier_25 : decode cX5_addCarrier 25 = .ok (.aload_n 0, 1) := by decide +kernel
theorem dX5_addCarrier_26 : decode cX5_addCarrier 26 = .ok (.getfield 36, 3) := by decide +kernel
theorem dX5_addCarrier_29 : decode cX5_addCarrier 29 = .ok (.aaload, 1) := by decide +kernel
theorem dX5_addCarrier_30 : decode cX5_addCarrier 30 = .ok (.astore_n 1, 1) := by decide +kernel
theorem dX5_addCarrier_31 : decode cX5_addCarrier 31 = .ok (.aload_n 0, 1) := by decide +kernel
theorem dX5_addCarrier_32 : decode cX5_addCarrier 32 = .ok (.dup, 1) := by decide +kernel
theorem dX5_addCarrier_33 : decode cX5_addCarrier 33 = .ok (.getfield 36, 3) := by decide +kernel
theorem dX5_addCarrier_36 : decode cX5_addCarrier 36 = .ok (.iconst 1, 1) := by decide +kernel
theorem dX5_addCarrier_37 : decode cX5_addCarrier 37 = .ok (.iadd, 1) := by decide +kernel
theorem dX5_addCarrier_38 : decode cX5_addCarrier 38 = .ok (.putfield 36, 3) := by decide +kernel
theorem dX5_addCarrier_41 : decode cX5_addCarrier 41 = .ok (.aload_n 1, 1) := by decide +kernel
theorem dX5_addCarrier_42 : decode cX5_addCarrier 42 = .ok (.ifnull 7, 3) := by decide +kernel
theorem dX5_addCarrier_45 : decode cX5_addCarrier 45 = .ok (.aload_n 1, 1) := by decide +kernel
theorem dX5_addCarrier_46 : decode cX5_addCarrier 46 = .ok (.invokevirtual 80, 3) := by decide +kernel
theorem dX5_addCarrier_49 : decode cX5_addCarrier 49 = .ok (.aload_n 1, 1) := by decide +kernel
theorem dX5_addCarrier_50 : decode cX5_addCarrier 50 = .ok (.areturn, 1) := by decide +kernel
theorem dX5_addBundle_0 : decode cX5_addBundle 0 = .ok (.aload_n 0, 1) := by decide +kernel
theorem dX5_addBundle_1 : decode cX5_addBundle 1 = .ok (.getfield 39, 3) := by decide +kernel
theorem dX5_addBundle_4 : decode cX5_addBundle 4 = .ok (.ifCond .lt 15, 3) := by decide +kernel
theorem dX5_addBundle_7 : decode cX5_addBundle 7 = .ok (.aload_n 0, 1) := by decide +kernel
theorem dX5_addBundle_8 : decode cX5_addBundle 8 = .ok (.getfield 39, 3) := by decide +kernel
theorem dX5_addBundle_11 : decode cX5_addBundle 11 = .ok (.aload_n 0, 1) := by decide +kernel
theorem dX5_addBundle_12 : decode cX5_addBundle 12 = .ok (.getfield 23, 3) := by decide +kernel
theorem dX5_addBundle_15 : decode cX5_addBundle 15 = .ok (.arraylength, 1) := by decide +kernel
theorem dX5_addBundle_16 : decode cX5_addBundle 16 = .ok (.if_icmp .lt 4, 3) := by decide +kernel
theorem dX5_addBundle_19 : decode cX5_addBundle 19 = .ok (.return_, 1) := by decide +kernel
theorem dX5_addBundle_20 : decode cX5_addBundle 20 = .ok (.aload_n 0, 1) := by decide +kernel
theorem dX5_addBundle_21 : decode cX5_addBundle 21 = .ok (.getfield 23, 3) := by decide +kernel
theorem dX5_addBundle_24 : decode cX5_addBundle 24 = .ok (.aload_n 0, 1) := by decide +kernel
theorem dX5_addBundle_25 : decode cX5_addBundle 25 = .ok (.getfield 39, 3) := by decide +kernel
theorem dX5_addBundle_28 : decode cX5_addBundle 28 = .ok (.aaload, 1) := by decide +kernel
theorem dX5_addBundle_29 : decode cX5_addBundle 29 = .ok (.astore 4, 2) := by decide +kernel
theorem dX5_addBundle_31 : decode cX5_addBundle 31 = .ok (.aload 4, 2) := by decide +kernel
theorem dX5_addBundle_33 : decode cX5_addBundle 33 = .ok (.ifnull 35, 3) := by decide +kernel
theorem dX5_addBundle_36 : decode cX5_addBundle 36 = .ok (.aload 4, 2) := by decide +kernel
theorem dX5_addBundle_38 : decode cX5_addBundle 38 = .ok (.iload_n 1, 1) := by decide +kernel
theorem dX5_addBundle_39 : decode cX5_addBundle 39 = .ok (.iload_n 2, 1) := by decide +kernel
theorem dX5_addBundle_40 : decode cX5_addBundle 40 = .ok (.iload_n 3, 1) := by decide +kernel
theorem dX5_addBundle_41 : decode cX5_addBundle 41 = .ok (.aload_n 0, 1) := by decide +kernel
theorem dX5_addBundle_42 : decode cX5_addBundle 42 = .ok (.getfield 58, 3) := by decide +kernel
theorem dX5_addBundle_45 : decode cX5_addBundle 45 = .ok (.invokevirtual 83, 3) := by decide +kernel
theorem dX5_addBundle_48 : decode cX5_addBundle 48 = .ok (.aload_n 0, 1) := by decide +kernel
theorem dX5_addBundle_49 : decode cX5_addBundle 49 = .ok (.dup, 1) := by decide +kernel
theorem dX5_addBundle_50 : decode cX5_addBundle 50 = .ok (.getfield 39, 3) := by decide +kernel
theorem dX5_addBundle_53 : decode cX5_addBundle 53 = .ok (.iconst 1, 1) := by decide +kernel
theorem dX5_addBundle_54 : decode cX5_addBundle 54 = .ok (.iadd, 1) := by decide +kernel
theorem dX5_addBundle_55 : decode cX5_addBundle 55 = .ok (.putfield 39, 3) := by decide +kernel
theorem dX5_addBundle_58 : decode cX5_addBundle 58 = .ok (.aload_n 0, 1) := by decide +kernel
theorem dX5_addBundle_59 : decode cX5_addBundle 59 = .ok (.dup, 1) := by decide +kernel
theorem dX5_addBundle_60 : decode cX5_addBundle 60 = .ok (.getfield 61, 3) := by decide +kernel
theorem dX5_addBundle_63 : decode cX5_addBundle 63 = .ok (.iconst 1, 1) := by decide +kernel
theorem dX5_addBundle_64 : decode cX5_addBundle 64 = .ok (.iadd, 1) := by decide +kernel
theorem dX5_addBundle_65 : decode cX5_addBundle 65 = .ok (.putfield 61, 3) := by decide +kernel
theorem dX5_addBundle_68 : decode cX5_addBundle 68 = .ok (.return_, 1) := by decide +kernel
theorem dX5_removeBundle_0 : decode cX5_removeBundle 0 = .ok (.aload_n 0, 1) := by decide +kernel
theorem dX5_removeBundle_1 : decode cX5_removeBundle 1 = .ok (.iload_n 1, 1) := by decide +kernel
theorem dX5_removeBundle_2 : decode cX5_removeBundle 2 = .ok (.invokevirtual 50, 3) := by decide +kernel
theorem dX5_removeBundle_5 : decode cX5_removeBundle 5 = .ok (.astore_n 2, 1) := by decide +kernel
theorem dX5_removeBundle_6 : decode cX5_removeBundle 6 = .ok (.aload_n 2, 1) := by decide +kernel
theorem dX5_removeBundle_7 : decode cX5_removeBundle 7 = .ok (.ifnonnull 4, 3) := by decide +kernel
theorem dX5_removeBundle_10 : decode cX5_removeBundle 10 = .ok (.return_, 1) := by decide +kernel
theorem dX5_removeBundle_11 : decode cX5_removeBundle 11 = .ok (.iload_n 1, 1) := by decide +kernel
theorem dX5_removeBundle_12 : decode cX5_removeBundle 12 = .ok (.istore_n 3, 1) := by decide +kernel
theorem dX5_removeBundle_13 : decode cX5_removeBundle 13 = .ok (.iload_n 1, 1) := by decide +kernel
theorem dX5_removeBundle_14 : decode cX5_removeBundle 14 = .ok (.istore 4, 2) := by decide +kernel
theorem dX5_removeBundle_16 : decode cX5_removeBundle 16 = .ok (.iload 4, 2) := by decide +kernel
theorem dX5_removeBundle_18 : decode cX5_removeBundle 18 = .ok (.iconst 1, 1) := by decide +kernel
theorem dX5_removeBundle_19 : decode cX5_removeBundle 19 = .ok (.iadd, 1) := by decide +kernel
theorem dX5_removeBundle_20 : decode cX5_removeBundle 20 = .ok (.aload_n 0, 1) := by decide +kernel
theorem dX5_removeBundle_21 : decode cX5_removeBundle 21 = .ok (.getfield 39, 3) := by decide +kernel
theorem dX5_removeBundle_24 : decode cX5_removeBundle 24 = .ok (.if_icmp .ge 42, 3) := by decide +kernel
theorem dX5_removeBundle_27 : decode cX5_removeBundle 27 = .ok (.iload 4, 2) := by decide +kernel
theorem dX5_removeBundle_29 : decode cX5_removeBundle 29 = .ok (.iconst 1, 1) := by decide +kernel
theorem dX5_removeBundle_30 : decode cX5_removeBundle 30 = .ok (.iadd, 1) := by decide +kernel
theorem dX5_removeBundle_31 : decode cX5_removeBundle 31 = .ok (.aload_n 0, 1) := by decide +kernel
theorem dX5_removeBundle_32 : decode cX5_removeBundle 32 = .ok (.getfield 23, 3) := by decide +kernel
theorem dX5_removeBundle_35 : decode cX5_removeBundle 35 = .ok (.arraylength, 1) := by decide +kernel
theorem dX5_removeBundle_36 : decode cX5_removeBundle 36 = .ok (.if_icmp .ge 30, 3) := by decide +kernel
theorem dX5_removeBundle_39 : decode cX5_removeBundle 39 = .ok (.aload_n 0, 1) := by decide +kernel
theorem dX5_removeBundle_40 : decode cX5_removeBundle 40 = .ok (.getfield 23, 3) := by decide +kernel
theorem dX5_removeBundle_43 : decode cX5_removeBundle 43 = .ok (.iload 4, 2) := by decide +kernel
theorem dX5_removeBundle_45 : decode cX5_removeBundle 45 = .ok (.aload_n 0, 1) := by decide +kernel
theorem dX5_removeBundle_46 : decode cX5_removeBundle 46 = .ok (.getfield 23, 3) := by decide +kernel
theorem dX5_removeBundle_49 : decode cX5_removeBundle 49 = .ok (.iload 4, 2) := by decide +kernel
theorem dX5_removeBundle_51 : decode cX5_removeBundle 51 = .ok (.iconst 1, 1) := by decide +kernel
theorem dX5_removeBundle_52 : decode cX5_removeBundle 52 = .ok (.iadd, 1) := by decide +kernel
theorem dX5_removeBundle_53 : decode cX5_removeBundle 53 = .ok (.aaload, 1) := by decide +kernel
theorem dX5_removeBundle_54 : decode cX5_removeBundle 54 = .ok (.aastore, 1) := by decide +kernel
theorem dX5_removeBundle_55 : decode cX5_removeBundle 55 = .ok (.iload 4, 2) := by decide +kernel
theorem dX5_removeBundle_57 : decode cX5_removeBundle 57 = .ok (.iconst 1, 1) := by decide +kernel
theorem dX5_removeBundle_58 : decode cX5_removeBundle 58 = .ok (.iadd, 1) := by decide +kernel
theorem dX5_removeBundle_59 : decode cX5_removeBundle 59 = .ok (.istore_n 3, 1) := by decide +kernel
theorem dX5_removeBundle_60 : decode cX5_removeBundle 60 = .ok (.iinc 4 1, 3) := by decide +kernel
theorem dX5_removeBundle_63 : decode cX5_removeBundle 63 = .ok (.goto (-47), 3) := by decide +kernel
theorem dX5_removeBundle_66 : decode cX5_removeBundle 66 = .ok (.aload_n 0, 1) := by decide +kernel
theorem dX5_removeBundle_67 : decode cX5_removeBundle 67 = .ok (.getfield 23, 3) := by decide +kernel
theorem dX5_removeBundle_70 : decode cX5_removeBundle 70 = .ok (.iload_n 3, 1) := by decide +kernel
theorem dX5_removeBundle_71 : decode cX5_removeBundle 71 = .ok (.aload_n 2, 1) := by decide +kernel
theorem dX5_removeBundle_72 : decode cX5_removeBundle 72 = .ok (.aastore, 1) := by decide +kernel
theorem dX5_removeBundle_73 : decode cX5_removeBundle 73 = .ok (.aload_n 0, 1) := by decide +kernel
theorem dX5_removeBundle_74 : decode cX5_removeBundle 74 = .ok (.dup, 1) := by decide +kernel
theorem dX5_removeBundle_75 : decode cX5_removeBundle 75 = .ok (.getfield 39, 3) := by decide +kernel
theorem dX5_removeBundle_78 : decode cX5_removeBundle 78 = .ok (.iconst 1, 1) := by decide +kernel
theorem dX5_removeBundle_79 : decode cX5_removeBundle 79 = .ok (.isub, 1) := by decide +kernel
theorem dX5_removeBundle_80 : decode cX5_removeBundle 80 = .ok (.putfield 39, 3) := by decide +kernel
theorem dX5_removeBundle_83 : decode cX5_removeBundle 83 = .ok (.aload_n 0, 1) := by decide +kernel
theorem dX5_removeBundle_84 : decode cX5_removeBundle 84 = .ok (.dup, 1) := by decide +kernel
theorem dX5_removeBundle_85 : decode cX5_removeBundle 85 = .ok (.getfield 67, 3) := by decide +kernel
theorem dX5_removeBundle_88 : decode cX5_removeBundle 88 = .ok (.iconst 1, 1) := by decide +kernel
theorem dX5_removeBundle_89 : decode cX5_removeBundle 89 = .ok (.iadd, 1) := by decide +kernel
theorem dX5_removeBundle_90 : decode cX5_removeBundle 90 = .ok (.putfield 67, 3) := by decide +kernel
theorem dX5_removeBundle_93 : decode cX5_removeBundle 93 = .ok (.return_, 1) := by decide +kernel
theorem dX5_moveStall_0 : decode cX5_moveStall 0 = .ok (.iload_n 1, 1) := by decide +kernel
theorem dX5_moveStall_1 : decode cX5_moveStall 1 = .ok (.ifCond .lt 19, 3) := by decide +kernel
theorem dX5_moveStall_4 : decode cX5_moveStall 4 = .ok (.iload_n 1, 1) := by decide +kernel
theorem dX5_moveStall_5 : decode cX5_moveStall 5 = .ok (.aload_n 0, 1) := by decide +kernel
theorem dX5_moveStall_6 : decode cX5_moveStall 6 = .ok (.getfield 9, 3) := by decide +kernel
theorem dX5_moveStall_9 : decode cX5_moveStall 9 = .ok (.arraylength, 1) := by decide +kernel
theorem dX5_moveStall_10 : decode cX5_moveStall 10 = .ok (.if_icmp .ge 10, 3) := by decide +kernel
theorem dX5_moveStall_13 : decode cX5_moveStall 13 = .ok (.aload_n 0, 1) := by decide +kernel
theorem dX5_moveStall_14 : decode cX5_moveStall 14 = .ok (.getfield 9, 3) := by decide +kernel
theorem dX5_moveStall_17 : decode cX5_moveStall 17 = .ok (.iload_n 1, 1) := by decide +kernel
theorem dX5_moveStall_18 : decode cX5_moveStall 18 = .ok (.iload_n 2, 1) := by decide +kernel
theorem dX5_moveStall_19 : decode cX5_moveStall 19 = .ok (.iastore, 1) := by decide +kernel
theorem dX5_moveStall_20 : decode cX5_moveStall 20 = .ok (.return_, 1) := by decide +kernel
theorem dX5_stallOn_0 : decode cX5_stallOn 0 = .ok (.iload_n 1, 1) := by decide +kernel
theorem dX5_stallOn_1 : decode cX5_stallOn 1 = .ok (.bipush 7, 2) := by decide +kernel
theorem dX5_stallOn_3 : decode cX5_stallOn 3 = .ok (.irem, 1) := by decide +kernel
theorem dX5_stallOn_4 : decode cX5_stallOn 4 = .ok (.istore_n 2, 1) := by decide +kernel
theorem dX5_stallOn_5 : decode cX5_stallOn 5 = .ok (.iload_n 2, 1) := by decide +kernel
theorem dX5_stallOn_6 : decode cX5_stallOn 6 = .ok (.ifCond .lt 21, 3) := by decide +kernel
theorem dX5_stallOn_9 : decode cX5_stallOn 9 = .ok (.iload_n 2, 1) := by decide +kernel
theorem dX5_stallOn_10 : decode cX5_stallOn 10 = .ok (.aload_n 0, 1) := by decide +kernel
theorem dX5_stallOn_11 : decode cX5_stallOn 11 = .ok (.getfield 9, 3) := by decide +kernel
theorem dX5_stallOn_14 : decode cX5_stallOn 14 = .ok (.arraylength, 1) := by decide +kernel
theorem dX5_stallOn_15 : decode cX5_stallOn 15 = .ok (.if_icmp .ge 12, 3) := by decide +kernel
theorem dX5_stallOn_18 : decode cX5_stallOn 18 = .ok (.aload_n 0, 1) := by decide +kernel
theorem dX5_stallOn_19 : decode cX5_stallOn 19 = .ok (.getfield 9, 3) := by decide +kernel
theorem dX5_stallOn_22 : decode cX5_stallOn 22 = .ok (.iload_n 2, 1) := by decide +kernel
theorem dX5_stallOn_23 : decode cX5_stallOn 23 = .ok (.iaload, 1) := by decide +kernel
theorem dX5_stallOn_24 : decode cX5_stallOn 24 = .ok (.goto 5, 3) := by decide +kernel
theorem dX5_stallOn_27 : decode cX5_stallOn 27 = .ok (.bipush 6, 2) := by decide +kernel
theorem dX5_stallOn_29 : decode cX5_stallOn 29 = .ok (.ireturn, 1) := by decide +kernel
theorem dX5_townOf_0 : decode cX5_townOf 0 = .ok (.iload_n 1, 1) := by decide +kernel
theorem dX5_townOf_1 : decode cX5_townOf 1 = .ok (.ifCond .lt 20, 3) := by decide +kernel
theorem dX5_townOf_4 : decode cX5_townOf 4 = .ok (.iload_n 1, 1) := by decide +kernel
theorem dX5_townOf_5 : decode cX5_townOf 5 = .ok (.aload_n 0, 1) := by decide +kernel
theorem dX5_townOf_6 : decode cX5_townOf 6 = .ok (.getfield 36, 3) := by decide +kernel
theorem dX5_townOf_9 : decode cX5_townOf 9 = .ok (.if_icmp .ge 12, 3) := by decide +kernel
theorem dX5_townOf_12 : decode cX5_townOf 12 = .ok (.iload_n 1, 1) := by decide +kernel
theorem dX5_townOf_13 : decode cX5_townOf 13 = .ok (.aload_n 0, 1) := by decide +kernel
theorem dX5_townOf_14 : decode cX5_townOf 14 = .ok (.getfield 17, 3) := by decide +kernel
theorem dX5_townOf_17 : decode cX5_townOf 17 = .ok (.arraylength, 1) := by decide +kernel
theorem dX5_townOf_18 : decode cX5_townOf 18 = .ok (.if_icmp .lt 5, 3) := by decide +kernel
theorem dX5_townOf_21 : decode cX5_townOf 21 = .ok (.iconst (-1), 1) := by decide +kernel
theorem dX5_townOf_22 : decode cX5_townOf 22 = .ok (.ireturn, 1) := by decide +kernel
theorem dX5_townOf_23 : decode cX5_townOf 23 = .ok (.aload_n 0, 1) := by decide +kernel
theorem dX5_townOf_24 : decode cX5_townOf 24 = .ok (.getfield 17, 3) := by decide +kernel
theorem dX5_townOf_27 : decode cX5_townOf 27 = .ok (.iload_n 1, 1) := by decide +kernel
theorem dX5_townOf_28 : decode cX5_townOf 28 = .ok (.aaload, 1) := by decide +kernel
theorem dX5_townOf_29 : decode cX5_townOf 29 = .ok (.astore_n 3, 1) := by decide +kernel
theorem dX5_townOf_30 : decode cX5_townOf 30 = .ok (.aload_n 3, 1) := by decide +kernel
theorem dX5_townOf_31 : decode cX5_townOf 31 = .ok (.ifnull 23, 3) := by decide +kernel
theorem dX5_townOf_34 : decode cX5_townOf 34 = .ok (.aload_n 3, 1) := by decide +kernel
theorem dX5_townOf_35 : decode cX5_townOf 35 = .ok (.getfield 86, 3) := by decide +kernel
theorem dX5_townOf_38 : decode cX5_townOf 38 = .ok (.iconst 1, 1) := by decide +kernel
theorem dX5_townOf_39 : decode cX5_townOf 39 = .ok (.if_icmp .lt 15, 3) := by decide +kernel
theorem dX5_townOf_42 : decode cX5_townOf 42 = .ok (.iload_n 2, 1) := by decide +kernel
theorem dX5_townOf_43 : decode cX5_townOf 43 = .ok (.ifCond .lt 11, 3) := by decide +kernel
theorem dX5_townOf_46 : decode cX5_townOf 46 = .ok (.iload_n 2, 1) := by decide +kernel
theorem dX5_townOf_47 : decode cX5_townOf 47 = .ok (.aload_n 3, 1) := by decide +kernel
theorem dX5_townOf_48 : decode cX5_townOf 48 = .ok (.getfield 89, 3) := by decide +kernel
theorem dX5_townOf_51 : decode cX5_townOf 51 = .ok (.if_icmp .ge 5, 3) := by decide +kernel
theorem dX5_townOf_54 : decode cX5_townOf 54 = .ok (.iconst (-1), 1) := by decide +kernel
theorem dX5_townOf_55 : decode cX5_townOf 55 = .ok (.ireturn, 1) := by decide +kernel
theorem dX5_townOf_56 : decode cX5_townOf 56 = .ok (.iload_n 2, 1) := by decide +kernel
theorem dX5_townOf_57 : decode cX5_townOf 57 = .ok (.aload_n 3, 1) := by decide +kernel
theorem dX5_townOf_58 : decode cX5_townOf 58 = .ok (.getfield 86, 3) := by decide +kernel
theorem dX5_townOf_61 : decode cX5_townOf 61 = .ok (.irem, 1) := by decide +kernel
theorem dX5_townOf_62 : decode cX5_townOf 62 = .ok (.istore 4, 2) := by decide +kernel
theorem dX5_townOf_64 : decode cX5_townOf 64 = .ok (.iload 4, 2) := by decide +kernel
theorem dX5_townOf_66 : decode cX5_townOf 66 = .ok (.aload_n 3, 1) := by decide +kernel
theorem dX5_townOf_67 : decode cX5_townOf 67 = .ok (.getfield 92, 3) := by decide +kernel
theorem dX5_townOf_70 : decode cX5_townOf 70 = .ok (.arraylength, 1) := by decide +kernel
theorem dX5_townOf_71 : decode cX5_townOf 71 = .ok (.if_icmp .ge 13, 3) := by decide +kernel
theorem dX5_townOf_74 : decode cX5_townOf 74 = .ok (.aload_n 3, 1) := by decide +kernel
theorem dX5_townOf_75 : decode cX5_townOf 75 = .ok (.getfield 92, 3) := by decide +kernel
theorem dX5_townOf_78 : decode cX5_townOf 78 = .ok (.iload 4, 2) := by decide +kernel
theorem dX5_townOf_80 : decode cX5_townOf 80 = .ok (.iaload, 1) := by decide +kernel
theorem dX5_townOf_81 : decode cX5_townOf 81 = .ok (.goto 4, 3) := by decide +kernel
theorem dX5_townOf_84 : decode cX5_townOf 84 = .ok (.iconst (-1), 1) := by decide +kernel
theorem dX5_townOf_85 : decode cX5_townOf 85 = .ok (.ireturn, 1) := by decide +kernel
theorem dX5_carriersIn_0 : decode cX5_carriersIn 0 = .ok (.iconst 0, 1) := by decide +kernel
theorem dX5_carriersIn_1 : decode cX5_carriersIn 1 = .ok (.istore_n 3, 1) := by decide +kernel
theorem dX5_carriersIn_2 : decode cX5_carriersIn 2 = .ok (.iconst 0, 1) := by decide +kernel
theorem dX5_carriersIn_3 : decode cX5_carriersIn 3 = .ok (.istore 4, 2) := by decide +kernel
theorem dX5_carriersIn_5 : decode cX5_carriersIn 5 = .ok (.iload 4, 2) := by decide +kernel
theorem dX5_carriersIn_7 : decode cX5_carriersIn 7 = .ok (.aload_n 0, 1) := by decide +kernel
theorem dX5_carriersIn_8 : decode cX5_carriersIn 8 = .ok (.getfield 36, 3) := by decide +kernel
theorem dX5_carriersIn_11 : decode cX5_carriersIn 11 = .ok (.if_icmp .ge 27, 3) := by decide +kernel
theorem dX5_carriersIn_14 : decode cX5_carriersIn 14 = .ok (.aload_n 0, 1) := by decide +kernel
theorem dX5_carriersIn_15 : decode cX5_carriersIn 15 = .ok (.iload 4, 2) := by decide +kernel
theorem dX5_carriersIn_17 : decode cX5_carriersIn 17 = .ok (.iload_n 2, 1) := by decide +kernel
theorem dX5_carriersIn_18 : decode cX5_carriersIn 18 = .ok (.invokevirtual 95, 3) := by decide +kernel
theorem dX5_carriersIn_21 : decode cX5_carriersIn 21 = .ok (.iload_n 1, 1) := by decide +kernel
theorem dX5_carriersIn_22 : decode cX5_carriersIn 22 = .ok (.if_icmp .ne 10, 3) := by decide +kernel
theorem dX5_carriersIn_25 : decode cX5_carriersIn 25 = .ok (.iload_n 3, 1) := by decide +kernel
theorem dX5_carriersIn_26 : decode cX5_carriersIn 26 = .ok (.iconst 1, 1) := by decide +kernel
theorem dX5_carriersIn_27 : decode cX5_carriersIn 27 = .ok (.iload 4, 2) := by decide +kernel
theorem dX5_carriersIn_29 : decode cX5_carriersIn 29 = .ok (.ishl, 1) := by decide +kernel
theorem dX5_carriersIn_30 : decode cX5_carriersIn 30 = .ok (.ior, 1) := by decide +kernel
theorem dX5_carriersIn_31 : decode cX5_carriersIn 31 = .ok (.istore_n 3, 1) := by decide +kernel
theorem dX5_carriersIn_32 : decode cX5_carriersIn 32 = .ok (.iinc 4 1, 3) := by decide +kernel
theorem dX5_carriersIn_35 : decode cX5_carriersIn 35 = .ok (.goto (-30), 3) := by decide +kernel
theorem dX5_carriersIn_38 : decode cX5_carriersIn 38 = .ok (.iload_n 3, 1) := by decide +kernel
theorem dX5_carriersIn_39 : decode cX5_carriersIn 39 = .ok (.ireturn, 1) := by decide +kernel
theorem dX5_illToday_0 : decode cX5_illToday 0 = .ok (.iconst 0, 1) := by decide +kernel
theorem dX5_illToday_1 : decode cX5_illToday 1 = .ok (.istore_n 1, 1) := by decide +kernel
theorem dX5_illToday_2 : decode cX5_illToday 2 = .ok (.iconst 0, 1) := by decide +kernel
theorem dX5_illToday_3 : decode cX5_illToday 3 = .ok (.istore_n 2, 1) := by decide +kernel
theorem dX5_illToday_4 : decode cX5_illToday 4 = .ok (.iload_n 2, 1) := by decide +kernel
theorem dX5_illToday_5 : decode cX5_illToday 5 = .ok (.aload_n 0, 1) := by decide +kernel
theorem dX5_illToday_6 : decode cX5_illToday 6 = .ok (.getfield 36, 3) := by decide +kernel
theorem dX5_illToday_9 : decode cX5_illToday 9 = .ok (.if_icmp .ge 25, 3) := by decide +kernel
theorem dX5_illToday_12 : decode cX5_illToday 12 = .ok (.aload_n 0, 1) := by decide +kernel
theorem dX5_illToday_13 : decode cX5_illToday 13 = .ok (.iload_n 2, 1) := by decide +kernel
theorem dX5_illToday_14 : decode cX5_illToday 14 = .ok (.aload_n 0, 1) := by decide +kernel
theorem dX5_illToday_15 : decode cX5_illToday 15 = .ok (.getfield 58, 3) := by decide +kernel
theorem dX5_illToday_18 : decode cX5_illToday 18 = .ok (.invokevirtual 95, 3) := by decide +kernel
theorem dX5_illToday_21 : decode cX5_illToday 21 = .ok (.iconst (-1), 1) := by decide +kernel
theorem dX5_illToday_22 : decode cX5_illToday 22 = .ok (.if_icmp .ne 6, 3) := by decide +kernel
theorem dX5_illToday_25 : decode cX5_illToday 25 = .ok (.iinc 1 1, 3) := by decide +kernel
theorem dX5_illToday_28 : decode cX5_illToday 28 = .ok (.iinc 2 1, 3) := by decide +kernel
theorem dX5_illToday_31 : decode cX5_illToday 31 = .ok (.goto (-27), 3) := by decide +kernel
theorem dX5_illToday_34 : decode cX5_illToday 34 = .ok (.iload_n 1, 1) := by decide +kernel
theorem dX5_illToday_35 : decode cX5_illToday 35 = .ok (.ireturn, 1) := by decide +kernel
theorem dX5_bundlesWith_0 : decode cX5_bundlesWith 0 = .ok (.iconst 0, 1) := by decide +kernel
theorem dX5_bundlesWith_1 : decode cX5_bundlesWith 1 = .ok (.istore_n 2, 1) := by decide +kernel
theorem dX5_bundlesWith_2 : decode cX5_bundlesWith 2 = .ok (.iconst 0, 1) := by decide +kernel
theorem dX5_bundlesWith_3 : decode cX5_bundlesWith 3 = .ok (.istore_n 3, 1) := by decide +kernel
theorem dX5_bundlesWith_4 : decode cX5_bundlesWith 4 = .ok (.iload_n 3, 1) := by decide +kernel
theorem dX5_bundlesWith_5 : decode cX5_bundlesWith 5 = .ok (.aload_n 0, 1) := by decide +kernel
theorem dX5_bundlesWith_6 : decode cX5_bundlesWith 6 = .ok (.getfield 39, 3) := by decide +kernel
theorem dX5_bundlesWith_9 : decode cX5_bundlesWith 9 = .ok (.if_icmp .ge 33, 3) := by decide +kernel
theorem dX5_bundlesWith_12 : decode cX5_bundlesWith 12 = .ok (.aload_n 0, 1) := by decide +kernel
theorem dX5_bundlesWith_13 : decode cX5_bundlesWith 13 = .ok (.iload_n 3, 1) := by decide +kernel
theorem dX5_bundlesWith_14 : decode cX5_bundlesWith 14 = .ok (.invokevirtual 50, 3) := by decide +kernel
theorem dX5_bundlesWith_17 : decode cX5_bundlesWith 17 = .ok (.astore 4, 2) := by decide +kernel
theorem dX5_bundlesWith_19 : decode cX5_bundlesWith 19 = .ok (.aload 4, 2) := by decide +kernel
theorem dX5_bundlesWith_21 : decode cX5_bundlesWith 21 = .ok (.ifnull 15, 3) := by decide +kernel
theorem dX5_bundlesWith_24 : decode cX5_bundlesWith 24 = .ok (.aload 4, 2) := by decide +kernel
theorem dX5_bundlesWith_26 : decode cX5_bundlesWith 26 = .ok (.getfield 99, 3) := by decide +kernel
theorem dX5_bundlesWith_29 : decode cX5_bundlesWith 29 = .ok (.iload_n 1, 1) := by decide +kernel
theorem dX5_bundlesWith_30 : decode cX5_bundlesWith 30 = .ok (.if_icmp .ne 6, 3) := by decide +kernel
theorem dX5_bundlesWith_33 : decode cX5_bundlesWith 33 = .ok (.iinc 2 1, 3) := by decide +kernel
theorem dX5_bundlesWith_36 : decode cX5_bundlesWith 36 = .ok (.iinc 3 1, 3) := by decide +kernel
theorem dX5_bundlesWith_39 : decode cX5_bundlesWith 39 = .ok (.goto (-35), 3) := by decide +kernel
theorem dX5_bundlesWith_42 : decode cX5_bundlesWith 42 = .ok (.iload_n 2, 1) := by decide +kernel
theorem dX5_bundlesWith_43 : decode cX5_bundlesWith 43 = .ok (.ireturn, 1) := by decide +kernel
theorem dX5_isFull_0 : decode cX5_isFull 0 = .ok (.aload_n 0, 1) := by decide +kernel
theorem dX5_isFull_1 : decode cX5_isFull 1 = .ok (.iload_n 1, 1) := by decide +kernel
theorem dX5_isFull_2 : decode cX5_isFull 2 = .ok (.invokevirtual 102, 3) := by decide +kernel
theorem dX5_isFull_5 : decode cX5_isFull 5 = .ok (.aload_n 0, 1) := by decide +kernel
theorem dX5_isFull_6 : decode cX5_isFull 6 = .ok (.getfield 27, 3) := by decide +kernel
theorem dX5_isFull_9 : decode cX5_isFull 9 = .ok (.if_icmp .lt 7, 3) := by decide +kernel
theorem dX5_isFull_12 : decode cX5_isFull 12 = .ok (.iconst 1, 1) := by decide +kernel
theorem dX5_isFull_13 : decode cX5_isFull 13 = .ok (.goto 4, 3) := by decide +kernel
theorem dX5_isFull_16 : decode cX5_isFull 16 = .ok (.iconst 0, 1) := by decide +kernel
theorem dX5_isFull_17 : decode cX5_isFull 17 = .ok (.ireturn, 1) := by decide +kernel
theorem dX5_lyingBundles_0 : decode cX5_lyingBundles 0 = .ok (.iconst 0, 1) := by decide +kernel
theorem dX5_lyingBundles_1 : decode cX5_lyingBundles 1 = .ok (.istore_n 1, 1) := by decide +kernel
theorem dX5_lyingBundles_2 : decode cX5_lyingBundles 2 = .ok (.iconst 0, 1) := by decide +kernel
theorem dX5_lyingBundles_3 : decode cX5_lyingBundles 3 = .ok (.istore_n 2, 1) := by decide +kernel
theorem dX5_lyingBundles_4 : decode cX5_lyingBundles 4 = .ok (.iload_n 2, 1) := by decide +kernel
theorem dX5_lyingBundles_5 : decode cX5_lyingBundles 5 = .ok (.aload_n 0, 1) := by decide +kernel
theorem dX5_lyingBundles_6 : decode cX5_lyingBundles 6 = .ok (.getfield 39, 3) := by decide +kernel
theorem dX5_lyingBundles_9 : decode cX5_lyingBundles 9 = .ok (.if_icmp .ge 31, 3) := by decide +kernel
theorem dX5_lyingBundles_12 : decode cX5_lyingBundles 12 = .ok (.aload_n 0, 1) := by decide +kernel
theorem dX5_lyingBundles_13 : decode cX5_lyingBundles 13 = .ok (.iload_n 2, 1) := by decide +kernel
theorem dX5_lyingBundles_14 : decode cX5_lyingBundles 14 = .ok (.invokevirtual 50, 3) := by decide +kernel
theorem dX5_lyingBundles_17 : decode cX5_lyingBundles 17 = .ok (.astore_n 3, 1) := by decide +kernel
theorem dX5_lyingBundles_18 : decode cX5_lyingBundles 18 = .ok (.aload_n 3, 1) := by decide +kernel
theorem dX5_lyingBundles_19 : decode cX5_lyingBundles 19 = .ok (.ifnull 15, 3) := by decide +kernel
theorem dX5_lyingBundles_22 : decode cX5_lyingBundles 22 = .ok (.aload_n 3, 1) := by decide +kernel
theorem dX5_lyingBundles_23 : decode cX5_lyingBundles 23 = .ok (.getfield 106, 3) := by decide +kernel
theorem dX5_lyingBundles_26 : decode cX5_lyingBundles 26 = .ok (.bipush (-4), 2) := by decide +kernel
theorem dX5_lyingBundles_28 : decode cX5_lyingBundles 28 = .ok (.if_icmp .eq 6, 3) := by decide +kernel
theorem dX5_lyingBundles_31 : decode cX5_lyingBundles 31 = .ok (.iinc 1 1, 3) := by decide +kernel
theorem dX5_lyingBundles_34 : decode cX5_lyingBundles 34 = .ok (.iinc 2 1, 3) := by decide +kernel
theorem dX5_lyingBundles_37 : decode cX5_lyingBundles 37 = .ok (.goto (-33), 3) := by decide +kernel
theorem dX5_lyingBundles_40 : decode cX5_lyingBundles 40 = .ok (.iload_n 1, 1) := by decide +kernel
theorem dX5_lyingBundles_41 : decode cX5_lyingBundles 41 = .ok (.ireturn, 1) := by decide +kernel
theorem dX5_arrivedBundles_0 : decode cX5_arrivedBundles 0 = .ok (.iconst 0, 1) := by decide +kernel
theorem dX5_arrivedBundles_1 : decode cX5_arrivedBundles 1 = .ok (.istore_n 1, 1) := by decide +kernel
theorem dX5_arrivedBundles_2 : decode cX5_arrivedBundles 2 = .ok (.iconst 0, 1) := by decide +kernel
theorem dX5_arrivedBundles_3 : decode cX5_arrivedBundles 3 = .ok (.istore_n 2, 1) := by decide +kernel
theorem dX5_arrivedBundles_4 : decode cX5_arrivedBundles 4 = .ok (.iload_n 2, 1) := by decide +kernel
theorem dX5_arrivedBundles_5 : decode cX5_arrivedBundles 5 = .ok (.aload_n 0, 1) := by decide +kernel
theorem dX5_arrivedBundles_6 : decode cX5_arrivedBundles 6 = .ok (.getfield 39, 3) := by decide +kernel
theorem dX5_arrivedBundles_9 : decode cX5_arrivedBundles 9 = .ok (.if_icmp .ge 31, 3) := by decide +kernel
theorem dX5_arrivedBundles_12 : decode cX5_arrivedBundles 12 = .ok (.aload_n 0, 1) := by decide +kernel
theorem dX5_arrivedBundles_13 : decode cX5_arrivedBundles 13 = .ok (.iload_n 2, 1) := by decide +kernel
theorem dX5_arrivedBundles_14 : decode cX5_arrivedBundles 14 = .ok (.invokevirtual 50, 3) := by decide +kernel
theorem dX5_arrivedBundles_17 : decode cX5_arrivedBundles 17 = .ok (.astore_n 3, 1) := by decide +kernel
theorem dX5_arrivedBundles_18 : decode cX5_arrivedBundles 18 = .ok (.aload_n 3, 1) := by decide +kernel
theorem dX5_arrivedBundles_19 : decode cX5_arrivedBundles 19 = .ok (.ifnull 15, 3) := by decide +kernel
theorem dX5_arrivedBundles_22 : decode cX5_arrivedBundles 22 = .ok (.aload_n 3, 1) := by decide +kernel
theorem dX5_arrivedBundles_23 : decode cX5_arrivedBundles 23 = .ok (.getfield 109, 3) := by decide +kernel
theorem dX5_arrivedBundles_26 : decode cX5_arrivedBundles 26 = .ok (.bipush (-4), 2) := by decide +kernel
theorem dX5_arrivedBundles_28 : decode cX5_arrivedBundles 28 = .ok (.if_icmp .eq 6, 3) := by decide +kernel
theorem dX5_arrivedBundles_31 : decode cX5_arrivedBundles 31 = .ok (.iinc 1 1, 3) := by decide +kernel
theorem dX5_arrivedBundles_34 : decode cX5_arrivedBundles 34 = .ok (.iinc 2 1, 3) := by decide +kernel
theorem dX5_arrivedBundles_37 : decode cX5_arrivedBundles 37 = .ok (.goto (-33), 3) := by decide +kernel
theorem dX5_arrivedBundles_40 : decode cX5_arrivedBundles 40 = .ok (.iload_n 1, 1) := by decide +kernel
theorem dX5_arrivedBundles_41 : decode cX5_arrivedBundles 41 = .ok (.ireturn, 1) := by decide +kernel
theorem dX5_brokenBundles_0 : decode cX5_brokenBundles 0 = .ok (.iconst 0, 1) := by decide +kernel
theorem dX5_brokenBundles_1 : decode cX5_brokenBundles 1 = .ok (.istore_n 1, 1) := by decide +kernel
theorem dX5_brokenBundles_2 : decode cX5_brokenBundles 2 = .ok (.iconst 0, 1) := by decide +kernel
theorem dX5_brokenBundles_3 : decode cX5_brokenBundles 3 = .ok (.istore_n 2, 1) := by decide +kernel
theorem dX5_brokenBundles_4 : decode cX5_brokenBundles 4 = .ok (.iload_n 2, 1) := by decide +kernel
theorem dX5_brokenBundles_5 : decode cX5_brokenBundles 5 = .ok (.aload_n 0, 1) := by decide +kernel
theorem dX5_brokenBundles_6 : decode cX5_brokenBundles 6 = .ok (.getfield 39, 3) := by decide +kernel
theorem dX5_brokenBundles_9 : decode cX5_brokenBundles 9 = .ok (.if_icmp .ge 29, 3) := by decide +kernel
theorem dX5_brokenBundles_12 : decode cX5_brokenBundles 12 = .ok (.aload_n 0, 1) := by decide +kernel
theorem dX5_brokenBundles_13 : decode cX5_brokenBundles 13 = .ok (.iload_n 2, 1) := by decide +kernel
theorem dX5_brokenBundles_14 : decode cX5_brokenBundles 14 = .ok (.invokevirtual 50, 3) := by decide +kernel
theorem dX5_brokenBundles_17 : decode cX5_brokenBundles 17 = .ok (.astore_n 3, 1) := by decide +kernel
theorem dX5_brokenBundles_18 : decode cX5_brokenBundles 18 = .ok (.aload_n 3, 1) := by decide +kernel
theorem dX5_brokenBundles_19 : decode cX5_brokenBundles 19 = .ok (.ifnull 13, 3) := by decide +kernel
theorem dX5_brokenBundles_22 : decode cX5_brokenBundles 22 = .ok (.aload_n 3, 1) := by decide +kernel
theorem dX5_brokenBundles_23 : decode cX5_brokenBundles 23 = .ok (.getfield 112, 3) := by decide +kernel
theorem dX5_brokenBundles_26 : decode cX5_brokenBundles 26 = .ok (.ifCond .eq 6, 3) := by decide +kernel
theorem dX5_brokenBundles_29 : decode cX5_brokenBundles 29 = .ok (.iinc 1 1, 3) := by decide +kernel
theorem dX5_brokenBundles_32 : decode cX5_brokenBundles 32 = .ok (.iinc 2 1, 3) := by decide +kernel
theorem dX5_brokenBundles_35 : decode cX5_brokenBundles 35 = .ok (.goto (-31), 3) := by decide +kernel
theorem dX5_brokenBundles_38 : decode cX5_brokenBundles 38 = .ok (.iload_n 1, 1) := by decide +kernel
theorem dX5_brokenBundles_39 : decode cX5_brokenBundles 39 = .ok (.ireturn, 1) := by decide +kernel
theorem dX5_passDay_0 : decode cX5_passDay 0 = .ok (.aload_n 0, 1) := by decide +kernel
theorem dX5_passDay_1 : decode cX5_passDay 1 = .ok (.dup, 1) := by decide +kernel
theorem dX5_passDay_2 : decode cX5_passDay 2 = .ok (.getfield 58, 3) := by decide +kernel
theorem dX5_passDay_5 : decode cX5_passDay 5 = .ok (.iconst 1, 1) := by decide +kernel
theorem dX5_passDay_6 : decode cX5_passDay 6 = .ok (.iadd, 1) := by decide +kernel
theorem dX5_passDay_7 : decode cX5_passDay 7 = .ok (.putfield 58, 3) := by decide +kernel
theorem dX5_passDay_10 : decode cX5_passDay 10 = .ok (.iconst 0, 1) := by decide +kernel
theorem dX5_passDay_11 : decode cX5_passDay 11 = .ok (.istore_n 2, 1) := by decide +kernel
theorem dX5_passDay_12 : decode cX5_passDay 12 = .ok (.iload_n 2, 1) := by decide +kernel
theorem dX5_passDay_13 : decode cX5_passDay 13 = .ok (.aload_n 0, 1) := by decide +kernel
theorem dX5_passDay_14 : decode cX5_passDay 14 = .ok (.getfield 39, 3) := by decide +kernel
theorem dX5_passDay_17 : decode cX5_passDay 17 = .ok (.if_icmp .ge 34, 3) := by decide +kernel
theorem dX5_passDay_20 : decode cX5_passDay 20 = .ok (.aload_n 0, 1) := by decide +kernel
theorem dX5_passDay_21 : decode cX5_passDay 21 = .ok (.iload_n 2, 1) := by decide +kernel
theorem dX5_passDay_22 : decode cX5_passDay 22 = .ok (.invokevirtual 50, 3) := by decide +kernel
theorem dX5_passDay_25 : decode cX5_passDay 25 = .ok (.astore_n 3, 1) := by decide +kernel
theorem dX5_passDay_26 : decode cX5_passDay 26 = .ok (.aload_n 3, 1) := by decide +kernel
theorem dX5_passDay_27 : decode cX5_passDay 27 = .ok (.ifnull 18, 3) := by decide +kernel
theorem dX5_passDay_30 : decode cX5_passDay 30 = .ok (.aload_n 3, 1) := by decide +kernel
theorem dX5_passDay_31 : decode cX5_passDay 31 = .ok (.getfield 109, 3) := by decide +kernel
theorem dX5_passDay_34 : decode cX5_passDay 34 = .ok (.bipush (-4), 2) := by decide +kernel
theorem dX5_passDay_36 : decode cX5_passDay 36 = .ok (.if_icmp .ne 9, 3) := by decide +kernel
theorem dX5_passDay_39 : decode cX5_passDay 39 = .ok (.aload_n 0, 1) := by decide +kernel
theorem dX5_passDay_40 : decode cX5_passDay 40 = .ok (.aload_n 3, 1) := by decide +kernel
theorem dX5_passDay_41 : decode cX5_passDay 41 = .ok (.aload_n 1, 1) := by decide +kernel
theorem dX5_passDay_42 : decode cX5_passDay 42 = .ok (.invokevirtual 116, 3) := by decide +kernel
theorem dX5_passDay_45 : decode cX5_passDay 45 = .ok (.iinc 2 1, 3) := by decide +kernel
theorem dX5_passDay_48 : decode cX5_passDay 48 = .ok (.goto (-36), 3) := by decide +kernel
theorem dX5_passDay_51 : decode cX5_passDay 51 = .ok (.return_, 1) := by decide +kernel
theorem dX5_moveOn_0 : decode cX5_moveOn 0 = .ok (.aload_n 0, 1) := by decide +kernel
theorem dX5_moveOn_1 : decode cX5_moveOn 1 = .ok (.aload_n 1, 1) := by decide +kernel
theorem dX5_moveOn_2 : decode cX5_moveOn 2 = .ok (.getfield 99, 3) := by decide +kernel
theorem dX5_moveOn_5 : decode cX5_moveOn 5 = .ok (.aload_n 0, 1) := by decide +kernel
theorem dX5_moveOn_6 : decode cX5_moveOn 6 = .ok (.getfield 58, 3) := by decide +kernel
theorem dX5_moveOn_9 : decode cX5_moveOn 9 = .ok (.invokevirtual 95, 3) := by decide +kernel
theorem dX5_moveOn_12 : decode cX5_moveOn 12 = .ok (.aload_n 1, 1) := by decide +kernel
theorem dX5_moveOn_13 : decode cX5_moveOn 13 = .ok (.getfield 120, 3) := by decide +kernel
theorem dX5_moveOn_16 : decode cX5_moveOn 16 = .ok (.if_icmp .ne 28, 3) := by decide +kernel
theorem dX5_moveOn_19 : decode cX5_moveOn 19 = .ok (.aload_n 1, 1) := by decide +kernel
theorem dX5_moveOn_20 : decode cX5_moveOn 20 = .ok (.bipush (-4), 2) := by decide +kernel
theorem dX5_moveOn_22 : decode cX5_moveOn 22 = .ok (.putfield 99, 3) := by decide +kernel
theorem dX5_moveOn_25 : decode cX5_moveOn 25 = .ok (.aload_n 1, 1) := by decide +kernel
theorem dX5_moveOn_26 : decode cX5_moveOn 26 = .ok (.aload_n 0, 1) := by decide +kernel
theorem dX5_moveOn_27 : decode cX5_moveOn 27 = .ok (.getfield 58, 3) := by decide +kernel
theorem dX5_moveOn_30 : decode cX5_moveOn 30 = .ok (.putfield 109, 3) := by decide +kernel
theorem dX5_moveOn_33 : decode cX5_moveOn 33 = .ok (.aload_n 0, 1) := by decide +kernel
theorem dX5_moveOn_34 : decode cX5_moveOn 34 = .ok (.dup, 1) := by decide +kernel
theorem dX5_moveOn_35 : decode cX5_moveOn 35 = .ok (.getfield 64, 3) := by decide +kernel
theorem dX5_moveOn_38 : decode cX5_moveOn 38 = .ok (.iconst 1, 1) := by decide +kernel
theorem dX5_moveOn_39 : decode cX5_moveOn 39 = .ok (.iadd, 1) := by decide +kernel
theorem dX5_moveOn_40 : decode cX5_moveOn 40 = .ok (.putfield 64, 3) := by decide +kernel
theorem dX5_moveOn_43 : decode cX5_moveOn 43 = .ok (.return_, 1) := by decide +kernel
theorem dX5_moveOn_44 : decode cX5_moveOn 44 = .ok (.aload_n 0, 1) := by decide +kernel
theorem dX5_moveOn_45 : decode cX5_moveOn 45 = .ok (.aload_n 1, 1) := by decide +kernel
theorem dX5_moveOn_46 : decode cX5_moveOn 46 = .ok (.invokevirtual 123, 3) := by decide +kernel
theorem dX5_moveOn_49 : decode cX5_moveOn 49 = .ok (.istore_n 3, 1) := by decide +kernel
theorem dX5_moveOn_50 : decode cX5_moveOn 50 = .ok (.iload_n 3, 1) := by decide +kernel
theorem dX5_moveOn_51 : decode cX5_moveOn 51 = .ok (.ifCond .ne 4, 3) := by decide +kernel
theorem dX5_moveOn_54 : decode cX5_moveOn 54 = .ok (.return_, 1) := by decide +kernel
theorem dX5_moveOn_55 : decode cX5_moveOn 55 = .ok (.aload_n 2, 1) := by decide +kernel
theorem dX5_moveOn_56 : decode cX5_moveOn 56 = .ok (.aload_n 0, 1) := by decide +kernel
theorem dX5_moveOn_57 : decode cX5_moveOn 57 = .ok (.aload_n 1, 1) := by decide +kernel
theorem dX5_moveOn_58 : decode cX5_moveOn 58 = .ok (.iload_n 3, 1) := by decide +kernel
theorem dX5_moveOn_59 : decode cX5_moveOn 59 = .ok (.invokevirtual 127, 3) := by decide +kernel
theorem dX5_moveOn_62 : decode cX5_moveOn 62 = .ok (.istore 4, 2) := by decide +kernel
theorem dX5_moveOn_64 : decode cX5_moveOn 64 = .ok (.iload 4, 2) := by decide +kernel
theorem dX5_moveOn_66 : decode cX5_moveOn 66 = .ok (.bipush (-4), 2) := by decide +kernel
theorem dX5_moveOn_68 : decode cX5_moveOn 68 = .ok (.if_icmp .eq 10, 3) := by decide +kernel
theorem dX5_moveOn_71 : decode cX5_moveOn 71 = .ok (.aload_n 0, 1) := by decide +kernel
theorem dX5_moveOn_72 : decode cX5_moveOn 72 = .ok (.aload_n 1, 1) := by decide +kernel
theorem dX5_moveOn_73 : decode cX5_moveOn 73 = .ok (.iload 4, 2) := by decide +kernel
theorem dX5_moveOn_75 : decode cX5_moveOn 75 = .ok (.invokevirtual 133, 3) := by decide +kernel
theorem dX5_moveOn_78 : decode cX5_moveOn 78 = .ok (.return_, 1) := by decide +kernel
theorem dX5_takersOf_0 : decode cX5_takersOf 0 = .ok (.aload_n 1, 1) := by decide +kernel
theorem dX5_takersOf_1 : decode cX5_takersOf 1 = .ok (.getfield 106, 3) := by decide +kernel
theorem dX5_takersOf_4 : decode cX5_takersOf 4 = .ok (.bipush (-4), 2) := by decide +kernel
theorem dX5_takersOf_6 : decode cX5_takersOf 6 = .ok (.if_icmp .eq 10, 3) := by decide +kernel
theorem dX5_takersOf_9 : decode cX5_takersOf 9 = .ok (.aload_n 1, 1) := by decide +kernel
theorem dX5_takersOf_10 : decode cX5_takersOf 10 = .ok (.getfield 106, 3) := by decide +kernel
theorem dX5_takersOf_13 : decode cX5_takersOf 13 = .ok (.goto 11, 3) := by decide +kernel
theorem dX5_takersOf_16 : decode cX5_takersOf 16 = .ok (.aload_n 0, 1) := by decide +kernel
theorem dX5_takersOf_17 : decode cX5_takersOf 17 = .ok (.aload_n 0, 1) := by decide +kernel
theorem dX5_takersOf_18 : decode cX5_takersOf 18 = .ok (.getfield 58, 3) := by decide +kernel
theorem dX5_takersOf_21 : decode cX5_takersOf 21 = .ok (.invokevirtual 137, 3) := by decide +kernel
theorem dX5_takersOf_24 : decode cX5_takersOf 24 = .ok (.istore_n 2, 1) := by decide +kernel
theorem dX5_takersOf_25 : decode cX5_takersOf 25 = .ok (.aload_n 1, 1) := by decide +kernel
theorem dX5_takersOf_26 : decode cX5_takersOf 26 = .ok (.getfield 99, 3) := by decide +kernel
theorem dX5_takersOf_29 : decode cX5_takersOf 29 = .ok (.bipush (-4), 2) := by decide +kernel
theorem dX5_takersOf_31 : decode cX5_takersOf 31 = .ok (.if_icmp .eq 21, 3) := by decide +kernel
theorem dX5_takersOf_34 : decode cX5_takersOf 34 = .ok (.aload_n 0, 1) := by decide +kernel
theorem dX5_takersOf_35 : decode cX5_takersOf 35 = .ok (.aload_n 1, 1) := by decide +kernel
theorem dX5_takersOf_36 : decode cX5_takersOf 36 = .ok (.getfield 99, 3) := by decide +kernel
theorem dX5_takersOf_39 : decode cX5_takersOf 39 = .ok (.aload_n 0, 1) := by decide +kernel
theorem dX5_takersOf_40 : decode cX5_takersOf 40 = .ok (.getfield 58, 3) := by decide +kernel
theorem dX5_takersOf_43 : decode cX5_takersOf 43 = .ok (.invokevirtual 95, 3) := by decide +kernel
theorem dX5_takersOf_46 : decode cX5_takersOf 46 = .ok (.iload_n 2, 1) := by decide +kernel
theorem dX5_takersOf_47 : decode cX5_takersOf 47 = .ok (.if_icmp .eq 5, 3) := by decide +kernel
theorem dX5_takersOf_50 : decode cX5_takersOf 50 = .ok (.iconst 0, 1) := by decide +kernel
theorem dX5_takersOf_51 : decode cX5_takersOf 51 = .ok (.ireturn, 1) := by decide +kernel
theorem dX5_takersOf_52 : decode cX5_takersOf 52 = .ok (.aload_n 0, 1) := by decide +kernel
theorem dX5_takersOf_53 : decode cX5_takersOf 53 = .ok (.iload_n 2, 1) := by decide +kernel
theorem dX5_takersOf_54 : decode cX5_takersOf 54 = .ok (.aload_n 0, 1) := by decide +kernel
theorem dX5_takersOf_55 : decode cX5_takersOf 55 = .ok (.getfield 58, 3) := by decide +kernel
theorem dX5_takersOf_58 : decode cX5_takersOf 58 = .ok (.invokevirtual 140, 3) := by decide +kernel
theorem dX5_takersOf_61 : decode cX5_takersOf 61 = .ok (.istore_n 3, 1) := by decide +kernel
theorem dX5_takersOf_62 : decode cX5_takersOf 62 = .ok (.iconst 0, 1) := by decide +kernel
theorem dX5_takersOf_63 : decode cX5_takersOf 63 = .ok (.istore 4, 2) := by decide +kernel
theorem dX5_takersOf_65 : decode cX5_takersOf 65 = .ok (.iload 4, 2) := by decide +kernel
theorem dX5_takersOf_67 : decode cX5_takersOf 67 = .ok (.aload_n 0, 1) := by decide +kernel
theorem dX5_takersOf_68 : decode cX5_takersOf 68 = .ok (.getfield 36, 3) := by decide +kernel
theorem dX5_takersOf_71 : decode cX5_takersOf 71 = .ok (.if_icmp .ge 36, 3) := by decide +kernel
theorem dX5_takersOf_74 : decode cX5_takersOf 74 = .ok (.iload 4, 2) := by decide +kernel
theorem dX5_takersOf_76 : decode cX5_takersOf 76 = .ok (.aload_n 1, 1) := by decide +kernel
theorem dX5_takersOf_77 : decode cX5_takersOf 77 = .ok (.getfield 99, 3) := by decide +kernel
theorem dX5_takersOf_80 : decode cX5_takersOf 80 = .ok (.if_icmp .eq 12, 3) := by decide +kernel
theorem dX5_takersOf_83 : decode cX5_takersOf 83 = .ok (.aload_n 0, 1) := by decide +kernel
theorem dX5_takersOf_84 : decode cX5_takersOf 84 = .ok (.iload 4, 2) := by decide +kernel
theorem dX5_takersOf_86 : decode cX5_takersOf 86 = .ok (.invokevirtual 143, 3) := by decide +kernel
theorem dX5_takersOf_89 : decode cX5_takersOf 89 = .ok (.ifCond .eq 12, 3) := by decide +kernel
theorem dX5_takersOf_92 : decode cX5_takersOf 92 = .ok (.iload_n 3, 1) := by decide +kernel
theorem dX5_takersOf_93 : decode cX5_takersOf 93 = .ok (.iconst 1, 1) := by decide +kernel
theorem dX5_takersOf_94 : decode cX5_takersOf 94 = .ok (.iload 4, 2) := by decide +kernel
theorem dX5_takersOf_96 : decode cX5_takersOf 96 = .ok (.ishl, 1) := by decide +kernel
theorem dX5_takersOf_97 : decode cX5_takersOf 97 = .ok (.iconst (-1), 1) := by decide +kernel
theorem dX5_takersOf_98 : decode cX5_takersOf 98 = .ok (.ixor, 1) := by decide +kernel
theorem dX5_takersOf_99 : decode cX5_takersOf 99 = .ok (.iand, 1) := by decide +kernel
theorem dX5_takersOf_100 : decode cX5_takersOf 100 = .ok (.istore_n 3, 1) := by decide +kernel
theorem dX5_takersOf_101 : decode cX5_takersOf 101 = .ok (.iinc 4 1, 3) := by decide +kernel
theorem dX5_takersOf_104 : decode cX5_takersOf 104 = .ok (.goto (-39), 3) := by decide +kernel
theorem dX5_takersOf_107 : decode cX5_takersOf 107 = .ok (.iload_n 3, 1) := by decide +kernel
theorem dX5_takersOf_108 : decode cX5_takersOf 108 = .ok (.ireturn, 1) := by decide +kernel
theorem dX5_changeHands_0 : decode cX5_changeHands 0 = .ok (.aload_n 0, 1) := by decide +kernel
theorem dX5_changeHands_1 : decode cX5_changeHands 1 = .ok (.iload_n 2, 1) := by decide +kernel
theorem dX5_changeHands_2 : decode cX5_changeHands 2 = .ok (.invokevirtual 42, 3) := by decide +kernel
theorem dX5_changeHands_5 : decode cX5_changeHands 5 = .ok (.astore_n 3, 1) := by decide +kernel
theorem dX5_changeHands_6 : decode cX5_changeHands 6 = .ok (.aload_n 3, 1) := by decide +kernel
theorem dX5_changeHands_7 : decode cX5_changeHands 7 = .ok (.ifnonnull 4, 3) := by decide +kernel
theorem dX5_changeHands_10 : decode cX5_changeHands 10 = .ok (.return_, 1) := by decide +kernel
theorem dX5_changeHands_11 : decode cX5_changeHands 11 = .ok (.aload_n 1, 1) := by decide +kernel
theorem dX5_changeHands_12 : decode cX5_changeHands 12 = .ok (.bipush (-4), 2) := by decide +kernel
theorem dX5_changeHands_14 : decode cX5_changeHands 14 = .ok (.putfield 106, 3) := by decide +kernel
theorem dX5_changeHands_17 : decode cX5_changeHands 17 = .ok (.aload_n 1, 1) := by decide +kernel
theorem dX5_changeHands_18 : decode cX5_changeHands 18 = .ok (.iload_n 2, 1) := by decide +kernel
theorem dX5_changeHands_19 : decode cX5_changeHands 19 = .ok (.putfield 99, 3) := by decide +kernel
theorem dX5_changeHands_22 : decode cX5_changeHands 22 = .ok (.aload_n 1, 1) := by decide +kernel
theorem dX5_changeHands_23 : decode cX5_changeHands 23 = .ok (.dup, 1) := by decide +kernel
theorem dX5_changeHands_24 : decode cX5_changeHands 24 = .ok (.getfield 147, 3) := by decide +kernel
theorem dX5_changeHands_27 : decode cX5_changeHands 27 = .ok (.iconst 1, 1) := by decide +kernel
theorem dX5_changeHands_28 : decode cX5_changeHands 28 = .ok (.iadd, 1) := by decide +kernel
theorem dX5_changeHands_29 : decode cX5_changeHands 29 = .ok (.putfield 147, 3) := by decide +kernel
theorem dX5_changeHands_32 : decode cX5_changeHands 32 = .ok (.aload_n 3, 1) := by decide +kernel
theorem dX5_changeHands_33 : decode cX5_changeHands 33 = .ok (.dup, 1) := by decide +kernel
theorem dX5_changeHands_34 : decode cX5_changeHands 34 = .ok (.getfield 148, 3) := by decide +kernel
theorem dX5_changeHands_37 : decode cX5_changeHands 37 = .ok (.iconst 1, 1) := by decide +kernel
theorem dX5_changeHands_38 : decode cX5_changeHands 38 = .ok (.iadd, 1) := by decide +kernel
theorem dX5_changeHands_39 : decode cX5_changeHands 39 = .ok (.putfield 148, 3) := by decide +kernel
theorem dX5_changeHands_42 : decode cX5_changeHands 42 = .ok (.aload_n 0, 1) := by decide +kernel
theorem dX5_changeHands_43 : decode cX5_changeHands 43 = .ok (.dup, 1) := by decide +kernel
theorem dX5_changeHands_44 : decode cX5_changeHands 44 = .ok (.getfield 70, 3) := by decide +kernel
theorem dX5_changeHands_47 : decode cX5_changeHands 47 = .ok (.iconst 1, 1) := by decide +kernel
theorem dX5_changeHands_48 : decode cX5_changeHands 48 = .ok (.iadd, 1) := by decide +kernel
theorem dX5_changeHands_49 : decode cX5_changeHands 49 = .ok (.putfield 70, 3) := by decide +kernel
theorem dX5_changeHands_52 : decode cX5_changeHands 52 = .ok (.aload_n 0, 1) := by decide +kernel
theorem dX5_changeHands_53 : decode cX5_changeHands 53 = .ok (.sipush 421, 3) := by decide +kernel
theorem dX5_changeHands_56 : decode cX5_changeHands 56 = .ok (.aload_n 0, 1) := by decide +kernel
theorem dX5_changeHands_57 : decode cX5_changeHands 57 = .ok (.getfield 31, 3) := by decide +kernel
theorem dX5_changeHands_60 : decode cX5_changeHands 60 = .ok (.imul, 1) := by decide +kernel
theorem dX5_changeHands_61 : decode cX5_changeHands 61 = .ok (.sipush 1663, 3) := by decide +kernel
theorem dX5_changeHands_64 : decode cX5_changeHands 64 = .ok (.iadd, 1) := by decide +kernel
theorem dX5_changeHands_65 : decode cX5_changeHands 65 = .ok (.sipush 10000, 3) := by decide +kernel
theorem dX5_changeHands_68 : decode cX5_changeHands 68 = .ok (.irem, 1) := by decide +kernel
theorem dX5_changeHands_69 : decode cX5_changeHands 69 = .ok (.putfield 31, 3) := by decide +kernel
theorem dX5_changeHands_72 : decode cX5_changeHands 72 = .ok (.aload_n 0, 1) := by decide +kernel
theorem dX5_changeHands_73 : decode cX5_changeHands 73 = .ok (.getfield 31, 3) := by decide +kernel
theorem dX5_changeHands_76 : decode cX5_changeHands 76 = .ok (.bipush 10, 2) := by decide +kernel
theorem dX5_changeHands_78 : decode cX5_changeHands 78 = .ok (.irem, 1) := by decide +kernel
theorem dX5_changeHands_79 : decode cX5_changeHands 79 = .ok (.aload_n 3, 1) := by decide +kernel
theorem dX5_changeHands_80 : decode cX5_changeHands 80 = .ok (.getfield 149, 3) := by decide +kernel
theorem dX5_changeHands_83 : decode cX5_changeHands 83 = .ok (.if_icmp .ge 25, 3) := by decide +kernel
theorem dX5_changeHands_86 : decode cX5_changeHands 86 = .ok (.aload_n 1, 1) := by decide +kernel
theorem dX5_changeHands_87 : decode cX5_changeHands 87 = .ok (.getfield 112, 3) := by decide +kernel
theorem dX5_changeHands_90 : decode cX5_changeHands 90 = .ok (.ifCond .ne 18, 3) := by decide +kernel
theorem dX5_changeHands_93 : decode cX5_changeHands 93 = .ok (.aload_n 1, 1) := by decide +kernel
theorem dX5_changeHands_94 : decode cX5_changeHands 94 = .ok (.iconst 1, 1) := by decide +kernel
theorem dX5_changeHands_95 : decode cX5_changeHands 95 = .ok (.putfield 112, 3) := by decide +kernel
theorem dX5_changeHands_98 : decode cX5_changeHands 98 = .ok (.aload_n 3, 1) := by decide +kernel
theorem dX5_changeHands_99 : decode cX5_changeHands 99 = .ok (.dup, 1) := by decide +kernel
theorem dX5_changeHands_100 : decode cX5_changeHands 100 = .ok (.getfield 152, 3) := by decide +kernel
theorem dX5_changeHands_103 : decode cX5_changeHands 103 = .ok (.iconst 1, 1) := by decide +kernel
theorem dX5_changeHands_104 : decode cX5_changeHands 104 = .ok (.iadd, 1) := by decide +kernel
theorem dX5_changeHands_105 : decode cX5_changeHands 105 = .ok (.putfield 152, 3) := by decide +kernel
theorem dX5_changeHands_108 : decode cX5_changeHands 108 = .ok (.return_, 1) := by decide +kernel
theorem dX6_init_0 : decode cX6_init 0 = .ok (.aload_n 0, 1) := by decide +kernel
theorem dX6_init_1 : decode cX6_init 1 = .ok (.invokespecial 1, 3) := by decide +kernel
theorem dX6_init_4 : decode cX6_init 4 = .ok (.aload_n 0, 1) := by decide +kernel
theorem dX6_init_5 : decode cX6_init 5 = .ok (.new 7, 3) := by decide +kernel
theorem dX6_init_8 : decode cX6_init 8 = .ok (.dup, 1) := by decide +kernel
theorem dX6_init_9 : decode cX6_init 9 = .ok (.invokespecial 9, 3) := by decide +kernel
theorem dX6_init_12 : decode cX6_init 12 = .ok (.putfield 10, 3) := by decide +kernel
theorem dX6_init_15 : decode cX6_init 15 = .ok (.aload_n 0, 1) := by decide +kernel
theorem dX6_init_16 : decode cX6_init 16 = .ok (.new 7, 3) := by decide +kernel
theorem dX6_init_19 : decode cX6_init 19 = .ok (.dup, 1) := by decide +kernel
theorem dX6_init_20 : decode cX6_init 20 = .ok (.invokespecial 9, 3) := by decide +kernel
theorem dX6_init_23 : decode cX6_init 23 = .ok (.putfield 16, 3) := by decide +kernel
theorem dX6_init_26 : decode cX6_init 26 = .ok (.aload_n 0, 1) := by decide +kernel
theorem dX6_init_27 : decode cX6_init 27 = .ok (.new 7, 3) := by decide +kernel
theorem dX6_init_30 : decode cX6_init 30 = .ok (.dup, 1) := by decide +kernel
theorem dX6_init_31 : decode cX6_init 31 = .ok (.invokespecial 9, 3) := by decide +kernel
theorem dX6_init_34 : decode cX6_init 34 = .ok (.putfield 19, 3) := by decide +kernel
theorem dX6_init_37 : decode cX6_init 37 = .ok (.aload_n 0, 1) := by decide +kernel
theorem dX6_init_38 : decode cX6_init 38 = .ok (.new 22, 3) := by decide +kernel
theorem dX6_init_41 : decode cX6_init 41 = .ok (.dup, 1) := by decide +kernel
theorem dX6_init_42 : decode cX6_init 42 = .ok (.invokespecial 24, 3) := by decide +kernel
theorem dX6_init_45 : decode cX6_init 45 = .ok (.putfield 25, 3) := by decide +kernel
theorem dX6_init_48 : decode cX6_init 48 = .ok (.aload_n 0, 1) := by decide +kernel
theorem dX6_init_49 : decode cX6_init 49 = .ok (.new 29, 3) := by decide +kernel
theorem dX6_init_52 : decode cX6_init 52 = .ok (.dup, 1) := by decide +kernel
theorem dX6_init_53 : decode cX6_init 53 = .ok (.invokespecial 31, 3) := by decide +kernel
theorem dX6_init_56 : decode cX6_init 56 = .ok (.putfield 32, 3) := by decide +kernel
theorem dX6_init_59 : decode cX6_init 59 = .ok (.aload_n 0, 1) := by decide +kernel
theorem dX6_init_60 : decode cX6_init 60 = .ok (.new 36, 3) := by decide +kernel
theorem dX6_init_63 : decode cX6_init 63 = .ok (.dup, 1) := by decide +kernel
theorem dX6_init_64 : decode cX6_init 64 = .ok (.invokespecial 38, 3) := by decide +kernel
theorem dX6_init_67 : decode cX6_init 67 = .ok (.putfield 39, 3) := by decide +kernel
theorem dX6_init_70 : decode cX6_init 70 = .ok (.return_, 1) := by decide +kernel
theorem dX6_stall_0 : decode cX6_stall 0 = .ok (.iload_n 1, 1) := by decide +kernel
theorem dX6_stall_1 : decode cX6_stall 1 = .ok (.invokestatic 43, 3) := by decide +kernel
theorem dX6_stall_4 : decode cX6_stall 4 = .ok (.ifCond .eq 13, 3) := by decide +kernel
theorem dX6_stall_7 : decode cX6_stall 7 = .ok (.iload_n 2, 1) := by decide +kernel
theorem dX6_stall_8 : decode cX6_stall 8 = .ok (.ifCond .lt 9, 3) := by decide +kernel
theorem dX6_stall_11 : decode cX6_stall 11 = .ok (.iload_n 2, 1) := by decide +kernel
theorem dX6_stall_12 : decode cX6_stall 12 = .ok (.bipush 6, 2) := by decide +kernel
theorem dX6_stall_14 : decode cX6_stall 14 = .ok (.if_icmp .le 5, 3) := by decide +kernel
theorem dX6_stall_17 : decode cX6_stall 17 = .ok (.iconst (-1), 1) := by decide +kernel
theorem dX6_stall_18 : decode cX6_stall 18 = .ok (.ireturn, 1) := by decide +kernel
theorem dX6_stall_19 : decode cX6_stall 19 = .ok (.aload_n 0, 1) := by decide +kernel
theorem dX6_stall_20 : decode cX6_stall 20 = .ok (.getfield 10, 3) := by decide +kernel
theorem dX6_stall_23 : decode cX6_stall 23 = .ok (.iload_n 1, 1) := by decide +kernel
theorem dX6_stall_24 : decode cX6_stall 24 = .ok (.invokevirtual 47, 3) := by decide +kernel
theorem dX6_stall_27 : decode cX6_stall 27 = .ok (.istore_n 3, 1) := by decide +kernel
theorem dX6_stall_28 : decode cX6_stall 28 = .ok (.aload_n 0, 1) := by decide +kernel
theorem dX6_stall_29 : decode cX6_stall 29 = .ok (.getfield 25, 3) := by decide +kernel
theorem dX6_stall_32 : decode cX6_stall 32 = .ok (.aload_n 0, 1) := by decide +kernel
theorem dX6_stall_33 : decode cX6_stall 33 = .ok (.getfield 10, 3) := by decide +kernel
theorem dX6_stall_36 : decode cX6_stall 36 = .ok (.invokevirtual 51, 3) := by decide +kernel
theorem dX6_stall_39 : decode cX6_stall 39 = .ok (.aload_n 0, 1) := by decide +kernel
theorem dX6_stall_40 : decode cX6_stall 40 = .ok (.getfield 10, 3) := by decide +kernel
theorem dX6_stall_43 : decode cX6_stall 43 = .ok (.iload_n 1, 1) := by decide +kernel
theorem dX6_stall_44 : decode cX6_stall 44 = .ok (.iload_n 2, 1) := by decide +kernel
theorem dX6_stall_45 : decode cX6_stall 45 = .ok (.invokevirtual 55, 3) := by decide +kernel
theorem dX6_stall_48 : decode cX6_stall 48 = .ok (.iload_n 3, 1) := by decide +kernel
theorem dX6_stall_49 : decode cX6_stall 49 = .ok (.ireturn, 1) := by decide +kernel
theorem dX6_ill_0 : decode cX6_ill 0 = .ok (.aload_n 0, 1) := by decide +kernel
theorem dX6_ill_1 : decode cX6_ill 1 = .ok (.getfield 10, 3) := by decide +kernel
theorem dX6_ill_4 : decode cX6_ill 4 = .ok (.iload_n 1, 1) := by decide +kernel
theorem dX6_ill_5 : decode cX6_ill 5 = .ok (.invokevirtual 59, 3) := by decide +kernel
theorem dX6_ill_8 : decode cX6_ill 8 = .ok (.astore_n 3, 1) := by decide +kernel
theorem dX6_ill_9 : decode cX6_ill 9 = .ok (.aload_n 3, 1) := by decide +kernel
theorem dX6_ill_10 : decode cX6_ill 10 = .ok (.ifnull 13, 3) := by decide +kernel
theorem dX6_ill_13 : decode cX6_ill 13 = .ok (.iload_n 2, 1) := by decide +kernel
theorem dX6_ill_14 : decode cX6_ill 14 = .ok (.ifCond .lt 9, 3) := by decide +kernel
theorem dX6_ill_17 : decode cX6_ill 17 = .ok (.iload_n 2, 1) := by decide +kernel
theorem dX6_ill_18 : decode cX6_ill 18 = .ok (.bipush 30, 2) := by decide +kernel
theorem dX6_ill_20 : decode cX6_ill 20 = .ok (.if_icmp .le 5, 3) := by decide +kernel
theorem dX6_ill_23 : decode cX6_ill 23 = .ok (.iconst (-1), 1) := by decide +kernel
theorem dX6_ill_24 : decode cX6_ill 24 = .ok (.ireturn, 1) := by decide +kernel
theorem dX6_ill_25 : decode cX6_ill 25 = .ok (.aload_n 0, 1) := by decide +kernel
theorem dX6_ill_26 : decode cX6_ill 26 = .ok (.getfield 25, 3) := by decide +kernel
theorem dX6_ill_29 : decode cX6_ill 29 = .ok (.aload_n 0, 1) := by decide +kernel
theorem dX6_ill_30 : decode cX6_ill 30 = .ok (.getfield 10, 3) := by decide +kernel
theorem dX6_ill_33 : decode cX6_ill 33 = .ok (.invokevirtual 51, 3) := by decide +kernel
theorem dX6_ill_36 : decode cX6_ill 36 = .ok (.aload_n 3, 1) := by decide +kernel
theorem dX6_ill_37 : decode cX6_ill 37 = .ok (.iload_n 2, 1) := by decide +kernel
theorem dX6_ill_38 : decode cX6_ill 38 = .ok (.ifCond .ne 7, 3) := by decide +kernel
theorem dX6_ill_41 : decode cX6_ill 41 = .ok (.iconst 0, 1) := by decide +kernel
theorem dX6_ill_42 : decode cX6_ill 42 = .ok (.goto 14, 3) := by decide +kernel
theorem dX6_ill_45 : decode cX6_ill 45 = .ok (.aload_n 0, 1) := by decide +kernel
theorem dX6_ill_46 : decode cX6_ill 46 = .ok (.getfield 10, 3) := by decide +kernel
theorem dX6_ill_49 : decode cX6_ill 49 = .ok (.getfield 63, 3) := by decide +kernel
theorem dX6_ill_52 : decode cX6_ill 52 = .ok (.iconst 1, 1) := by decide +kernel
theorem dX6_ill_53 : decode cX6_ill 53 = .ok (.iadd, 1) := by decide +kernel
theorem dX6_ill_54 : decode cX6_ill 54 = .ok (.iload_n 2, 1) := by decide +kernel
theorem dX6_ill_55 : decode cX6_ill 55 = .ok (.iadd, 1) := by decide +kernel
theorem dX6_ill_56 : decode cX6_ill 56 = .ok (.putfield 67, 3) := by decide +kernel
theorem dX6_ill_59 : decode cX6_ill 59 = .ok (.aload_n 3, 1) := by decide +kernel
theorem dX6_ill_60 : decode cX6_ill 60 = .ok (.getfield 67, 3) := by decide +kernel
theorem dX6_ill_63 : decode cX6_ill 63 = .ok (.ireturn, 1) := by decide +kernel
theorem dX6_rough_0 : decode cX6_rough 0 = .ok (.aload_n 0, 1) := by decide +kernel
theorem dX6_rough_1 : decode cX6_rough 1 = .ok (.getfield 10, 3) := by decide +kernel
theorem dX6_rough_4 : decode cX6_rough 4 = .ok (.iload_n 1, 1) := by decide +kernel
theorem dX6_rough_5 : decode cX6_rough 5 = .ok (.invokevirtual 59, 3) := by decide +kernel
theorem dX6_rough_8 : decode cX6_rough 8 = .ok (.astore_n 3, 1) := by decide +kernel
theorem dX6_rough_9 : decode cX6_rough 9 = .ok (.aload_n 3, 1) := by decide +kernel
theorem dX6_rough_10 : decode cX6_rough 10 = .ok (.ifnull 13, 3) := by decide +kernel
theorem dX6_rough_13 : decode cX6_rough 13 = .ok (.iload_n 2, 1) := by decide +kernel
theorem dX6_rough_14 : decode cX6_rough 14 = .ok (.ifCond .lt 9, 3) := by decide +kernel
theorem dX6_rough_17 : decode cX6_rough 17 = .ok (.iload_n 2, 1) := by decide +kernel
theorem dX6_rough_18 : decode cX6_rough 18 = .ok (.bipush 9, 2) := by decide +kernel
theorem dX6_rough_20 : decode cX6_rough 20 = .ok (.if_icmp .le 5, 3) := by decide +kernel
theorem dX6_rough_23 : decode cX6_rough 23 = .ok (.iconst (-1), 1) := by decide +kernel
theorem dX6_rough_24 : decode cX6_rough 24 = .ok (.ireturn, 1) := by decide +kernel
theorem dX6_rough_25 : decode cX6_rough 25 = .ok (.aload_n 3, 1) := by decide +kernel
theorem dX6_rough_26 : decode cX6_rough 26 = .ok (.getfield 72, 3) := by decide +kernel
theorem dX6_rough_29 : decode cX6_rough 29 = .ok (.istore 4, 2) := by decide +kernel
theorem dX6_rough_31 : decode cX6_rough 31 = .ok (.aload_n 0, 1) := by decide +kernel
theorem dX6_rough_32 : decode cX6_rough 32 = .ok (.getfield 25, 3) := by decide +kernel
theorem dX6_rough_35 : decode cX6_rough 35 = .ok (.aload_n 0, 1) := by decide +kernel
theorem dX6_rough_36 : decode cX6_rough 36 = .ok (.getfield 10, 3) := by decide +kernel
theorem dX6_rough_39 : decode cX6_rough 39 = .ok (.invokevirtual 51, 3) := by decide +kernel
theorem dX6_rough_42 : decode cX6_rough 42 = .ok (.aload_n 3, 1) := by decide +kernel
theorem dX6_rough_43 : decode cX6_rough 43 = .ok (.iload_n 2, 1) := by decide +kernel
theorem dX6_rough_44 : decode cX6_rough 44 = .ok (.putfield 72, 3) := by decide +kernel
theorem dX6_rough_47 : decode cX6_rough 47 = .ok (.iload 4, 2) := by decide +kernel
theorem dX6_rough_49 : decode cX6_rough 49 = .ok (.ireturn, 1) := by decide +kernel
theorem dX6_load_0 : decode cX6_load 0 = .ok (.iload_n 1, 1) := by decide +kernel
theorem dX6_load_1 : decode cX6_load 1 = .ok (.iconst 1, 1) := by decide +kernel
theorem dX6_load_2 : decode cX6_load 2 = .ok (.if_icmp .lt 9, 3) := by decide +kernel
theorem dX6_load_5 : decode cX6_load 5 = .ok (.iload_n 1, 1) := by decide +kernel
theorem dX6_load_6 : decode cX6_load 6 = .ok (.bipush 8, 2) := by decide +kernel
theorem dX6_load_8 : decode cX6_load 8 = .ok (.if_icmp .le 5, 3) := by decide +kernel
theorem dX6_load_11 : decode cX6_load 11 = .ok (.iconst (-1), 1) := by decide +kernel
theorem dX6_load_12 : decode cX6_load 12 = .ok (.ireturn, 1) := by decide +kernel
theorem dX6_load_13 : decode cX6_load 13 = .ok (.aload_n 0, 1) := by decide +kernel
theorem dX6_load_14 : decode cX6_load 14 = .ok (.getfield 10, 3) := by decide +kernel
theorem dX6_load_17 : decode cX6_load 17 = .ok (.getfield 75, 3) := by decide +kernel
theorem dX6_load_20 : decode cX6_load 20 = .ok (.istore_n 2, 1) := by decide +kernel
theorem dX6_load_21 : decode cX6_load 21 = .ok (.aload_n 0, 1) := by decide +kernel
theorem dX6_load_22 : decode cX6_load 22 = .ok (.getfield 25, 3) := by decide +kernel
theorem dX6_load_25 : decode cX6_load 25 = .ok (.aload_n 0, 1) := by decide +kernel
theorem dX6_load_26 : decode cX6_load 26 = .ok (.getfield 10, 3) := by decide +kernel
theorem dX6_load_29 : decode cX6_load 29 = .ok (.invokevirtual 51, 3) := by decide +kernel
theorem dX6_load_32 : decode cX6_load 32 = .ok (.aload_n 0, 1) := by decide +kernel
theorem dX6_load_33 : decode cX6_load 33 = .ok (.getfield 10, 3) := by decide +kernel
theorem dX6_load_36 : decode cX6_load 36 = .ok (.iload_n 1, 1) := by decide +kernel
theorem dX6_load_37 : decode cX6_load 37 = .ok (.putfield 75, 3) := by decide +kernel
theorem dX6_load_40 : decode cX6_load 40 = .ok (.iload_n 2, 1) := by decide +kernel
theorem dX6_load_41 : decode cX6_load 41 = .ok (.ireturn, 1) := by decide +kernel
theorem dX6_post_0 : decode cX6_post 0 = .ok (.iload_n 1, 1) := by decide +kernel
theorem dX6_post_1 : decode cX6_post 1 = .ok (.iload_n 2, 1) := by decide +kernel
theorem dX6_post_2 : decode cX6_post 2 = .ok (.invokestatic 78, 3) := by decide +kernel
theorem dX6_post_5 : decode cX6_post 5 = .ok (.ifCond .ne 5, 3) := by decide +kernel
theorem dX6_post_8 : decode cX6_post 8 = .ok (.iconst (-1), 1) := by decide +kernel
theorem dX6_post_9 : decode cX6_post 9 = .ok (.ireturn, 1) := by decide +kernel
theorem dX6_post_10 : decode cX6_post 10 = .ok (.aload_n 0, 1) := by decide +kernel
theorem dX6_post_11 : decode cX6_post 11 = .ok (.getfield 10, 3) := by decide +kernel
theorem dX6_post_14 : decode cX6_post 14 = .ok (.getfield 82, 3) := by decide +kernel
theorem dX6_post_17 : decode cX6_post 17 = .ok (.bipush 8, 2) := by decide +kernel
theorem dX6_post_19 : decode cX6_post 19 = .ok (.if_icmp .lt 6, 3) := by decide +kernel
theorem dX6_post_22 : decode cX6_post 22 = .ok (.bipush (-3), 2) := by decide +kernel
theorem dX6_post_24 : decode cX6_post 24 = .ok (.ireturn, 1) := by decide +kernel
theorem dX6_post_25 : decode cX6_post 25 = .ok (.aload_n 0, 1) := by decide +kernel
theorem dX6_post_26 : decode cX6_post 26 = .ok (.getfield 25, 3) := by decide +kernel
theorem dX6_post_29 : decode cX6_post 29 = .ok (.aload_n 0, 1) := by decide +kernel
theorem dX6_post_30 : decode cX6_post 30 = .ok (.getfield 10, 3) := by decide +kernel
theorem dX6_post_33 : decode cX6_post 33 = .ok (.invokevirtual 51, 3) := by decide +kernel
theorem dX6_post_36 : decode cX6_post 36 = .ok (.aload_n 0, 1) := by decide +kernel
theorem dX6_post_37 : decode cX6_post 37 = .ok (.getfield 39, 3) := by decide +kernel
theorem dX6_post_40 : decode cX6_post 40 = .ok (.aload_n 0, 1) := by decide +kernel
theorem dX6_post_41 : decode cX6_post 41 = .ok (.getfield 10, 3) := by decide +kernel
theorem dX6_post_44 : decode cX6_post 44 = .ok (.iload_n 1, 1) := by decide +kernel
theorem dX6_post_45 : decode cX6_post 45 = .ok (.iload_n 2, 1) := by decide +kernel
theorem dX6_post_46 : decode cX6_post 46 = .ok (.aload_n 0, 1) := by decide +kernel
theorem dX6_post_47 : decode cX6_post 47 = .ok (.getfield 10, 3) := by decide +kernel
theorem dX6_post_50 : decode cX6_post 50 = .ok (.getfield 63, 3) := by decide +kernel
theorem dX6_post_53 : decode cX6_post 53 = .ok (.invokevirtual 85, 3) := by decide +kernel
theorem dX6_post_56 : decode cX6_post 56 = .ok (.istore_n 3, 1) := by decide +kernel
theorem dX6_post_57 : decode cX6_post 57 = .ok (.aload_n 0, 1) := by decide +kernel
theorem dX6_post_58 : decode cX6_post 58 = .ok (.getfield 10, 3) := by decide +kernel
theorem dX6_post_61 : decode cX6_post 61 = .ok (.iload_n 1, 1) := by decide +kernel
theorem dX6_post_62 : decode cX6_post 62 = .ok (.iload_n 2, 1) := by decide +kernel
theorem dX6_post_63 : decode cX6_post 63 = .ok (.iload_n 3, 1) := by decide +kernel
theorem dX6_post_64 : decode cX6_post 64 = .ok (.invokevirtual 89, 3) := by decide +kernel
theorem dX6_post_67 : decode cX6_post 67 = .ok (.iload_n 3, 1) := by decide +kernel
theorem dX6_post_68 : decode cX6_post 68 = .ok (.ireturn, 1) := by decide +kernel
theorem dX6_forget_0 : decode cX6_forget 0 = .ok (.aload_n 0, 1) := by decide +kernel
theorem dX6_forget_1 : decode cX6_forget 1 = .ok (.getfield 10, 3) := by decide +kernel
theorem dX6_forget_4 : decode cX6_forget 4 = .ok (.iload_n 1, 1) := by decide +kernel
theorem dX6_forget_5 : decode cX6_forget 5 = .ok (.invokevirtual 93, 3) := by decide +kernel
theorem dX6_forget_8 : decode cX6_forget 8 = .ok (.ifnonnull 5, 3) := by decide +kernel
theorem dX6_forget_11 : decode cX6_forget 11 = .ok (.iconst (-1), 1) := by decide +kernel
theorem dX6_forget_12 : decode cX6_forget 12 = .ok (.ireturn, 1) := by decide +kernel
theorem dX6_forget_13 : decode cX6_forget 13 = .ok (.aload_n 0, 1) := by decide +kernel
theorem dX6_forget_14 : decode cX6_forget 14 = .ok (.getfield 25, 3) := by decide +kernel
theorem dX6_forget_17 : decode cX6_forget 17 = .ok (.aload_n 0, 1) := by decide +kernel
theorem dX6_forget_18 : decode cX6_forget 18 = .ok (.getfield 10, 3) := by decide +kernel
theorem dX6_forget_21 : decode cX6_forget 21 = .ok (.invokevirtual 51, 3) := by decide +kernel
theorem dX6_forget_24 : decode cX6_forget 24 = .ok (.aload_n 0, 1) := by decide +kernel
theorem dX6_forget_25 : decode cX6_forget 25 = .ok (.getfield 10, 3) := by decide +kernel
theorem dX6_forget_28 : decode cX6_forget 28 = .ok (.iload_n 1, 1) := by decide +kernel
theorem dX6_forget_29 : decode cX6_forget 29 = .ok (.invokevirtual 97, 3) := by decide +kernel
theorem dX6_forget_32 : decode cX6_forget 32 = .ok (.aload_n 0, 1) := by decide +kernel
theorem dX6_forget_33 : decode cX6_forget 33 = .ok (.getfield 10, 3) := by decide +kernel
theorem dX6_forget_36 : decode cX6_forget 36 = .ok (.getfield 82, 3) := by decide +kernel
theorem dX6_forget_39 : decode cX6_forget 39 = .ok (.ireturn, 1) := by decide +kernel
theorem dX6_pass_0 : decode cX6_pass 0 = .ok (.iload_n 1, 1) := by decide +kernel
theorem dX6_pass_1 : decode cX6_pass 1 = .ok (.iconst 1, 1) := by decide +kernel
theorem dX6_pass_2 : decode cX6_pass 2 = .ok (.if_icmp .lt 9, 3) := by decide +kernel
theorem dX6_pass_5 : decode cX6_pass 5 = .ok (.iload_n 1, 1) := by decide +kernel
theorem dX6_pass_6 : decode cX6_pass 6 = .ok (.bipush 30, 2) := by decide +kernel
theorem dX6_pass_8 : decode cX6_pass 8 = .ok (.if_icmp .le 5, 3) := by decide +kernel
theorem dX6_pass_11 : decode cX6_pass 11 = .ok (.iconst (-1), 1) := by decide +kernel
theorem dX6_pass_12 : decode cX6_pass 12 = .ok (.ireturn, 1) := by decide +kernel
theorem dX6_pass_13 : decode cX6_pass 13 = .ok (.aload_n 0, 1) := by decide +kernel
theorem dX6_pass_14 : decode cX6_pass 14 = .ok (.getfield 10, 3) := by decide +kernel
theorem dX6_pass_17 : decode cX6_pass 17 = .ok (.getfield 101, 3) := by decide +kernel
theorem dX6_pass_20 : decode cX6_pass 20 = .ok (.istore_n 2, 1) := by decide +kernel
theorem dX6_pass_21 : decode cX6_pass 21 = .ok (.aload_n 0, 1) := by decide +kernel
theorem dX6_pass_22 : decode cX6_pass 22 = .ok (.getfield 25, 3) := by decide +kernel
theorem dX6_pass_25 : decode cX6_pass 25 = .ok (.aload_n 0, 1) := by decide +kernel
theorem dX6_pass_26 : decode cX6_pass 26 = .ok (.getfield 10, 3) := by decide +kernel
theorem dX6_pass_29 : decode cX6_pass 29 = .ok (.invokevirtual 51, 3) := by decide +kernel
theorem dX6_pass_32 : decode cX6_pass 32 = .ok (.iconst 0, 1) := by decide +kernel
theorem dX6_pass_33 : decode cX6_pass 33 = .ok (.istore_n 3, 1) := by decide +kernel
theorem dX6_pass_34 : decode cX6_pass 34 = .ok (.iload_n 3, 1) := by decide +kernel
theorem dX6_pass_35 : decode cX6_pass 35 = .ok (.iload_n 1, 1) := by decide +kernel
theorem dX6_pass_36 : decode cX6_pass 36 = .ok (.if_icmp .ge 20, 3) := by decide +kernel
theorem dX6_pass_39 : decode cX6_pass 39 = .ok (.aload_n 0, 1) := by decide +kernel
theorem dX6_pass_40 : decode cX6_pass 40 = .ok (.getfield 10, 3) := by decide +kernel
theorem dX6_pass_43 : decode cX6_pass 43 = .ok (.aload_n 0, 1) := by decide +kernel
theorem dX6_pass_44 : decode cX6_pass 44 = .ok (.getfield 39, 3) := by decide +kernel
theorem dX6_pass_47 : decode cX6_pass 47 = .ok (.invokevirtual 104, 3) := by decide +kernel
theorem dX6_pass_50 : decode cX6_pass 50 = .ok (.iinc 3 1, 3) := by decide +kernel
theorem dX6_pass_53 : decode cX6_pass 53 = .ok (.goto (-19), 3) := by decide +kernel
theorem dX6_pass_56 : decode cX6_pass 56 = .ok (.aload_n 0, 1) := by decide +kernel
theorem dX6_pass_57 : decode cX6_pass 57 = .ok (.getfield 10, 3) := by decide +kernel
theorem dX6_pass_60 : decode cX6_pass 60 = .ok (.getfield 101, 3) := by decide +kernel
theorem dX6_pass_63 : decode cX6_pass 63 = .ok (.iload_n 2, 1) := by decide +kernel
theorem dX6_pass_64 : decode cX6_pass 64 = .ok (.isub, 1) := by decide +kernel
theorem dX6_pass_65 : decode cX6_pass 65 = .ok (.ireturn, 1) := by decide +kernel
theorem dX6_append_0 : decode cX6_append 0 = .ok (.iload_n 1, 1) := by decide +kernel
theorem dX6_append_1 : decode cX6_append 1 = .ok (.bipush 33, 2) := by decide +kernel
theorem dX6_append_3 : decode cX6_append 3 = .ok (.if_icmp .lt 9, 3) := by decide +kernel
theorem dX6_append_6 : decode cX6_append 6 = .ok (.iload_n 1, 1) := by decide +kernel
theorem dX6_append_7 : decode cX6_append 7 = .ok (.bipush 126, 2) := by decide +kernel
theorem dX6_append_9 : decode cX6_append 9 = .ok (.if_icmp .le 5, 3) := by decide +kernel
theorem dX6_append_12 : decode cX6_append 12 = .ok (.iconst (-1), 1) := by decide +kernel
theorem dX6_append_13 : decode cX6_append 13 = .ok (.ireturn, 1) := by decide +kernel
theorem dX6_append_14 : decode cX6_append 14 = .ok (.aload_n 0, 1) := by decide +kernel
theorem dX6_append_15 : decode cX6_append 15 = .ok (.getfield 32, 3) := by decide +kernel
theorem dX6_append_18 : decode cX6_append 18 = .ok (.getfield 108, 3) := by decide +kernel
theorem dX6_append_21 : decode cX6_append 21 = .ok (.bipush 60, 2) := by decide +kernel
theorem dX6_append_23 : decode cX6_append 23 = .ok (.if_icmp .lt 6, 3) := by decide +kernel
theorem dX6_append_26 : decode cX6_append 26 = .ok (.bipush (-3), 2) := by decide +kernel
theorem dX6_append_28 : decode cX6_append 28 = .ok (.ireturn, 1) := by decide +kernel
theorem dX6_append_29 : decode cX6_append 29 = .ok (.aload_n 0, 1) := by decide +kernel
theorem dX6_append_30 : decode cX6_append 30 = .ok (.getfield 32, 3) := by decide +kernel
theorem dX6_append_33 : decode cX6_append 33 = .ok (.iload_n 1, 1) := by decide +kernel
theorem dX6_append_34 : decode cX6_append 34 = .ok (.invokevirtual 111, 3) := by decide +kernel
theorem dX6_append_37 : decode cX6_append 37 = .ok (.aload_n 0, 1) := by decide +kernel
theorem dX6_append_38 : decode cX6_append 38 = .ok (.getfield 32, 3) := by decide +kernel
theorem dX6_append_41 : decode cX6_append 41 = .ok (.getfield 108, 3) := by decide +kernel
theorem dX6_append_44 : decode cX6_append 44 = .ok (.ireturn, 1) := by decide +kernel
theorem dX6_clear_0 : decode cX6_clear 0 = .ok (.aload_n 0, 1) := by decide +kernel
theorem dX6_clear_1 : decode cX6_clear 1 = .ok (.getfield 32, 3) := by decide +kernel
theorem dX6_clear_4 : decode cX6_clear 4 = .ok (.getfield 108, 3) := by decide +kernel
theorem dX6_clear_7 : decode cX6_clear 7 = .ok (.istore_n 1, 1) := by decide +kernel
theorem dX6_clear_8 : decode cX6_clear 8 = .ok (.aload_n 0, 1) := by decide +kernel
theorem dX6_clear_9 : decode cX6_clear 9 = .ok (.getfield 32, 3) := by decide +kernel
theorem dX6_clear_12 : decode cX6_clear 12 = .ok (.iconst 0, 1) := by decide +kernel
theorem dX6_clear_13 : decode cX6_clear 13 = .ok (.putfield 108, 3) := by decide +kernel
theorem dX6_clear_16 : decode cX6_clear 16 = .ok (.iload_n 1, 1) := by decide +kernel
theorem dX6_clear_17 : decode cX6_clear 17 = .ok (.ireturn, 1) := by decide +kernel
theorem dX6_fault_0 : decode cX6_fault 0 = .ok (.iload_n 1, 1) := by decide +kernel
theorem dX6_fault_1 : decode cX6_fault 1 = .ok (.ifCond .eq 10, 3) := by decide +kernel
theorem dX6_fault_4 : decode cX6_fault 4 = .ok (.iload_n 1, 1) := by decide +kernel
theorem dX6_fault_5 : decode cX6_fault 5 = .ok (.iconst 1, 1) := by decide +kernel
theorem dX6_fault_6 : decode cX6_fault 6 = .ok (.if_icmp .eq 5, 3) := by decide +kernel
theorem dX6_fault_9 : decode cX6_fault 9 = .ok (.iconst (-1), 1) := by decide +kernel
theorem dX6_fault_10 : decode cX6_fault 10 = .ok (.ireturn, 1) := by decide +kernel
theorem dX6_fault_11 : decode cX6_fault 11 = .ok (.iload_n 1, 1) := by decide +kernel
theorem dX6_fault_12 : decode cX6_fault 12 = .ok (.ifCond .ne 13, 3) := by decide +kernel
theorem dX6_fault_15 : decode cX6_fault 15 = .ok (.aload_n 0, 1) := by decide +kernel
theorem dX6_fault_16 : decode cX6_fault 16 = .ok (.getfield 32, 3) := by decide +kernel
theorem dX6_fault_19 : decode cX6_fault 19 = .ok (.invokevirtual 114, 3) := by decide +kernel
theorem dX6_fault_22 : decode cX6_fault 22 = .ok (.goto 10, 3) := by decide +kernel
theorem dX6_fault_25 : decode cX6_fault 25 = .ok (.aload_n 0, 1) := by decide +kernel
theorem dX6_fault_26 : decode cX6_fault 26 = .ok (.getfield 32, 3) := by decide +kernel
theorem dX6_fault_29 : decode cX6_fault 29 = .ok (.invokevirtual 118, 3) := by decide +kernel
theorem dX6_fault_32 : decode cX6_fault 32 = .ok (.ireturn, 1) := by decide +kernel
theorem dX6_tours_0 : decode cX6_tours 0 = .ok (.aload_n 0, 1) := by decide +kernel
theorem dX6_tours_1 : decode cX6_tours 1 = .ok (.getfield 32, 3) := by decide +kernel
theorem dX6_tours_4 : decode cX6_tours 4 = .ok (.invokevirtual 114, 3) := by decide +kernel
theorem dX6_tours_7 : decode cX6_tours 7 = .ok (.bipush (-4), 2) := by decide +kernel
theorem dX6_tours_9 : decode cX6_tours 9 = .ok (.if_icmp .eq 6, 3) := by decide +kernel
theorem dX6_tours_12 : decode cX6_tours 12 = .ok (.bipush (-2), 2) := by decide +kernel
theorem dX6_tours_14 : decode cX6_tours 14 = .ok (.ireturn, 1) := by decide +kernel
theorem dX6_tours_15 : decode cX6_tours 15 = .ok (.aload_n 0, 1) := by decide +kernel
theorem dX6_tours_16 : decode cX6_tours 16 = .ok (.getfield 10, 3) := by decide +kernel
theorem dX6_tours_19 : decode cX6_tours 19 = .ok (.getfield 121, 3) := by decide +kernel
theorem dX6_tours_22 : decode cX6_tours 22 = .ok (.aload_n 0, 1) := by decide +kernel
theorem dX6_tours_23 : decode cX6_tours 23 = .ok (.getfield 32, 3) := by decide +kernel
theorem dX6_tours_26 : decode cX6_tours 26 = .ok (.bipush 59, 2) := by decide +kernel
theorem dX6_tours_28 : decode cX6_tours 28 = .ok (.invokevirtual 124, 3) := by decide +kernel
theorem dX6_tours_31 : decode cX6_tours 31 = .ok (.iadd, 1) := by decide +kernel
theorem dX6_tours_32 : decode cX6_tours 32 = .ok (.iconst 4, 1) := by decide +kernel
theorem dX6_tours_33 : decode cX6_tours 33 = .ok (.if_icmp .le 6, 3) := by decide +kernel
theorem dX6_tours_36 : decode cX6_tours 36 = .ok (.bipush (-3), 2) := by decide +kernel
theorem dX6_tours_38 : decode cX6_tours 38 = .ok (.ireturn, 1) := by decide +kernel
theorem dX6_tours_39 : decode cX6_tours 39 = .ok (.aload_n 0, 1) := by decide +kernel
theorem dX6_tours_40 : decode cX6_tours 40 = .ok (.getfield 25, 3) := by decide +kernel
theorem dX6_tours_43 : decode cX6_tours 43 = .ok (.aload_n 0, 1) := by decide +kernel
theorem dX6_tours_44 : decode cX6_tours 44 = .ok (.getfield 10, 3) := by decide +kernel
theorem dX6_tours_47 : decode cX6_tours 47 = .ok (.invokevirtual 51, 3) := by decide +kernel
theorem dX6_tours_50 : decode cX6_tours 50 = .ok (.aload_n 0, 1) := by decide +kernel
theorem dX6_tours_51 : decode cX6_tours 51 = .ok (.invokevirtual 127, 3) := by decide +kernel
theorem dX6_tours_54 : decode cX6_tours 54 = .ok (.aload_n 0, 1) := by decide +kernel
theorem dX6_tours_55 : decode cX6_tours 55 = .ok (.getfield 32, 3) := by decide +kernel
theorem dX6_tours_58 : decode cX6_tours 58 = .ok (.iconst 0, 1) := by decide +kernel
theorem dX6_tours_59 : decode cX6_tours 59 = .ok (.putfield 108, 3) := by decide +kernel
theorem dX6_tours_62 : decode cX6_tours 62 = .ok (.aload_n 0, 1) := by decide +kernel
theorem dX6_tours_63 : decode cX6_tours 63 = .ok (.getfield 10, 3) := by decide +kernel
theorem dX6_tours_66 : decode cX6_tours 66 = .ok (.getfield 121, 3) := by decide +kernel
theorem dX6_tours_69 : decode cX6_tours 69 = .ok (.ireturn, 1) := by decide +kernel
theorem dX6_letters_0 : decode cX6_letters 0 = .ok (.aload_n 0, 1) := by decide +kernel
theorem dX6_letters_1 : decode cX6_letters 1 = .ok (.getfield 32, 3) := by decide +kernel
theorem dX6_letters_4 : decode cX6_letters 4 = .ok (.invokevirtual 118, 3) := by decide +kernel
theorem dX6_letters_7 : decode cX6_letters 7 = .ok (.bipush (-4), 2) := by decide +kernel
theorem dX6_letters_9 : decode cX6_letters 9 = .ok (.if_icmp .eq 6, 3) := by decide +kernel
theorem dX6_letters_12 : decode cX6_letters 12 = .ok (.bipush (-2), 2) := by decide +kernel
theorem dX6_letters_14 : decode cX6_letters 14 = .ok (.ireturn, 1) := by decide +kernel
theorem dX6_letters_15 : decode cX6_letters 15 = .ok (.aload_n 0, 1) := by decide +kernel
theorem dX6_letters_16 : decode cX6_letters 16 = .ok (.getfield 10, 3) := by decide +kernel
theorem dX6_letters_19 : decode cX6_letters 19 = .ok (.getfield 82, 3) := by decide +kernel
theorem dX6_letters_22 : decode cX6_letters 22 = .ok (.aload_n 0, 1) := by decide +kernel
theorem dX6_letters_23 : decode cX6_letters 23 = .ok (.getfield 32, 3) := by decide +kernel
theorem dX6_letters_26 : decode cX6_letters 26 = .ok (.bipush 44, 2) := by decide +kernel
theorem dX6_letters_28 : decode cX6_letters 28 = .ok (.invokevirtual 124, 3) := by decide +kernel
theorem dX6_letters_31 : decode cX6_letters 31 = .ok (.iadd, 1) := by decide +kernel
theorem dX6_letters_32 : decode cX6_letters 32 = .ok (.bipush 8, 2) := by decide +kernel
theorem dX6_letters_34 : decode cX6_letters 34 = .ok (.if_icmp .le 6, 3) := by decide +kernel
theorem dX6_letters_37 : decode cX6_letters 37 = .ok (.bipush (-3), 2) := by decide +kernel
theorem dX6_letters_39 : decode cX6_letters 39 = .ok (.ireturn, 1) := by decide +kernel
theorem dX6_letters_40 : decode cX6_letters 40 = .ok (.aload_n 0, 1) := by decide +kernel
theorem dX6_letters_41 : decode cX6_letters 41 = .ok (.getfield 25, 3) := by decide +kernel
theorem dX6_letters_44 : decode cX6_letters 44 = .ok (.aload_n 0, 1) := by decide +kernel
theorem dX6_letters_45 : decode cX6_letters 45 = .ok (.getfield 10, 3) := by decide +kernel
theorem dX6_letters_48 : decode cX6_letters 48 = .ok (.invokevirtual 51, 3) := by decide +kernel
theorem dX6_letters_51 : decode cX6_letters 51 = .ok (.iconst 0, 1) := by decide +kernel
theorem dX6_letters_52 : decode cX6_letters 52 = .ok (.istore_n 1, 1) := by decide +kernel
theorem dX6_letters_53 : decode cX6_letters 53 = .ok (.iload_n 1, 1) := by decide +kernel
theorem dX6_letters_54 : decode cX6_letters 54 = .ok (.iconst 2, 1) := by decide +kernel
theorem dX6_letters_55 : decode cX6_letters 55 = .ok (.iadd, 1) := by decide +kernel
theorem dX6_letters_56 : decode cX6_letters 56 = .ok (.aload_n 0, 1) := by decide +kernel
theorem dX6_letters_57 : decode cX6_letters 57 = .ok (.getfield 32, 3) := by decide +kernel
theorem dX6_letters_60 : decode cX6_letters 60 = .ok (.getfield 108, 3) := by decide +kernel
theorem dX6_letters_63 : decode cX6_letters 63 = .ok (.if_icmp .ge 64, 3) := by decide +kernel
theorem dX6_letters_66 : decode cX6_letters 66 = .ok (.aload_n 0, 1) := by decide +kernel
theorem dX6_letters_67 : decode cX6_letters 67 = .ok (.getfield 32, 3) := by decide +kernel
theorem dX6_letters_70 : decode cX6_letters 70 = .ok (.iload_n 1, 1) := by decide +kernel
theorem dX6_letters_71 : decode cX6_letters 71 = .ok (.invokevirtual 130, 3) := by decide +kernel
theorem dX6_letters_74 : decode cX6_letters 74 = .ok (.bipush 48, 2) := by decide +kernel
theorem dX6_letters_76 : decode cX6_letters 76 = .ok (.isub, 1) := by decide +kernel
theorem dX6_letters_77 : decode cX6_letters 77 = .ok (.istore_n 2, 1) := by decide +kernel
theorem dX6_letters_78 : decode cX6_letters 78 = .ok (.aload_n 0, 1) := by decide +kernel
theorem dX6_letters_79 : decode cX6_letters 79 = .ok (.getfield 32, 3) := by decide +kernel
theorem dX6_letters_82 : decode cX6_letters 82 = .ok (.iload_n 1, 1) := by decide +kernel
theorem dX6_letters_83 : decode cX6_letters 83 = .ok (.iconst 2, 1) := by decide +kernel
theorem dX6_letters_84 : decode cX6_letters 84 = .ok (.iadd, 1) := by decide +kernel
theorem dX6_letters_85 : decode cX6_letters 85 = .ok (.invokevirtual 130, 3) := by decide +kernel
theorem dX6_letters_88 : decode cX6_letters 88 = .ok (.bipush 48, 2) := by decide +kernel
theorem dX6_letters_90 : decode cX6_letters 90 = .ok (.isub, 1) := by decide +kernel
theorem dX6_letters_91 : decode cX6_letters 91 = .ok (.istore_n 3, 1) := by decide +kernel
theorem dX6_letters_92 : decode cX6_letters 92 = .ok (.aload_n 0, 1) := by decide +kernel
theorem dX6_letters_93 : decode cX6_letters 93 = .ok (.getfield 10, 3) := by decide +kernel
theorem dX6_letters_96 : decode cX6_letters 96 = .ok (.iload_n 2, 1) := by decide +kernel
theorem dX6_letters_97 : decode cX6_letters 97 = .ok (.iload_n 3, 1) := by decide +kernel
theorem dX6_letters_98 : decode cX6_letters 98 = .ok (.aload_n 0, 1) := by decide +kernel
theorem dX6_letters_99 : decode cX6_letters 99 = .ok (.getfield 39, 3) := by decide +kernel
theorem dX6_letters_102 : decode cX6_letters 102 = .ok (.aload_n 0, 1) := by decide +kernel
theorem dX6_letters_103 : decode cX6_letters 103 = .ok (.getfield 10, 3) := by decide +kernel
theorem dX6_letters_106 : decode cX6_letters 106 = .ok (.iload_n 2, 1) := by decide +kernel
theorem dX6_letters_107 : decode cX6_letters 107 = .ok (.iload_n 3, 1) := by decide +kernel
theorem dX6_letters_108 : decode cX6_letters 108 = .ok (.aload_n 0, 1) := by decide +kernel
theorem dX6_letters_109 : decode cX6_letters 109 = .ok (.getfield 10, 3) := by decide +kernel
theorem dX6_letters_112 : decode cX6_letters 112 = .ok (.getfield 63, 3) := by decide +kernel
theorem dX6_letters_115 : decode cX6_letters 115 = .ok (.invokevirtual 85, 3) := by decide +kernel
theorem dX6_letters_118 : decode cX6_letters 118 = .ok (.invokevirtual 89, 3) := by decide +kernel
theorem dX6_letters_121 : decode cX6_letters 121 = .ok (.iinc 1 4, 3) := by decide +kernel
theorem dX6_letters_124 : decode cX6_letters 124 = .ok (.goto (-71), 3) := by decide +kernel
theorem dX6_letters_127 : decode cX6_letters 127 = .ok (.aload_n 0, 1) := by decide +kernel
theorem dX6_letters_128 : decode cX6_letters 128 = .ok (.getfield 32, 3) := by decide +kernel
theorem dX6_letters_131 : decode cX6_letters 131 = .ok (.iconst 0, 1) := by decide +kernel
theorem dX6_letters_132 : decode cX6_letters 132 = .ok (.putfield 108, 3) := by decide +kernel
theorem dX6_letters_135 : decode cX6_letters 135 = .ok (.aload_n 0, 1) := by decide +kernel
theorem dX6_letters_136 : decode cX6_letters 136 = .ok (.getfield 10, 3) := by decide +kernel
theorem dX6_letters_139 : decode cX6_letters 139 = .ok (.getfield 82, 3) := by decide +kernel
theorem dX6_letters_142 : decode cX6_letters 142 = .ok (.ireturn, 1) := by decide +kernel
theorem dX6_where_0 : decode cX6_where 0 = .ok (.aload_n 0, 1) := by decide +kernel
theorem dX6_where_1 : decode cX6_where 1 = .ok (.getfield 10, 3) := by decide +kernel
theorem dX6_where_4 : decode cX6_where 4 = .ok (.iload_n 1, 1) := by decide +kernel
theorem dX6_where_5 : decode cX6_where 5 = .ok (.invokevirtual 133, 3) := by decide +kernel
theorem dX6_where_8 : decode cX6_where 8 = .ok (.ifCond .eq 14, 3) := by decide +kernel
theorem dX6_where_11 : decode cX6_where 11 = .ok (.iload_n 2, 1) := by decide +kernel
theorem dX6_where_12 : decode cX6_where 12 = .ok (.ifCond .lt 10, 3) := by decide +kernel
theorem dX6_where_15 : decode cX6_where 15 = .ok (.iload_n 2, 1) := by decide +kernel
theorem dX6_where_16 : decode cX6_where 16 = .ok (.sipush 9999, 3) := by decide +kernel
theorem dX6_where_19 : decode cX6_where 19 = .ok (.if_icmp .le 5, 3) := by decide +kernel
theorem dX6_where_22 : decode cX6_where 22 = .ok (.iconst (-1), 1) := by decide +kernel
theorem dX6_where_23 : decode cX6_where 23 = .ok (.ireturn, 1) := by decide +kernel
theorem dX6_where_24 : decode cX6_where 24 = .ok (.aload_n 0, 1) := by decide +kernel
theorem dX6_where_25 : decode cX6_where 25 = .ok (.getfield 10, 3) := by decide +kernel
theorem dX6_where_28 : decode cX6_where 28 = .ok (.iload_n 1, 1) := by decide +kernel
theorem dX6_where_29 : decode cX6_where 29 = .ok (.iload_n 2, 1) := by decide +kernel
theorem dX6_where_30 : decode cX6_where 30 = .ok (.invokevirtual 136, 3) := by decide +kernel
theorem dX6_where_33 : decode cX6_where 33 = .ok (.istore_n 3, 1) := by decide +kernel
theorem dX6_where_34 : decode cX6_where 34 = .ok (.iload_n 3, 1) := by decide +kernel
theorem dX6_where_35 : decode cX6_where 35 = .ok (.iconst (-1), 1) := by decide +kernel
theorem dX6_where_36 : decode cX6_where 36 = .ok (.if_icmp .ne 8, 3) := by decide +kernel
theorem dX6_where_39 : decode cX6_where 39 = .ok (.bipush (-4), 2) := by decide +kernel
theorem dX6_where_41 : decode cX6_where 41 = .ok (.goto 4, 3) := by decide +kernel
theorem dX6_where_44 : decode cX6_where 44 = .ok (.iload_n 3, 1) := by decide +kernel
theorem dX6_where_45 : decode cX6_where 45 = .ok (.ireturn, 1) := by decide +kernel
theorem dX6_carrier_0 : decode cX6_carrier 0 = .ok (.aload_n 0, 1) := by decide +kernel
theorem dX6_carrier_1 : decode cX6_carrier 1 = .ok (.getfield 10, 3) := by decide +kernel
theorem dX6_carrier_4 : decode cX6_carrier 4 = .ok (.iload_n 1, 1) := by decide +kernel
theorem dX6_carrier_5 : decode cX6_carrier 5 = .ok (.invokevirtual 59, 3) := by decide +kernel
theorem dX6_carrier_8 : decode cX6_carrier 8 = .ok (.astore_n 3, 1) := by decide +kernel
theorem dX6_carrier_9 : decode cX6_carrier 9 = .ok (.aload_n 3, 1) := by decide +kernel
theorem dX6_carrier_10 : decode cX6_carrier 10 = .ok (.ifnonnull 5, 3) := by decide +kernel
theorem dX6_carrier_13 : decode cX6_carrier 13 = .ok (.iconst (-1), 1) := by decide +kernel
theorem dX6_carrier_14 : decode cX6_carrier 14 = .ok (.ireturn, 1) := by decide +kernel
theorem dX6_carrier_15 : decode cX6_carrier 15 = .ok (.iload_n 2, 1) := by decide +kernel
theorem dX6_carrier_16 : decode cX6_carrier 16 = .ok (.tableswitch 95 0 6 #[44, 49, 54, 63, 80, 85, 90], 44) := by decide +kernel
theorem dX6_carrier_60 : decode cX6_carrier 60 = .ok (.aload_n 3, 1) := by decide +kernel
theorem dX6_carrier_61 : decode cX6_carrier 61 = .ok (.getfield 140, 3) := by decide +kernel
theorem dX6_carrier_64 : decode cX6_carrier 64 = .ok (.ireturn, 1) := by decide +kernel
theorem dX6_carrier_65 : decode cX6_carrier 65 = .ok (.aload_n 3, 1) := by decide +kernel
theorem dX6_carrier_66 : decode cX6_carrier 66 = .ok (.getfield 72, 3) := by decide +kernel
theorem dX6_carrier_69 : decode cX6_carrier 69 = .ok (.ireturn, 1) := by decide +kernel
theorem dX6_carrier_70 : decode cX6_carrier 70 = .ok (.aload_n 0, 1) := by decide +kernel
theorem dX6_carrier_71 : decode cX6_carrier 71 = .ok (.getfield 10, 3) := by decide +kernel
theorem dX6_carrier_74 : decode cX6_carrier 74 = .ok (.iload_n 1, 1) := by decide +kernel
theorem dX6_carrier_75 : decode cX6_carrier 75 = .ok (.invokevirtual 141, 3) := by decide +kernel
theorem dX6_carrier_78 : decode cX6_carrier 78 = .ok (.ireturn, 1) := by decide +kernel
theorem dX6_carrier_79 : decode cX6_carrier 79 = .ok (.aload_n 0, 1) := by decide +kernel
theorem dX6_carrier_80 : decode cX6_carrier 80 = .ok (.getfield 10, 3) := by decide +kernel
theorem dX6_carrier_83 : decode cX6_carrier 83 = .ok (.iload_n 1, 1) := by decide +kernel
theorem dX6_carrier_84 : decode cX6_carrier 84 = .ok (.invokevirtual 144, 3) := by decide +kernel
theorem dX6_carrier_87 : decode cX6_carrier 87 = .ok (.ifCond .eq 7, 3) := by decide +kernel
theorem dX6_carrier_90 : decode cX6_carrier 90 = .ok (.iconst 1, 1) := by decide +kernel
theorem dX6_carrier_91 : decode cX6_carrier 91 = .ok (.goto 4, 3) := by decide +kernel
theorem dX6_carrier_94 : decode cX6_carrier 94 = .ok (.iconst 0, 1) := by decide +kernel
theorem dX6_carrier_95 : decode cX6_carrier 95 = .ok (.ireturn, 1) := by decide +kernel
theorem dX6_carrier_96 : decode cX6_carrier 96 = .ok (.aload_n 3, 1) := by decide +kernel
theorem dX6_carrier_97 : decode cX6_carrier 97 = .ok (.getfield 67, 3) := by decide +kernel
theorem dX6_carrier_100 : decode cX6_carrier 100 = .ok (.ireturn, 1) := by decide +kernel
theorem dX6_carrier_101 : decode cX6_carrier 101 = .ok (.aload_n 3, 1) := by decide +kernel
theorem dX6_carrier_102 : decode cX6_carrier 102 = .ok (.getfield 147, 3) := by decide +kernel
theorem dX6_carrier_105 : decode cX6_carrier 105 = .ok (.ireturn, 1) := by decide +kernel
theorem dX6_carrier_106 : decode cX6_carrier 106 = .ok (.aload_n 3, 1) := by decide +kernel
theorem dX6_carrier_107 : decode cX6_carrier 107 = .ok (.getfield 150, 3) := by decide +kernel
theorem dX6_carrier_110 : decode cX6_carrier 110 = .ok (.ireturn, 1) := by decide +kernel
theorem dX6_carrier_111 : decode cX6_carrier 111 = .ok (.iconst (-1), 1) := by decide +kernel
theorem dX6_carrier_112 : decode cX6_carrier 112 = .ok (.ireturn, 1) := by decide +kernel
theorem dX6_bundle_0 : decode cX6_bundle 0 = .ok (.aload_n 0, 1) := by decide +kernel
theorem dX6_bundle_1 : decode cX6_bundle 1 = .ok (.getfield 10, 3) := by decide +kernel
theorem dX6_bundle_4 : decode cX6_bundle 4 = .ok (.iload_n 1, 1) := by decide +kernel
theorem dX6_bundle_5 : decode cX6_bundle 5 = .ok (.invokevirtual 93, 3) := by decide +kernel
theorem dX6_bundle_8 : decode cX6_bundle 8 = .ok (.astore_n 3, 1) := by decide +kernel
theorem dX6_bundle_9 : decode cX6_bundle 9 = .ok (.aload_n 3, 1) := by decide +kernel
theorem dX6_bundle_10 : decode cX6_bundle 10 = .ok (.ifnonnull 5, 3) := by decide +kernel
theorem dX6_bundle_13 : decode cX6_bundle 13 = .ok (.iconst (-1), 1) := by decide +kernel
theorem dX6_bundle_14 : decode cX6_bundle 14 = .ok (.ireturn, 1) := by decide +kernel
theorem dX6_bundle_15 : decode cX6_bundle 15 = .ok (.iload_n 2, 1) := by decide +kernel
theorem dX6_bundle_16 : decode cX6_bundle 16 = .ok (.tableswitch 106 0 8 #[52, 57, 62, 67, 72, 77, 83, 96, 101], 52) := by decide +kernel
theorem dX6_bundle_68 : decode cX6_bundle 68 = .ok (.aload_n 3, 1) := by decide +kernel
theorem dX6_bundle_69 : decode cX6_bundle 69 = .ok (.getfield 153, 3) := by decide +kernel
theorem dX6_bundle_72 : decode cX6_bundle 72 = .ok (.ireturn, 1) := by decide +kernel
theorem dX6_bundle_73 : decode cX6_bundle 73 = .ok (.aload_n 3, 1) := by decide +kernel
theorem dX6_bundle_74 : decode cX6_bundle 74 = .ok (.getfield 158, 3) := by decide +kernel
theorem dX6_bundle_77 : decode cX6_bundle 77 = .ok (.ireturn, 1) := by decide +kernel
theorem dX6_bundle_78 : decode cX6_bundle 78 = .ok (.aload_n 3, 1) := by decide +kernel
theorem dX6_bundle_79 : decode cX6_bundle 79 = .ok (.getfield 161, 3) := by decide +kernel
theorem dX6_bundle_82 : decode cX6_bundle 82 = .ok (.ireturn, 1) := by decide +kernel
theorem dX6_bundle_83 : decode cX6_bundle 83 = .ok (.aload_n 3, 1) := by decide +kernel
theorem dX6_bundle_84 : decode cX6_bundle 84 = .ok (.getfield 164, 3) := by decide +kernel
theorem dX6_bundle_87 : decode cX6_bundle 87 = .ok (.ireturn, 1) := by decide +kernel
theorem dX6_bundle_88 : decode cX6_bundle 88 = .ok (.aload_n 3, 1) := by decide +kernel
theorem dX6_bundle_89 : decode cX6_bundle 89 = .ok (.getfield 167, 3) := by decide +kernel
theorem dX6_bundle_92 : decode cX6_bundle 92 = .ok (.ireturn, 1) := by decide +kernel
theorem dX6_bundle_93 : decode cX6_bundle 93 = .ok (.aload_n 0, 1) := by decide +kernel
theorem dX6_bundle_94 : decode cX6_bundle 94 = .ok (.aload_n 3, 1) := by decide +kernel
theorem dX6_bundle_95 : decode cX6_bundle 95 = .ok (.invokevirtual 170, 3) := by decide +kernel
theorem dX6_bundle_98 : decode cX6_bundle 98 = .ok (.ireturn, 1) := by decide +kernel
theorem dX6_bundle_99 : decode cX6_bundle 99 = .ok (.aload_n 3, 1) := by decide +kernel
theorem dX6_bundle_100 : decode cX6_bundle 100 = .ok (.getfield 174, 3) := by decide +kernel
theorem dX6_bundle_103 : decode cX6_bundle 103 = .ok (.ifCond .eq 7, 3) := by decide +kernel
theorem dX6_bundle_106 : decode cX6_bundle 106 = .ok (.iconst 1, 1) := by decide +kernel
theorem dX6_bundle_107 : decode cX6_bundle 107 = .ok (.goto 4, 3) := by decide +kernel
theorem dX6_bundle_110 : decode cX6_bundle 110 = .ok (.iconst 0, 1) := by decide +kernel
theorem dX6_bundle_111 : decode cX6_bundle 111 = .ok (.ireturn, 1) := by decide +kernel
theorem dX6_bundle_112 : decode cX6_bundle 112 = .ok (.aload_n 3, 1) := by decide +kernel
theorem dX6_bundle_113 : decode cX6_bundle 113 = .ok (.getfield 177, 3) := by decide +kernel
theorem dX6_bundle_116 : decode cX6_bundle 116 = .ok (.ireturn, 1) := by decide +kernel
theorem dX6_bundle_117 : decode cX6_bundle 117 = .ok (.aload_n 3, 1) := by decide +kernel
theorem dX6_bundle_118 : decode cX6_bundle 118 = .ok (.getfield 178, 3) := by decide +kernel
theorem dX6_bundle_121 : decode cX6_bundle 121 = .ok (.ireturn, 1) := by decide +kernel
theorem dX6_bundle_122 : decode cX6_bundle 122 = .ok (.iconst (-1), 1) := by decide +kernel
theorem dX6_bundle_123 : decode cX6_bundle 123 = .ok (.ireturn, 1) := by decide +kernel
theorem dX6_arrival_0 : decode cX6_arrival 0 = .ok (.aload_n 0, 1) := by decide +kernel
theorem dX6_arrival_1 : decode cX6_arrival 1 = .ok (.getfield 10, 3) := by decide +kernel
theorem dX6_arrival_4 : decode cX6_arrival 4 = .ok (.iload_n 1, 1) := by decide +kernel
theorem dX6_arrival_5 : decode cX6_arrival 5 = .ok (.invokevirtual 93, 3) := by decide +kernel
theorem dX6_arrival_8 : decode cX6_arrival 8 = .ok (.astore_n 3, 1) := by decide +kernel
theorem dX6_arrival_9 : decode cX6_arrival 9 = .ok (.aload_n 3, 1) := by decide +kernel
theorem dX6_arrival_10 : decode cX6_arrival 10 = .ok (.ifnull 12, 3) := by decide +kernel
theorem dX6_arrival_13 : decode cX6_arrival 13 = .ok (.iload_n 2, 1) := by decide +kernel
theorem dX6_arrival_14 : decode cX6_arrival 14 = .ok (.ifCond .eq 10, 3) := by decide +kernel
theorem dX6_arrival_17 : decode cX6_arrival 17 = .ok (.iload_n 2, 1) := by decide +kernel
theorem dX6_arrival_18 : decode cX6_arrival 18 = .ok (.iconst 1, 1) := by decide +kernel
theorem dX6_arrival_19 : decode cX6_arrival 19 = .ok (.if_icmp .eq 5, 3) := by decide +kernel
theorem dX6_arrival_22 : decode cX6_arrival 22 = .ok (.iconst (-1), 1) := by decide +kernel
theorem dX6_arrival_23 : decode cX6_arrival 23 = .ok (.ireturn, 1) := by decide +kernel
theorem dX6_arrival_24 : decode cX6_arrival 24 = .ok (.iload_n 2, 1) := by decide +kernel
theorem dX6_arrival_25 : decode cX6_arrival 25 = .ok (.ifCond .ne 18, 3) := by decide +kernel
theorem dX6_arrival_28 : decode cX6_arrival 28 = .ok (.aload_n 0, 1) := by decide +kernel
theorem dX6_arrival_29 : decode cX6_arrival 29 = .ok (.getfield 39, 3) := by decide +kernel
theorem dX6_arrival_32 : decode cX6_arrival 32 = .ok (.aload_n 0, 1) := by decide +kernel
theorem dX6_arrival_33 : decode cX6_arrival 33 = .ok (.getfield 10, 3) := by decide +kernel
theorem dX6_arrival_36 : decode cX6_arrival 36 = .ok (.aload_n 3, 1) := by decide +kernel
theorem dX6_arrival_37 : decode cX6_arrival 37 = .ok (.invokevirtual 181, 3) := by decide +kernel
theorem dX6_arrival_40 : decode cX6_arrival 40 = .ok (.goto 15, 3) := by decide +kernel
theorem dX6_arrival_43 : decode cX6_arrival 43 = .ok (.aload_n 0, 1) := by decide +kernel
theorem dX6_arrival_44 : decode cX6_arrival 44 = .ok (.getfield 39, 3) := by decide +kernel
theorem dX6_arrival_47 : decode cX6_arrival 47 = .ok (.aload_n 0, 1) := by decide +kernel
theorem dX6_arrival_48 : decode cX6_arrival 48 = .ok (.getfield 10, 3) := by decide +kernel
theorem dX6_arrival_51 : decode cX6_arrival 51 = .ok (.aload_n 3, 1) := by decide +kernel
theorem dX6_arrival_52 : decode cX6_arrival 52 = .ok (.invokevirtual 185, 3) := by decide +kernel
theorem dX6_arrival_55 : decode cX6_arrival 55 = .ok (.ireturn, 1) := by decide +kernel
theorem dX6_meeting_0 : decode cX6_meeting 0 = .ok (.aload_n 0, 1) := by decide +kernel
theorem dX6_meeting_1 : decode cX6_meeting 1 = .ok (.getfield 10, 3) := by decide +kernel
theorem dX6_meeting_4 : decode cX6_meeting 4 = .ok (.iload_n 1, 1) := by decide +kernel
theorem dX6_meeting_5 : decode cX6_meeting 5 = .ok (.invokevirtual 133, 3) := by decide +kernel
theorem dX6_meeting_8 : decode cX6_meeting 8 = .ok (.ifCond .eq 19, 3) := by decide +kernel
theorem dX6_meeting_11 : decode cX6_meeting 11 = .ok (.aload_n 0, 1) := by decide +kernel
theorem dX6_meeting_12 : decode cX6_meeting 12 = .ok (.getfield 10, 3) := by decide +kernel
theorem dX6_meeting_15 : decode cX6_meeting 15 = .ok (.iload_n 2, 1) := by decide +kernel
theorem dX6_meeting_16 : decode cX6_meeting 16 = .ok (.invokevirtual 133, 3) := by decide +kernel
theorem dX6_meeting_19 : decode cX6_meeting 19 = .ok (.ifCond .eq 8, 3) := by decide +kernel
theorem dX6_meeting_22 : decode cX6_meeting 22 = .ok (.iload_n 1, 1) := by decide +kernel
theorem dX6_meeting_23 : decode cX6_meeting 23 = .ok (.iload_n 2, 1) := by decide +kernel
theorem dX6_meeting_24 : decode cX6_meeting 24 = .ok (.if_icmp .ne 5, 3) := by decide +kernel
theorem dX6_meeting_27 : decode cX6_meeting 27 = .ok (.iconst (-1), 1) := by decide +kernel
theorem dX6_meeting_28 : decode cX6_meeting 28 = .ok (.ireturn, 1) := by decide +kernel
theorem dX6_meeting_29 : decode cX6_meeting 29 = .ok (.iconst 1, 1) := by decide +kernel
theorem dX6_meeting_30 : decode cX6_meeting 30 = .ok (.istore 4, 2) := by decide +kernel
theorem dX6_meeting_32 : decode cX6_meeting 32 = .ok (.iload 4, 2) := by decide +kernel
theorem dX6_meeting_34 : decode cX6_meeting 34 = .ok (.bipush 30, 2) := by decide +kernel
theorem dX6_meeting_36 : decode cX6_meeting 36 = .ok (.if_icmp .gt 87, 3) := by decide +kernel
theorem dX6_meeting_39 : decode cX6_meeting 39 = .ok (.aload_n 0, 1) := by decide +kernel
theorem dX6_meeting_40 : decode cX6_meeting 40 = .ok (.getfield 10, 3) := by decide +kernel
theorem dX6_meeting_43 : decode cX6_meeting 43 = .ok (.getfield 63, 3) := by decide +kernel
theorem dX6_meeting_46 : decode cX6_meeting 46 = .ok (.iload 4, 2) := by decide +kernel
theorem dX6_meeting_48 : decode cX6_meeting 48 = .ok (.iadd, 1) := by decide +kernel
theorem dX6_meeting_49 : decode cX6_meeting 49 = .ok (.istore 5, 2) := by decide +kernel
theorem dX6_meeting_51 : decode cX6_meeting 51 = .ok (.aload_n 0, 1) := by decide +kernel
theorem dX6_meeting_52 : decode cX6_meeting 52 = .ok (.getfield 10, 3) := by decide +kernel
theorem dX6_meeting_55 : decode cX6_meeting 55 = .ok (.iload_n 1, 1) := by decide +kernel
theorem dX6_meeting_56 : decode cX6_meeting 56 = .ok (.iload 5, 2) := by decide +kernel
theorem dX6_meeting_58 : decode cX6_meeting 58 = .ok (.invokevirtual 136, 3) := by decide +kernel
theorem dX6_meeting_61 : decode cX6_meeting 61 = .ok (.istore 6, 2) := by decide +kernel
theorem dX6_meeting_63 : decode cX6_meeting 63 = .ok (.iload 6, 2) := by decide +kernel
theorem dX6_meeting_65 : decode cX6_meeting 65 = .ok (.iconst (-1), 1) := by decide +kernel
theorem dX6_meeting_66 : decode cX6_meeting 66 = .ok (.if_icmp .eq 22, 3) := by decide +kernel
theorem dX6_meeting_69 : decode cX6_meeting 69 = .ok (.iload 6, 2) := by decide +kernel
theorem dX6_meeting_71 : decode cX6_meeting 71 = .ok (.aload_n 0, 1) := by decide +kernel
theorem dX6_meeting_72 : decode cX6_meeting 72 = .ok (.getfield 10, 3) := by decide +kernel
theorem dX6_meeting_75 : decode cX6_meeting 75 = .ok (.iload_n 2, 1) := by decide +kernel
theorem dX6_meeting_76 : decode cX6_meeting 76 = .ok (.iload 5, 2) := by decide +kernel
theorem dX6_meeting_78 : decode cX6_meeting 78 = .ok (.invokevirtual 136, 3) := by decide +kernel
theorem dX6_meeting_81 : decode cX6_meeting 81 = .ok (.if_icmp .ne 7, 3) := by decide +kernel
theorem dX6_meeting_84 : decode cX6_meeting 84 = .ok (.iconst 1, 1) := by decide +kernel
theorem dX6_meeting_85 : decode cX6_meeting 85 = .ok (.goto 4, 3) := by decide +kernel
theorem dX6_meeting_88 : decode cX6_meeting 88 = .ok (.iconst 0, 1) := by decide +kernel
theorem dX6_meeting_89 : decode cX6_meeting 89 = .ok (.istore 7, 2) := by decide +kernel
theorem dX6_meeting_91 : decode cX6_meeting 91 = .ok (.iload 7, 2) := by decide +kernel
theorem dX6_meeting_93 : decode cX6_meeting 93 = .ok (.ifCond .eq 24, 3) := by decide +kernel
theorem dX6_meeting_96 : decode cX6_meeting 96 = .ok (.iload_n 3, 1) := by decide +kernel
theorem dX6_meeting_97 : decode cX6_meeting 97 = .ok (.ifCond .eq 17, 3) := by decide +kernel
theorem dX6_meeting_100 : decode cX6_meeting 100 = .ok (.iload 6, 2) := by decide +kernel
theorem dX6_meeting_102 : decode cX6_meeting 102 = .ok (.aload_n 0, 1) := by decide +kernel
theorem dX6_meeting_103 : decode cX6_meeting 103 = .ok (.getfield 10, 3) := by decide +kernel
theorem dX6_meeting_106 : decode cX6_meeting 106 = .ok (.iload 5, 2) := by decide +kernel
theorem dX6_meeting_108 : decode cX6_meeting 108 = .ok (.invokevirtual 47, 3) := by decide +kernel
theorem dX6_meeting_111 : decode cX6_meeting 111 = .ok (.if_icmp .ne 6, 3) := by decide +kernel
theorem dX6_meeting_114 : decode cX6_meeting 114 = .ok (.iload 5, 2) := by decide +kernel
theorem dX6_meeting_116 : decode cX6_meeting 116 = .ok (.ireturn, 1) := by decide +kernel
theorem dX6_meeting_117 : decode cX6_meeting 117 = .ok (.iinc 4 1, 3) := by decide +kernel
theorem dX6_meeting_120 : decode cX6_meeting 120 = .ok (.goto (-88), 3) := by decide +kernel
theorem dX6_meeting_123 : decode cX6_meeting 123 = .ok (.bipush (-4), 2) := by decide +kernel
theorem dX6_meeting_125 : decode cX6_meeting 125 = .ok (.ireturn, 1) := by decide +kernel
theorem dX6_count_0 : decode cX6_count 0 = .ok (.iload_n 1, 1) := by decide +kernel
theorem dX6_count_1 : decode cX6_count 1 = .ok (.tableswitch 232 0 16 #[83, 91, 96, 104, 112, 120, 128, 152, 160, 168, 176, 184, 192, 200, 208, 216, 224], 83) := by decide +kernel
theorem dX6_count_84 : decode cX6_count 84 = .ok (.aload_n 0, 1) := by decide +kernel
theorem dX6_count_85 : decode cX6_count 85 = .ok (.getfield 10, 3) := by decide +kernel
theorem dX6_count_88 : decode cX6_count 88 = .ok (.getfield 63, 3) := by decide +kernel
theorem dX6_count_91 : decode cX6_count 91 = .ok (.ireturn, 1) := by decide +kernel
theorem dX6_count_92 : decode cX6_count 92 = .ok (.aload_n 0, 1) := by decide +kernel
theorem dX6_count_93 : decode cX6_count 93 = .ok (.invokevirtual 188, 3) := by decide +kernel
theorem dX6_count_96 : decode cX6_count 96 = .ok (.ireturn, 1) := by decide +kernel
theorem dX6_count_97 : decode cX6_count 97 = .ok (.aload_n 0, 1) := by decide +kernel
theorem dX6_count_98 : decode cX6_count 98 = .ok (.getfield 10, 3) := by decide +kernel
theorem dX6_count_101 : decode cX6_count 101 = .ok (.getfield 121, 3) := by decide +kernel
theorem dX6_count_104 : decode cX6_count 104 = .ok (.ireturn, 1) := by decide +kernel
theorem dX6_count_105 : decode cX6_count 105 = .ok (.aload_n 0, 1) := by decide +kernel
theorem dX6_count_106 : decode cX6_count 106 = .ok (.getfield 10, 3) := by decide +kernel
theorem dX6_count_109 : decode cX6_count 109 = .ok (.invokevirtual 191, 3) := by decide +kernel
theorem dX6_count_112 : decode cX6_count 112 = .ok (.ireturn, 1) := by decide +kernel
theorem dX6_count_113 : decode cX6_count 113 = .ok (.aload_n 0, 1) := by decide +kernel
theorem dX6_count_114 : decode cX6_count 114 = .ok (.getfield 10, 3) := by decide +kernel
theorem dX6_count_117 : decode cX6_count 117 = .ok (.getfield 82, 3) := by decide +kernel
theorem dX6_count_120 : decode cX6_count 120 = .ok (.ireturn, 1) := by decide +kernel
theorem dX6_count_121 : decode cX6_count 121 = .ok (.aload_n 0, 1) := by decide +kernel
theorem dX6_count_122 : decode cX6_count 122 = .ok (.getfield 10, 3) := by decide +kernel
theorem dX6_count_125 : decode cX6_count 125 = .ok (.invokevirtual 194, 3) := by decide +kernel
theorem dX6_count_128 : decode cX6_count 128 = .ok (.ireturn, 1) := by decide +kernel
theorem dX6_count_129 : decode cX6_count 129 = .ok (.aload_n 0, 1) := by decide +kernel
theorem dX6_count_130 : decode cX6_count 130 = .ok (.getfield 10, 3) := by decide +kernel
theorem dX6_count_133 : decode cX6_count 133 = .ok (.getfield 82, 3) := by decide +kernel
theorem dX6_count_136 : decode cX6_count 136 = .ok (.aload_n 0, 1) := by decide +kernel
theorem dX6_count_137 : decode cX6_count 137 = .ok (.getfield 10, 3) := by decide +kernel
theorem dX6_count_140 : decode cX6_count 140 = .ok (.invokevirtual 194, 3) := by decide +kernel
theorem dX6_count_143 : decode cX6_count 143 = .ok (.isub, 1) := by decide +kernel
theorem dX6_count_144 : decode cX6_count 144 = .ok (.aload_n 0, 1) := by decide +kernel
theorem dX6_count_145 : decode cX6_count 145 = .ok (.getfield 10, 3) := by decide +kernel
theorem dX6_count_148 : decode cX6_count 148 = .ok (.invokevirtual 197, 3) := by decide +kernel
theorem dX6_count_151 : decode cX6_count 151 = .ok (.isub, 1) := by decide +kernel
theorem dX6_count_152 : decode cX6_count 152 = .ok (.ireturn, 1) := by decide +kernel
theorem dX6_count_153 : decode cX6_count 153 = .ok (.aload_n 0, 1) := by decide +kernel
theorem dX6_count_154 : decode cX6_count 154 = .ok (.getfield 10, 3) := by decide +kernel
theorem dX6_count_157 : decode cX6_count 157 = .ok (.invokevirtual 197, 3) := by decide +kernel
theorem dX6_count_160 : decode cX6_count 160 = .ok (.ireturn, 1) := by decide +kernel
theorem dX6_count_161 : decode cX6_count 161 = .ok (.aload_n 0, 1) := by decide +kernel
theorem dX6_count_162 : decode cX6_count 162 = .ok (.getfield 10, 3) := by decide +kernel
theorem dX6_count_165 : decode cX6_count 165 = .ok (.invokevirtual 200, 3) := by decide +kernel
theorem dX6_count_168 : decode cX6_count 168 = .ok (.ireturn, 1) := by decide +kernel
theorem dX6_count_169 : decode cX6_count 169 = .ok (.aload_n 0, 1) := by decide +kernel
theorem dX6_count_170 : decode cX6_count 170 = .ok (.getfield 10, 3) := by decide +kernel
theorem dX6_count_173 : decode cX6_count 173 = .ok (.getfield 203, 3) := by decide +kernel
theorem dX6_count_176 : decode cX6_count 176 = .ok (.ireturn, 1) := by decide +kernel
theorem dX6_count_177 : decode cX6_count 177 = .ok (.aload_n 0, 1) := by decide +kernel
theorem dX6_count_178 : decode cX6_count 178 = .ok (.getfield 10, 3) := by decide +kernel
theorem dX6_count_181 : decode cX6_count 181 = .ok (.getfield 101, 3) := by decide +kernel
theorem dX6_count_184 : decode cX6_count 184 = .ok (.ireturn, 1) := by decide +kernel
theorem dX6_count_185 : decode cX6_count 185 = .ok (.aload_n 0, 1) := by decide +kernel
theorem dX6_count_186 : decode cX6_count 186 = .ok (.getfield 10, 3) := by decide +kernel
theorem dX6_count_189 : decode cX6_count 189 = .ok (.getfield 206, 3) := by decide +kernel
theorem dX6_count_192 : decode cX6_count 192 = .ok (.ireturn, 1) := by decide +kernel
theorem dX6_count_193 : decode cX6_count 193 = .ok (.aload_n 0, 1) := by decide +kernel
theorem dX6_count_194 : decode cX6_count 194 = .ok (.getfield 10, 3) := by decide +kernel
theorem dX6_count_197 : decode cX6_count 197 = .ok (.getfield 209, 3) := by decide +kernel
theorem dX6_count_200 : decode cX6_count 200 = .ok (.ireturn, 1) := by decide +kernel
theorem dX6_count_201 : decode cX6_count 201 = .ok (.aload_n 0, 1) := by decide +kernel
theorem dX6_count_202 : decode cX6_count 202 = .ok (.getfield 10, 3) := by decide +kernel
theorem dX6_count_205 : decode cX6_count 205 = .ok (.getfield 75, 3) := by decide +kernel
theorem dX6_count_208 : decode cX6_count 208 = .ok (.ireturn, 1) := by decide +kernel
theorem dX6_count_209 : decode cX6_count 209 = .ok (.aload_n 0, 1) := by decide +kernel
theorem dX6_count_210 : decode cX6_count 210 = .ok (.getfield 10, 3) := by decide +kernel
theorem dX6_count_213 : decode cX6_count 213 = .ok (.getfield 210, 3) := by decide +kernel
theorem dX6_count_216 : decode cX6_count 216 = .ok (.ireturn, 1) := by decide +kernel
theorem dX6_count_217 : decode cX6_count 217 = .ok (.aload_n 0, 1) := by decide +kernel
theorem dX6_count_218 : decode cX6_count 218 = .ok (.getfield 32, 3) := by decide +kernel
theorem dX6_count_221 : decode cX6_count 221 = .ok (.getfield 108, 3) := by decide +kernel
theorem dX6_count_224 : decode cX6_count 224 = .ok (.ireturn, 1) := by decide +kernel
theorem dX6_count_225 : decode cX6_count 225 = .ok (.aload_n 0, 1) := by decide +kernel
theorem dX6_count_226 : decode cX6_count 226 = .ok (.getfield 25, 3) := by decide +kernel
theorem dX6_count_229 : decode cX6_count 229 = .ok (.getfield 213, 3) := by decide +kernel
theorem dX6_count_232 : decode cX6_count 232 = .ok (.ireturn, 1) := by decide +kernel
theorem dX6_count_233 : decode cX6_count 233 = .ok (.iconst (-1), 1) := by decide +kernel
theorem dX6_count_234 : decode cX6_count 234 = .ok (.ireturn, 1) := by decide +kernel
theorem dX6_lateness_0 : decode cX6_lateness 0 = .ok (.iconst 0, 1) := by decide +kernel
theorem dX6_lateness_1 : decode cX6_lateness 1 = .ok (.istore_n 1, 1) := by decide +kernel
theorem dX6_lateness_2 : decode cX6_lateness 2 = .ok (.iconst 0, 1) := by decide +kernel
theorem dX6_lateness_3 : decode cX6_lateness 3 = .ok (.istore_n 2, 1) := by decide +kernel
theorem dX6_lateness_4 : decode cX6_lateness 4 = .ok (.iconst 0, 1) := by decide +kernel
theorem dX6_lateness_5 : decode cX6_lateness 5 = .ok (.istore_n 3, 1) := by decide +kernel
theorem dX6_lateness_6 : decode cX6_lateness 6 = .ok (.iload_n 3, 1) := by decide +kernel
theorem dX6_lateness_7 : decode cX6_lateness 7 = .ok (.aload_n 0, 1) := by decide +kernel
theorem dX6_lateness_8 : decode cX6_lateness 8 = .ok (.getfield 10, 3) := by decide +kernel
theorem dX6_lateness_11 : decode cX6_lateness 11 = .ok (.getfield 82, 3) := by decide +kernel
theorem dX6_lateness_14 : decode cX6_lateness 14 = .ok (.if_icmp .ge 38, 3) := by decide +kernel
theorem dX6_lateness_17 : decode cX6_lateness 17 = .ok (.aload_n 0, 1) := by decide +kernel
theorem dX6_lateness_18 : decode cX6_lateness 18 = .ok (.aload_n 0, 1) := by decide +kernel
theorem dX6_lateness_19 : decode cX6_lateness 19 = .ok (.getfield 10, 3) := by decide +kernel
theorem dX6_lateness_22 : decode cX6_lateness 22 = .ok (.iload_n 3, 1) := by decide +kernel
theorem dX6_lateness_23 : decode cX6_lateness 23 = .ok (.invokevirtual 93, 3) := by decide +kernel
theorem dX6_lateness_26 : decode cX6_lateness 26 = .ok (.invokevirtual 214, 3) := by decide +kernel
theorem dX6_lateness_29 : decode cX6_lateness 29 = .ok (.istore 4, 2) := by decide +kernel
theorem dX6_lateness_31 : decode cX6_lateness 31 = .ok (.iload 4, 2) := by decide +kernel
theorem dX6_lateness_33 : decode cX6_lateness 33 = .ok (.ldc 217, 2) := by decide +kernel
theorem dX6_lateness_35 : decode cX6_lateness 35 = .ok (.if_icmp .eq 11, 3) := by decide +kernel
theorem dX6_lateness_38 : decode cX6_lateness 38 = .ok (.iload_n 1, 1) := by decide +kernel
theorem dX6_lateness_39 : decode cX6_lateness 39 = .ok (.iload 4, 2) := by decide +kernel
theorem dX6_lateness_41 : decode cX6_lateness 41 = .ok (.iadd, 1) := by decide +kernel
theorem dX6_lateness_42 : decode cX6_lateness 42 = .ok (.istore_n 1, 1) := by decide +kernel
theorem dX6_lateness_43 : decode cX6_lateness 43 = .ok (.iinc 2 1, 3) := by decide +kernel
theorem dX6_lateness_46 : decode cX6_lateness 46 = .ok (.iinc 3 1, 3) := by decide +kernel
theorem dX6_lateness_49 : decode cX6_lateness 49 = .ok (.goto (-43), 3) := by decide +kernel
theorem dX6_lateness_52 : decode cX6_lateness 52 = .ok (.iload_n 2, 1) := by decide +kernel
theorem dX6_lateness_53 : decode cX6_lateness 53 = .ok (.ifCond .ne 7, 3) := by decide +kernel
theorem dX6_lateness_56 : decode cX6_lateness 56 = .ok (.dconst 0, 1) := by decide +kernel
theorem dX6_lateness_57 : decode cX6_lateness 57 = .ok (.goto 8, 3) := by decide +kernel
theorem dX6_lateness_60 : decode cX6_lateness 60 = .ok (.iload_n 1, 1) := by decide +kernel
theorem dX6_lateness_61 : decode cX6_lateness 61 = .ok (.i2d, 1) := by decide +kernel
theorem dX6_lateness_62 : decode cX6_lateness 62 = .ok (.iload_n 2, 1) := by decide +kernel
theorem dX6_lateness_63 : decode cX6_lateness 63 = .ok (.i2d, 1) := by decide +kernel
theorem dX6_lateness_64 : decode cX6_lateness 64 = .ok (.ddiv, 1) := by decide +kernel
theorem dX6_lateness_65 : decode cX6_lateness 65 = .ok (.dreturn, 1) := by decide +kernel
theorem dX6_ifPosted_0 : decode cX6_ifPosted 0 = .ok (.iload_n 1, 1) := by decide +kernel
theorem dX6_ifPosted_1 : decode cX6_ifPosted 1 = .ok (.iload_n 2, 1) := by decide +kernel
theorem dX6_ifPosted_2 : decode cX6_ifPosted 2 = .ok (.invokestatic 78, 3) := by decide +kernel
theorem dX6_ifPosted_5 : decode cX6_ifPosted 5 = .ok (.ifCond .eq 13, 3) := by decide +kernel
theorem dX6_ifPosted_8 : decode cX6_ifPosted 8 = .ok (.iload_n 3, 1) := by decide +kernel
theorem dX6_ifPosted_9 : decode cX6_ifPosted 9 = .ok (.ifCond .lt 9, 3) := by decide +kernel
theorem dX6_ifPosted_12 : decode cX6_ifPosted 12 = .ok (.iload_n 3, 1) := by decide +kernel
theorem dX6_ifPosted_13 : decode cX6_ifPosted 13 = .ok (.bipush 30, 2) := by decide +kernel
theorem dX6_ifPosted_15 : decode cX6_ifPosted 15 = .ok (.if_icmp .le 5, 3) := by decide +kernel
theorem dX6_ifPosted_18 : decode cX6_ifPosted 18 = .ok (.iconst (-1), 1) := by decide +kernel
theorem dX6_ifPosted_19 : decode cX6_ifPosted 19 = .ok (.ireturn, 1) := by decide +kernel
theorem dX6_ifPosted_20 : decode cX6_ifPosted 20 = .ok (.aload_n 0, 1) := by decide +kernel
theorem dX6_ifPosted_21 : decode cX6_ifPosted 21 = .ok (.getfield 39, 3) := by decide +kernel
theorem dX6_ifPosted_24 : decode cX6_ifPosted 24 = .ok (.aload_n 0, 1) := by decide +kernel
theorem dX6_ifPosted_25 : decode cX6_ifPosted 25 = .ok (.getfield 10, 3) := by decide +kernel
theorem dX6_ifPosted_28 : decode cX6_ifPosted 28 = .ok (.iload_n 1, 1) := by decide +kernel
theorem dX6_ifPosted_29 : decode cX6_ifPosted 29 = .ok (.iload_n 2, 1) := by decide +kernel
theorem dX6_ifPosted_30 : decode cX6_ifPosted 30 = .ok (.aload_n 0, 1) := by decide +kernel
theorem dX6_ifPosted_31 : decode cX6_ifPosted 31 = .ok (.getfield 10, 3) := by decide +kernel
theorem dX6_ifPosted_34 : decode cX6_ifPosted 34 = .ok (.getfield 63, 3) := by decide +kernel
theorem dX6_ifPosted_37 : decode cX6_ifPosted 37 = .ok (.iload_n 3, 1) := by decide +kernel
theorem dX6_ifPosted_38 : decode cX6_ifPosted 38 = .ok (.iadd, 1) := by decide +kernel
theorem dX6_ifPosted_39 : decode cX6_ifPosted 39 = .ok (.invokevirtual 85, 3) := by decide +kernel
theorem dX6_ifPosted_42 : decode cX6_ifPosted 42 = .ok (.ireturn, 1) := by decide +kernel
theorem dX6_bestDay_0 : decode cX6_bestDay 0 = .ok (.iload_n 1, 1) := by decide +kernel
theorem dX6_bestDay_1 : decode cX6_bestDay 1 = .ok (.iload_n 2, 1) := by decide +kernel
theorem dX6_bestDay_2 : decode cX6_bestDay 2 = .ok (.invokestatic 78, 3) := by decide +kernel
theorem dX6_bestDay_5 : decode cX6_bestDay 5 = .ok (.ifCond .ne 5, 3) := by decide +kernel
theorem dX6_bestDay_8 : decode cX6_bestDay 8 = .ok (.iconst (-1), 1) := by decide +kernel
theorem dX6_bestDay_9 : decode cX6_bestDay 9 = .ok (.ireturn, 1) := by decide +kernel
theorem dX6_bestDay_10 : decode cX6_bestDay 10 = .ok (.bipush (-4), 2) := by decide +kernel
theorem dX6_bestDay_12 : decode cX6_bestDay 12 = .ok (.istore_n 3, 1) := by decide +kernel
theorem dX6_bestDay_13 : decode cX6_bestDay 13 = .ok (.ldc 217, 2) := by decide +kernel
theorem dX6_bestDay_15 : decode cX6_bestDay 15 = .ok (.istore 4, 2) := by decide +kernel
theorem dX6_bestDay_17 : decode cX6_bestDay 17 = .ok (.iconst 0, 1) := by decide +kernel
theorem dX6_bestDay_18 : decode cX6_bestDay 18 = .ok (.istore 5, 2) := by decide +kernel
theorem dX6_bestDay_20 : decode cX6_bestDay 20 = .ok (.iload 5, 2) := by decide +kernel
theorem dX6_bestDay_22 : decode cX6_bestDay 22 = .ok (.bipush 14, 2) := by decide +kernel
theorem dX6_bestDay_24 : decode cX6_bestDay 24 = .ok (.if_icmp .ge 65, 3) := by decide +kernel
theorem dX6_bestDay_27 : decode cX6_bestDay 27 = .ok (.aload_n 0, 1) := by decide +kernel
theorem dX6_bestDay_28 : decode cX6_bestDay 28 = .ok (.getfield 10, 3) := by decide +kernel
theorem dX6_bestDay_31 : decode cX6_bestDay 31 = .ok (.getfield 63, 3) := by decide +kernel
theorem dX6_bestDay_34 : decode cX6_bestDay 34 = .ok (.iload 5, 2) := by decide +kernel
theorem dX6_bestDay_36 : decode cX6_bestDay 36 = .ok (.iadd, 1) := by decide +kernel
theorem dX6_bestDay_37 : decode cX6_bestDay 37 = .ok (.istore 6, 2) := by decide +kernel
theorem dX6_bestDay_39 : decode cX6_bestDay 39 = .ok (.aload_n 0, 1) := by decide +kernel
theorem dX6_bestDay_40 : decode cX6_bestDay 40 = .ok (.getfield 39, 3) := by decide +kernel
theorem dX6_bestDay_43 : decode cX6_bestDay 43 = .ok (.aload_n 0, 1) := by decide +kernel
theorem dX6_bestDay_44 : decode cX6_bestDay 44 = .ok (.getfield 10, 3) := by decide +kernel
theorem dX6_bestDay_47 : decode cX6_bestDay 47 = .ok (.iload_n 1, 1) := by decide +kernel
theorem dX6_bestDay_48 : decode cX6_bestDay 48 = .ok (.iload_n 2, 1) := by decide +kernel
theorem dX6_bestDay_49 : decode cX6_bestDay 49 = .ok (.iload 6, 2) := by decide +kernel
theorem dX6_bestDay_51 : decode cX6_bestDay 51 = .ok (.invokevirtual 85, 3) := by decide +kernel
theorem dX6_bestDay_54 : decode cX6_bestDay 54 = .ok (.istore 7, 2) := by decide +kernel
theorem dX6_bestDay_56 : decode cX6_bestDay 56 = .ok (.iload 7, 2) := by decide +kernel
theorem dX6_bestDay_58 : decode cX6_bestDay 58 = .ok (.bipush (-4), 2) := by decide +kernel
theorem dX6_bestDay_60 : decode cX6_bestDay 60 = .ok (.if_icmp .eq 23, 3) := by decide +kernel
theorem dX6_bestDay_63 : decode cX6_bestDay 63 = .ok (.iload 7, 2) := by decide +kernel
theorem dX6_bestDay_65 : decode cX6_bestDay 65 = .ok (.iload 6, 2) := by decide +kernel
theorem dX6_bestDay_67 : decode cX6_bestDay 67 = .ok (.isub, 1) := by decide +kernel
theorem dX6_bestDay_68 : decode cX6_bestDay 68 = .ok (.iload 4, 2) := by decide +kernel
theorem dX6_bestDay_70 : decode cX6_bestDay 70 = .ok (.if_icmp .ge 13, 3) := by decide +kernel
theorem dX6_bestDay_73 : decode cX6_bestDay 73 = .ok (.iload 7, 2) := by decide +kernel
theorem dX6_bestDay_75 : decode cX6_bestDay 75 = .ok (.iload 6, 2) := by decide +kernel
theorem dX6_bestDay_77 : decode cX6_bestDay 77 = .ok (.isub, 1) := by decide +kernel
theorem dX6_bestDay_78 : decode cX6_bestDay 78 = .ok (.istore 4, 2) := by decide +kernel
theorem dX6_bestDay_80 : decode cX6_bestDay 80 = .ok (.iload 5, 2) := by decide +kernel
theorem dX6_bestDay_82 : decode cX6_bestDay 82 = .ok (.istore_n 3, 1) := by decide +kernel
theorem dX6_bestDay_83 : decode cX6_bestDay 83 = .ok (.iinc 5 1, 3) := by decide +kernel
theorem dX6_bestDay_86 : decode cX6_bestDay 86 = .ok (.goto (-66), 3) := by decide +kernel
theorem dX6_bestDay_89 : decode cX6_bestDay 89 = .ok (.iload_n 3, 1) := by decide +kernel
theorem dX6_bestDay_90 : decode cX6_bestDay 90 = .ok (.ireturn, 1) := by decide +kernel
theorem dX6_bestTown_0 : decode cX6_bestTown 0 = .ok (.iload_n 1, 1) := by decide +kernel
theorem dX6_bestTown_1 : decode cX6_bestTown 1 = .ok (.invokestatic 43, 3) := by decide +kernel
theorem dX6_bestTown_4 : decode cX6_bestTown 4 = .ok (.ifCond .ne 5, 3) := by decide +kernel
theorem dX6_bestTown_7 : decode cX6_bestTown 7 = .ok (.iconst (-1), 1) := by decide +kernel
theorem dX6_bestTown_8 : decode cX6_bestTown 8 = .ok (.ireturn, 1) := by decide +kernel
theorem dX6_bestTown_9 : decode cX6_bestTown 9 = .ok (.aload_n 0, 1) := by decide +kernel
theorem dX6_bestTown_10 : decode cX6_bestTown 10 = .ok (.getfield 16, 3) := by decide +kernel
theorem dX6_bestTown_13 : decode cX6_bestTown 13 = .ok (.aload_n 0, 1) := by decide +kernel
theorem dX6_bestTown_14 : decode cX6_bestTown 14 = .ok (.getfield 10, 3) := by decide +kernel
theorem dX6_bestTown_17 : decode cX6_bestTown 17 = .ok (.invokevirtual 218, 3) := by decide +kernel
theorem dX6_bestTown_20 : decode cX6_bestTown 20 = .ok (.iconst 0, 1) := by decide +kernel
theorem dX6_bestTown_21 : decode cX6_bestTown 21 = .ok (.istore_n 2, 1) := by decide +kernel
theorem dX6_bestTown_22 : decode cX6_bestTown 22 = .ok (.iconst (-1), 1) := by decide +kernel
theorem dX6_bestTown_23 : decode cX6_bestTown 23 = .ok (.istore_n 3, 1) := by decide +kernel
theorem dX6_bestTown_24 : decode cX6_bestTown 24 = .ok (.iconst 0, 1) := by decide +kernel
theorem dX6_bestTown_25 : decode cX6_bestTown 25 = .ok (.istore 4, 2) := by decide +kernel
theorem dX6_bestTown_27 : decode cX6_bestTown 27 = .ok (.iconst 0, 1) := by decide +kernel
theorem dX6_bestTown_28 : decode cX6_bestTown 28 = .ok (.istore 5, 2) := by decide +kernel
theorem dX6_bestTown_30 : decode cX6_bestTown 30 = .ok (.iload 5, 2) := by decide +kernel
theorem dX6_bestTown_32 : decode cX6_bestTown 32 = .ok (.bipush 6, 2) := by decide +kernel
theorem dX6_bestTown_34 : decode cX6_bestTown 34 = .ok (.if_icmp .gt 77, 3) := by decide +kernel
theorem dX6_bestTown_37 : decode cX6_bestTown 37 = .ok (.aload_n 0, 1) := by decide +kernel
theorem dX6_bestTown_38 : decode cX6_bestTown 38 = .ok (.getfield 16, 3) := by decide +kernel
theorem dX6_bestTown_41 : decode cX6_bestTown 41 = .ok (.iload_n 1, 1) := by decide +kernel
theorem dX6_bestTown_42 : decode cX6_bestTown 42 = .ok (.iload 5, 2) := by decide +kernel
theorem dX6_bestTown_44 : decode cX6_bestTown 44 = .ok (.invokevirtual 55, 3) := by decide +kernel
theorem dX6_bestTown_47 : decode cX6_bestTown 47 = .ok (.aload_n 0, 1) := by decide +kernel
theorem dX6_bestTown_48 : decode cX6_bestTown 48 = .ok (.getfield 39, 3) := by decide +kernel
theorem dX6_bestTown_51 : decode cX6_bestTown 51 = .ok (.aload_n 0, 1) := by decide +kernel
theorem dX6_bestTown_52 : decode cX6_bestTown 52 = .ok (.getfield 16, 3) := by decide +kernel
theorem dX6_bestTown_55 : decode cX6_bestTown 55 = .ok (.invokevirtual 221, 3) := by decide +kernel
theorem dX6_bestTown_58 : decode cX6_bestTown 58 = .ok (.aload_n 0, 1) := by decide +kernel
theorem dX6_bestTown_59 : decode cX6_bestTown 59 = .ok (.getfield 39, 3) := by decide +kernel
theorem dX6_bestTown_62 : decode cX6_bestTown 62 = .ok (.getfield 224, 3) := by decide +kernel
theorem dX6_bestTown_65 : decode cX6_bestTown 65 = .ok (.istore 6, 2) := by decide +kernel
theorem dX6_bestTown_67 : decode cX6_bestTown 67 = .ok (.aload_n 0, 1) := by decide +kernel
theorem dX6_bestTown_68 : decode cX6_bestTown 68 = .ok (.getfield 39, 3) := by decide +kernel
theorem dX6_bestTown_71 : decode cX6_bestTown 71 = .ok (.getfield 227, 3) := by decide +kernel
theorem dX6_bestTown_74 : decode cX6_bestTown 74 = .ok (.istore 7, 2) := by decide +kernel
theorem dX6_bestTown_76 : decode cX6_bestTown 76 = .ok (.iload 6, 2) := by decide +kernel
theorem dX6_bestTown_78 : decode cX6_bestTown 78 = .ok (.iload_n 3, 1) := by decide +kernel
theorem dX6_bestTown_79 : decode cX6_bestTown 79 = .ok (.if_icmp .gt 16, 3) := by decide +kernel
theorem dX6_bestTown_82 : decode cX6_bestTown 82 = .ok (.iload 6, 2) := by decide +kernel
theorem dX6_bestTown_84 : decode cX6_bestTown 84 = .ok (.iload_n 3, 1) := by decide +kernel
theorem dX6_bestTown_85 : decode cX6_bestTown 85 = .ok (.if_icmp .ne 20, 3) := by decide +kernel
theorem dX6_bestTown_88 : decode cX6_bestTown 88 = .ok (.iload 7, 2) := by decide +kernel
theorem dX6_bestTown_90 : decode cX6_bestTown 90 = .ok (.iload 4, 2) := by decide +kernel
theorem dX6_bestTown_92 : decode cX6_bestTown 92 = .ok (.if_icmp .ge 13, 3) := by decide +kernel
theorem dX6_bestTown_95 : decode cX6_bestTown 95 = .ok (.iload 5, 2) := by decide +kernel
theorem dX6_bestTown_97 : decode cX6_bestTown 97 = .ok (.istore_n 2, 1) := by decide +kernel
theorem dX6_bestTown_98 : decode cX6_bestTown 98 = .ok (.iload 6, 2) := by decide +kernel
theorem dX6_bestTown_100 : decode cX6_bestTown 100 = .ok (.istore_n 3, 1) := by decide +kernel
theorem dX6_bestTown_101 : decode cX6_bestTown 101 = .ok (.iload 7, 2) := by decide +kernel
theorem dX6_bestTown_103 : decode cX6_bestTown 103 = .ok (.istore 4, 2) := by decide +kernel
theorem dX6_bestTown_105 : decode cX6_bestTown 105 = .ok (.iinc 5 1, 3) := by decide +kernel
theorem dX6_bestTown_108 : decode cX6_bestTown 108 = .ok (.goto (-78), 3) := by decide +kernel
theorem dX6_bestTown_111 : decode cX6_bestTown 111 = .ok (.iload_n 2, 1) := by decide +kernel
theorem dX6_bestTown_112 : decode cX6_bestTown 112 = .ok (.ireturn, 1) := by decide +kernel
theorem dX6_ifPassed_0 : decode cX6_ifPassed 0 = .ok (.iload_n 1, 1) := by decide +kernel
theorem dX6_ifPassed_1 : decode cX6_ifPassed 1 = .ok (.iconst 1, 1) := by decide +kernel
theorem dX6_ifPassed_2 : decode cX6_ifPassed 2 = .ok (.if_icmp .lt 18, 3) := by decide +kernel
theorem dX6_ifPassed_5 : decode cX6_ifPassed 5 = .ok (.iload_n 1, 1) := by decide +kernel
theorem dX6_ifPassed_6 : decode cX6_ifPassed 6 = .ok (.bipush 30, 2) := by decide +kernel
theorem dX6_ifPassed_8 : decode cX6_ifPassed 8 = .ok (.if_icmp .gt 12, 3) := by decide +kernel
theorem dX6_ifPassed_11 : decode cX6_ifPassed 11 = .ok (.iload_n 2, 1) := by decide +kernel
theorem dX6_ifPassed_12 : decode cX6_ifPassed 12 = .ok (.ifCond .lt 8, 3) := by decide +kernel
theorem dX6_ifPassed_15 : decode cX6_ifPassed 15 = .ok (.iload_n 2, 1) := by decide +kernel
theorem dX6_ifPassed_16 : decode cX6_ifPassed 16 = .ok (.iconst 2, 1) := by decide +kernel
theorem dX6_ifPassed_17 : decode cX6_ifPassed 17 = .ok (.if_icmp .le 5, 3) := by decide +kernel
theorem dX6_ifPassed_20 : decode cX6_ifPassed 20 = .ok (.iconst (-1), 1) := by decide +kernel
theorem dX6_ifPassed_21 : decode cX6_ifPassed 21 = .ok (.ireturn, 1) := by decide +kernel
theorem dX6_ifPassed_22 : decode cX6_ifPassed 22 = .ok (.aload_n 0, 1) := by decide +kernel
theorem dX6_ifPassed_23 : decode cX6_ifPassed 23 = .ok (.getfield 16, 3) := by decide +kernel
theorem dX6_ifPassed_26 : decode cX6_ifPassed 26 = .ok (.aload_n 0, 1) := by decide +kernel
theorem dX6_ifPassed_27 : decode cX6_ifPassed 27 = .ok (.getfield 10, 3) := by decide +kernel
theorem dX6_ifPassed_30 : decode cX6_ifPassed 30 = .ok (.invokevirtual 218, 3) := by decide +kernel
theorem dX6_ifPassed_33 : decode cX6_ifPassed 33 = .ok (.iconst 0, 1) := by decide +kernel
theorem dX6_ifPassed_34 : decode cX6_ifPassed 34 = .ok (.istore_n 3, 1) := by decide +kernel
theorem dX6_ifPassed_35 : decode cX6_ifPassed 35 = .ok (.iload_n 3, 1) := by decide +kernel
theorem dX6_ifPassed_36 : decode cX6_ifPassed 36 = .ok (.iload_n 1, 1) := by decide +kernel
theorem dX6_ifPassed_37 : decode cX6_ifPassed 37 = .ok (.if_icmp .ge 20, 3) := by decide +kernel
theorem dX6_ifPassed_40 : decode cX6_ifPassed 40 = .ok (.aload_n 0, 1) := by decide +kernel
theorem dX6_ifPassed_41 : decode cX6_ifPassed 41 = .ok (.getfield 16, 3) := by decide +kernel
theorem dX6_ifPassed_44 : decode cX6_ifPassed 44 = .ok (.aload_n 0, 1) := by decide +kernel
theorem dX6_ifPassed_45 : decode cX6_ifPassed 45 = .ok (.getfield 39, 3) := by decide +kernel
theorem dX6_ifPassed_48 : decode cX6_ifPassed 48 = .ok (.invokevirtual 104, 3) := by decide +kernel
theorem dX6_ifPassed_51 : decode cX6_ifPassed 51 = .ok (.iinc 3 1, 3) := by decide +kernel
theorem dX6_ifPassed_54 : decode cX6_ifPassed 54 = .ok (.goto (-19), 3) := by decide +kernel
theorem dX6_ifPassed_57 : decode cX6_ifPassed 57 = .ok (.iload_n 2, 1) := by decide +kernel
theorem dX6_ifPassed_58 : decode cX6_ifPassed 58 = .ok (.ifCond .ne 19, 3) := by decide +kernel
theorem dX6_ifPassed_61 : decode cX6_ifPassed 61 = .ok (.aload_n 0, 1) := by decide +kernel
theorem dX6_ifPassed_62 : decode cX6_ifPassed 62 = .ok (.getfield 16, 3) := by decide +kernel
theorem dX6_ifPassed_65 : decode cX6_ifPassed 65 = .ok (.getfield 101, 3) := by decide +kernel
theorem dX6_ifPassed_68 : decode cX6_ifPassed 68 = .ok (.aload_n 0, 1) := by decide +kernel
theorem dX6_ifPassed_69 : decode cX6_ifPassed 69 = .ok (.getfield 10, 3) := by decide +kernel
theorem dX6_ifPassed_72 : decode cX6_ifPassed 72 = .ok (.getfield 101, 3) := by decide +kernel
theorem dX6_ifPassed_75 : decode cX6_ifPassed 75 = .ok (.isub, 1) := by decide +kernel
theorem dX6_ifPassed_76 : decode cX6_ifPassed 76 = .ok (.ireturn, 1) := by decide +kernel
theorem dX6_ifPassed_77 : decode cX6_ifPassed 77 = .ok (.iload_n 2, 1) := by decide +kernel
theorem dX6_ifPassed_78 : decode cX6_ifPassed 78 = .ok (.iconst 1, 1) := by decide +kernel
theorem dX6_ifPassed_79 : decode cX6_ifPassed 79 = .ok (.if_icmp .ne 21, 3) := by decide +kernel
theorem dX6_ifPassed_82 : decode cX6_ifPassed 82 = .ok (.aload_n 0, 1) := by decide +kernel
theorem dX6_ifPassed_83 : decode cX6_ifPassed 83 = .ok (.getfield 16, 3) := by decide +kernel
theorem dX6_ifPassed_86 : decode cX6_ifPassed 86 = .ok (.getfield 209, 3) := by decide +kernel
theorem dX6_ifPassed_89 : decode cX6_ifPassed 89 = .ok (.aload_n 0, 1) := by decide +kernel
theorem dX6_ifPassed_90 : decode cX6_ifPassed 90 = .ok (.getfield 10, 3) := by decide +kernel
theorem dX6_ifPassed_93 : decode cX6_ifPassed 93 = .ok (.getfield 209, 3) := by decide +kernel
theorem dX6_ifPassed_96 : decode cX6_ifPassed 96 = .ok (.isub, 1) := by decide +kernel
theorem dX6_ifPassed_97 : decode cX6_ifPassed 97 = .ok (.goto 18, 3) := by decide +kernel
theorem dX6_ifPassed_100 : decode cX6_ifPassed 100 = .ok (.aload_n 0, 1) := by decide +kernel
theorem dX6_ifPassed_101 : decode cX6_ifPassed 101 = .ok (.getfield 16, 3) := by decide +kernel
theorem dX6_ifPassed_104 : decode cX6_ifPassed 104 = .ok (.invokevirtual 200, 3) := by decide +kernel
theorem dX6_ifPassed_107 : decode cX6_ifPassed 107 = .ok (.aload_n 0, 1) := by decide +kernel
theorem dX6_ifPassed_108 : decode cX6_ifPassed 108 = .ok (.getfield 10, 3) := by decide +kernel
theorem dX6_ifPassed_111 : decode cX6_ifPassed 111 = .ok (.invokevirtual 200, 3) := by decide +kernel
theorem dX6_ifPassed_114 : decode cX6_ifPassed 114 = .ok (.isub, 1) := by decide +kernel
theorem dX6_ifPassed_115 : decode cX6_ifPassed 115 = .ok (.ireturn, 1) := by decide +kernel
theorem dX6_undo_0 : decode cX6_undo 0 = .ok (.aload_n 0, 1) := by decide +kernel
theorem dX6_undo_1 : decode cX6_undo 1 = .ok (.getfield 25, 3) := by decide +kernel
theorem dX6_undo_4 : decode cX6_undo 4 = .ok (.getfield 213, 3) := by decide +kernel
theorem dX6_undo_7 : decode cX6_undo 7 = .ok (.ifCond .ne 6, 3) := by decide +kernel
theorem dX6_undo_10 : decode cX6_undo 10 = .ok (.bipush (-2), 2) := by decide +kernel
theorem dX6_undo_12 : decode cX6_undo 12 = .ok (.ireturn, 1) := by decide +kernel
theorem dX6_undo_13 : decode cX6_undo 13 = .ok (.aload_n 0, 1) := by decide +kernel
theorem dX6_undo_14 : decode cX6_undo 14 = .ok (.getfield 25, 3) := by decide +kernel
theorem dX6_undo_17 : decode cX6_undo 17 = .ok (.aload_n 0, 1) := by decide +kernel
theorem dX6_undo_18 : decode cX6_undo 18 = .ok (.getfield 10, 3) := by decide +kernel
theorem dX6_undo_21 : decode cX6_undo 21 = .ok (.invokevirtual 230, 3) := by decide +kernel
theorem dX6_undo_24 : decode cX6_undo 24 = .ok (.aload_n 0, 1) := by decide +kernel
theorem dX6_undo_25 : decode cX6_undo 25 = .ok (.getfield 25, 3) := by decide +kernel
theorem dX6_undo_28 : decode cX6_undo 28 = .ok (.getfield 213, 3) := by decide +kernel
theorem dX6_undo_31 : decode cX6_undo 31 = .ok (.ireturn, 1) := by decide +kernel
theorem dX6_save_0 : decode cX6_save 0 = .ok (.aload_n 0, 1) := by decide +kernel
theorem dX6_save_1 : decode cX6_save 1 = .ok (.getfield 19, 3) := by decide +kernel
theorem dX6_save_4 : decode cX6_save 4 = .ok (.aload_n 0, 1) := by decide +kernel
theorem dX6_save_5 : decode cX6_save 5 = .ok (.getfield 10, 3) := by decide +kernel
theorem dX6_save_8 : decode cX6_save 8 = .ok (.invokevirtual 218, 3) := by decide +kernel
theorem dX6_save_11 : decode cX6_save 11 = .ok (.aload_n 0, 1) := by decide +kernel
theorem dX6_save_12 : decode cX6_save 12 = .ok (.iconst 1, 1) := by decide +kernel
theorem dX6_save_13 : decode cX6_save 13 = .ok (.putfield 233, 3) := by decide +kernel
theorem dX6_save_16 : decode cX6_save 16 = .ok (.aload_n 0, 1) := by decide +kernel
theorem dX6_save_17 : decode cX6_save 17 = .ok (.getfield 10, 3) := by decide +kernel
theorem dX6_save_20 : decode cX6_save 20 = .ok (.getfield 63, 3) := by decide +kernel
theorem dX6_save_23 : decode cX6_save 23 = .ok (.ireturn, 1) := by decide +kernel
theorem dX6_restore_0 : decode cX6_restore 0 = .ok (.aload_n 0, 1) := by decide +kernel
theorem dX6_restore_1 : decode cX6_restore 1 = .ok (.getfield 233, 3) := by decide +kernel
theorem dX6_restore_4 : decode cX6_restore 4 = .ok (.ifCond .ne 6, 3) := by decide +kernel
theorem dX6_restore_7 : decode cX6_restore 7 = .ok (.bipush (-2), 2) := by decide +kernel
theorem dX6_restore_9 : decode cX6_restore 9 = .ok (.ireturn, 1) := by decide +kernel
theorem dX6_restore_10 : decode cX6_restore 10 = .ok (.aload_n 0, 1) := by decide +kernel
theorem dX6_restore_11 : decode cX6_restore 11 = .ok (.getfield 25, 3) := by decide +kernel
theorem dX6_restore_14 : decode cX6_restore 14 = .ok (.aload_n 0, 1) := by decide +kernel
theorem dX6_restore_15 : decode cX6_restore 15 = .ok (.getfield 10, 3) := by decide +kernel
theorem dX6_restore_18 : decode cX6_restore 18 = .ok (.invokevirtual 51, 3) := by decide +kernel
theorem dX6_restore_21 : decode cX6_restore 21 = .ok (.aload_n 0, 1) := by decide +kernel
theorem dX6_restore_22 : decode cX6_restore 22 = .ok (.getfield 10, 3) := by decide +kernel
theorem dX6_restore_25 : decode cX6_restore 25 = .ok (.aload_n 0, 1) := by decide +kernel
theorem dX6_restore_26 : decode cX6_restore 26 = .ok (.getfield 19, 3) := by decide +kernel
theorem dX6_restore_29 : decode cX6_restore 29 = .ok (.invokevirtual 218, 3) := by decide +kernel
theorem dX6_restore_32 : decode cX6_restore 32 = .ok (.aload_n 0, 1) := by decide +kernel
theorem dX6_restore_33 : decode cX6_restore 33 = .ok (.getfield 10, 3) := by decide +kernel
theorem dX6_restore_36 : decode cX6_restore 36 = .ok (.getfield 63, 3) := by decide +kernel
theorem dX6_restore_39 : decode cX6_restore 39 = .ok (.ireturn, 1) := by decide +kernel
theorem dX6_isWeekday_0 : decode cX6_isWeekday 0 = .ok (.iload_n 0, 1) := by decide +kernel
theorem dX6_isWeekday_1 : decode cX6_isWeekday 1 = .ok (.ifCond .lt 13, 3) := by decide +kernel
theorem dX6_isWeekday_4 : decode cX6_isWeekday 4 = .ok (.iload_n 0, 1) := by decide +kernel
theorem dX6_isWeekday_5 : decode cX6_isWeekday 5 = .ok (.bipush 7, 2) := by decide +kernel
theorem dX6_isWeekday_7 : decode cX6_isWeekday 7 = .ok (.if_icmp .ge 7, 3) := by decide +kernel
theorem dX6_isWeekday_10 : decode cX6_isWeekday 10 = .ok (.iconst 1, 1) := by decide +kernel
theorem dX6_isWeekday_11 : decode cX6_isWeekday 11 = .ok (.goto 4, 3) := by decide +kernel
theorem dX6_isWeekday_14 : decode cX6_isWeekday 14 = .ok (.iconst 0, 1) := by decide +kernel
theorem dX6_isWeekday_15 : decode cX6_isWeekday 15 = .ok (.ireturn, 1) := by decide +kernel
theorem dX6_areTwoTowns_0 : decode cX6_areTwoTowns 0 = .ok (.iload_n 0, 1) := by decide +kernel
theorem dX6_areTwoTowns_1 : decode cX6_areTwoTowns 1 = .ok (.ifCond .lt 28, 3) := by decide +kernel
theorem dX6_areTwoTowns_4 : decode cX6_areTwoTowns 4 = .ok (.iload_n 0, 1) := by decide +kernel
theorem dX6_areTwoTowns_5 : decode cX6_areTwoTowns 5 = .ok (.bipush 6, 2) := by decide +kernel
theorem dX6_areTwoTowns_7 : decode cX6_areTwoTowns 7 = .ok (.if_icmp .ge 22, 3) := by decide +kernel
theorem dX6_areTwoTowns_10 : decode cX6_areTwoTowns 10 = .ok (.iload_n 1, 1) := by decide +kernel
theorem dX6_areTwoTowns_11 : decode cX6_areTwoTowns 11 = .ok (.ifCond .lt 18, 3) := by decide +kernel
theorem dX6_areTwoTowns_14 : decode cX6_areTwoTowns 14 = .ok (.iload_n 1, 1) := by decide +kernel
theorem dX6_areTwoTowns_15 : decode cX6_areTwoTowns 15 = .ok (.bipush 6, 2) := by decide +kernel
theorem dX6_areTwoTowns_17 : decode cX6_areTwoTowns 17 = .ok (.if_icmp .ge 12, 3) := by decide +kernel
theorem dX6_areTwoTowns_20 : decode cX6_areTwoTowns 20 = .ok (.iload_n 0, 1) := by decide +kernel
theorem dX6_areTwoTowns_21 : decode cX6_areTwoTowns 21 = .ok (.iload_n 1, 1) := by decide +kernel
theorem dX6_areTwoTowns_22 : decode cX6_areTwoTowns 22 = .ok (.if_icmp .eq 7, 3) := by decide +kernel
theorem dX6_areTwoTowns_25 : decode cX6_areTwoTowns 25 = .ok (.iconst 1, 1) := by decide +kernel
theorem dX6_areTwoTowns_26 : decode cX6_areTwoTowns 26 = .ok (.goto 4, 3) := by decide +kernel
theorem dX6_areTwoTowns_29 : decode cX6_areTwoTowns 29 = .ok (.iconst 0, 1) := by decide +kernel
theorem dX6_areTwoTowns_30 : decode cX6_areTwoTowns 30 = .ok (.ireturn, 1) := by decide +kernel
theorem dX6_stallToday_0 : decode cX6_stallToday 0 = .ok (.aload_n 0, 1) := by decide +kernel
theorem dX6_stallToday_1 : decode cX6_stallToday 1 = .ok (.getfield 10, 3) := by decide +kernel
theorem dX6_stallToday_4 : decode cX6_stallToday 4 = .ok (.aload_n 0, 1) := by decide +kernel
theorem dX6_stallToday_5 : decode cX6_stallToday 5 = .ok (.getfield 10, 3) := by decide +kernel
theorem dX6_stallToday_8 : decode cX6_stallToday 8 = .ok (.getfield 63, 3) := by decide +kernel
theorem dX6_stallToday_11 : decode cX6_stallToday 11 = .ok (.invokevirtual 47, 3) := by decide +kernel
theorem dX6_stallToday_14 : decode cX6_stallToday 14 = .ok (.istore_n 1, 1) := by decide +kernel
theorem dX6_stallToday_15 : decode cX6_stallToday 15 = .ok (.iload_n 1, 1) := by decide +kernel
theorem dX6_stallToday_16 : decode cX6_stallToday 16 = .ok (.bipush 6, 2) := by decide +kernel
theorem dX6_stallToday_18 : decode cX6_stallToday 18 = .ok (.if_icmp .ne 8, 3) := by decide +kernel
theorem dX6_stallToday_21 : decode cX6_stallToday 21 = .ok (.bipush (-4), 2) := by decide +kernel
theorem dX6_stallToday_23 : decode cX6_stallToday 23 = .ok (.goto 4, 3) := by decide +kernel
theorem dX6_stallToday_26 : decode cX6_stallToday 26 = .ok (.iload_n 1, 1) := by decide +kernel
theorem dX6_stallToday_27 : decode cX6_stallToday 27 = .ok (.ireturn, 1) := by decide +kernel
theorem dX6_shiftedDelayOf_0 : decode cX6_shiftedDelayOf 0 = .ok (.aload_n 0, 1) := by decide +kernel
theorem dX6_shiftedDelayOf_1 : decode cX6_shiftedDelayOf 1 = .ok (.aload_n 1, 1) := by decide +kernel
theorem dX6_shiftedDelayOf_2 : decode cX6_shiftedDelayOf 2 = .ok (.invokevirtual 214, 3) := by decide +kernel
theorem dX6_shiftedDelayOf_5 : decode cX6_shiftedDelayOf 5 = .ok (.istore_n 2, 1) := by decide +kernel
theorem dX6_shiftedDelayOf_6 : decode cX6_shiftedDelayOf 6 = .ok (.iload_n 2, 1) := by decide +kernel
theorem dX6_shiftedDelayOf_7 : decode cX6_shiftedDelayOf 7 = .ok (.ldc 217, 2) := by decide +kernel
theorem dX6_shiftedDelayOf_9 : decode cX6_shiftedDelayOf 9 = .ok (.if_icmp .ne 8, 3) := by decide +kernel
theorem dX6_shiftedDelayOf_12 : decode cX6_shiftedDelayOf 12 = .ok (.bipush (-4), 2) := by decide +kernel
theorem dX6_shiftedDelayOf_14 : decode cX6_shiftedDelayOf 14 = .ok (.goto 8, 3) := by decide +kernel
theorem dX6_shiftedDelayOf_17 : decode cX6_shiftedDelayOf 17 = .ok (.iload_n 2, 1) := by decide +kernel
theorem dX6_shiftedDelayOf_18 : decode cX6_shiftedDelayOf 18 = .ok (.sipush 1000, 3) := by decide +kernel
theorem dX6_shiftedDelayOf_21 : decode cX6_shiftedDelayOf 21 = .ok (.iadd, 1) := by decide +kernel
theorem dX6_shiftedDelayOf_22 : decode cX6_shiftedDelayOf 22 = .ok (.ireturn, 1) := by decide +kernel
theorem dX6_delayOf_0 : decode cX6_delayOf 0 = .ok (.aload_n 1, 1) := by decide +kernel
theorem dX6_delayOf_1 : decode cX6_delayOf 1 = .ok (.ifnull 12, 3) := by decide +kernel
theorem dX6_delayOf_4 : decode cX6_delayOf 4 = .ok (.aload_n 1, 1) := by decide +kernel
theorem dX6_delayOf_5 : decode cX6_delayOf 5 = .ok (.getfield 167, 3) := by decide +kernel
theorem dX6_delayOf_8 : decode cX6_delayOf 8 = .ok (.bipush (-4), 2) := by decide +kernel
theorem dX6_delayOf_10 : decode cX6_delayOf 10 = .ok (.if_icmp .ne 6, 3) := by decide +kernel
theorem dX6_delayOf_13 : decode cX6_delayOf 13 = .ok (.ldc 217, 2) := by decide +kernel
theorem dX6_delayOf_15 : decode cX6_delayOf 15 = .ok (.ireturn, 1) := by decide +kernel
theorem dX6_delayOf_16 : decode cX6_delayOf 16 = .ok (.aload_n 0, 1) := by decide +kernel
theorem dX6_delayOf_17 : decode cX6_delayOf 17 = .ok (.getfield 39, 3) := by decide +kernel
theorem dX6_delayOf_20 : decode cX6_delayOf 20 = .ok (.aload_n 0, 1) := by decide +kernel
theorem dX6_delayOf_21 : decode cX6_delayOf 21 = .ok (.getfield 10, 3) := by decide +kernel
theorem dX6_delayOf_24 : decode cX6_delayOf 24 = .ok (.aload_n 1, 1) := by decide +kernel
theorem dX6_delayOf_25 : decode cX6_delayOf 25 = .ok (.invokevirtual 181, 3) := by decide +kernel
theorem dX6_delayOf_28 : decode cX6_delayOf 28 = .ok (.istore_n 2, 1) := by decide +kernel
theorem dX6_delayOf_29 : decode cX6_delayOf 29 = .ok (.iload_n 2, 1) := by decide +kernel
theorem dX6_delayOf_30 : decode cX6_delayOf 30 = .ok (.bipush (-4), 2) := by decide +kernel
theorem dX6_delayOf_32 : decode cX6_delayOf 32 = .ok (.if_icmp .ne 8, 3) := by decide +kernel
theorem dX6_delayOf_35 : decode cX6_delayOf 35 = .ok (.ldc 217, 2) := by decide +kernel
theorem dX6_delayOf_37 : decode cX6_delayOf 37 = .ok (.goto 9, 3) := by decide +kernel
theorem dX6_delayOf_40 : decode cX6_delayOf 40 = .ok (.iload_n 2, 1) := by decide +kernel
theorem dX6_delayOf_41 : decode cX6_delayOf 41 = .ok (.aload_n 1, 1) := by decide +kernel
theorem dX6_delayOf_42 : decode cX6_delayOf 42 = .ok (.getfield 167, 3) := by decide +kernel
theorem dX6_delayOf_45 : decode cX6_delayOf 45 = .ok (.isub, 1) := by decide +kernel
theorem dX6_delayOf_46 : decode cX6_delayOf 46 = .ok (.ireturn, 1) := by decide +kernel
theorem dX6_addCarriersOfPad_0 : decode cX6_addCarriersOfPad 0 = .ok (.aload_n 0, 1) := by decide +kernel
theorem dX6_addCarriersOfPad_1 : decode cX6_addCarriersOfPad 1 = .ok (.getfield 10, 3) := by decide +kernel
theorem dX6_addCarriersOfPad_4 : decode cX6_addCarriersOfPad 4 = .ok (.invokevirtual 236, 3) := by decide +kernel
theorem dX6_addCarriersOfPad_7 : decode cX6_addCarriersOfPad 7 = .ok (.astore_n 1, 1) := by decide +kernel
theorem dX6_addCarriersOfPad_8 : decode cX6_addCarriersOfPad 8 = .ok (.iconst 0, 1) := by decide +kernel
theorem dX6_addCarriersOfPad_9 : decode cX6_addCarriersOfPad 9 = .ok (.istore_n 2, 1) := by decide +kernel
theorem dX6_addCarriersOfPad_10 : decode cX6_addCarriersOfPad 10 = .ok (.iload_n 2, 1) := by decide +kernel
theorem dX6_addCarriersOfPad_11 : decode cX6_addCarriersOfPad 11 = .ok (.aload_n 0, 1) := by decide +kernel
theorem dX6_addCarriersOfPad_12 : decode cX6_addCarriersOfPad 12 = .ok (.getfield 32, 3) := by decide +kernel
theorem dX6_addCarriersOfPad_15 : decode cX6_addCarriersOfPad 15 = .ok (.getfield 108, 3) := by decide +kernel
theorem dX6_addCarriersOfPad_18 : decode cX6_addCarriersOfPad 18 = .ok (.if_icmp .ge 74, 3) := by decide +kernel
theorem dX6_addCarriersOfPad_21 : decode cX6_addCarriersOfPad 21 = .ok (.aload_n 1, 1) := by decide +kernel
theorem dX6_addCarriersOfPad_22 : decode cX6_addCarriersOfPad 22 = .ok (.ifnull 70, 3) := by decide +kernel
theorem dX6_addCarriersOfPad_25 : decode cX6_addCarriersOfPad 25 = .ok (.aload_n 0, 1) := by decide +kernel
theorem dX6_addCarriersOfPad_26 : decode cX6_addCarriersOfPad 26 = .ok (.getfield 32, 3) := by decide +kernel
theorem dX6_addCarriersOfPad_29 : decode cX6_addCarriersOfPad 29 = .ok (.iload_n 2, 1) := by decide +kernel
theorem dX6_addCarriersOfPad_30 : decode cX6_addCarriersOfPad 30 = .ok (.invokevirtual 130, 3) := by decide +kernel
theorem dX6_addCarriersOfPad_33 : decode cX6_addCarriersOfPad 33 = .ok (.istore_n 3, 1) := by decide +kernel
theorem dX6_addCarriersOfPad_34 : decode cX6_addCarriersOfPad 34 = .ok (.iload_n 3, 1) := by decide +kernel
theorem dX6_addCarriersOfPad_35 : decode cX6_addCarriersOfPad 35 = .ok (.bipush 59, 2) := by decide +kernel
theorem dX6_addCarriersOfPad_37 : decode cX6_addCarriersOfPad 37 = .ok (.if_icmp .ne 14, 3) := by decide +kernel
theorem dX6_addCarriersOfPad_40 : decode cX6_addCarriersOfPad 40 = .ok (.aload_n 0, 1) := by decide +kernel
theorem dX6_addCarriersOfPad_41 : decode cX6_addCarriersOfPad 41 = .ok (.getfield 10, 3) := by decide +kernel
theorem dX6_addCarriersOfPad_44 : decode cX6_addCarriersOfPad 44 = .ok (.invokevirtual 236, 3) := by decide +kernel
theorem dX6_addCarriersOfPad_47 : decode cX6_addCarriersOfPad 47 = .ok (.astore_n 1, 1) := by decide +kernel
theorem dX6_addCarriersOfPad_48 : decode cX6_addCarriersOfPad 48 = .ok (.goto 38, 3) := by decide +kernel
theorem dX6_addCarriersOfPad_51 : decode cX6_addCarriersOfPad 51 = .ok (.iload_n 3, 1) := by decide +kernel
theorem dX6_addCarriersOfPad_52 : decode cX6_addCarriersOfPad 52 = .ok (.bipush 42, 2) := by decide +kernel
theorem dX6_addCarriersOfPad_54 : decode cX6_addCarriersOfPad 54 = .ok (.if_icmp .ne 24, 3) := by decide +kernel
theorem dX6_addCarriersOfPad_57 : decode cX6_addCarriersOfPad 57 = .ok (.iinc 2 1, 3) := by decide +kernel
theorem dX6_addCarriersOfPad_60 : decode cX6_addCarriersOfPad 60 = .ok (.aload_n 1, 1) := by decide +kernel
theorem dX6_addCarriersOfPad_61 : decode cX6_addCarriersOfPad 61 = .ok (.aload_n 0, 1) := by decide +kernel
theorem dX6_addCarriersOfPad_62 : decode cX6_addCarriersOfPad 62 = .ok (.getfield 32, 3) := by decide +kernel
theorem dX6_addCarriersOfPad_65 : decode cX6_addCarriersOfPad 65 = .ok (.iload_n 2, 1) := by decide +kernel
theorem dX6_addCarriersOfPad_66 : decode cX6_addCarriersOfPad 66 = .ok (.invokevirtual 130, 3) := by decide +kernel
theorem dX6_addCarriersOfPad_69 : decode cX6_addCarriersOfPad 69 = .ok (.bipush 48, 2) := by decide +kernel
theorem dX6_addCarriersOfPad_71 : decode cX6_addCarriersOfPad 71 = .ok (.isub, 1) := by decide +kernel
theorem dX6_addCarriersOfPad_72 : decode cX6_addCarriersOfPad 72 = .ok (.putfield 72, 3) := by decide +kernel
theorem dX6_addCarriersOfPad_75 : decode cX6_addCarriersOfPad 75 = .ok (.goto 11, 3) := by decide +kernel
theorem dX6_addCarriersOfPad_78 : decode cX6_addCarriersOfPad 78 = .ok (.aload_n 1, 1) := by decide +kernel
theorem dX6_addCarriersOfPad_79 : decode cX6_addCarriersOfPad 79 = .ok (.iload_n 3, 1) := by decide +kernel
theorem dX6_addCarriersOfPad_80 : decode cX6_addCarriersOfPad 80 = .ok (.bipush 48, 2) := by decide +kernel
theorem dX6_addCarriersOfPad_82 : decode cX6_addCarriersOfPad 82 = .ok (.isub, 1) := by decide +kernel
theorem dX6_addCarriersOfPad_83 : decode cX6_addCarriersOfPad 83 = .ok (.invokevirtual 240, 3) := by decide +kernel
theorem dX6_addCarriersOfPad_86 : decode cX6_addCarriersOfPad 86 = .ok (.iinc 2 1, 3) := by decide +kernel
theorem dX6_addCarriersOfPad_89 : decode cX6_addCarriersOfPad 89 = .ok (.goto (-79), 3) := by decide +kernel
theorem dX6_addCarriersOfPad_92 : decode cX6_addCarriersOfPad 92 = .ok (.return_, 1) := by decide +kernel
theorem dJ9_min_7cf53_0 : decode cJ9_min_7cf53 0 = .ok (.iload_n 0, 1) := by decide +kernel
theorem dJ9_min_7cf53_1 : decode cJ9_min_7cf53 1 = .ok (.iload_n 1, 1) := by decide +kernel
theorem dJ9_min_7cf53_2 : decode cJ9_min_7cf53 2 = .ok (.if_icmp .gt 7, 3) := by decide +kernel
theorem dJ9_min_7cf53_5 : decode cJ9_min_7cf53 5 = .ok (.iload_n 0, 1) := by decide +kernel
theorem dJ9_min_7cf53_6 : decode cJ9_min_7cf53 6 = .ok (.goto 4, 3) := by decide +kernel
theorem dJ9_min_7cf53_9 : decode cJ9_min_7cf53 9 = .ok (.iload_n 1, 1) := by decide +kernel
theorem dJ9_min_7cf53_10 : decode cJ9_min_7cf53 10 = .ok (.ireturn, 1) := by decide +kernel
theorem dJ7_fill_53178_0 : decode cJ7_fill_53178 0 = .ok (.iconst 0, 1) := by decide +kernel
theorem dJ7_fill_53178_1 : decode cJ7_fill_53178 1 = .ok (.istore_n 2, 1) := by decide +kernel
theorem dJ7_fill_53178_2 : decode cJ7_fill_53178 2 = .ok (.aload_n 0, 1) := by decide +kernel
theorem dJ7_fill_53178_3 : decode cJ7_fill_53178 3 = .ok (.arraylength, 1) := by decide +kernel
theorem dJ7_fill_53178_4 : decode cJ7_fill_53178 4 = .ok (.istore_n 3, 1) := by decide +kernel
theorem dJ7_fill_53178_5 : decode cJ7_fill_53178 5 = .ok (.iload_n 2, 1) := by decide +kernel
theorem dJ7_fill_53178_6 : decode cJ7_fill_53178 6 = .ok (.iload_n 3, 1) := by decide +kernel
theorem dJ7_fill_53178_7 : decode cJ7_fill_53178 7 = .ok (.if_icmp .ge 13, 3) := by decide +kernel
theorem dJ7_fill_53178_10 : decode cJ7_fill_53178 10 = .ok (.aload_n 0, 1) := by decide +kernel
theorem dJ7_fill_53178_11 : decode cJ7_fill_53178 11 = .ok (.iload_n 2, 1) := by decide +kernel
theorem dJ7_fill_53178_12 : decode cJ7_fill_53178 12 = .ok (.iload_n 1, 1) := by decide +kernel
theorem dJ7_fill_53178_13 : decode cJ7_fill_53178 13 = .ok (.iastore, 1) := by decide +kernel
theorem dJ7_fill_53178_14 : decode cJ7_fill_53178 14 = .ok (.iinc 2 1, 3) := by decide +kernel
theorem dJ7_fill_53178_17 : decode cJ7_fill_53178 17 = .ok (.goto (-12), 3) := by decide +kernel
theorem dJ7_fill_53178_20 : decode cJ7_fill_53178 20 = .ok (.return_, 1) := by decide +kernel
theorem dL_lot_0 : decode cL_lot 0 = .ok (.iload_n 1, 1) := by decide +kernel
theorem dL_lot_1 : decode cL_lot 1 = .ok (.aload_n 0, 1) := by decide +kernel
theorem dL_lot_2 : decode cL_lot 2 = .ok (.arraylength, 1) := by decide +kernel
theorem dL_lot_3 : decode cL_lot 3 = .ok (.if_icmp .ge 9, 3) := by decide +kernel
theorem dL_lot_6 : decode cL_lot 6 = .ok (.aload_n 0, 1) := by decide +kernel
theorem dL_lot_7 : decode cL_lot 7 = .ok (.iload_n 1, 1) := by decide +kernel
theorem dL_lot_8 : decode cL_lot 8 = .ok (.iaload, 1) := by decide +kernel
theorem dL_lot_9 : decode cL_lot 9 = .ok (.goto 15, 3) := by decide +kernel
theorem dL_lot_12 : decode cL_lot 12 = .ok (.ldc 7, 2) := by decide +kernel
theorem dL_lot_14 : decode cL_lot 14 = .ok (.iload_n 1, 1) := by decide +kernel
theorem dL_lot_15 : decode cL_lot 15 = .ok (.sipush 4621, 3) := by decide +kernel
theorem dL_lot_18 : decode cL_lot 18 = .ok (.iadd, 1) := by decide +kernel
theorem dL_lot_19 : decode cL_lot 19 = .ok (.imul, 1) := by decide +kernel
theorem dL_lot_20 : decode cL_lot 20 = .ok (.sipush 4363, 3) := by decide +kernel
theorem dL_lot_23 : decode cL_lot 23 = .ok (.iadd, 1) := by decide +kernel
theorem dL_lot_24 : decode cL_lot 24 = .ok (.ireturn, 1) := by decide +kernel
theorem dL_low_0 : decode cL_low 0 = .ok (.iload_n 0, 1) := by decide +kernel
theorem dL_low_1 : decode cL_low 1 = .ok (.ldc 8, 2) := by decide +kernel
theorem dL_low_3 : decode cL_low 3 = .ok (.iand, 1) := by decide +kernel
theorem dL_low_4 : decode cL_low 4 = .ok (.iload_n 1, 1) := by decide +kernel
theorem dL_low_5 : decode cL_low 5 = .ok (.irem, 1) := by decide +kernel
theorem dL_low_6 : decode cL_low 6 = .ok (.ireturn, 1) := by decide +kernel
theorem dL_look_0 : decode cL_look 0 = .ok (.ldc2_w 9, 3) := by decide +kernel
theorem dL_look_3 : decode cL_look 3 = .ok (.lstore_n 1, 1) := by decide +kernel
theorem dL_look_4 : decode cL_look 4 = .ok (.iconst 0, 1) := by decide +kernel
theorem dL_look_5 : decode cL_look 5 = .ok (.istore_n 3, 1) := by decide +kernel
theorem dL_look_6 : decode cL_look 6 = .ok (.iload_n 3, 1) := by decide +kernel
theorem dL_look_7 : decode cL_look 7 = .ok (.bipush 15, 2) := by decide +kernel
theorem dL_look_9 : decode cL_look 9 = .ok (.if_icmp .ge 22, 3) := by decide +kernel
theorem dL_look_12 : decode cL_look 12 = .ok (.ldc2_w 11, 3) := by decide +kernel
theorem dL_look_15 : decode cL_look 15 = .ok (.lload_n 1, 1) := by decide +kernel
theorem dL_look_16 : decode cL_look 16 = .ok (.lmul, 1) := by decide +kernel
theorem dL_look_17 : decode cL_look 17 = .ok (.aload_n 0, 1) := by decide +kernel
theorem dL_look_18 : decode cL_look 18 = .ok (.iload_n 3, 1) := by decide +kernel
theorem dL_look_19 : decode cL_look 19 = .ok (.invokevirtual 13, 3) := by decide +kernel
theorem dL_look_22 : decode cL_look 22 = .ok (.i2l, 1) := by decide +kernel
theorem dL_look_23 : decode cL_look 23 = .ok (.ladd, 1) := by decide +kernel
theorem dL_look_24 : decode cL_look 24 = .ok (.lstore_n 1, 1) := by decide +kernel
theorem dL_look_25 : decode cL_look 25 = .ok (.iinc 3 1, 3) := by decide +kernel
theorem dL_look_28 : decode cL_look 28 = .ok (.goto (-22), 3) := by decide +kernel
theorem dL_look_31 : decode cL_look 31 = .ok (.iconst 0, 1) := by decide +kernel
theorem dL_look_32 : decode cL_look 32 = .ok (.istore_n 3, 1) := by decide +kernel
theorem dL_look_33 : decode cL_look 33 = .ok (.iload_n 3, 1) := by decide +kernel
theorem dL_look_34 : decode cL_look 34 = .ok (.aload_n 0, 1) := by decide +kernel
theorem dL_look_35 : decode cL_look 35 = .ok (.iconst 2, 1) := by decide +kernel
theorem dL_look_36 : decode cL_look 36 = .ok (.invokevirtual 13, 3) := by decide +kernel
theorem dL_look_39 : decode cL_look 39 = .ok (.if_icmp .ge 77, 3) := by decide +kernel
theorem dL_look_42 : decode cL_look 42 = .ok (.iconst 0, 1) := by decide +kernel
theorem dL_look_43 : decode cL_look 43 = .ok (.istore 4, 2) := by decide +kernel
theorem dL_look_45 : decode cL_look 45 = .ok (.iload 4, 2) := by decide +kernel
theorem dL_look_47 : decode cL_look 47 = .ok (.bipush 7, 2) := by decide +kernel
theorem dL_look_49 : decode cL_look 49 = .ok (.if_icmp .ge 24, 3) := by decide +kernel
theorem dL_look_52 : decode cL_look 52 = .ok (.ldc2_w 11, 3) := by decide +kernel
theorem dL_look_55 : decode cL_look 55 = .ok (.lload_n 1, 1) := by decide +kernel
theorem dL_look_56 : decode cL_look 56 = .ok (.lmul, 1) := by decide +kernel
theorem dL_look_57 : decode cL_look 57 = .ok (.aload_n 0, 1) := by decide +kernel
theorem dL_look_58 : decode cL_look 58 = .ok (.iload_n 3, 1) := by decide +kernel
theorem dL_look_59 : decode cL_look 59 = .ok (.iload 4, 2) := by decide +kernel
theorem dL_look_61 : decode cL_look 61 = .ok (.invokevirtual 19, 3) := by decide +kernel
theorem dL_look_64 : decode cL_look 64 = .ok (.i2l, 1) := by decide +kernel
theorem dL_look_65 : decode cL_look 65 = .ok (.ladd, 1) := by decide +kernel
theorem dL_look_66 : decode cL_look 66 = .ok (.lstore_n 1, 1) := by decide +kernel
theorem dL_look_67 : decode cL_look 67 = .ok (.iinc 4 1, 3) := by decide +kernel
theorem dL_look_70 : decode cL_look 70 = .ok (.goto (-25), 3) := by decide +kernel
theorem dL_look_73 : decode cL_look 73 = .ok (.iconst 0, 1) := by decide +kernel
theorem dL_look_74 : decode cL_look 74 = .ok (.istore 4, 2) := by decide +kernel
theorem dL_look_76 : decode cL_look 76 = .ok (.iload 4, 2) := by decide +kernel
theorem dL_look_78 : decode cL_look 78 = .ok (.bipush 7, 2) := by decide +kernel
theorem dL_look_80 : decode cL_look 80 = .ok (.if_icmp .ge 30, 3) := by decide +kernel
theorem dL_look_83 : decode cL_look 83 = .ok (.ldc2_w 11, 3) := by decide +kernel
theorem dL_look_86 : decode cL_look 86 = .ok (.lload_n 1, 1) := by decide +kernel
theorem dL_look_87 : decode cL_look 87 = .ok (.lmul, 1) := by decide +kernel
theorem dL_look_88 : decode cL_look 88 = .ok (.aload_n 0, 1) := by decide +kernel
theorem dL_look_89 : decode cL_look 89 = .ok (.iload_n 3, 1) := by decide +kernel
theorem dL_look_90 : decode cL_look 90 = .ok (.aload_n 0, 1) := by decide +kernel
theorem dL_look_91 : decode cL_look 91 = .ok (.iconst 0, 1) := by decide +kernel
theorem dL_look_92 : decode cL_look 92 = .ok (.invokevirtual 13, 3) := by decide +kernel
theorem dL_look_95 : decode cL_look 95 = .ok (.iload 4, 2) := by decide +kernel
theorem dL_look_97 : decode cL_look 97 = .ok (.iadd, 1) := by decide +kernel
theorem dL_look_98 : decode cL_look 98 = .ok (.invokevirtual 23, 3) := by decide +kernel
theorem dL_look_101 : decode cL_look 101 = .ok (.i2l, 1) := by decide +kernel
theorem dL_look_102 : decode cL_look 102 = .ok (.ladd, 1) := by decide +kernel
theorem dL_look_103 : decode cL_look 103 = .ok (.lstore_n 1, 1) := by decide +kernel
theorem dL_look_104 : decode cL_look 104 = .ok (.iinc 4 1, 3) := by decide +kernel
theorem dL_look_107 : decode cL_look 107 = .ok (.goto (-31), 3) := by decide +kernel
theorem dL_look_110 : decode cL_look 110 = .ok (.iinc 3 1, 3) := by decide +kernel
theorem dL_look_113 : decode cL_look 113 = .ok (.goto (-80), 3) := by decide +kernel
theorem dL_look_116 : decode cL_look 116 = .ok (.iconst 0, 1) := by decide +kernel
theorem dL_look_117 : decode cL_look 117 = .ok (.istore_n 3, 1) := by decide +kernel
theorem dL_look_118 : decode cL_look 118 = .ok (.iload_n 3, 1) := by decide +kernel
theorem dL_look_119 : decode cL_look 119 = .ok (.aload_n 0, 1) := by decide +kernel
theorem dL_look_120 : decode cL_look 120 = .ok (.iconst 4, 1) := by decide +kernel
theorem dL_look_121 : decode cL_look 121 = .ok (.invokevirtual 13, 3) := by decide +kernel
theorem dL_look_124 : decode cL_look 124 = .ok (.if_icmp .ge 40, 3) := by decide +kernel
theorem dL_look_127 : decode cL_look 127 = .ok (.iconst 0, 1) := by decide +kernel
theorem dL_look_128 : decode cL_look 128 = .ok (.istore 4, 2) := by decide +kernel
theorem dL_look_130 : decode cL_look 130 = .ok (.iload 4, 2) := by decide +kernel
theorem dL_look_132 : decode cL_look 132 = .ok (.bipush 9, 2) := by decide +kernel
theorem dL_look_134 : decode cL_look 134 = .ok (.if_icmp .ge 24, 3) := by decide +kernel
theorem dL_look_137 : decode cL_look 137 = .ok (.ldc2_w 11, 3) := by decide +kernel
theorem dL_look_140 : decode cL_look 140 = .ok (.lload_n 1, 1) := by decide +kernel
theorem dL_look_141 : decode cL_look 141 = .ok (.lmul, 1) := by decide +kernel
theorem dL_look_142 : decode cL_look 142 = .ok (.aload_n 0, 1) := by decide +kernel
theorem dL_look_143 : decode cL_look 143 = .ok (.iload_n 3, 1) := by decide +kernel
theorem dL_look_144 : decode cL_look 144 = .ok (.iload 4, 2) := by decide +kernel
theorem dL_look_146 : decode cL_look 146 = .ok (.invokevirtual 26, 3) := by decide +kernel
theorem dL_look_149 : decode cL_look 149 = .ok (.i2l, 1) := by decide +kernel
theorem dL_look_150 : decode cL_look 150 = .ok (.ladd, 1) := by decide +kernel
theorem dL_look_151 : decode cL_look 151 = .ok (.lstore_n 1, 1) := by decide +kernel
theorem dL_look_152 : decode cL_look 152 = .ok (.iinc 4 1, 3) := by decide +kernel
theorem dL_look_155 : decode cL_look 155 = .ok (.goto (-25), 3) := by decide +kernel
theorem dL_look_158 : decode cL_look 158 = .ok (.iinc 3 1, 3) := by decide +kernel
theorem dL_look_161 : decode cL_look 161 = .ok (.goto (-43), 3) := by decide +kernel
theorem dL_look_164 : decode cL_look 164 = .ok (.lload_n 1, 1) := by decide +kernel
theorem dL_look_165 : decode cL_look 165 = .ok (.lreturn, 1) := by decide +kernel
theorem dL_holds_0 : decode cL_holds 0 = .ok (.aload_n 0, 1) := by decide +kernel
theorem dL_holds_1 : decode cL_holds 1 = .ok (.iconst 4, 1) := by decide +kernel
theorem dL_holds_2 : decode cL_holds 2 = .ok (.invokevirtual 13, 3) := by decide +kernel
theorem dL_holds_5 : decode cL_holds 5 = .ok (.istore_n 1, 1) := by decide +kernel
theorem dL_holds_6 : decode cL_holds 6 = .ok (.aload_n 0, 1) := by decide +kernel
theorem dL_holds_7 : decode cL_holds 7 = .ok (.iconst 2, 1) := by decide +kernel
theorem dL_holds_8 : decode cL_holds 8 = .ok (.invokevirtual 13, 3) := by decide +kernel
theorem dL_holds_11 : decode cL_holds 11 = .ok (.istore_n 2, 1) := by decide +kernel
theorem dL_holds_12 : decode cL_holds 12 = .ok (.aload_n 0, 1) := by decide +kernel
theorem dL_holds_13 : decode cL_holds 13 = .ok (.iconst 0, 1) := by decide +kernel
theorem dL_holds_14 : decode cL_holds 14 = .ok (.invokevirtual 13, 3) := by decide +kernel
theorem dL_holds_17 : decode cL_holds 17 = .ok (.istore_n 3, 1) := by decide +kernel
theorem dL_holds_18 : decode cL_holds 18 = .ok (.iconst 0, 1) := by decide +kernel
theorem dL_holds_19 : decode cL_holds 19 = .ok (.istore 4, 2) := by decide +kernel
theorem dL_holds_21 : decode cL_holds 21 = .ok (.iconst 0, 1) := by decide +kernel
theorem dL_holds_22 : decode cL_holds 22 = .ok (.istore 5, 2) := by decide +kernel
theorem dL_holds_24 : decode cL_holds 24 = .ok (.iconst 0, 1) := by decide +kernel
theorem dL_holds_25 : decode cL_holds 25 = .ok (.istore 6, 2) := by decide +kernel
theorem dL_holds_27 : decode cL_holds 27 = .ok (.iconst 0, 1) := by decide +kernel
theorem dL_holds_28 : decode cL_holds 28 = .ok (.istore 7, 2) := by decide +kernel
theorem dL_holds_30 : decode cL_holds 30 = .ok (.iconst 0, 1) := by decide +kernel
theorem dL_holds_31 : decode cL_holds 31 = .ok (.istore 8, 2) := by decide +kernel
theorem dL_holds_33 : decode cL_holds 33 = .ok (.iconst 0, 1) := by decide +kernel
theorem dL_holds_34 : decode cL_holds 34 = .ok (.istore 9, 2) := by decide +kernel
theorem dL_holds_36 : decode cL_holds 36 = .ok (.iconst 0, 1) := by decide +kernel
theorem dL_holds_37 : decode cL_holds 37 = .ok (.istore 10, 2) := by decide +kernel
theorem dL_holds_39 : decode cL_holds 39 = .ok (.iconst 0, 1) := by decide +kernel
theorem dL_holds_40 : decode cL_holds 40 = .ok (.istore 11, 2) := by decide +kernel
theorem dL_holds_42 : decode cL_holds 42 = .ok (.iload_n 1, 1) := by decide +kernel
theorem dL_holds_43 : decode cL_holds 43 = .ok (.bipush 8, 2) := by decide +kernel
theorem dL_holds_45 : decode cL_holds 45 = .ok (.if_icmp .gt 101, 3) := by decide +kernel
theorem dL_holds_48 : decode cL_holds 48 = .ok (.iload_n 2, 1) := by decide +kernel
theorem dL_holds_49 : decode cL_holds 49 = .ok (.iconst 4, 1) := by decide +kernel
theorem dL_holds_50 : decode cL_holds 50 = .ok (.if_icmp .gt 96, 3) := by decide +kernel
theorem dL_holds_53 : decode cL_holds 53 = .ok (.aload_n 0, 1) := by decide +kernel
theorem dL_holds_54 : decode cL_holds 54 = .ok (.bipush 9, 2) := by decide +kernel
theorem dL_holds_56 : decode cL_holds 56 = .ok (.invokevirtual 13, 3) := by decide +kernel
theorem dL_holds_59 : decode cL_holds 59 = .ok (.iload_n 1, 1) := by decide +kernel
theorem dL_holds_60 : decode cL_holds 60 = .ok (.aload_n 0, 1) := by decide +kernel
theorem dL_holds_61 : decode cL_holds 61 = .ok (.bipush 11, 2) := by decide +kernel
theorem dL_holds_63 : decode cL_holds 63 = .ok (.invokevirtual 13, 3) := by decide +kernel
theorem dL_holds_66 : decode cL_holds 66 = .ok (.iadd, 1) := by decide +kernel
theorem dL_holds_67 : decode cL_holds 67 = .ok (.if_icmp .ne 79, 3) := by decide +kernel
theorem dL_holds_70 : decode cL_holds 70 = .ok (.aload_n 0, 1) := by decide +kernel
theorem dL_holds_71 : decode cL_holds 71 = .ok (.iconst 1, 1) := by decide +kernel
theorem dL_holds_72 : decode cL_holds 72 = .ok (.invokevirtual 13, 3) := by decide +kernel
theorem dL_holds_75 : decode cL_holds 75 = .ok (.bipush 6, 2) := by decide +kernel
theorem dL_holds_77 : decode cL_holds 77 = .ok (.if_icmp .ge 69, 3) := by decide +kernel
theorem dL_holds_80 : decode cL_holds 80 = .ok (.aload_n 0, 1) := by decide +kernel
theorem dL_holds_81 : decode cL_holds 81 = .ok (.bipush 13, 2) := by decide +kernel
theorem dL_holds_83 : decode cL_holds 83 = .ok (.invokevirtual 13, 3) := by decide +kernel
theorem dL_holds_86 : decode cL_holds 86 = .ok (.iconst 1, 1) := by decide +kernel
theorem dL_holds_87 : decode cL_holds 87 = .ok (.if_icmp .lt 59, 3) := by decide +kernel
theorem dL_holds_90 : decode cL_holds 90 = .ok (.aload_n 0, 1) := by decide +kernel
theorem dL_holds_91 : decode cL_holds 91 = .ok (.bipush 13, 2) := by decide +kernel
theorem dL_holds_93 : decode cL_holds 93 = .ok (.invokevirtual 13, 3) := by decide +kernel
theorem dL_holds_96 : decode cL_holds 96 = .ok (.bipush 8, 2) := by decide +kernel
theorem dL_holds_98 : decode cL_holds 98 = .ok (.if_icmp .gt 48, 3) := by decide +kernel
theorem dL_holds_101 : decode cL_holds 101 = .ok (.aload_n 0, 1) := by decide +kernel
theorem dL_holds_102 : decode cL_holds 102 = .ok (.bipush 14, 2) := by decide +kernel
theorem dL_holds_104 : decode cL_holds 104 = .ok (.invokevirtual 13, 3) := by decide +kernel
theorem dL_holds_107 : decode cL_holds 107 = .ok (.ifCond .lt 39, 3) := by decide +kernel
theorem dL_holds_110 : decode cL_holds 110 = .ok (.aload_n 0, 1) := by decide +kernel
theorem dL_holds_111 : decode cL_holds 111 = .ok (.bipush 14, 2) := by decide +kernel
theorem dL_holds_113 : decode cL_holds 113 = .ok (.invokevirtual 13, 3) := by decide +kernel
theorem dL_holds_116 : decode cL_holds 116 = .ok (.sipush 10000, 3) := by decide +kernel
theorem dL_holds_119 : decode cL_holds 119 = .ok (.if_icmp .ge 27, 3) := by decide +kernel
theorem dL_holds_122 : decode cL_holds 122 = .ok (.aload_n 0, 1) := by decide +kernel
theorem dL_holds_123 : decode cL_holds 123 = .ok (.iload_n 2, 1) := by decide +kernel
theorem dL_holds_124 : decode cL_holds 124 = .ok (.iconst 0, 1) := by decide +kernel
theorem dL_holds_125 : decode cL_holds 125 = .ok (.invokevirtual 19, 3) := by decide +kernel
theorem dL_holds_128 : decode cL_holds 128 = .ok (.iconst (-1), 1) := by decide +kernel
theorem dL_holds_129 : decode cL_holds 129 = .ok (.if_icmp .ne 17, 3) := by decide +kernel
theorem dL_holds_132 : decode cL_holds 132 = .ok (.aload_n 0, 1) := by decide +kernel
theorem dL_holds_133 : decode cL_holds 133 = .ok (.iload_n 1, 1) := by decide +kernel
theorem dL_holds_134 : decode cL_holds 134 = .ok (.iconst 0, 1) := by decide +kernel
theorem dL_holds_135 : decode cL_holds 135 = .ok (.invokevirtual 26, 3) := by decide +kernel
theorem dL_holds_138 : decode cL_holds 138 = .ok (.iconst (-1), 1) := by decide +kernel
theorem dL_holds_139 : decode cL_holds 139 = .ok (.if_icmp .ne 7, 3) := by decide +kernel
theorem dL_holds_142 : decode cL_holds 142 = .ok (.iconst 1, 1) := by decide +kernel
theorem dL_holds_143 : decode cL_holds 143 = .ok (.goto 4, 3) := by decide +kernel
theorem dL_holds_146 : decode cL_holds 146 = .ok (.iconst 0, 1) := by decide +kernel
theorem dL_holds_147 : decode cL_holds 147 = .ok (.istore 12, 2) := by decide +kernel
theorem dL_holds_149 : decode cL_holds 149 = .ok (.iconst 0, 1) := by decide +kernel
theorem dL_holds_150 : decode cL_holds 150 = .ok (.istore 13, 2) := by decide +kernel
theorem dL_holds_152 : decode cL_holds 152 = .ok (.iload 13, 2) := by decide +kernel
theorem dL_holds_154 : decode cL_holds 154 = .ok (.iload_n 1, 1) := by decide +kernel
theorem dL_holds_155 : decode cL_holds 155 = .ok (.if_icmp .ge 484, 3) := by decide +kernel
theorem dL_holds_158 : decode cL_holds 158 = .ok (.iload 12, 2) := by decide +kernel
theorem dL_holds_160 : decode cL_holds 160 = .ok (.ifCond .eq 479, 3) := by decide +kernel
theorem dL_holds_163 : decode cL_holds 163 = .ok (.aload_n 0, 1) := by decide +kernel
theorem dL_holds_164 : decode cL_holds 164 = .ok (.iload 13, 2) := by decide +kernel
theorem dL_holds_166 : decode cL_holds 166 = .ok (.iconst 1, 1) := by decide +kernel
theorem dL_holds_167 : decode cL_holds 167 = .ok (.invokevirtual 26, 3) := by decide +kernel
theorem dL_holds_170 : decode cL_holds 170 = .ok (.istore 14, 2) := by decide +kernel
theorem dL_holds_172 : decode cL_holds 172 = .ok (.aload_n 0, 1) := by decide +kernel
theorem dL_holds_173 : decode cL_holds 173 = .ok (.iload 13, 2) := by decide +kernel
theorem dL_holds_175 : decode cL_holds 175 = .ok (.iconst 2, 1) := by decide +kernel
theorem dL_holds_176 : decode cL_holds 176 = .ok (.invokevirtual 26, 3) := by decide +kernel
theorem dL_holds_179 : decode cL_holds 179 = .ok (.istore 15, 2) := by decide +kernel
theorem dL_holds_181 : decode cL_holds 181 = .ok (.aload_n 0, 1) := by decide +kernel
theorem dL_holds_182 : decode cL_holds 182 = .ok (.iload 13, 2) := by decide +kernel
theorem dL_holds_184 : decode cL_holds 184 = .ok (.iconst 3, 1) := by decide +kernel
theorem dL_holds_185 : decode cL_holds 185 = .ok (.invokevirtual 26, 3) := by decide +kernel
theorem dL_holds_188 : decode cL_holds 188 = .ok (.istore 16, 2) := by decide +kernel
theorem dL_holds_190 : decode cL_holds 190 = .ok (.aload_n 0, 1) := by decide +kernel
theorem dL_holds_191 : decode cL_holds 191 = .ok (.iload 13, 2) := by decide +kernel
theorem dL_holds_193 : decode cL_holds 193 = .ok (.iconst 0, 1) := by decide +kernel
theorem dL_holds_194 : decode cL_holds 194 = .ok (.invokevirtual 31, 3) := by decide +kernel
theorem dL_holds_197 : decode cL_holds 197 = .ok (.istore 17, 2) := by decide +kernel
theorem dL_holds_199 : decode cL_holds 199 = .ok (.aload_n 0, 1) := by decide +kernel
theorem dL_holds_200 : decode cL_holds 200 = .ok (.iload 13, 2) := by decide +kernel
theorem dL_holds_202 : decode cL_holds 202 = .ok (.iconst 4, 1) := by decide +kernel
theorem dL_holds_203 : decode cL_holds 203 = .ok (.invokevirtual 26, 3) := by decide +kernel
theorem dL_holds_206 : decode cL_holds 206 = .ok (.istore 18, 2) := by decide +kernel
theorem dL_holds_208 : decode cL_holds 208 = .ok (.iload 17, 2) := by decide +kernel
theorem dL_holds_210 : decode cL_holds 210 = .ok (.bipush (-4), 2) := by decide +kernel
theorem dL_holds_212 : decode cL_holds 212 = .ok (.if_icmp .eq 14, 3) := by decide +kernel
theorem dL_holds_215 : decode cL_holds 215 = .ok (.iload 18, 2) := by decide +kernel
theorem dL_holds_217 : decode cL_holds 217 = .ok (.bipush (-4), 2) := by decide +kernel
theorem dL_holds_219 : decode cL_holds 219 = .ok (.if_icmp .eq 7, 3) := by decide +kernel
theorem dL_holds_222 : decode cL_holds 222 = .ok (.iconst 1, 1) := by decide +kernel
theorem dL_holds_223 : decode cL_holds 223 = .ok (.goto 4, 3) := by decide +kernel
theorem dL_holds_226 : decode cL_holds 226 = .ok (.iconst 0, 1) := by decide +kernel
theorem dL_holds_227 : decode cL_holds 227 = .ok (.istore 19, 2) := by decide +kernel
theorem dL_holds_229 : decode cL_holds 229 = .ok (.iload 4, 2) := by decide +kernel
theorem dL_holds_231 : decode cL_holds 231 = .ok (.iload 14, 2) := by decide +kernel
theorem dL_holds_233 : decode cL_holds 233 = .ok (.bipush (-4), 2) := by decide +kernel
theorem dL_holds_235 : decode cL_holds 235 = .ok (.if_icmp .ne 7, 3) := by decide +kernel
theorem dL_holds_238 : decode cL_holds 238 = .ok (.iconst 0, 1) := by decide +kernel
theorem dL_holds_239 : decode cL_holds 239 = .ok (.goto 4, 3) := by decide +kernel
theorem dL_holds_242 : decode cL_holds 242 = .ok (.iconst 1, 1) := by decide +kernel
theorem dL_holds_243 : decode cL_holds 243 = .ok (.iadd, 1) := by decide +kernel
theorem dL_holds_244 : decode cL_holds 244 = .ok (.istore 4, 2) := by decide +kernel
theorem dL_holds_246 : decode cL_holds 246 = .ok (.iload 5, 2) := by decide +kernel
theorem dL_holds_248 : decode cL_holds 248 = .ok (.iload 15, 2) := by decide +kernel
theorem dL_holds_250 : decode cL_holds 250 = .ok (.bipush (-4), 2) := by decide +kernel
theorem dL_holds_252 : decode cL_holds 252 = .ok (.if_icmp .ne 7, 3) := by decide +kernel
theorem dL_holds_255 : decode cL_holds 255 = .ok (.iconst 0, 1) := by decide +kernel
theorem dL_holds_256 : decode cL_holds 256 = .ok (.goto 4, 3) := by decide +kernel
theorem dL_holds_259 : decode cL_holds 259 = .ok (.iconst 1, 1) := by decide +kernel
theorem dL_holds_260 : decode cL_holds 260 = .ok (.iadd, 1) := by decide +kernel
theorem dL_holds_261 : decode cL_holds 261 = .ok (.istore 5, 2) := by decide +kernel
theorem dL_holds_263 : decode cL_holds 263 = .ok (.iload 6, 2) := by decide +kernel
theorem dL_holds_265 : decode cL_holds 265 = .ok (.iload 16, 2) := by decide +kernel
theorem dL_holds_267 : decode cL_holds 267 = .ok (.bipush (-4), 2) := by decide +kernel
theorem dL_holds_269 : decode cL_holds 269 = .ok (.if_icmp .ne 7, 3) := by decide +kernel
theorem dL_holds_272 : decode cL_holds 272 = .ok (.iconst 0, 1) := by decide +kernel
theorem dL_holds_273 : decode cL_holds 273 = .ok (.goto 4, 3) := by decide +kernel
theorem dL_holds_276 : decode cL_holds 276 = .ok (.iconst 1, 1) := by decide +kernel
theorem dL_holds_277 : decode cL_holds 277 = .ok (.iadd, 1) := by decide +kernel
theorem dL_holds_278 : decode cL_holds 278 = .ok (.istore 6, 2) := by decide +kernel
theorem dL_holds_280 : decode cL_holds 280 = .ok (.iload 7, 2) := by decide +kernel
theorem dL_holds_282 : decode cL_holds 282 = .ok (.aload_n 0, 1) := by decide +kernel
theorem dL_holds_283 : decode cL_holds 283 = .ok (.iload 13, 2) := by decide +kernel
theorem dL_holds_285 : decode cL_holds 285 = .ok (.bipush 6, 2) := by decide +kernel
theorem dL_holds_287 : decode cL_holds 287 = .ok (.invokevirtual 26, 3) := by decide +kernel
theorem dL_holds_290 : decode cL_holds 290 = .ok (.iadd, 1) := by decide +kernel
theorem dL_holds_291 : decode cL_holds 291 = .ok (.istore 7, 2) := by decide +kernel
theorem dL_holds_293 : decode cL_holds 293 = .ok (.iload 10, 2) := by decide +kernel
theorem dL_holds_295 : decode cL_holds 295 = .ok (.iload 19, 2) := by decide +kernel
theorem dL_holds_297 : decode cL_holds 297 = .ok (.ifCond .eq 11, 3) := by decide +kernel
theorem dL_holds_300 : decode cL_holds 300 = .ok (.iload 17, 2) := by decide +kernel
theorem dL_holds_302 : decode cL_holds 302 = .ok (.iload 18, 2) := by decide +kernel
theorem dL_holds_304 : decode cL_holds 304 = .ok (.isub, 1) := by decide +kernel
theorem dL_holds_305 : decode cL_holds 305 = .ok (.goto 4, 3) := by decide +kernel
theorem dL_holds_308 : decode cL_holds 308 = .ok (.iconst 0, 1) := by decide +kernel
theorem dL_holds_309 : decode cL_holds 309 = .ok (.iadd, 1) := by decide +kernel
theorem dL_holds_310 : decode cL_holds 310 = .ok (.istore 10, 2) := by decide +kernel
theorem dL_holds_312 : decode cL_holds 312 = .ok (.iload 11, 2) := by decide +kernel
theorem dL_holds_314 : decode cL_holds 314 = .ok (.iload 19, 2) := by decide +kernel
theorem dL_holds_316 : decode cL_holds 316 = .ok (.ifCond .eq 7, 3) := by decide +kernel
theorem dL_holds_319 : decode cL_holds 319 = .ok (.iconst 1, 1) := by decide +kernel
theorem dL_holds_320 : decode cL_holds 320 = .ok (.goto 4, 3) := by decide +kernel
theorem dL_holds_323 : decode cL_holds 323 = .ok (.iconst 0, 1) := by decide +kernel
theorem dL_holds_324 : decode cL_holds 324 = .ok (.iadd, 1) := by decide +kernel
theorem dL_holds_325 : decode cL_holds 325 = .ok (.istore 11, 2) := by decide +kernel
theorem dL_holds_327 : decode cL_holds 327 = .ok (.aload_n 0, 1) := by decide +kernel
theorem dL_holds_328 : decode cL_holds 328 = .ok (.iload 13, 2) := by decide +kernel
theorem dL_holds_330 : decode cL_holds 330 = .ok (.iconst 0, 1) := by decide +kernel
theorem dL_holds_331 : decode cL_holds 331 = .ok (.invokevirtual 26, 3) := by decide +kernel
theorem dL_holds_334 : decode cL_holds 334 = .ok (.ifCond .lt 296, 3) := by decide +kernel
theorem dL_holds_337 : decode cL_holds 337 = .ok (.aload_n 0, 1) := by decide +kernel
theorem dL_holds_338 : decode cL_holds 338 = .ok (.iload 13, 2) := by decide +kernel
theorem dL_holds_340 : decode cL_holds 340 = .ok (.iconst 0, 1) := by decide +kernel
theorem dL_holds_341 : decode cL_holds 341 = .ok (.invokevirtual 26, 3) := by decide +kernel
theorem dL_holds_344 : decode cL_holds 344 = .ok (.bipush 6, 2) := by decide +kernel
theorem dL_holds_346 : decode cL_holds 346 = .ok (.if_icmp .ge 284, 3) := by decide +kernel
theorem dL_holds_349 : decode cL_holds 349 = .ok (.iload 14, 2) := by decide +kernel
theorem dL_holds_351 : decode cL_holds 351 = .ok (.bipush (-4), 2) := by decide +kernel
theorem dL_holds_353 : decode cL_holds 353 = .ok (.if_icmp .eq 52, 3) := by decide +kernel
theorem dL_holds_356 : decode cL_holds 356 = .ok (.iload 14, 2) := by decide +kernel
theorem dL_holds_358 : decode cL_holds 358 = .ok (.ifCond .lt 272, 3) := by decide +kernel
theorem dL_holds_361 : decode cL_holds 361 = .ok (.iload 14, 2) := by decide +kernel
theorem dL_holds_363 : decode cL_holds 363 = .ok (.bipush 6, 2) := by decide +kernel
theorem dL_holds_365 : decode cL_holds 365 = .ok (.if_icmp .ge 265, 3) := by decide +kernel
theorem dL_holds_368 : decode cL_holds 368 = .ok (.iload 14, 2) := by decide +kernel
theorem dL_holds_370 : decode cL_holds 370 = .ok (.aload_n 0, 1) := by decide +kernel
theorem dL_holds_371 : decode cL_holds 371 = .ok (.iload 13, 2) := by decide +kernel
theorem dL_holds_373 : decode cL_holds 373 = .ok (.iconst 0, 1) := by decide +kernel
theorem dL_holds_374 : decode cL_holds 374 = .ok (.invokevirtual 26, 3) := by decide +kernel
theorem dL_holds_377 : decode cL_holds 377 = .ok (.if_icmp .eq 253, 3) := by decide +kernel
theorem dL_holds_380 : decode cL_holds 380 = .ok (.iload 15, 2) := by decide +kernel
theorem dL_holds_382 : decode cL_holds 382 = .ok (.bipush (-4), 2) := by decide +kernel
theorem dL_holds_384 : decode cL_holds 384 = .ok (.if_icmp .ne 246, 3) := by decide +kernel
theorem dL_holds_387 : decode cL_holds 387 = .ok (.iload 16, 2) := by decide +kernel
theorem dL_holds_389 : decode cL_holds 389 = .ok (.bipush (-4), 2) := by decide +kernel
theorem dL_holds_391 : decode cL_holds 391 = .ok (.if_icmp .ne 239, 3) := by decide +kernel
theorem dL_holds_394 : decode cL_holds 394 = .ok (.aload_n 0, 1) := by decide +kernel
theorem dL_holds_395 : decode cL_holds 395 = .ok (.iload 13, 2) := by decide +kernel
theorem dL_holds_397 : decode cL_holds 397 = .ok (.bipush 7, 2) := by decide +kernel
theorem dL_holds_399 : decode cL_holds 399 = .ok (.invokevirtual 26, 3) := by decide +kernel
theorem dL_holds_402 : decode cL_holds 402 = .ok (.ifCond .ne 228, 3) := by decide +kernel
theorem dL_holds_405 : decode cL_holds 405 = .ok (.iload 15, 2) := by decide +kernel
theorem dL_holds_407 : decode cL_holds 407 = .ok (.bipush (-4), 2) := by decide +kernel
theorem dL_holds_409 : decode cL_holds 409 = .ok (.if_icmp .eq 32, 3) := by decide +kernel
theorem dL_holds_412 : decode cL_holds 412 = .ok (.iload 15, 2) := by decide +kernel
theorem dL_holds_414 : decode cL_holds 414 = .ok (.ifCond .lt 216, 3) := by decide +kernel
theorem dL_holds_417 : decode cL_holds 417 = .ok (.iload 15, 2) := by decide +kernel
theorem dL_holds_419 : decode cL_holds 419 = .ok (.iload_n 2, 1) := by decide +kernel
theorem dL_holds_420 : decode cL_holds 420 = .ok (.if_icmp .ge 210, 3) := by decide +kernel
theorem dL_holds_423 : decode cL_holds 423 = .ok (.iload 16, 2) := by decide +kernel
theorem dL_holds_425 : decode cL_holds 425 = .ok (.bipush (-4), 2) := by decide +kernel
theorem dL_holds_427 : decode cL_holds 427 = .ok (.if_icmp .ne 203, 3) := by decide +kernel
theorem dL_holds_430 : decode cL_holds 430 = .ok (.aload_n 0, 1) := by decide +kernel
theorem dL_holds_431 : decode cL_holds 431 = .ok (.iload 13, 2) := by decide +kernel
theorem dL_holds_433 : decode cL_holds 433 = .ok (.bipush 7, 2) := by decide +kernel
theorem dL_holds_435 : decode cL_holds 435 = .ok (.invokevirtual 26, 3) := by decide +kernel
theorem dL_holds_438 : decode cL_holds 438 = .ok (.ifCond .le 192, 3) := by decide +kernel
theorem dL_holds_441 : decode cL_holds 441 = .ok (.iload 16, 2) := by decide +kernel
theorem dL_holds_443 : decode cL_holds 443 = .ok (.bipush (-4), 2) := by decide +kernel
theorem dL_holds_445 : decode cL_holds 445 = .ok (.if_icmp .eq 40, 3) := by decide +kernel
theorem dL_holds_448 : decode cL_holds 448 = .ok (.iload 16, 2) := by decide +kernel
theorem dL_holds_450 : decode cL_holds 450 = .ok (.aload_n 0, 1) := by decide +kernel
theorem dL_holds_451 : decode cL_holds 451 = .ok (.iload 13, 2) := by decide +kernel
theorem dL_holds_453 : decode cL_holds 453 = .ok (.bipush 8, 2) := by decide +kernel
theorem dL_holds_455 : decode cL_holds 455 = .ok (.invokevirtual 26, 3) := by decide +kernel
theorem dL_holds_458 : decode cL_holds 458 = .ok (.if_icmp .le 172, 3) := by decide +kernel
theorem dL_holds_461 : decode cL_holds 461 = .ok (.iload 16, 2) := by decide +kernel
theorem dL_holds_463 : decode cL_holds 463 = .ok (.iload_n 3, 1) := by decide +kernel
theorem dL_holds_464 : decode cL_holds 464 = .ok (.if_icmp .gt 166, 3) := by decide +kernel
theorem dL_holds_467 : decode cL_holds 467 = .ok (.iload 17, 2) := by decide +kernel
theorem dL_holds_469 : decode cL_holds 469 = .ok (.iload 16, 2) := by decide +kernel
theorem dL_holds_471 : decode cL_holds 471 = .ok (.if_icmp .ne 159, 3) := by decide +kernel
theorem dL_holds_474 : decode cL_holds 474 = .ok (.aload_n 0, 1) := by decide +kernel
theorem dL_holds_475 : decode cL_holds 475 = .ok (.iload 13, 2) := by decide +kernel
theorem dL_holds_477 : decode cL_holds 477 = .ok (.bipush 7, 2) := by decide +kernel
theorem dL_holds_479 : decode cL_holds 479 = .ok (.invokevirtual 26, 3) := by decide +kernel
theorem dL_holds_482 : decode cL_holds 482 = .ok (.ifCond .le 148, 3) := by decide +kernel
theorem dL_holds_485 : decode cL_holds 485 = .ok (.iload 14, 2) := by decide +kernel
theorem dL_holds_487 : decode cL_holds 487 = .ok (.bipush (-4), 2) := by decide +kernel
theorem dL_holds_489 : decode cL_holds 489 = .ok (.if_icmp .ne 17, 3) := by decide +kernel
theorem dL_holds_492 : decode cL_holds 492 = .ok (.iload 15, 2) := by decide +kernel
theorem dL_holds_494 : decode cL_holds 494 = .ok (.bipush (-4), 2) := by decide +kernel
theorem dL_holds_496 : decode cL_holds 496 = .ok (.if_icmp .ne 10, 3) := by decide +kernel
theorem dL_holds_499 : decode cL_holds 499 = .ok (.iload 16, 2) := by decide +kernel
theorem dL_holds_501 : decode cL_holds 501 = .ok (.bipush (-4), 2) := by decide +kernel
theorem dL_holds_503 : decode cL_holds 503 = .ok (.if_icmp .eq 127, 3) := by decide +kernel
theorem dL_holds_506 : decode cL_holds 506 = .ok (.iload 17, 2) := by decide +kernel
theorem dL_holds_508 : decode cL_holds 508 = .ok (.aload_n 0, 1) := by decide +kernel
theorem dL_holds_509 : decode cL_holds 509 = .ok (.iload 13, 2) := by decide +kernel
theorem dL_holds_511 : decode cL_holds 511 = .ok (.iconst 1, 1) := by decide +kernel
theorem dL_holds_512 : decode cL_holds 512 = .ok (.invokevirtual 31, 3) := by decide +kernel
theorem dL_holds_515 : decode cL_holds 515 = .ok (.if_icmp .ne 115, 3) := by decide +kernel
theorem dL_holds_518 : decode cL_holds 518 = .ok (.iload 17, 2) := by decide +kernel
theorem dL_holds_520 : decode cL_holds 520 = .ok (.bipush (-4), 2) := by decide +kernel
theorem dL_holds_522 : decode cL_holds 522 = .ok (.if_icmp .eq 25, 3) := by decide +kernel
theorem dL_holds_525 : decode cL_holds 525 = .ok (.iload 16, 2) := by decide +kernel
theorem dL_holds_527 : decode cL_holds 527 = .ok (.bipush (-4), 2) := by decide +kernel
theorem dL_holds_529 : decode cL_holds 529 = .ok (.if_icmp .ne 18, 3) := by decide +kernel
theorem dL_holds_532 : decode cL_holds 532 = .ok (.iload 17, 2) := by decide +kernel
theorem dL_holds_534 : decode cL_holds 534 = .ok (.iload_n 3, 1) := by decide +kernel
theorem dL_holds_535 : decode cL_holds 535 = .ok (.if_icmp .le 95, 3) := by decide +kernel
theorem dL_holds_538 : decode cL_holds 538 = .ok (.iload 17, 2) := by decide +kernel
theorem dL_holds_540 : decode cL_holds 540 = .ok (.iload_n 3, 1) := by decide +kernel
theorem dL_holds_541 : decode cL_holds 541 = .ok (.bipush 30, 2) := by decide +kernel
theorem dL_holds_543 : decode cL_holds 543 = .ok (.iadd, 1) := by decide +kernel
theorem dL_holds_544 : decode cL_holds 544 = .ok (.if_icmp .gt 86, 3) := by decide +kernel
theorem dL_holds_547 : decode cL_holds 547 = .ok (.iload 18, 2) := by decide +kernel
theorem dL_holds_549 : decode cL_holds 549 = .ok (.bipush (-4), 2) := by decide +kernel
theorem dL_holds_551 : decode cL_holds 551 = .ok (.if_icmp .eq 34, 3) := by decide +kernel
theorem dL_holds_554 : decode cL_holds 554 = .ok (.iload 18, 2) := by decide +kernel
theorem dL_holds_556 : decode cL_holds 556 = .ok (.aload_n 0, 1) := by decide +kernel
theorem dL_holds_557 : decode cL_holds 557 = .ok (.iload 13, 2) := by decide +kernel
theorem dL_holds_559 : decode cL_holds 559 = .ok (.bipush 8, 2) := by decide +kernel
theorem dL_holds_561 : decode cL_holds 561 = .ok (.invokevirtual 26, 3) := by decide +kernel
theorem dL_holds_564 : decode cL_holds 564 = .ok (.iconst 1, 1) := by decide +kernel
theorem dL_holds_565 : decode cL_holds 565 = .ok (.iadd, 1) := by decide +kernel
theorem dL_holds_566 : decode cL_holds 566 = .ok (.if_icmp .le 64, 3) := by decide +kernel
theorem dL_holds_569 : decode cL_holds 569 = .ok (.iload 18, 2) := by decide +kernel
theorem dL_holds_571 : decode cL_holds 571 = .ok (.aload_n 0, 1) := by decide +kernel
theorem dL_holds_572 : decode cL_holds 572 = .ok (.iload 13, 2) := by decide +kernel
theorem dL_holds_574 : decode cL_holds 574 = .ok (.bipush 8, 2) := by decide +kernel
theorem dL_holds_576 : decode cL_holds 576 = .ok (.invokevirtual 26, 3) := by decide +kernel
theorem dL_holds_579 : decode cL_holds 579 = .ok (.bipush 30, 2) := by decide +kernel
theorem dL_holds_581 : decode cL_holds 581 = .ok (.iadd, 1) := by decide +kernel
theorem dL_holds_582 : decode cL_holds 582 = .ok (.if_icmp .gt 48, 3) := by decide +kernel
theorem dL_holds_585 : decode cL_holds 585 = .ok (.aload_n 0, 1) := by decide +kernel
theorem dL_holds_586 : decode cL_holds 586 = .ok (.iload 13, 2) := by decide +kernel
theorem dL_holds_588 : decode cL_holds 588 = .ok (.iconst 5, 1) := by decide +kernel
theorem dL_holds_589 : decode cL_holds 589 = .ok (.invokevirtual 26, 3) := by decide +kernel
theorem dL_holds_592 : decode cL_holds 592 = .ok (.iload 19, 2) := by decide +kernel
theorem dL_holds_594 : decode cL_holds 594 = .ok (.ifCond .eq 15, 3) := by decide +kernel
theorem dL_holds_597 : decode cL_holds 597 = .ok (.sipush 1000, 3) := by decide +kernel
theorem dL_holds_600 : decode cL_holds 600 = .ok (.iload 17, 2) := by decide +kernel
theorem dL_holds_602 : decode cL_holds 602 = .ok (.iadd, 1) := by decide +kernel
theorem dL_holds_603 : decode cL_holds 603 = .ok (.iload 18, 2) := by decide +kernel
theorem dL_holds_605 : decode cL_holds 605 = .ok (.isub, 1) := by decide +kernel
theorem dL_holds_606 : decode cL_holds 606 = .ok (.goto 5, 3) := by decide +kernel
theorem dL_holds_609 : decode cL_holds 609 = .ok (.bipush (-4), 2) := by decide +kernel
theorem dL_holds_611 : decode cL_holds 611 = .ok (.if_icmp .ne 19, 3) := by decide +kernel
theorem dL_holds_614 : decode cL_holds 614 = .ok (.aload_n 0, 1) := by decide +kernel
theorem dL_holds_615 : decode cL_holds 615 = .ok (.iload 13, 2) := by decide +kernel
theorem dL_holds_617 : decode cL_holds 617 = .ok (.bipush 8, 2) := by decide +kernel
theorem dL_holds_619 : decode cL_holds 619 = .ok (.invokevirtual 26, 3) := by decide +kernel
theorem dL_holds_622 : decode cL_holds 622 = .ok (.iload_n 3, 1) := by decide +kernel
theorem dL_holds_623 : decode cL_holds 623 = .ok (.if_icmp .gt 7, 3) := by decide +kernel
theorem dL_holds_626 : decode cL_holds 626 = .ok (.iconst 1, 1) := by decide +kernel
theorem dL_holds_627 : decode cL_holds 627 = .ok (.goto 4, 3) := by decide +kernel
theorem dL_holds_630 : decode cL_holds 630 = .ok (.iconst 0, 1) := by decide +kernel
theorem dL_holds_631 : decode cL_holds 631 = .ok (.istore 12, 2) := by decide +kernel
theorem dL_holds_633 : decode cL_holds 633 = .ok (.iinc 13 1, 3) := by decide +kernel
theorem dL_holds_636 : decode cL_holds 636 = .ok (.goto (-484), 3) := by decide +kernel
theorem dL_holds_639 : decode cL_holds 639 = .ok (.iconst 0, 1) := by decide +kernel
theorem dL_holds_640 : decode cL_holds 640 = .ok (.istore 13, 2) := by decide +kernel
theorem dL_holds_642 : decode cL_holds 642 = .ok (.iload 13, 2) := by decide +kernel
theorem dL_holds_644 : decode cL_holds 644 = .ok (.iload_n 2, 1) := by decide +kernel
theorem dL_holds_645 : decode cL_holds 645 = .ok (.if_icmp .ge 238, 3) := by decide +kernel
theorem dL_holds_648 : decode cL_holds 648 = .ok (.iload 12, 2) := by decide +kernel
theorem dL_holds_650 : decode cL_holds 650 = .ok (.ifCond .eq 233, 3) := by decide +kernel
theorem dL_holds_653 : decode cL_holds 653 = .ok (.iconst 0, 1) := by decide +kernel
theorem dL_holds_654 : decode cL_holds 654 = .ok (.istore 14, 2) := by decide +kernel
theorem dL_holds_656 : decode cL_holds 656 = .ok (.aload_n 0, 1) := by decide +kernel
theorem dL_holds_657 : decode cL_holds 657 = .ok (.iload 13, 2) := by decide +kernel
theorem dL_holds_659 : decode cL_holds 659 = .ok (.iload_n 3, 1) := by decide +kernel
theorem dL_holds_660 : decode cL_holds 660 = .ok (.invokevirtual 23, 3) := by decide +kernel
theorem dL_holds_663 : decode cL_holds 663 = .ok (.istore 15, 2) := by decide +kernel
theorem dL_holds_665 : decode cL_holds 665 = .ok (.iload 9, 2) := by decide +kernel
theorem dL_holds_667 : decode cL_holds 667 = .ok (.aload_n 0, 1) := by decide +kernel
theorem dL_holds_668 : decode cL_holds 668 = .ok (.iload 13, 2) := by decide +kernel
theorem dL_holds_670 : decode cL_holds 670 = .ok (.iconst 5, 1) := by decide +kernel
theorem dL_holds_671 : decode cL_holds 671 = .ok (.invokevirtual 19, 3) := by decide +kernel
theorem dL_holds_674 : decode cL_holds 674 = .ok (.iadd, 1) := by decide +kernel
theorem dL_holds_675 : decode cL_holds 675 = .ok (.istore 9, 2) := by decide +kernel
theorem dL_holds_677 : decode cL_holds 677 = .ok (.iload 8, 2) := by decide +kernel
theorem dL_holds_679 : decode cL_holds 679 = .ok (.iload 15, 2) := by decide +kernel
theorem dL_holds_681 : decode cL_holds 681 = .ok (.bipush (-4), 2) := by decide +kernel
theorem dL_holds_683 : decode cL_holds 683 = .ok (.if_icmp .ne 7, 3) := by decide +kernel
theorem dL_holds_686 : decode cL_holds 686 = .ok (.iconst 1, 1) := by decide +kernel
theorem dL_holds_687 : decode cL_holds 687 = .ok (.goto 4, 3) := by decide +kernel
theorem dL_holds_690 : decode cL_holds 690 = .ok (.iconst 0, 1) := by decide +kernel
theorem dL_holds_691 : decode cL_holds 691 = .ok (.iadd, 1) := by decide +kernel
theorem dL_holds_692 : decode cL_holds 692 = .ok (.istore 8, 2) := by decide +kernel
theorem dL_holds_694 : decode cL_holds 694 = .ok (.iconst 0, 1) := by decide +kernel
theorem dL_holds_695 : decode cL_holds 695 = .ok (.istore 16, 2) := by decide +kernel
theorem dL_holds_697 : decode cL_holds 697 = .ok (.iload 16, 2) := by decide +kernel
theorem dL_holds_699 : decode cL_holds 699 = .ok (.iload_n 1, 1) := by decide +kernel
theorem dL_holds_700 : decode cL_holds 700 = .ok (.if_icmp .ge 31, 3) := by decide +kernel
theorem dL_holds_703 : decode cL_holds 703 = .ok (.iload 14, 2) := by decide +kernel
theorem dL_holds_705 : decode cL_holds 705 = .ok (.aload_n 0, 1) := by decide +kernel
theorem dL_holds_706 : decode cL_holds 706 = .ok (.iload 16, 2) := by decide +kernel
theorem dL_holds_708 : decode cL_holds 708 = .ok (.iconst 2, 1) := by decide +kernel
theorem dL_holds_709 : decode cL_holds 709 = .ok (.invokevirtual 26, 3) := by decide +kernel
theorem dL_holds_712 : decode cL_holds 712 = .ok (.iload 13, 2) := by decide +kernel
theorem dL_holds_714 : decode cL_holds 714 = .ok (.if_icmp .ne 7, 3) := by decide +kernel
theorem dL_holds_717 : decode cL_holds 717 = .ok (.iconst 1, 1) := by decide +kernel
theorem dL_holds_718 : decode cL_holds 718 = .ok (.goto 4, 3) := by decide +kernel
theorem dL_holds_721 : decode cL_holds 721 = .ok (.iconst 0, 1) := by decide +kernel
theorem dL_holds_722 : decode cL_holds 722 = .ok (.iadd, 1) := by decide +kernel
theorem dL_holds_723 : decode cL_holds 723 = .ok (.istore 14, 2) := by decide +kernel
theorem dL_holds_725 : decode cL_holds 725 = .ok (.iinc 16 1, 3) := by decide +kernel
theorem dL_holds_728 : decode cL_holds 728 = .ok (.goto (-31), 3) := by decide +kernel
theorem dL_holds_731 : decode cL_holds 731 = .ok (.aload_n 0, 1) := by decide +kernel
theorem dL_holds_732 : decode cL_holds 732 = .ok (.iload 13, 2) := by decide +kernel
theorem dL_holds_734 : decode cL_holds 734 = .ok (.iconst 0, 1) := by decide +kernel
theorem dL_holds_735 : decode cL_holds 735 = .ok (.invokevirtual 19, 3) := by decide +kernel
theorem dL_holds_738 : decode cL_holds 738 = .ok (.iconst 1, 1) := by decide +kernel
theorem dL_holds_739 : decode cL_holds 739 = .ok (.if_icmp .lt 135, 3) := by decide +kernel
theorem dL_holds_742 : decode cL_holds 742 = .ok (.aload_n 0, 1) := by decide +kernel
theorem dL_holds_743 : decode cL_holds 743 = .ok (.iload 13, 2) := by decide +kernel
theorem dL_holds_745 : decode cL_holds 745 = .ok (.iconst 0, 1) := by decide +kernel
theorem dL_holds_746 : decode cL_holds 746 = .ok (.invokevirtual 19, 3) := by decide +kernel
theorem dL_holds_749 : decode cL_holds 749 = .ok (.bipush 7, 2) := by decide +kernel
theorem dL_holds_751 : decode cL_holds 751 = .ok (.if_icmp .gt 123, 3) := by decide +kernel
theorem dL_holds_754 : decode cL_holds 754 = .ok (.aload_n 0, 1) := by decide +kernel
theorem dL_holds_755 : decode cL_holds 755 = .ok (.iload 13, 2) := by decide +kernel
theorem dL_holds_757 : decode cL_holds 757 = .ok (.iconst 1, 1) := by decide +kernel
theorem dL_holds_758 : decode cL_holds 758 = .ok (.invokevirtual 19, 3) := by decide +kernel
theorem dL_holds_761 : decode cL_holds 761 = .ok (.ifCond .lt 113, 3) := by decide +kernel
theorem dL_holds_764 : decode cL_holds 764 = .ok (.aload_n 0, 1) := by decide +kernel
theorem dL_holds_765 : decode cL_holds 765 = .ok (.iload 13, 2) := by decide +kernel
theorem dL_holds_767 : decode cL_holds 767 = .ok (.iconst 1, 1) := by decide +kernel
theorem dL_holds_768 : decode cL_holds 768 = .ok (.invokevirtual 19, 3) := by decide +kernel
theorem dL_holds_771 : decode cL_holds 771 = .ok (.bipush 9, 2) := by decide +kernel
theorem dL_holds_773 : decode cL_holds 773 = .ok (.if_icmp .gt 101, 3) := by decide +kernel
theorem dL_holds_776 : decode cL_holds 776 = .ok (.aload_n 0, 1) := by decide +kernel
theorem dL_holds_777 : decode cL_holds 777 = .ok (.iload 13, 2) := by decide +kernel
theorem dL_holds_779 : decode cL_holds 779 = .ok (.iconst 2, 1) := by decide +kernel
theorem dL_holds_780 : decode cL_holds 780 = .ok (.invokevirtual 19, 3) := by decide +kernel
theorem dL_holds_783 : decode cL_holds 783 = .ok (.iload 14, 2) := by decide +kernel
theorem dL_holds_785 : decode cL_holds 785 = .ok (.if_icmp .ne 89, 3) := by decide +kernel
theorem dL_holds_788 : decode cL_holds 788 = .ok (.aload_n 0, 1) := by decide +kernel
theorem dL_holds_789 : decode cL_holds 789 = .ok (.iload 13, 2) := by decide +kernel
theorem dL_holds_791 : decode cL_holds 791 = .ok (.iconst 3, 1) := by decide +kernel
theorem dL_holds_792 : decode cL_holds 792 = .ok (.invokevirtual 19, 3) := by decide +kernel
theorem dL_holds_795 : decode cL_holds 795 = .ok (.iload 14, 2) := by decide +kernel
theorem dL_holds_797 : decode cL_holds 797 = .ok (.aload_n 0, 1) := by decide +kernel
theorem dL_holds_798 : decode cL_holds 798 = .ok (.bipush 13, 2) := by decide +kernel
theorem dL_holds_800 : decode cL_holds 800 = .ok (.invokevirtual 13, 3) := by decide +kernel
theorem dL_holds_803 : decode cL_holds 803 = .ok (.if_icmp .ge 7, 3) := by decide +kernel
theorem dL_holds_806 : decode cL_holds 806 = .ok (.iconst 0, 1) := by decide +kernel
theorem dL_holds_807 : decode cL_holds 807 = .ok (.goto 4, 3) := by decide +kernel
theorem dL_holds_810 : decode cL_holds 810 = .ok (.iconst 1, 1) := by decide +kernel
theorem dL_holds_811 : decode cL_holds 811 = .ok (.if_icmp .ne 63, 3) := by decide +kernel
theorem dL_holds_814 : decode cL_holds 814 = .ok (.iload 15, 2) := by decide +kernel
theorem dL_holds_816 : decode cL_holds 816 = .ok (.bipush (-4), 2) := by decide +kernel
theorem dL_holds_818 : decode cL_holds 818 = .ok (.if_icmp .ne 7, 3) := by decide +kernel
theorem dL_holds_821 : decode cL_holds 821 = .ok (.iconst 1, 1) := by decide +kernel
theorem dL_holds_822 : decode cL_holds 822 = .ok (.goto 4, 3) := by decide +kernel
theorem dL_holds_825 : decode cL_holds 825 = .ok (.iconst 0, 1) := by decide +kernel
theorem dL_holds_826 : decode cL_holds 826 = .ok (.iload_n 3, 1) := by decide +kernel
theorem dL_holds_827 : decode cL_holds 827 = .ok (.aload_n 0, 1) := by decide +kernel
theorem dL_holds_828 : decode cL_holds 828 = .ok (.iload 13, 2) := by decide +kernel
theorem dL_holds_830 : decode cL_holds 830 = .ok (.iconst 4, 1) := by decide +kernel
theorem dL_holds_831 : decode cL_holds 831 = .ok (.invokevirtual 19, 3) := by decide +kernel
theorem dL_holds_834 : decode cL_holds 834 = .ok (.if_icmp .ge 7, 3) := by decide +kernel
theorem dL_holds_837 : decode cL_holds 837 = .ok (.iconst 1, 1) := by decide +kernel
theorem dL_holds_838 : decode cL_holds 838 = .ok (.goto 4, 3) := by decide +kernel
theorem dL_holds_841 : decode cL_holds 841 = .ok (.iconst 0, 1) := by decide +kernel
theorem dL_holds_842 : decode cL_holds 842 = .ok (.if_icmp .ne 32, 3) := by decide +kernel
theorem dL_holds_845 : decode cL_holds 845 = .ok (.iload 15, 2) := by decide +kernel
theorem dL_holds_847 : decode cL_holds 847 = .ok (.bipush 6, 2) := by decide +kernel
theorem dL_holds_849 : decode cL_holds 849 = .ok (.if_icmp .ge 25, 3) := by decide +kernel
theorem dL_holds_852 : decode cL_holds 852 = .ok (.aload_n 0, 1) := by decide +kernel
theorem dL_holds_853 : decode cL_holds 853 = .ok (.iload 13, 2) := by decide +kernel
theorem dL_holds_855 : decode cL_holds 855 = .ok (.bipush 6, 2) := by decide +kernel
theorem dL_holds_857 : decode cL_holds 857 = .ok (.invokevirtual 19, 3) := by decide +kernel
theorem dL_holds_860 : decode cL_holds 860 = .ok (.aload_n 0, 1) := by decide +kernel
theorem dL_holds_861 : decode cL_holds 861 = .ok (.iload 13, 2) := by decide +kernel
theorem dL_holds_863 : decode cL_holds 863 = .ok (.iconst 5, 1) := by decide +kernel
theorem dL_holds_864 : decode cL_holds 864 = .ok (.invokevirtual 19, 3) := by decide +kernel
theorem dL_holds_867 : decode cL_holds 867 = .ok (.if_icmp .gt 7, 3) := by decide +kernel
theorem dL_holds_870 : decode cL_holds 870 = .ok (.iconst 1, 1) := by decide +kernel
theorem dL_holds_871 : decode cL_holds 871 = .ok (.goto 4, 3) := by decide +kernel
theorem dL_holds_874 : decode cL_holds 874 = .ok (.iconst 0, 1) := by decide +kernel
theorem dL_holds_875 : decode cL_holds 875 = .ok (.istore 12, 2) := by decide +kernel
theorem dL_holds_877 : decode cL_holds 877 = .ok (.iinc 13 1, 3) := by decide +kernel
theorem dL_holds_880 : decode cL_holds 880 = .ok (.goto (-238), 3) := by decide +kernel
theorem dL_holds_883 : decode cL_holds 883 = .ok (.iload 12, 2) := by decide +kernel
theorem dL_holds_885 : decode cL_holds 885 = .ok (.ifCond .eq 106, 3) := by decide +kernel
theorem dL_holds_888 : decode cL_holds 888 = .ok (.iload 4, 2) := by decide +kernel
theorem dL_holds_890 : decode cL_holds 890 = .ok (.aload_n 0, 1) := by decide +kernel
theorem dL_holds_891 : decode cL_holds 891 = .ok (.iconst 5, 1) := by decide +kernel
theorem dL_holds_892 : decode cL_holds 892 = .ok (.invokevirtual 13, 3) := by decide +kernel
theorem dL_holds_895 : decode cL_holds 895 = .ok (.if_icmp .ne 96, 3) := by decide +kernel
theorem dL_holds_898 : decode cL_holds 898 = .ok (.iload 5, 2) := by decide +kernel
theorem dL_holds_900 : decode cL_holds 900 = .ok (.aload_n 0, 1) := by decide +kernel
theorem dL_holds_901 : decode cL_holds 901 = .ok (.bipush 6, 2) := by decide +kernel
theorem dL_holds_903 : decode cL_holds 903 = .ok (.invokevirtual 13, 3) := by decide +kernel
theorem dL_holds_906 : decode cL_holds 906 = .ok (.if_icmp .ne 85, 3) := by decide +kernel
theorem dL_holds_909 : decode cL_holds 909 = .ok (.iload 6, 2) := by decide +kernel
theorem dL_holds_911 : decode cL_holds 911 = .ok (.aload_n 0, 1) := by decide +kernel
theorem dL_holds_912 : decode cL_holds 912 = .ok (.bipush 7, 2) := by decide +kernel
theorem dL_holds_914 : decode cL_holds 914 = .ok (.invokevirtual 13, 3) := by decide +kernel
theorem dL_holds_917 : decode cL_holds 917 = .ok (.if_icmp .ne 74, 3) := by decide +kernel
theorem dL_holds_920 : decode cL_holds 920 = .ok (.iload 7, 2) := by decide +kernel
theorem dL_holds_922 : decode cL_holds 922 = .ok (.aload_n 0, 1) := by decide +kernel
theorem dL_holds_923 : decode cL_holds 923 = .ok (.bipush 8, 2) := by decide +kernel
theorem dL_holds_925 : decode cL_holds 925 = .ok (.invokevirtual 13, 3) := by decide +kernel
theorem dL_holds_928 : decode cL_holds 928 = .ok (.if_icmp .ne 63, 3) := by decide +kernel
theorem dL_holds_931 : decode cL_holds 931 = .ok (.iload 8, 2) := by decide +kernel
theorem dL_holds_933 : decode cL_holds 933 = .ok (.aload_n 0, 1) := by decide +kernel
theorem dL_holds_934 : decode cL_holds 934 = .ok (.iconst 3, 1) := by decide +kernel
theorem dL_holds_935 : decode cL_holds 935 = .ok (.invokevirtual 13, 3) := by decide +kernel
theorem dL_holds_938 : decode cL_holds 938 = .ok (.if_icmp .ne 53, 3) := by decide +kernel
theorem dL_holds_941 : decode cL_holds 941 = .ok (.iload 9, 2) := by decide +kernel
theorem dL_holds_943 : decode cL_holds 943 = .ok (.aload_n 0, 1) := by decide +kernel
theorem dL_holds_944 : decode cL_holds 944 = .ok (.bipush 12, 2) := by decide +kernel
theorem dL_holds_946 : decode cL_holds 946 = .ok (.invokevirtual 13, 3) := by decide +kernel
theorem dL_holds_949 : decode cL_holds 949 = .ok (.if_icmp .ne 42, 3) := by decide +kernel
theorem dL_holds_952 : decode cL_holds 952 = .ok (.aload_n 0, 1) := by decide +kernel
theorem dL_holds_953 : decode cL_holds 953 = .ok (.bipush 10, 2) := by decide +kernel
theorem dL_holds_955 : decode cL_holds 955 = .ok (.invokevirtual 13, 3) := by decide +kernel
theorem dL_holds_958 : decode cL_holds 958 = .ok (.iload 6, 2) := by decide +kernel
theorem dL_holds_960 : decode cL_holds 960 = .ok (.if_icmp .lt 31, 3) := by decide +kernel
theorem dL_holds_963 : decode cL_holds 963 = .ok (.aload_n 0, 1) := by decide +kernel
theorem dL_holds_964 : decode cL_holds 964 = .ok (.invokevirtual 34, 3) := by decide +kernel
theorem dL_holds_967 : decode cL_holds 967 = .ok (.iload 11, 2) := by decide +kernel
theorem dL_holds_969 : decode cL_holds 969 = .ok (.ifCond .ne 7, 3) := by decide +kernel
theorem dL_holds_972 : decode cL_holds 972 = .ok (.dconst 0, 1) := by decide +kernel
theorem dL_holds_973 : decode cL_holds 973 = .ok (.goto 10, 3) := by decide +kernel
theorem dL_holds_976 : decode cL_holds 976 = .ok (.iload 10, 2) := by decide +kernel
theorem dL_holds_978 : decode cL_holds 978 = .ok (.i2d, 1) := by decide +kernel
theorem dL_holds_979 : decode cL_holds 979 = .ok (.iload 11, 2) := by decide +kernel
theorem dL_holds_981 : decode cL_holds 981 = .ok (.i2d, 1) := by decide +kernel
theorem dL_holds_982 : decode cL_holds 982 = .ok (.ddiv, 1) := by decide +kernel
theorem dL_holds_983 : decode cL_holds 983 = .ok (.dcmp .l, 1) := by decide +kernel
theorem dL_holds_984 : decode cL_holds 984 = .ok (.ifCond .ne 7, 3) := by decide +kernel
theorem dL_holds_987 : decode cL_holds 987 = .ok (.iconst 1, 1) := by decide +kernel
theorem dL_holds_988 : decode cL_holds 988 = .ok (.goto 4, 3) := by decide +kernel
theorem dL_holds_991 : decode cL_holds 991 = .ok (.iconst 0, 1) := by decide +kernel
theorem dL_holds_992 : decode cL_holds 992 = .ok (.ireturn, 1) := by decide +kernel
theorem dL_would_0 : decode cL_would 0 = .ok (.iload_n 1, 1) := by decide +kernel
theorem dL_would_1 : decode cL_would 1 = .ok (.bipush 8, 2) := by decide +kernel
theorem dL_would_3 : decode cL_would 3 = .ok (.invokestatic 38, 3) := by decide +kernel
theorem dL_would_6 : decode cL_would 6 = .ok (.iconst 1, 1) := by decide +kernel
theorem dL_would_7 : decode cL_would 7 = .ok (.isub, 1) := by decide +kernel
theorem dL_would_8 : decode cL_would 8 = .ok (.istore_n 2, 1) := by decide +kernel
theorem dL_would_9 : decode cL_would 9 = .ok (.iload_n 1, 1) := by decide +kernel
theorem dL_would_10 : decode cL_would 10 = .ok (.iconst 3, 1) := by decide +kernel
theorem dL_would_11 : decode cL_would 11 = .ok (.ishr, 1) := by decide +kernel
theorem dL_would_12 : decode cL_would 12 = .ok (.bipush 8, 2) := by decide +kernel
theorem dL_would_14 : decode cL_would 14 = .ok (.invokestatic 38, 3) := by decide +kernel
theorem dL_would_17 : decode cL_would 17 = .ok (.iconst 1, 1) := by decide +kernel
theorem dL_would_18 : decode cL_would 18 = .ok (.isub, 1) := by decide +kernel
theorem dL_would_19 : decode cL_would 19 = .ok (.istore_n 3, 1) := by decide +kernel
theorem dL_would_20 : decode cL_would 20 = .ok (.iload_n 1, 1) := by decide +kernel
theorem dL_would_21 : decode cL_would 21 = .ok (.bipush 6, 2) := by decide +kernel
theorem dL_would_23 : decode cL_would 23 = .ok (.ishr, 1) := by decide +kernel
theorem dL_would_24 : decode cL_would 24 = .ok (.bipush 33, 2) := by decide +kernel
theorem dL_would_26 : decode cL_would 26 = .ok (.invokestatic 38, 3) := by decide +kernel
theorem dL_would_29 : decode cL_would 29 = .ok (.iconst 1, 1) := by decide +kernel
theorem dL_would_30 : decode cL_would 30 = .ok (.isub, 1) := by decide +kernel
theorem dL_would_31 : decode cL_would 31 = .ok (.istore 4, 2) := by decide +kernel
theorem dL_would_33 : decode cL_would 33 = .ok (.iload_n 2, 1) := by decide +kernel
theorem dL_would_34 : decode cL_would 34 = .ok (.ifCond .lt 22, 3) := by decide +kernel
theorem dL_would_37 : decode cL_would 37 = .ok (.iload_n 2, 1) := by decide +kernel
theorem dL_would_38 : decode cL_would 38 = .ok (.iconst 5, 1) := by decide +kernel
theorem dL_would_39 : decode cL_would 39 = .ok (.if_icmp .gt 17, 3) := by decide +kernel
theorem dL_would_42 : decode cL_would 42 = .ok (.iload_n 3, 1) := by decide +kernel
theorem dL_would_43 : decode cL_would 43 = .ok (.ifCond .lt 13, 3) := by decide +kernel
theorem dL_would_46 : decode cL_would 46 = .ok (.iload_n 3, 1) := by decide +kernel
theorem dL_would_47 : decode cL_would 47 = .ok (.iconst 5, 1) := by decide +kernel
theorem dL_would_48 : decode cL_would 48 = .ok (.if_icmp .gt 8, 3) := by decide +kernel
theorem dL_would_51 : decode cL_would 51 = .ok (.iload_n 2, 1) := by decide +kernel
theorem dL_would_52 : decode cL_would 52 = .ok (.iload_n 3, 1) := by decide +kernel
theorem dL_would_53 : decode cL_would 53 = .ok (.if_icmp .ne 7, 3) := by decide +kernel
theorem dL_would_56 : decode cL_would 56 = .ok (.iconst 1, 1) := by decide +kernel
theorem dL_would_57 : decode cL_would 57 = .ok (.goto 4, 3) := by decide +kernel
theorem dL_would_60 : decode cL_would 60 = .ok (.iconst 0, 1) := by decide +kernel
theorem dL_would_61 : decode cL_would 61 = .ok (.istore 5, 2) := by decide +kernel
theorem dL_would_63 : decode cL_would 63 = .ok (.aload_n 0, 1) := by decide +kernel
theorem dL_would_64 : decode cL_would 64 = .ok (.iload_n 2, 1) := by decide +kernel
theorem dL_would_65 : decode cL_would 65 = .ok (.iload_n 3, 1) := by decide +kernel
theorem dL_would_66 : decode cL_would 66 = .ok (.iload 4, 2) := by decide +kernel
theorem dL_would_68 : decode cL_would 68 = .ok (.invokevirtual 41, 3) := by decide +kernel
theorem dL_would_71 : decode cL_would 71 = .ok (.istore 6, 2) := by decide +kernel
theorem dL_would_73 : decode cL_would 73 = .ok (.aload_n 0, 1) := by decide +kernel
theorem dL_would_74 : decode cL_would 74 = .ok (.iload_n 2, 1) := by decide +kernel
theorem dL_would_75 : decode cL_would 75 = .ok (.iload_n 3, 1) := by decide +kernel
theorem dL_would_76 : decode cL_would 76 = .ok (.invokevirtual 45, 3) := by decide +kernel
theorem dL_would_79 : decode cL_would 79 = .ok (.istore 7, 2) := by decide +kernel
theorem dL_would_81 : decode cL_would 81 = .ok (.iload_n 1, 1) := by decide +kernel
theorem dL_would_82 : decode cL_would 82 = .ok (.bipush 9, 2) := by decide +kernel
theorem dL_would_84 : decode cL_would 84 = .ok (.ishr, 1) := by decide +kernel
theorem dL_would_85 : decode cL_would 85 = .ok (.bipush 9, 2) := by decide +kernel
theorem dL_would_87 : decode cL_would 87 = .ok (.invokestatic 38, 3) := by decide +kernel
theorem dL_would_90 : decode cL_would 90 = .ok (.iconst 1, 1) := by decide +kernel
theorem dL_would_91 : decode cL_would 91 = .ok (.isub, 1) := by decide +kernel
theorem dL_would_92 : decode cL_would 92 = .ok (.istore 8, 2) := by decide +kernel
theorem dL_would_94 : decode cL_would 94 = .ok (.aload_n 0, 1) := by decide +kernel
theorem dL_would_95 : decode cL_would 95 = .ok (.iload 8, 2) := by decide +kernel
theorem dL_would_97 : decode cL_would 97 = .ok (.invokevirtual 48, 3) := by decide +kernel
theorem dL_would_100 : decode cL_would 100 = .ok (.istore 9, 2) := by decide +kernel
theorem dL_would_102 : decode cL_would 102 = .ok (.iload_n 1, 1) := by decide +kernel
theorem dL_would_103 : decode cL_would 103 = .ok (.iconst 4, 1) := by decide +kernel
theorem dL_would_104 : decode cL_would 104 = .ok (.ishr, 1) := by decide +kernel
theorem dL_would_105 : decode cL_would 105 = .ok (.bipush 32, 2) := by decide +kernel
theorem dL_would_107 : decode cL_would 107 = .ok (.invokestatic 38, 3) := by decide +kernel
theorem dL_would_110 : decode cL_would 110 = .ok (.istore 10, 2) := by decide +kernel
theorem dL_would_112 : decode cL_would 112 = .ok (.iload_n 1, 1) := by decide +kernel
theorem dL_would_113 : decode cL_would 113 = .ok (.bipush 7, 2) := by decide +kernel
theorem dL_would_115 : decode cL_would 115 = .ok (.ishr, 1) := by decide +kernel
theorem dL_would_116 : decode cL_would 116 = .ok (.iconst 5, 1) := by decide +kernel
theorem dL_would_117 : decode cL_would 117 = .ok (.invokestatic 38, 3) := by decide +kernel
theorem dL_would_120 : decode cL_would 120 = .ok (.iconst 1, 1) := by decide +kernel
theorem dL_would_121 : decode cL_would 121 = .ok (.isub, 1) := by decide +kernel
theorem dL_would_122 : decode cL_would 122 = .ok (.istore 11, 2) := by decide +kernel
theorem dL_would_124 : decode cL_would 124 = .ok (.aload_n 0, 1) := by decide +kernel
theorem dL_would_125 : decode cL_would 125 = .ok (.iload 10, 2) := by decide +kernel
theorem dL_would_127 : decode cL_would 127 = .ok (.iload 11, 2) := by decide +kernel
theorem dL_would_129 : decode cL_would 129 = .ok (.invokevirtual 51, 3) := by decide +kernel
theorem dL_would_132 : decode cL_would 132 = .ok (.istore 12, 2) := by decide +kernel
theorem dL_would_134 : decode cL_would 134 = .ok (.iload_n 1, 1) := by decide +kernel
theorem dL_would_135 : decode cL_would 135 = .ok (.iconst 2, 1) := by decide +kernel
theorem dL_would_136 : decode cL_would 136 = .ok (.ishr, 1) := by decide +kernel
theorem dL_would_137 : decode cL_would 137 = .ok (.aload_n 0, 1) := by decide +kernel
theorem dL_would_138 : decode cL_would 138 = .ok (.iconst 2, 1) := by decide +kernel
theorem dL_would_139 : decode cL_would 139 = .ok (.invokevirtual 13, 3) := by decide +kernel
theorem dL_would_142 : decode cL_would 142 = .ok (.iconst 1, 1) := by decide +kernel
theorem dL_would_143 : decode cL_would 143 = .ok (.iadd, 1) := by decide +kernel
theorem dL_would_144 : decode cL_would 144 = .ok (.invokestatic 38, 3) := by decide +kernel
theorem dL_would_147 : decode cL_would 147 = .ok (.istore 13, 2) := by decide +kernel
theorem dL_would_149 : decode cL_would 149 = .ok (.iload_n 1, 1) := by decide +kernel
theorem dL_would_150 : decode cL_would 150 = .ok (.bipush 8, 2) := by decide +kernel
theorem dL_would_152 : decode cL_would 152 = .ok (.ishr, 1) := by decide +kernel
theorem dL_would_153 : decode cL_would 153 = .ok (.aload_n 0, 1) := by decide +kernel
theorem dL_would_154 : decode cL_would 154 = .ok (.iconst 2, 1) := by decide +kernel
theorem dL_would_155 : decode cL_would 155 = .ok (.invokevirtual 13, 3) := by decide +kernel
theorem dL_would_158 : decode cL_would 158 = .ok (.iconst 1, 1) := by decide +kernel
theorem dL_would_159 : decode cL_would 159 = .ok (.iadd, 1) := by decide +kernel
theorem dL_would_160 : decode cL_would 160 = .ok (.invokestatic 38, 3) := by decide +kernel
theorem dL_would_163 : decode cL_would 163 = .ok (.istore 14, 2) := by decide +kernel
theorem dL_would_165 : decode cL_would 165 = .ok (.aload_n 0, 1) := by decide +kernel
theorem dL_would_166 : decode cL_would 166 = .ok (.iload 13, 2) := by decide +kernel
theorem dL_would_168 : decode cL_would 168 = .ok (.iload 14, 2) := by decide +kernel
theorem dL_would_170 : decode cL_would 170 = .ok (.iload_n 1, 1) := by decide +kernel
theorem dL_would_171 : decode cL_would 171 = .ok (.iconst 5, 1) := by decide +kernel
theorem dL_would_172 : decode cL_would 172 = .ok (.ishr, 1) := by decide +kernel
theorem dL_would_173 : decode cL_would 173 = .ok (.iconst 2, 1) := by decide +kernel
theorem dL_would_174 : decode cL_would 174 = .ok (.invokestatic 38, 3) := by decide +kernel
theorem dL_would_177 : decode cL_would 177 = .ok (.ifCond .ne 7, 3) := by decide +kernel
theorem dL_would_180 : decode cL_would 180 = .ok (.iconst 1, 1) := by decide +kernel
theorem dL_would_181 : decode cL_would 181 = .ok (.goto 4, 3) := by decide +kernel
theorem dL_would_184 : decode cL_would 184 = .ok (.iconst 0, 1) := by decide +kernel
theorem dL_would_185 : decode cL_would 185 = .ok (.invokevirtual 54, 3) := by decide +kernel
theorem dL_would_188 : decode cL_would 188 = .ok (.istore 15, 2) := by decide +kernel
theorem dL_would_190 : decode cL_would 190 = .ok (.aload_n 0, 1) := by decide +kernel
theorem dL_would_191 : decode cL_would 191 = .ok (.iconst 0, 1) := by decide +kernel
theorem dL_would_192 : decode cL_would 192 = .ok (.invokevirtual 13, 3) := by decide +kernel
theorem dL_would_195 : decode cL_would 195 = .ok (.istore 16, 2) := by decide +kernel
theorem dL_would_197 : decode cL_would 197 = .ok (.iload 10, 2) := by decide +kernel
theorem dL_would_199 : decode cL_would 199 = .ok (.ifCond .eq 21, 3) := by decide +kernel
theorem dL_would_202 : decode cL_would 202 = .ok (.iload 10, 2) := by decide +kernel
theorem dL_would_204 : decode cL_would 204 = .ok (.bipush 31, 2) := by decide +kernel
theorem dL_would_206 : decode cL_would 206 = .ok (.if_icmp .eq 14, 3) := by decide +kernel
theorem dL_would_209 : decode cL_would 209 = .ok (.iload 11, 2) := by decide +kernel
theorem dL_would_211 : decode cL_would 211 = .ok (.ifCond .lt 9, 3) := by decide +kernel
theorem dL_would_214 : decode cL_would 214 = .ok (.iload 11, 2) := by decide +kernel
theorem dL_would_216 : decode cL_would 216 = .ok (.iconst 2, 1) := by decide +kernel
theorem dL_would_217 : decode cL_would 217 = .ok (.if_icmp .le 7, 3) := by decide +kernel
theorem dL_would_220 : decode cL_would 220 = .ok (.iconst 1, 1) := by decide +kernel
theorem dL_would_221 : decode cL_would 221 = .ok (.goto 4, 3) := by decide +kernel
theorem dL_would_224 : decode cL_would 224 = .ok (.iconst 0, 1) := by decide +kernel
theorem dL_would_225 : decode cL_would 225 = .ok (.istore 17, 2) := by decide +kernel
theorem dL_would_227 : decode cL_would 227 = .ok (.iload 13, 2) := by decide +kernel
theorem dL_would_229 : decode cL_would 229 = .ok (.iload 14, 2) := by decide +kernel
theorem dL_would_231 : decode cL_would 231 = .ok (.if_icmp .eq 23, 3) := by decide +kernel
theorem dL_would_234 : decode cL_would 234 = .ok (.iload 13, 2) := by decide +kernel
theorem dL_would_236 : decode cL_would 236 = .ok (.aload_n 0, 1) := by decide +kernel
theorem dL_would_237 : decode cL_would 237 = .ok (.iconst 2, 1) := by decide +kernel
theorem dL_would_238 : decode cL_would 238 = .ok (.invokevirtual 13, 3) := by decide +kernel
theorem dL_would_241 : decode cL_would 241 = .ok (.if_icmp .eq 13, 3) := by decide +kernel
theorem dL_would_244 : decode cL_would 244 = .ok (.iload 14, 2) := by decide +kernel
theorem dL_would_246 : decode cL_would 246 = .ok (.aload_n 0, 1) := by decide +kernel
theorem dL_would_247 : decode cL_would 247 = .ok (.iconst 2, 1) := by decide +kernel
theorem dL_would_248 : decode cL_would 248 = .ok (.invokevirtual 13, 3) := by decide +kernel
theorem dL_would_251 : decode cL_would 251 = .ok (.if_icmp .ne 7, 3) := by decide +kernel
theorem dL_would_254 : decode cL_would 254 = .ok (.iconst 1, 1) := by decide +kernel
theorem dL_would_255 : decode cL_would 255 = .ok (.goto 4, 3) := by decide +kernel
theorem dL_would_258 : decode cL_would 258 = .ok (.iconst 0, 1) := by decide +kernel
theorem dL_would_259 : decode cL_would 259 = .ok (.istore 18, 2) := by decide +kernel
theorem dL_would_261 : decode cL_would 261 = .ok (.iload 5, 2) := by decide +kernel
theorem dL_would_263 : decode cL_would 263 = .ok (.ifCond .ne 15, 3) := by decide +kernel
theorem dL_would_266 : decode cL_would 266 = .ok (.iload 4, 2) := by decide +kernel
theorem dL_would_268 : decode cL_would 268 = .ok (.ifCond .lt 10, 3) := by decide +kernel
theorem dL_would_271 : decode cL_would 271 = .ok (.iload 4, 2) := by decide +kernel
theorem dL_would_273 : decode cL_would 273 = .ok (.bipush 30, 2) := by decide +kernel
theorem dL_would_275 : decode cL_would 275 = .ok (.if_icmp .le 12, 3) := by decide +kernel
theorem dL_would_278 : decode cL_would 278 = .ok (.iload 6, 2) := by decide +kernel
theorem dL_would_280 : decode cL_would 280 = .ok (.iconst (-1), 1) := by decide +kernel
theorem dL_would_281 : decode cL_would 281 = .ok (.if_icmp .ne 243, 3) := by decide +kernel
theorem dL_would_284 : decode cL_would 284 = .ok (.goto 35, 3) := by decide +kernel
theorem dL_would_287 : decode cL_would 287 = .ok (.iload 6, 2) := by decide +kernel
theorem dL_would_289 : decode cL_would 289 = .ok (.bipush (-4), 2) := by decide +kernel
theorem dL_would_291 : decode cL_would 291 = .ok (.if_icmp .eq 28, 3) := by decide +kernel
theorem dL_would_294 : decode cL_would 294 = .ok (.iload 6, 2) := by decide +kernel
theorem dL_would_296 : decode cL_would 296 = .ok (.iload 16, 2) := by decide +kernel
theorem dL_would_298 : decode cL_would 298 = .ok (.iload 4, 2) := by decide +kernel
theorem dL_would_300 : decode cL_would 300 = .ok (.iadd, 1) := by decide +kernel
theorem dL_would_301 : decode cL_would 301 = .ok (.iconst 1, 1) := by decide +kernel
theorem dL_would_302 : decode cL_would 302 = .ok (.iadd, 1) := by decide +kernel
theorem dL_would_303 : decode cL_would 303 = .ok (.if_icmp .le 221, 3) := by decide +kernel
theorem dL_would_306 : decode cL_would 306 = .ok (.iload 6, 2) := by decide +kernel
theorem dL_would_308 : decode cL_would 308 = .ok (.iload 16, 2) := by decide +kernel
theorem dL_would_310 : decode cL_would 310 = .ok (.iload 4, 2) := by decide +kernel
theorem dL_would_312 : decode cL_would 312 = .ok (.iadd, 1) := by decide +kernel
theorem dL_would_313 : decode cL_would 313 = .ok (.bipush 30, 2) := by decide +kernel
theorem dL_would_315 : decode cL_would 315 = .ok (.iadd, 1) := by decide +kernel
theorem dL_would_316 : decode cL_would 316 = .ok (.if_icmp .gt 208, 3) := by decide +kernel
theorem dL_would_319 : decode cL_would 319 = .ok (.iload 5, 2) := by decide +kernel
theorem dL_would_321 : decode cL_would 321 = .ok (.ifCond .eq 12, 3) := by decide +kernel
theorem dL_would_324 : decode cL_would 324 = .ok (.iload 7, 2) := by decide +kernel
theorem dL_would_326 : decode cL_would 326 = .ok (.iconst (-1), 1) := by decide +kernel
theorem dL_would_327 : decode cL_would 327 = .ok (.if_icmp .ne 197, 3) := by decide +kernel
theorem dL_would_330 : decode cL_would 330 = .ok (.goto 35, 3) := by decide +kernel
theorem dL_would_333 : decode cL_would 333 = .ok (.iload 7, 2) := by decide +kernel
theorem dL_would_335 : decode cL_would 335 = .ok (.bipush (-4), 2) := by decide +kernel
theorem dL_would_337 : decode cL_would 337 = .ok (.if_icmp .eq 28, 3) := by decide +kernel
theorem dL_would_340 : decode cL_would 340 = .ok (.iload 7, 2) := by decide +kernel
theorem dL_would_342 : decode cL_would 342 = .ok (.ifCond .lt 182, 3) := by decide +kernel
theorem dL_would_345 : decode cL_would 345 = .ok (.iload 7, 2) := by decide +kernel
theorem dL_would_347 : decode cL_would 347 = .ok (.bipush 14, 2) := by decide +kernel
theorem dL_would_349 : decode cL_would 349 = .ok (.if_icmp .ge 175, 3) := by decide +kernel
theorem dL_would_352 : decode cL_would 352 = .ok (.aload_n 0, 1) := by decide +kernel
theorem dL_would_353 : decode cL_would 353 = .ok (.iload_n 2, 1) := by decide +kernel
theorem dL_would_354 : decode cL_would 354 = .ok (.iload_n 3, 1) := by decide +kernel
theorem dL_would_355 : decode cL_would 355 = .ok (.iload 7, 2) := by decide +kernel
theorem dL_would_357 : decode cL_would 357 = .ok (.invokevirtual 41, 3) := by decide +kernel
theorem dL_would_360 : decode cL_would 360 = .ok (.bipush (-4), 2) := by decide +kernel
theorem dL_would_362 : decode cL_would 362 = .ok (.if_icmp .eq 162, 3) := by decide +kernel
theorem dL_would_365 : decode cL_would 365 = .ok (.iload 8, 2) := by decide +kernel
theorem dL_would_367 : decode cL_would 367 = .ok (.ifCond .lt 10, 3) := by decide +kernel
theorem dL_would_370 : decode cL_would 370 = .ok (.iload 8, 2) := by decide +kernel
theorem dL_would_372 : decode cL_would 372 = .ok (.bipush 6, 2) := by decide +kernel
theorem dL_would_374 : decode cL_would 374 = .ok (.if_icmp .le 12, 3) := by decide +kernel
theorem dL_would_377 : decode cL_would 377 = .ok (.iload 9, 2) := by decide +kernel
theorem dL_would_379 : decode cL_would 379 = .ok (.iconst (-1), 1) := by decide +kernel
theorem dL_would_380 : decode cL_would 380 = .ok (.if_icmp .ne 144, 3) := by decide +kernel
theorem dL_would_383 : decode cL_would 383 = .ok (.goto 15, 3) := by decide +kernel
theorem dL_would_386 : decode cL_would 386 = .ok (.iload 9, 2) := by decide +kernel
theorem dL_would_388 : decode cL_would 388 = .ok (.ifCond .lt 136, 3) := by decide +kernel
theorem dL_would_391 : decode cL_would 391 = .ok (.iload 9, 2) := by decide +kernel
theorem dL_would_393 : decode cL_would 393 = .ok (.bipush 7, 2) := by decide +kernel
theorem dL_would_395 : decode cL_would 395 = .ok (.if_icmp .ge 129, 3) := by decide +kernel
theorem dL_would_398 : decode cL_would 398 = .ok (.iload 17, 2) := by decide +kernel
theorem dL_would_400 : decode cL_would 400 = .ok (.ifCond .eq 12, 3) := by decide +kernel
theorem dL_would_403 : decode cL_would 403 = .ok (.iload 12, 2) := by decide +kernel
theorem dL_would_405 : decode cL_would 405 = .ok (.iconst (-1), 1) := by decide +kernel
theorem dL_would_406 : decode cL_would 406 = .ok (.if_icmp .ne 118, 3) := by decide +kernel
theorem dL_would_409 : decode cL_would 409 = .ok (.goto 43, 3) := by decide +kernel
theorem dL_would_412 : decode cL_would 412 = .ok (.iload 12, 2) := by decide +kernel
theorem dL_would_414 : decode cL_would 414 = .ok (.ifCond .lt 110, 3) := by decide +kernel
theorem dL_would_417 : decode cL_would 417 = .ok (.iload 11, 2) := by decide +kernel
theorem dL_would_419 : decode cL_would 419 = .ok (.ifCond .ne 20, 3) := by decide +kernel
theorem dL_would_422 : decode cL_would 422 = .ok (.iload 12, 2) := by decide +kernel
theorem dL_would_424 : decode cL_would 424 = .ok (.aload_n 0, 1) := by decide +kernel
theorem dL_would_425 : decode cL_would 425 = .ok (.iconst 5, 1) := by decide +kernel
theorem dL_would_426 : decode cL_would 426 = .ok (.invokevirtual 13, 3) := by decide +kernel
theorem dL_would_429 : decode cL_would 429 = .ok (.aload_n 0, 1) := by decide +kernel
theorem dL_would_430 : decode cL_would 430 = .ok (.bipush 6, 2) := by decide +kernel
theorem dL_would_432 : decode cL_would 432 = .ok (.invokevirtual 13, 3) := by decide +kernel
theorem dL_would_435 : decode cL_would 435 = .ok (.iadd, 1) := by decide +kernel
theorem dL_would_436 : decode cL_would 436 = .ok (.if_icmp .gt 88, 3) := by decide +kernel
theorem dL_would_439 : decode cL_would 439 = .ok (.iload 11, 2) := by decide +kernel
theorem dL_would_441 : decode cL_would 441 = .ok (.iconst 2, 1) := by decide +kernel
theorem dL_would_442 : decode cL_would 442 = .ok (.if_icmp .ne 10, 3) := by decide +kernel
theorem dL_would_445 : decode cL_would 445 = .ok (.iload 12, 2) := by decide +kernel
theorem dL_would_447 : decode cL_would 447 = .ok (.bipush 8, 2) := by decide +kernel
theorem dL_would_449 : decode cL_would 449 = .ok (.if_icmp .gt 75, 3) := by decide +kernel
theorem dL_would_452 : decode cL_would 452 = .ok (.iload 18, 2) := by decide +kernel
theorem dL_would_454 : decode cL_would 454 = .ok (.ifCond .eq 12, 3) := by decide +kernel
theorem dL_would_457 : decode cL_would 457 = .ok (.iload 15, 2) := by decide +kernel
theorem dL_would_459 : decode cL_would 459 = .ok (.iconst (-1), 1) := by decide +kernel
theorem dL_would_460 : decode cL_would 460 = .ok (.if_icmp .ne 64, 3) := by decide +kernel
theorem dL_would_463 : decode cL_would 463 = .ok (.goto 57, 3) := by decide +kernel
theorem dL_would_466 : decode cL_would 466 = .ok (.iload 15, 2) := by decide +kernel
theorem dL_would_468 : decode cL_would 468 = .ok (.bipush (-4), 2) := by decide +kernel
theorem dL_would_470 : decode cL_would 470 = .ok (.if_icmp .eq 50, 3) := by decide +kernel
theorem dL_would_473 : decode cL_would 473 = .ok (.iload 15, 2) := by decide +kernel
theorem dL_would_475 : decode cL_would 475 = .ok (.iload 16, 2) := by decide +kernel
theorem dL_would_477 : decode cL_would 477 = .ok (.if_icmp .le 47, 3) := by decide +kernel
theorem dL_would_480 : decode cL_would 480 = .ok (.iload 15, 2) := by decide +kernel
theorem dL_would_482 : decode cL_would 482 = .ok (.iload 16, 2) := by decide +kernel
theorem dL_would_484 : decode cL_would 484 = .ok (.bipush 30, 2) := by decide +kernel
theorem dL_would_486 : decode cL_would 486 = .ok (.iadd, 1) := by decide +kernel
theorem dL_would_487 : decode cL_would 487 = .ok (.if_icmp .gt 37, 3) := by decide +kernel
theorem dL_would_490 : decode cL_would 490 = .ok (.aload_n 0, 1) := by decide +kernel
theorem dL_would_491 : decode cL_would 491 = .ok (.iload 13, 2) := by decide +kernel
theorem dL_would_493 : decode cL_would 493 = .ok (.iload 15, 2) := by decide +kernel
theorem dL_would_495 : decode cL_would 495 = .ok (.invokevirtual 23, 3) := by decide +kernel
theorem dL_would_498 : decode cL_would 498 = .ok (.aload_n 0, 1) := by decide +kernel
theorem dL_would_499 : decode cL_would 499 = .ok (.iload 14, 2) := by decide +kernel
theorem dL_would_501 : decode cL_would 501 = .ok (.iload 15, 2) := by decide +kernel
theorem dL_would_503 : decode cL_would 503 = .ok (.invokevirtual 23, 3) := by decide +kernel
theorem dL_would_506 : decode cL_would 506 = .ok (.if_icmp .ne 18, 3) := by decide +kernel
theorem dL_would_509 : decode cL_would 509 = .ok (.aload_n 0, 1) := by decide +kernel
theorem dL_would_510 : decode cL_would 510 = .ok (.iload 13, 2) := by decide +kernel
theorem dL_would_512 : decode cL_would 512 = .ok (.iload 15, 2) := by decide +kernel
theorem dL_would_514 : decode cL_would 514 = .ok (.invokevirtual 23, 3) := by decide +kernel
theorem dL_would_517 : decode cL_would 517 = .ok (.ifCond .lt 7, 3) := by decide +kernel
theorem dL_would_520 : decode cL_would 520 = .ok (.iconst 1, 1) := by decide +kernel
theorem dL_would_521 : decode cL_would 521 = .ok (.goto 4, 3) := by decide +kernel
theorem dL_would_524 : decode cL_would 524 = .ok (.iconst 0, 1) := by decide +kernel
theorem dL_would_525 : decode cL_would 525 = .ok (.ireturn, 1) := by decide +kernel
theorem dL_types_0 : decode cL_types 0 = .ok (.iload_n 2, 1) := by decide +kernel
theorem dL_types_1 : decode cL_types 1 = .ok (.iload_n 1, 1) := by decide +kernel
theorem dL_types_2 : decode cL_types 2 = .ok (.ifCond .eq 7, 3) := by decide +kernel
theorem dL_types_5 : decode cL_types 5 = .ok (.iconst 4, 1) := by decide +kernel
theorem dL_types_6 : decode cL_types 6 = .ok (.goto 5, 3) := by decide +kernel
theorem dL_types_9 : decode cL_types 9 = .ok (.bipush 7, 2) := by decide +kernel
theorem dL_types_11 : decode cL_types 11 = .ok (.invokestatic 38, 3) := by decide +kernel
theorem dL_types_14 : decode cL_types 14 = .ok (.istore_n 3, 1) := by decide +kernel
theorem dL_types_15 : decode cL_types 15 = .ok (.aload_n 0, 1) := by decide +kernel
theorem dL_types_16 : decode cL_types 16 = .ok (.invokevirtual 58, 3) := by decide +kernel
theorem dL_types_19 : decode cL_types 19 = .ok (.ifCond .lt 7, 3) := by decide +kernel
theorem dL_types_22 : decode cL_types 22 = .ok (.iconst 1, 1) := by decide +kernel
theorem dL_types_23 : decode cL_types 23 = .ok (.goto 4, 3) := by decide +kernel
theorem dL_types_26 : decode cL_types 26 = .ok (.iconst 0, 1) := by decide +kernel
theorem dL_types_27 : decode cL_types 27 = .ok (.istore 4, 2) := by decide +kernel
theorem dL_types_29 : decode cL_types 29 = .ok (.iconst 0, 1) := by decide +kernel
theorem dL_types_30 : decode cL_types 30 = .ok (.istore 5, 2) := by decide +kernel
theorem dL_types_32 : decode cL_types 32 = .ok (.iload 5, 2) := by decide +kernel
theorem dL_types_34 : decode cL_types 34 = .ok (.iload_n 3, 1) := by decide +kernel
theorem dL_types_35 : decode cL_types 35 = .ok (.if_icmp .ge 314, 3) := by decide +kernel
theorem dL_types_38 : decode cL_types 38 = .ok (.iload_n 2, 1) := by decide +kernel
theorem dL_types_39 : decode cL_types 39 = .ok (.iconst 2, 1) := by decide +kernel
theorem dL_types_40 : decode cL_types 40 = .ok (.iconst 3, 1) := by decide +kernel
theorem dL_types_41 : decode cL_types 41 = .ok (.iload 5, 2) := by decide +kernel
theorem dL_types_43 : decode cL_types 43 = .ok (.imul, 1) := by decide +kernel
theorem dL_types_44 : decode cL_types 44 = .ok (.iadd, 1) := by decide +kernel
theorem dL_types_45 : decode cL_types 45 = .ok (.ishr, 1) := by decide +kernel
theorem dL_types_46 : decode cL_types 46 = .ok (.istore 6, 2) := by decide +kernel
theorem dL_types_48 : decode cL_types 48 = .ok (.iload_n 2, 1) := by decide +kernel
theorem dL_types_49 : decode cL_types 49 = .ok (.bipush 22, 2) := by decide +kernel
theorem dL_types_51 : decode cL_types 51 = .ok (.ishr, 1) := by decide +kernel
theorem dL_types_52 : decode cL_types 52 = .ok (.bipush 9, 2) := by decide +kernel
theorem dL_types_54 : decode cL_types 54 = .ok (.invokestatic 38, 3) := by decide +kernel
theorem dL_types_57 : decode cL_types 57 = .ok (.ifCond .ne 8, 3) := by decide +kernel
theorem dL_types_60 : decode cL_types 60 = .ok (.bipush 7, 2) := by decide +kernel
theorem dL_types_62 : decode cL_types 62 = .ok (.goto 5, 3) := by decide +kernel
theorem dL_types_65 : decode cL_types 65 = .ok (.bipush 6, 2) := by decide +kernel
theorem dL_types_67 : decode cL_types 67 = .ok (.istore 7, 2) := by decide +kernel
theorem dL_types_69 : decode cL_types 69 = .ok (.iload 6, 2) := by decide +kernel
theorem dL_types_71 : decode cL_types 71 = .ok (.iload 7, 2) := by decide +kernel
theorem dL_types_73 : decode cL_types 73 = .ok (.invokestatic 38, 3) := by decide +kernel
theorem dL_types_76 : decode cL_types 76 = .ok (.istore 8, 2) := by decide +kernel
theorem dL_types_78 : decode cL_types 78 = .ok (.iload 4, 2) := by decide +kernel
theorem dL_types_80 : decode cL_types 80 = .ok (.ifCond .eq 42, 3) := by decide +kernel
theorem dL_types_83 : decode cL_types 83 = .ok (.iload 5, 2) := by decide +kernel
theorem dL_types_85 : decode cL_types 85 = .ok (.ifCond .eq 21, 3) := by decide +kernel
theorem dL_types_88 : decode cL_types 88 = .ok (.aload_n 0, 1) := by decide +kernel
theorem dL_types_89 : decode cL_types 89 = .ok (.iload_n 1, 1) := by decide +kernel
theorem dL_types_90 : decode cL_types 90 = .ok (.ifCond .eq 8, 3) := by decide +kernel
theorem dL_types_93 : decode cL_types 93 = .ok (.bipush 59, 2) := by decide +kernel
theorem dL_types_95 : decode cL_types 95 = .ok (.goto 5, 3) := by decide +kernel
theorem dL_types_98 : decode cL_types 98 = .ok (.bipush 44, 2) := by decide +kernel
theorem dL_types_100 : decode cL_types 100 = .ok (.invokevirtual 62, 3) := by decide +kernel
theorem dL_types_103 : decode cL_types 103 = .ok (.ifCond .le 19, 3) := by decide +kernel
theorem dL_types_106 : decode cL_types 106 = .ok (.aload_n 0, 1) := by decide +kernel
theorem dL_types_107 : decode cL_types 107 = .ok (.bipush 48, 2) := by decide +kernel
theorem dL_types_109 : decode cL_types 109 = .ok (.iload 8, 2) := by decide +kernel
theorem dL_types_111 : decode cL_types 111 = .ok (.iadd, 1) := by decide +kernel
theorem dL_types_112 : decode cL_types 112 = .ok (.invokevirtual 62, 3) := by decide +kernel
theorem dL_types_115 : decode cL_types 115 = .ok (.ifCond .le 7, 3) := by decide +kernel
theorem dL_types_118 : decode cL_types 118 = .ok (.iconst 1, 1) := by decide +kernel
theorem dL_types_119 : decode cL_types 119 = .ok (.goto 4, 3) := by decide +kernel
theorem dL_types_122 : decode cL_types 122 = .ok (.iconst 0, 1) := by decide +kernel
theorem dL_types_123 : decode cL_types 123 = .ok (.istore 4, 2) := by decide +kernel
theorem dL_types_125 : decode cL_types 125 = .ok (.iload_n 1, 1) := by decide +kernel
theorem dL_types_126 : decode cL_types 126 = .ok (.ifCond .eq 146, 3) := by decide +kernel
theorem dL_types_129 : decode cL_types 129 = .ok (.iconst 0, 1) := by decide +kernel
theorem dL_types_130 : decode cL_types 130 = .ok (.istore 9, 2) := by decide +kernel
theorem dL_types_132 : decode cL_types 132 = .ok (.iload 9, 2) := by decide +kernel
theorem dL_types_134 : decode cL_types 134 = .ok (.iload 6, 2) := by decide +kernel
theorem dL_types_136 : decode cL_types 136 = .ok (.iconst 2, 1) := by decide +kernel
theorem dL_types_137 : decode cL_types 137 = .ok (.ishr, 1) := by decide +kernel
theorem dL_types_138 : decode cL_types 138 = .ok (.iload_n 2, 1) := by decide +kernel
theorem dL_types_139 : decode cL_types 139 = .ok (.bipush 23, 2) := by decide +kernel
theorem dL_types_141 : decode cL_types 141 = .ok (.ishr, 1) := by decide +kernel
theorem dL_types_142 : decode cL_types 142 = .ok (.bipush 9, 2) := by decide +kernel
theorem dL_types_144 : decode cL_types 144 = .ok (.invokestatic 38, 3) := by decide +kernel
theorem dL_types_147 : decode cL_types 147 = .ok (.ifCond .ne 8, 3) := by decide +kernel
theorem dL_types_150 : decode cL_types 150 = .ok (.bipush 8, 2) := by decide +kernel
theorem dL_types_152 : decode cL_types 152 = .ok (.goto 5, 3) := by decide +kernel
theorem dL_types_155 : decode cL_types 155 = .ok (.bipush 6, 2) := by decide +kernel
theorem dL_types_157 : decode cL_types 157 = .ok (.invokestatic 38, 3) := by decide +kernel
theorem dL_types_160 : decode cL_types 160 = .ok (.if_icmp .ge 41, 3) := by decide +kernel
theorem dL_types_163 : decode cL_types 163 = .ok (.iload 4, 2) := by decide +kernel
theorem dL_types_165 : decode cL_types 165 = .ok (.ifCond .eq 27, 3) := by decide +kernel
theorem dL_types_168 : decode cL_types 168 = .ok (.aload_n 0, 1) := by decide +kernel
theorem dL_types_169 : decode cL_types 169 = .ok (.bipush 48, 2) := by decide +kernel
theorem dL_types_171 : decode cL_types 171 = .ok (.iload 6, 2) := by decide +kernel
theorem dL_types_173 : decode cL_types 173 = .ok (.iload 9, 2) := by decide +kernel
theorem dL_types_175 : decode cL_types 175 = .ok (.ishr, 1) := by decide +kernel
theorem dL_types_176 : decode cL_types 176 = .ok (.bipush 6, 2) := by decide +kernel
theorem dL_types_178 : decode cL_types 178 = .ok (.invokestatic 38, 3) := by decide +kernel
theorem dL_types_181 : decode cL_types 181 = .ok (.iadd, 1) := by decide +kernel
theorem dL_types_182 : decode cL_types 182 = .ok (.invokevirtual 62, 3) := by decide +kernel
theorem dL_types_185 : decode cL_types 185 = .ok (.ifCond .le 7, 3) := by decide +kernel
theorem dL_types_188 : decode cL_types 188 = .ok (.iconst 1, 1) := by decide +kernel
theorem dL_types_189 : decode cL_types 189 = .ok (.goto 4, 3) := by decide +kernel
theorem dL_types_192 : decode cL_types 192 = .ok (.iconst 0, 1) := by decide +kernel
theorem dL_types_193 : decode cL_types 193 = .ok (.istore 4, 2) := by decide +kernel
theorem dL_types_195 : decode cL_types 195 = .ok (.iinc 9 1, 3) := by decide +kernel
theorem dL_types_198 : decode cL_types 198 = .ok (.goto (-66), 3) := by decide +kernel
theorem dL_types_201 : decode cL_types 201 = .ok (.iload 4, 2) := by decide +kernel
theorem dL_types_203 : decode cL_types 203 = .ok (.ifCond .eq 63, 3) := by decide +kernel
theorem dL_types_206 : decode cL_types 206 = .ok (.iload 6, 2) := by decide +kernel
theorem dL_types_208 : decode cL_types 208 = .ok (.iconst 4, 1) := by decide +kernel
theorem dL_types_209 : decode cL_types 209 = .ok (.ishr, 1) := by decide +kernel
theorem dL_types_210 : decode cL_types 210 = .ok (.iconst 2, 1) := by decide +kernel
theorem dL_types_211 : decode cL_types 211 = .ok (.invokestatic 38, 3) := by decide +kernel
theorem dL_types_214 : decode cL_types 214 = .ok (.ifCond .eq 48, 3) := by decide +kernel
theorem dL_types_217 : decode cL_types 217 = .ok (.aload_n 0, 1) := by decide +kernel
theorem dL_types_218 : decode cL_types 218 = .ok (.bipush 42, 2) := by decide +kernel
theorem dL_types_220 : decode cL_types 220 = .ok (.invokevirtual 62, 3) := by decide +kernel
theorem dL_types_223 : decode cL_types 223 = .ok (.ifCond .le 43, 3) := by decide +kernel
theorem dL_types_226 : decode cL_types 226 = .ok (.aload_n 0, 1) := by decide +kernel
theorem dL_types_227 : decode cL_types 227 = .ok (.bipush 48, 2) := by decide +kernel
theorem dL_types_229 : decode cL_types 229 = .ok (.iload 6, 2) := by decide +kernel
theorem dL_types_231 : decode cL_types 231 = .ok (.iconst 5, 1) := by decide +kernel
theorem dL_types_232 : decode cL_types 232 = .ok (.ishr, 1) := by decide +kernel
theorem dL_types_233 : decode cL_types 233 = .ok (.iload_n 2, 1) := by decide +kernel
theorem dL_types_234 : decode cL_types 234 = .ok (.bipush 24, 2) := by decide +kernel
theorem dL_types_236 : decode cL_types 236 = .ok (.ishr, 1) := by decide +kernel
theorem dL_types_237 : decode cL_types 237 = .ok (.bipush 9, 2) := by decide +kernel
theorem dL_types_239 : decode cL_types 239 = .ok (.invokestatic 38, 3) := by decide +kernel
theorem dL_types_242 : decode cL_types 242 = .ok (.ifCond .ne 8, 3) := by decide +kernel
theorem dL_types_245 : decode cL_types 245 = .ok (.bipush 11, 2) := by decide +kernel
theorem dL_types_247 : decode cL_types 247 = .ok (.goto 5, 3) := by decide +kernel
theorem dL_types_250 : decode cL_types 250 = .ok (.bipush 10, 2) := by decide +kernel
theorem dL_types_252 : decode cL_types 252 = .ok (.invokestatic 38, 3) := by decide +kernel
theorem dL_types_255 : decode cL_types 255 = .ok (.iadd, 1) := by decide +kernel
theorem dL_types_256 : decode cL_types 256 = .ok (.invokevirtual 62, 3) := by decide +kernel
theorem dL_types_259 : decode cL_types 259 = .ok (.ifCond .le 7, 3) := by decide +kernel
theorem dL_types_262 : decode cL_types 262 = .ok (.iconst 1, 1) := by decide +kernel
theorem dL_types_263 : decode cL_types 263 = .ok (.goto 4, 3) := by decide +kernel
theorem dL_types_266 : decode cL_types 266 = .ok (.iconst 0, 1) := by decide +kernel
theorem dL_types_267 : decode cL_types 267 = .ok (.istore 4, 2) := by decide +kernel
theorem dL_types_269 : decode cL_types 269 = .ok (.goto 74, 3) := by decide +kernel
theorem dL_types_272 : decode cL_types 272 = .ok (.iload 4, 2) := by decide +kernel
theorem dL_types_274 : decode cL_types 274 = .ok (.ifCond .eq 66, 3) := by decide +kernel
theorem dL_types_277 : decode cL_types 277 = .ok (.aload_n 0, 1) := by decide +kernel
theorem dL_types_278 : decode cL_types 278 = .ok (.bipush 62, 2) := by decide +kernel
theorem dL_types_280 : decode cL_types 280 = .ok (.invokevirtual 62, 3) := by decide +kernel
theorem dL_types_283 : decode cL_types 283 = .ok (.ifCond .le 57, 3) := by decide +kernel
theorem dL_types_286 : decode cL_types 286 = .ok (.aload_n 0, 1) := by decide +kernel
theorem dL_types_287 : decode cL_types 287 = .ok (.bipush 48, 2) := by decide +kernel
theorem dL_types_289 : decode cL_types 289 = .ok (.iload_n 2, 1) := by decide +kernel
theorem dL_types_290 : decode cL_types 290 = .ok (.bipush 24, 2) := by decide +kernel
theorem dL_types_292 : decode cL_types 292 = .ok (.ishr, 1) := by decide +kernel
theorem dL_types_293 : decode cL_types 293 = .ok (.bipush 9, 2) := by decide +kernel
theorem dL_types_295 : decode cL_types 295 = .ok (.invokestatic 38, 3) := by decide +kernel
theorem dL_types_298 : decode cL_types 298 = .ok (.ifCond .ne 15, 3) := by decide +kernel
theorem dL_types_301 : decode cL_types 301 = .ok (.iload 6, 2) := by decide +kernel
theorem dL_types_303 : decode cL_types 303 = .ok (.iconst 3, 1) := by decide +kernel
theorem dL_types_304 : decode cL_types 304 = .ok (.ishr, 1) := by decide +kernel
theorem dL_types_305 : decode cL_types 305 = .ok (.bipush 6, 2) := by decide +kernel
theorem dL_types_307 : decode cL_types 307 = .ok (.invokestatic 38, 3) := by decide +kernel
theorem dL_types_310 : decode cL_types 310 = .ok (.goto 19, 3) := by decide +kernel
theorem dL_types_313 : decode cL_types 313 = .ok (.iload 8, 2) := by decide +kernel
theorem dL_types_315 : decode cL_types 315 = .ok (.iconst 1, 1) := by decide +kernel
theorem dL_types_316 : decode cL_types 316 = .ok (.iadd, 1) := by decide +kernel
theorem dL_types_317 : decode cL_types 317 = .ok (.iload 6, 2) := by decide +kernel
theorem dL_types_319 : decode cL_types 319 = .ok (.iconst 3, 1) := by decide +kernel
theorem dL_types_320 : decode cL_types 320 = .ok (.ishr, 1) := by decide +kernel
theorem dL_types_321 : decode cL_types 321 = .ok (.iconst 5, 1) := by decide +kernel
theorem dL_types_322 : decode cL_types 322 = .ok (.invokestatic 38, 3) := by decide +kernel
theorem dL_types_325 : decode cL_types 325 = .ok (.iadd, 1) := by decide +kernel
theorem dL_types_326 : decode cL_types 326 = .ok (.bipush 6, 2) := by decide +kernel
theorem dL_types_328 : decode cL_types 328 = .ok (.irem, 1) := by decide +kernel
theorem dL_types_329 : decode cL_types 329 = .ok (.iadd, 1) := by decide +kernel
theorem dL_types_330 : decode cL_types 330 = .ok (.invokevirtual 62, 3) := by decide +kernel
theorem dL_types_333 : decode cL_types 333 = .ok (.ifCond .le 7, 3) := by decide +kernel
theorem dL_types_336 : decode cL_types 336 = .ok (.iconst 1, 1) := by decide +kernel
theorem dL_types_337 : decode cL_types 337 = .ok (.goto 4, 3) := by decide +kernel
theorem dL_types_340 : decode cL_types 340 = .ok (.iconst 0, 1) := by decide +kernel
theorem dL_types_341 : decode cL_types 341 = .ok (.istore 4, 2) := by decide +kernel
theorem dL_types_343 : decode cL_types 343 = .ok (.iinc 5 1, 3) := by decide +kernel
theorem dL_types_346 : decode cL_types 346 = .ok (.goto (-314), 3) := by decide +kernel
theorem dL_types_349 : decode cL_types 349 = .ok (.iload 4, 2) := by decide +kernel
theorem dL_types_351 : decode cL_types 351 = .ok (.ifCond .eq 37, 3) := by decide +kernel
theorem dL_types_354 : decode cL_types 354 = .ok (.iload_n 2, 1) := by decide +kernel
theorem dL_types_355 : decode cL_types 355 = .ok (.bipush 26, 2) := by decide +kernel
theorem dL_types_357 : decode cL_types 357 = .ok (.ishr, 1) := by decide +kernel
theorem dL_types_358 : decode cL_types 358 = .ok (.bipush 6, 2) := by decide +kernel
theorem dL_types_360 : decode cL_types 360 = .ok (.invokestatic 38, 3) := by decide +kernel
theorem dL_types_363 : decode cL_types 363 = .ok (.ifCond .gt 21, 3) := by decide +kernel
theorem dL_types_366 : decode cL_types 366 = .ok (.aload_n 0, 1) := by decide +kernel
theorem dL_types_367 : decode cL_types 367 = .ok (.iload_n 1, 1) := by decide +kernel
theorem dL_types_368 : decode cL_types 368 = .ok (.ifCond .eq 8, 3) := by decide +kernel
theorem dL_types_371 : decode cL_types 371 = .ok (.bipush 59, 2) := by decide +kernel
theorem dL_types_373 : decode cL_types 373 = .ok (.goto 5, 3) := by decide +kernel
theorem dL_types_376 : decode cL_types 376 = .ok (.bipush 44, 2) := by decide +kernel
theorem dL_types_378 : decode cL_types 378 = .ok (.invokevirtual 62, 3) := by decide +kernel
theorem dL_types_381 : decode cL_types 381 = .ok (.ifCond .le 7, 3) := by decide +kernel
theorem dL_types_384 : decode cL_types 384 = .ok (.iconst 1, 1) := by decide +kernel
theorem dL_types_385 : decode cL_types 385 = .ok (.goto 4, 3) := by decide +kernel
theorem dL_types_388 : decode cL_types 388 = .ok (.iconst 0, 1) := by decide +kernel
theorem dL_types_389 : decode cL_types 389 = .ok (.ireturn, 1) := by decide +kernel
theorem dL_reads_0 : decode cL_reads 0 = .ok (.iload_n 1, 1) := by decide +kernel
theorem dL_reads_1 : decode cL_reads 1 = .ok (.bipush 19, 2) := by decide +kernel
theorem dL_reads_3 : decode cL_reads 3 = .ok (.ishr, 1) := by decide +kernel
theorem dL_reads_4 : decode cL_reads 4 = .ok (.iconst 2, 1) := by decide +kernel
theorem dL_reads_5 : decode cL_reads 5 = .ok (.invokestatic 38, 3) := by decide +kernel
theorem dL_reads_8 : decode cL_reads 8 = .ok (.ifCond .ne 7, 3) := by decide +kernel
theorem dL_reads_11 : decode cL_reads 11 = .ok (.iconst 1, 1) := by decide +kernel
theorem dL_reads_12 : decode cL_reads 12 = .ok (.goto 4, 3) := by decide +kernel
theorem dL_reads_15 : decode cL_reads 15 = .ok (.iconst 0, 1) := by decide +kernel
theorem dL_reads_16 : decode cL_reads 16 = .ok (.istore_n 2, 1) := by decide +kernel
theorem dL_reads_17 : decode cL_reads 17 = .ok (.iload_n 1, 1) := by decide +kernel
theorem dL_reads_18 : decode cL_reads 18 = .ok (.iload_n 2, 1) := by decide +kernel
theorem dL_reads_19 : decode cL_reads 19 = .ok (.ifCond .eq 7, 3) := by decide +kernel
theorem dL_reads_22 : decode cL_reads 22 = .ok (.iconst 4, 1) := by decide +kernel
theorem dL_reads_23 : decode cL_reads 23 = .ok (.goto 5, 3) := by decide +kernel
theorem dL_reads_26 : decode cL_reads 26 = .ok (.bipush 7, 2) := by decide +kernel
theorem dL_reads_28 : decode cL_reads 28 = .ok (.invokestatic 38, 3) := by decide +kernel
theorem dL_reads_31 : decode cL_reads 31 = .ok (.istore_n 3, 1) := by decide +kernel
theorem dL_reads_32 : decode cL_reads 32 = .ok (.aload_n 0, 1) := by decide +kernel
theorem dL_reads_33 : decode cL_reads 33 = .ok (.iload_n 2, 1) := by decide +kernel
theorem dL_reads_34 : decode cL_reads 34 = .ok (.iload_n 1, 1) := by decide +kernel
theorem dL_reads_35 : decode cL_reads 35 = .ok (.invokestatic 65, 3) := by decide +kernel
theorem dL_reads_38 : decode cL_reads 38 = .ok (.istore 4, 2) := by decide +kernel
theorem dL_reads_40 : decode cL_reads 40 = .ok (.aload_n 0, 1) := by decide +kernel
theorem dL_reads_41 : decode cL_reads 41 = .ok (.invokestatic 69, 3) := by decide +kernel
theorem dL_reads_44 : decode cL_reads 44 = .ok (.lstore 5, 2) := by decide +kernel
theorem dL_reads_46 : decode cL_reads 46 = .ok (.aload_n 0, 1) := by decide +kernel
theorem dL_reads_47 : decode cL_reads 47 = .ok (.bipush 16, 2) := by decide +kernel
theorem dL_reads_49 : decode cL_reads 49 = .ok (.invokevirtual 13, 3) := by decide +kernel
theorem dL_reads_52 : decode cL_reads 52 = .ok (.istore 7, 2) := by decide +kernel
theorem dL_reads_54 : decode cL_reads 54 = .ok (.iload_n 2, 1) := by decide +kernel
theorem dL_reads_55 : decode cL_reads 55 = .ok (.ifCond .eq 11, 3) := by decide +kernel
theorem dL_reads_58 : decode cL_reads 58 = .ok (.aload_n 0, 1) := by decide +kernel
theorem dL_reads_59 : decode cL_reads 59 = .ok (.iconst 2, 1) := by decide +kernel
theorem dL_reads_60 : decode cL_reads 60 = .ok (.invokevirtual 13, 3) := by decide +kernel
theorem dL_reads_63 : decode cL_reads 63 = .ok (.goto 8, 3) := by decide +kernel
theorem dL_reads_66 : decode cL_reads 66 = .ok (.aload_n 0, 1) := by decide +kernel
theorem dL_reads_67 : decode cL_reads 67 = .ok (.iconst 4, 1) := by decide +kernel
theorem dL_reads_68 : decode cL_reads 68 = .ok (.invokevirtual 13, 3) := by decide +kernel
theorem dL_reads_71 : decode cL_reads 71 = .ok (.istore 8, 2) := by decide +kernel
theorem dL_reads_73 : decode cL_reads 73 = .ok (.aload_n 0, 1) := by decide +kernel
theorem dL_reads_74 : decode cL_reads 74 = .ok (.bipush 15, 2) := by decide +kernel
theorem dL_reads_76 : decode cL_reads 76 = .ok (.invokevirtual 13, 3) := by decide +kernel
theorem dL_reads_79 : decode cL_reads 79 = .ok (.istore 9, 2) := by decide +kernel
theorem dL_reads_81 : decode cL_reads 81 = .ok (.aload_n 0, 1) := by decide +kernel
theorem dL_reads_82 : decode cL_reads 82 = .ok (.iload_n 2, 1) := by decide +kernel
theorem dL_reads_83 : decode cL_reads 83 = .ok (.ifCond .eq 7, 3) := by decide +kernel
theorem dL_reads_86 : decode cL_reads 86 = .ok (.iconst 0, 1) := by decide +kernel
theorem dL_reads_87 : decode cL_reads 87 = .ok (.goto 4, 3) := by decide +kernel
theorem dL_reads_90 : decode cL_reads 90 = .ok (.iconst 1, 1) := by decide +kernel
theorem dL_reads_91 : decode cL_reads 91 = .ok (.invokevirtual 73, 3) := by decide +kernel
theorem dL_reads_94 : decode cL_reads 94 = .ok (.istore 10, 2) := by decide +kernel
theorem dL_reads_96 : decode cL_reads 96 = .ok (.iload_n 2, 1) := by decide +kernel
theorem dL_reads_97 : decode cL_reads 97 = .ok (.ifCond .eq 10, 3) := by decide +kernel
theorem dL_reads_100 : decode cL_reads 100 = .ok (.aload_n 0, 1) := by decide +kernel
theorem dL_reads_101 : decode cL_reads 101 = .ok (.invokevirtual 76, 3) := by decide +kernel
theorem dL_reads_104 : decode cL_reads 104 = .ok (.goto 7, 3) := by decide +kernel
theorem dL_reads_107 : decode cL_reads 107 = .ok (.aload_n 0, 1) := by decide +kernel
theorem dL_reads_108 : decode cL_reads 108 = .ok (.invokevirtual 79, 3) := by decide +kernel
theorem dL_reads_111 : decode cL_reads 111 = .ok (.istore 11, 2) := by decide +kernel
theorem dL_reads_113 : decode cL_reads 113 = .ok (.aload_n 0, 1) := by decide +kernel
theorem dL_reads_114 : decode cL_reads 114 = .ok (.invokevirtual 58, 3) := by decide +kernel
theorem dL_reads_117 : decode cL_reads 117 = .ok (.istore 12, 2) := by decide +kernel
theorem dL_reads_119 : decode cL_reads 119 = .ok (.iload 4, 2) := by decide +kernel
theorem dL_reads_121 : decode cL_reads 121 = .ok (.ifCond .eq 40, 3) := by decide +kernel
theorem dL_reads_124 : decode cL_reads 124 = .ok (.iload 10, 2) := by decide +kernel
theorem dL_reads_126 : decode cL_reads 126 = .ok (.bipush (-4), 2) := by decide +kernel
theorem dL_reads_128 : decode cL_reads 128 = .ok (.if_icmp .eq 10, 3) := by decide +kernel
theorem dL_reads_131 : decode cL_reads 131 = .ok (.iload 11, 2) := by decide +kernel
theorem dL_reads_133 : decode cL_reads 133 = .ok (.bipush (-2), 2) := by decide +kernel
theorem dL_reads_135 : decode cL_reads 135 = .ok (.if_icmp .ne 26, 3) := by decide +kernel
theorem dL_reads_138 : decode cL_reads 138 = .ok (.iload 10, 2) := by decide +kernel
theorem dL_reads_140 : decode cL_reads 140 = .ok (.bipush (-4), 2) := by decide +kernel
theorem dL_reads_142 : decode cL_reads 142 = .ok (.if_icmp .eq 15, 3) := by decide +kernel
theorem dL_reads_145 : decode cL_reads 145 = .ok (.iload 10, 2) := by decide +kernel
theorem dL_reads_147 : decode cL_reads 147 = .ok (.ifCond .lt 14, 3) := by decide +kernel
theorem dL_reads_150 : decode cL_reads 150 = .ok (.iload 10, 2) := by decide +kernel
theorem dL_reads_152 : decode cL_reads 152 = .ok (.iload 9, 2) := by decide +kernel
theorem dL_reads_154 : decode cL_reads 154 = .ok (.if_icmp .gt 7, 3) := by decide +kernel
theorem dL_reads_157 : decode cL_reads 157 = .ok (.iconst 1, 1) := by decide +kernel
theorem dL_reads_158 : decode cL_reads 158 = .ok (.goto 4, 3) := by decide +kernel
theorem dL_reads_161 : decode cL_reads 161 = .ok (.iconst 0, 1) := by decide +kernel
theorem dL_reads_162 : decode cL_reads 162 = .ok (.istore 13, 2) := by decide +kernel
theorem dL_reads_164 : decode cL_reads 164 = .ok (.iload 11, 2) := by decide +kernel
theorem dL_reads_166 : decode cL_reads 166 = .ok (.ifCond .ge 73, 3) := by decide +kernel
theorem dL_reads_169 : decode cL_reads 169 = .ok (.iload 13, 2) := by decide +kernel
theorem dL_reads_171 : decode cL_reads 171 = .ok (.ifCond .eq 66, 3) := by decide +kernel
theorem dL_reads_174 : decode cL_reads 174 = .ok (.iload 10, 2) := by decide +kernel
theorem dL_reads_176 : decode cL_reads 176 = .ok (.bipush (-4), 2) := by decide +kernel
theorem dL_reads_178 : decode cL_reads 178 = .ok (.if_icmp .ne 27, 3) := by decide +kernel
theorem dL_reads_181 : decode cL_reads 181 = .ok (.iload 11, 2) := by decide +kernel
theorem dL_reads_183 : decode cL_reads 183 = .ok (.bipush (-3), 2) := by decide +kernel
theorem dL_reads_185 : decode cL_reads 185 = .ok (.if_icmp .ne 52, 3) := by decide +kernel
theorem dL_reads_188 : decode cL_reads 188 = .ok (.iload 8, 2) := by decide +kernel
theorem dL_reads_190 : decode cL_reads 190 = .ok (.iload_n 3, 1) := by decide +kernel
theorem dL_reads_191 : decode cL_reads 191 = .ok (.iadd, 1) := by decide +kernel
theorem dL_reads_192 : decode cL_reads 192 = .ok (.iload_n 2, 1) := by decide +kernel
theorem dL_reads_193 : decode cL_reads 193 = .ok (.ifCond .eq 7, 3) := by decide +kernel
theorem dL_reads_196 : decode cL_reads 196 = .ok (.iconst 4, 1) := by decide +kernel
theorem dL_reads_197 : decode cL_reads 197 = .ok (.goto 5, 3) := by decide +kernel
theorem dL_reads_200 : decode cL_reads 200 = .ok (.bipush 8, 2) := by decide +kernel
theorem dL_reads_202 : decode cL_reads 202 = .ok (.if_icmp .le 35, 3) := by decide +kernel
theorem dL_reads_205 : decode cL_reads 205 = .ok (.iload 12, 2) := by decide +kernel
theorem dL_reads_207 : decode cL_reads 207 = .ok (.iload 9, 2) := by decide +kernel
theorem dL_reads_209 : decode cL_reads 209 = .ok (.if_icmp .ne 28, 3) := by decide +kernel
theorem dL_reads_212 : decode cL_reads 212 = .ok (.aload_n 0, 1) := by decide +kernel
theorem dL_reads_213 : decode cL_reads 213 = .ok (.invokestatic 69, 3) := by decide +kernel
theorem dL_reads_216 : decode cL_reads 216 = .ok (.lload 5, 2) := by decide +kernel
theorem dL_reads_218 : decode cL_reads 218 = .ok (.lcmp, 1) := by decide +kernel
theorem dL_reads_219 : decode cL_reads 219 = .ok (.ifCond .ne 18, 3) := by decide +kernel
theorem dL_reads_222 : decode cL_reads 222 = .ok (.aload_n 0, 1) := by decide +kernel
theorem dL_reads_223 : decode cL_reads 223 = .ok (.bipush 16, 2) := by decide +kernel
theorem dL_reads_225 : decode cL_reads 225 = .ok (.invokevirtual 13, 3) := by decide +kernel
theorem dL_reads_228 : decode cL_reads 228 = .ok (.iload 7, 2) := by decide +kernel
theorem dL_reads_230 : decode cL_reads 230 = .ok (.if_icmp .ne 7, 3) := by decide +kernel
theorem dL_reads_233 : decode cL_reads 233 = .ok (.iconst 1, 1) := by decide +kernel
theorem dL_reads_234 : decode cL_reads 234 = .ok (.goto 4, 3) := by decide +kernel
theorem dL_reads_237 : decode cL_reads 237 = .ok (.iconst 0, 1) := by decide +kernel
theorem dL_reads_238 : decode cL_reads 238 = .ok (.ireturn, 1) := by decide +kernel
theorem dL_reads_239 : decode cL_reads 239 = .ok (.iload 13, 2) := by decide +kernel
theorem dL_reads_241 : decode cL_reads 241 = .ok (.ifCond .eq 73, 3) := by decide +kernel
theorem dL_reads_244 : decode cL_reads 244 = .ok (.iload 10, 2) := by decide +kernel
theorem dL_reads_246 : decode cL_reads 246 = .ok (.bipush (-4), 2) := by decide +kernel
theorem dL_reads_248 : decode cL_reads 248 = .ok (.if_icmp .ne 66, 3) := by decide +kernel
theorem dL_reads_251 : decode cL_reads 251 = .ok (.iload 11, 2) := by decide +kernel
theorem dL_reads_253 : decode cL_reads 253 = .ok (.iload 8, 2) := by decide +kernel
theorem dL_reads_255 : decode cL_reads 255 = .ok (.iload_n 3, 1) := by decide +kernel
theorem dL_reads_256 : decode cL_reads 256 = .ok (.iadd, 1) := by decide +kernel
theorem dL_reads_257 : decode cL_reads 257 = .ok (.if_icmp .ne 57, 3) := by decide +kernel
theorem dL_reads_260 : decode cL_reads 260 = .ok (.iload 12, 2) := by decide +kernel
theorem dL_reads_262 : decode cL_reads 262 = .ok (.ifCond .ne 52, 3) := by decide +kernel
theorem dL_reads_265 : decode cL_reads 265 = .ok (.aload_n 0, 1) := by decide +kernel
theorem dL_reads_266 : decode cL_reads 266 = .ok (.bipush 16, 2) := by decide +kernel
theorem dL_reads_268 : decode cL_reads 268 = .ok (.invokevirtual 13, 3) := by decide +kernel
theorem dL_reads_271 : decode cL_reads 271 = .ok (.iload 7, 2) := by decide +kernel
theorem dL_reads_273 : decode cL_reads 273 = .ok (.iconst 4, 1) := by decide +kernel
theorem dL_reads_274 : decode cL_reads 274 = .ok (.if_icmp .ge 10, 3) := by decide +kernel
theorem dL_reads_277 : decode cL_reads 277 = .ok (.iload 7, 2) := by decide +kernel
theorem dL_reads_279 : decode cL_reads 279 = .ok (.iconst 1, 1) := by decide +kernel
theorem dL_reads_280 : decode cL_reads 280 = .ok (.iadd, 1) := by decide +kernel
theorem dL_reads_281 : decode cL_reads 281 = .ok (.goto 4, 3) := by decide +kernel
theorem dL_reads_284 : decode cL_reads 284 = .ok (.iconst 4, 1) := by decide +kernel
theorem dL_reads_285 : decode cL_reads 285 = .ok (.if_icmp .ne 29, 3) := by decide +kernel
theorem dL_reads_288 : decode cL_reads 288 = .ok (.iload_n 2, 1) := by decide +kernel
theorem dL_reads_289 : decode cL_reads 289 = .ok (.ifCond .eq 11, 3) := by decide +kernel
theorem dL_reads_292 : decode cL_reads 292 = .ok (.aload_n 0, 1) := by decide +kernel
theorem dL_reads_293 : decode cL_reads 293 = .ok (.iconst 2, 1) := by decide +kernel
theorem dL_reads_294 : decode cL_reads 294 = .ok (.invokevirtual 13, 3) := by decide +kernel
theorem dL_reads_297 : decode cL_reads 297 = .ok (.goto 8, 3) := by decide +kernel
theorem dL_reads_300 : decode cL_reads 300 = .ok (.aload_n 0, 1) := by decide +kernel
theorem dL_reads_301 : decode cL_reads 301 = .ok (.iconst 4, 1) := by decide +kernel
theorem dL_reads_302 : decode cL_reads 302 = .ok (.invokevirtual 13, 3) := by decide +kernel
theorem dL_reads_305 : decode cL_reads 305 = .ok (.iload 11, 2) := by decide +kernel
theorem dL_reads_307 : decode cL_reads 307 = .ok (.if_icmp .ne 7, 3) := by decide +kernel
theorem dL_reads_310 : decode cL_reads 310 = .ok (.iconst 1, 1) := by decide +kernel
theorem dL_reads_311 : decode cL_reads 311 = .ok (.goto 4, 3) := by decide +kernel
theorem dL_reads_314 : decode cL_reads 314 = .ok (.iconst 0, 1) := by decide +kernel
theorem dL_reads_315 : decode cL_reads 315 = .ok (.ireturn, 1) := by decide +kernel
theorem dL_acts_0 : decode cL_acts 0 = .ok (.iload_n 1, 1) := by decide +kernel
theorem dL_acts_1 : decode cL_acts 1 = .ok (.bipush 30, 2) := by decide +kernel
theorem dL_acts_3 : decode cL_acts 3 = .ok (.invokestatic 38, 3) := by decide +kernel
theorem dL_acts_6 : decode cL_acts 6 = .ok (.istore_n 3, 1) := by decide +kernel
theorem dL_acts_7 : decode cL_acts 7 = .ok (.aload_n 0, 1) := by decide +kernel
theorem dL_acts_8 : decode cL_acts 8 = .ok (.iconst 2, 1) := by decide +kernel
theorem dL_acts_9 : decode cL_acts 9 = .ok (.invokevirtual 13, 3) := by decide +kernel
theorem dL_acts_12 : decode cL_acts 12 = .ok (.istore 4, 2) := by decide +kernel
theorem dL_acts_14 : decode cL_acts 14 = .ok (.aload_n 0, 1) := by decide +kernel
theorem dL_acts_15 : decode cL_acts 15 = .ok (.iconst 4, 1) := by decide +kernel
theorem dL_acts_16 : decode cL_acts 16 = .ok (.invokevirtual 13, 3) := by decide +kernel
theorem dL_acts_19 : decode cL_acts 19 = .ok (.istore 5, 2) := by decide +kernel
theorem dL_acts_21 : decode cL_acts 21 = .ok (.aload_n 0, 1) := by decide +kernel
theorem dL_acts_22 : decode cL_acts 22 = .ok (.iconst 0, 1) := by decide +kernel
theorem dL_acts_23 : decode cL_acts 23 = .ok (.invokevirtual 13, 3) := by decide +kernel
theorem dL_acts_26 : decode cL_acts 26 = .ok (.istore 6, 2) := by decide +kernel
theorem dL_acts_28 : decode cL_acts 28 = .ok (.iload_n 3, 1) := by decide +kernel
theorem dL_acts_29 : decode cL_acts 29 = .ok (.iconst 5, 1) := by decide +kernel
theorem dL_acts_30 : decode cL_acts 30 = .ok (.if_icmp .ge 121, 3) := by decide +kernel
theorem dL_acts_33 : decode cL_acts 33 = .ok (.iload_n 2, 1) := by decide +kernel
theorem dL_acts_34 : decode cL_acts 34 = .ok (.bipush 8, 2) := by decide +kernel
theorem dL_acts_36 : decode cL_acts 36 = .ok (.invokestatic 38, 3) := by decide +kernel
theorem dL_acts_39 : decode cL_acts 39 = .ok (.istore 7, 2) := by decide +kernel
theorem dL_acts_41 : decode cL_acts 41 = .ok (.iload_n 2, 1) := by decide +kernel
theorem dL_acts_42 : decode cL_acts 42 = .ok (.iconst 3, 1) := by decide +kernel
theorem dL_acts_43 : decode cL_acts 43 = .ok (.ishr, 1) := by decide +kernel
theorem dL_acts_44 : decode cL_acts 44 = .ok (.bipush 8, 2) := by decide +kernel
theorem dL_acts_46 : decode cL_acts 46 = .ok (.invokestatic 38, 3) := by decide +kernel
theorem dL_acts_49 : decode cL_acts 49 = .ok (.istore 8, 2) := by decide +kernel
theorem dL_acts_51 : decode cL_acts 51 = .ok (.iload 7, 2) := by decide +kernel
theorem dL_acts_53 : decode cL_acts 53 = .ok (.bipush 7, 2) := by decide +kernel
theorem dL_acts_55 : decode cL_acts 55 = .ok (.if_icmp .eq 10, 3) := by decide +kernel
theorem dL_acts_58 : decode cL_acts 58 = .ok (.iload 8, 2) := by decide +kernel
theorem dL_acts_60 : decode cL_acts 60 = .ok (.bipush 7, 2) := by decide +kernel
theorem dL_acts_62 : decode cL_acts 62 = .ok (.if_icmp .ne 7, 3) := by decide +kernel
theorem dL_acts_65 : decode cL_acts 65 = .ok (.iconst 1, 1) := by decide +kernel
theorem dL_acts_66 : decode cL_acts 66 = .ok (.goto 4, 3) := by decide +kernel
theorem dL_acts_69 : decode cL_acts 69 = .ok (.iconst 0, 1) := by decide +kernel
theorem dL_acts_70 : decode cL_acts 70 = .ok (.istore 9, 2) := by decide +kernel
theorem dL_acts_72 : decode cL_acts 72 = .ok (.aload_n 0, 1) := by decide +kernel
theorem dL_acts_73 : decode cL_acts 73 = .ok (.iload 7, 2) := by decide +kernel
theorem dL_acts_75 : decode cL_acts 75 = .ok (.iload 8, 2) := by decide +kernel
theorem dL_acts_77 : decode cL_acts 77 = .ok (.invokevirtual 82, 3) := by decide +kernel
theorem dL_acts_80 : decode cL_acts 80 = .ok (.istore 10, 2) := by decide +kernel
theorem dL_acts_82 : decode cL_acts 82 = .ok (.iload 9, 2) := by decide +kernel
theorem dL_acts_84 : decode cL_acts 84 = .ok (.ifCond .eq 12, 3) := by decide +kernel
theorem dL_acts_87 : decode cL_acts 87 = .ok (.iload 10, 2) := by decide +kernel
theorem dL_acts_89 : decode cL_acts 89 = .ok (.iconst (-1), 1) := by decide +kernel
theorem dL_acts_90 : decode cL_acts 90 = .ok (.if_icmp .ne 59, 3) := by decide +kernel
theorem dL_acts_93 : decode cL_acts 93 = .ok (.goto 15, 3) := by decide +kernel
theorem dL_acts_96 : decode cL_acts 96 = .ok (.iload 10, 2) := by decide +kernel
theorem dL_acts_98 : decode cL_acts 98 = .ok (.ifCond .lt 51, 3) := by decide +kernel
theorem dL_acts_101 : decode cL_acts 101 = .ok (.iload 10, 2) := by decide +kernel
theorem dL_acts_103 : decode cL_acts 103 = .ok (.bipush 7, 2) := by decide +kernel
theorem dL_acts_105 : decode cL_acts 105 = .ok (.if_icmp .ge 44, 3) := by decide +kernel
theorem dL_acts_108 : decode cL_acts 108 = .ok (.iload 9, 2) := by decide +kernel
theorem dL_acts_110 : decode cL_acts 110 = .ok (.ifCond .ne 35, 3) := by decide +kernel
theorem dL_acts_113 : decode cL_acts 113 = .ok (.iload 7, 2) := by decide +kernel
theorem dL_acts_115 : decode cL_acts 115 = .ok (.iload 6, 2) := by decide +kernel
theorem dL_acts_117 : decode cL_acts 117 = .ok (.bipush 7, 2) := by decide +kernel
theorem dL_acts_119 : decode cL_acts 119 = .ok (.irem, 1) := by decide +kernel
theorem dL_acts_120 : decode cL_acts 120 = .ok (.if_icmp .ne 25, 3) := by decide +kernel
theorem dL_acts_123 : decode cL_acts 123 = .ok (.aload_n 0, 1) := by decide +kernel
theorem dL_acts_124 : decode cL_acts 124 = .ok (.iconst 1, 1) := by decide +kernel
theorem dL_acts_125 : decode cL_acts 125 = .ok (.invokevirtual 13, 3) := by decide +kernel
theorem dL_acts_128 : decode cL_acts 128 = .ok (.iload 8, 2) := by decide +kernel
theorem dL_acts_130 : decode cL_acts 130 = .ok (.bipush 6, 2) := by decide +kernel
theorem dL_acts_132 : decode cL_acts 132 = .ok (.if_icmp .ne 8, 3) := by decide +kernel
theorem dL_acts_135 : decode cL_acts 135 = .ok (.bipush (-4), 2) := by decide +kernel
theorem dL_acts_137 : decode cL_acts 137 = .ok (.goto 5, 3) := by decide +kernel
theorem dL_acts_140 : decode cL_acts 140 = .ok (.iload 8, 2) := by decide +kernel
theorem dL_acts_142 : decode cL_acts 142 = .ok (.if_icmp .ne 7, 3) := by decide +kernel
theorem dL_acts_145 : decode cL_acts 145 = .ok (.iconst 1, 1) := by decide +kernel
theorem dL_acts_146 : decode cL_acts 146 = .ok (.goto 4, 3) := by decide +kernel
theorem dL_acts_149 : decode cL_acts 149 = .ok (.iconst 0, 1) := by decide +kernel
theorem dL_acts_150 : decode cL_acts 150 = .ok (.ireturn, 1) := by decide +kernel
theorem dL_acts_151 : decode cL_acts 151 = .ok (.iload_n 3, 1) := by decide +kernel
theorem dL_acts_152 : decode cL_acts 152 = .ok (.bipush 7, 2) := by decide +kernel
theorem dL_acts_154 : decode cL_acts 154 = .ok (.if_icmp .ge 154, 3) := by decide +kernel
theorem dL_acts_157 : decode cL_acts 157 = .ok (.iload_n 2, 1) := by decide +kernel
theorem dL_acts_158 : decode cL_acts 158 = .ok (.iload 4, 2) := by decide +kernel
theorem dL_acts_160 : decode cL_acts 160 = .ok (.iconst 1, 1) := by decide +kernel
theorem dL_acts_161 : decode cL_acts 161 = .ok (.iadd, 1) := by decide +kernel
theorem dL_acts_162 : decode cL_acts 162 = .ok (.invokestatic 38, 3) := by decide +kernel
theorem dL_acts_165 : decode cL_acts 165 = .ok (.istore 7, 2) := by decide +kernel
theorem dL_acts_167 : decode cL_acts 167 = .ok (.iload_n 2, 1) := by decide +kernel
theorem dL_acts_168 : decode cL_acts 168 = .ok (.iconst 3, 1) := by decide +kernel
theorem dL_acts_169 : decode cL_acts 169 = .ok (.ishr, 1) := by decide +kernel
theorem dL_acts_170 : decode cL_acts 170 = .ok (.iload_n 2, 1) := by decide +kernel
theorem dL_acts_171 : decode cL_acts 171 = .ok (.bipush 11, 2) := by decide +kernel
theorem dL_acts_173 : decode cL_acts 173 = .ok (.ishr, 1) := by decide +kernel
theorem dL_acts_174 : decode cL_acts 174 = .ok (.iconst 3, 1) := by decide +kernel
theorem dL_acts_175 : decode cL_acts 175 = .ok (.invokestatic 38, 3) := by decide +kernel
theorem dL_acts_178 : decode cL_acts 178 = .ok (.ifCond .ne 8, 3) := by decide +kernel
theorem dL_acts_181 : decode cL_acts 181 = .ok (.bipush 32, 2) := by decide +kernel
theorem dL_acts_183 : decode cL_acts 183 = .ok (.goto 5, 3) := by decide +kernel
theorem dL_acts_186 : decode cL_acts 186 = .ok (.bipush 7, 2) := by decide +kernel
theorem dL_acts_188 : decode cL_acts 188 = .ok (.invokestatic 38, 3) := by decide +kernel
theorem dL_acts_191 : decode cL_acts 191 = .ok (.istore 8, 2) := by decide +kernel
theorem dL_acts_193 : decode cL_acts 193 = .ok (.iload 7, 2) := by decide +kernel
theorem dL_acts_195 : decode cL_acts 195 = .ok (.iload 4, 2) := by decide +kernel
theorem dL_acts_197 : decode cL_acts 197 = .ok (.if_icmp .eq 10, 3) := by decide +kernel
theorem dL_acts_200 : decode cL_acts 200 = .ok (.iload 8, 2) := by decide +kernel
theorem dL_acts_202 : decode cL_acts 202 = .ok (.bipush 31, 2) := by decide +kernel
theorem dL_acts_204 : decode cL_acts 204 = .ok (.if_icmp .ne 7, 3) := by decide +kernel
theorem dL_acts_207 : decode cL_acts 207 = .ok (.iconst 1, 1) := by decide +kernel
theorem dL_acts_208 : decode cL_acts 208 = .ok (.goto 4, 3) := by decide +kernel
theorem dL_acts_211 : decode cL_acts 211 = .ok (.iconst 0, 1) := by decide +kernel
theorem dL_acts_212 : decode cL_acts 212 = .ok (.istore 9, 2) := by decide +kernel
theorem dL_acts_214 : decode cL_acts 214 = .ok (.iload 8, 2) := by decide +kernel
theorem dL_acts_216 : decode cL_acts 216 = .ok (.ifCond .ne 7, 3) := by decide +kernel
theorem dL_acts_219 : decode cL_acts 219 = .ok (.iconst 0, 1) := by decide +kernel
theorem dL_acts_220 : decode cL_acts 220 = .ok (.goto 10, 3) := by decide +kernel
theorem dL_acts_223 : decode cL_acts 223 = .ok (.iload 6, 2) := by decide +kernel
theorem dL_acts_225 : decode cL_acts 225 = .ok (.iconst 1, 1) := by decide +kernel
theorem dL_acts_226 : decode cL_acts 226 = .ok (.iadd, 1) := by decide +kernel
theorem dL_acts_227 : decode cL_acts 227 = .ok (.iload 8, 2) := by decide +kernel
theorem dL_acts_229 : decode cL_acts 229 = .ok (.iadd, 1) := by decide +kernel
theorem dL_acts_230 : decode cL_acts 230 = .ok (.istore 10, 2) := by decide +kernel
theorem dL_acts_232 : decode cL_acts 232 = .ok (.aload_n 0, 1) := by decide +kernel
theorem dL_acts_233 : decode cL_acts 233 = .ok (.iload 7, 2) := by decide +kernel
theorem dL_acts_235 : decode cL_acts 235 = .ok (.iload 8, 2) := by decide +kernel
theorem dL_acts_237 : decode cL_acts 237 = .ok (.invokevirtual 85, 3) := by decide +kernel
theorem dL_acts_240 : decode cL_acts 240 = .ok (.iload 9, 2) := by decide +kernel
theorem dL_acts_242 : decode cL_acts 242 = .ok (.ifCond .eq 7, 3) := by decide +kernel
theorem dL_acts_245 : decode cL_acts 245 = .ok (.iconst (-1), 1) := by decide +kernel
theorem dL_acts_246 : decode cL_acts 246 = .ok (.goto 5, 3) := by decide +kernel
theorem dL_acts_249 : decode cL_acts 249 = .ok (.iload 10, 2) := by decide +kernel
theorem dL_acts_251 : decode cL_acts 251 = .ok (.if_icmp .ne 55, 3) := by decide +kernel
theorem dL_acts_254 : decode cL_acts 254 = .ok (.iload 9, 2) := by decide +kernel
theorem dL_acts_256 : decode cL_acts 256 = .ok (.ifCond .ne 46, 3) := by decide +kernel
theorem dL_acts_259 : decode cL_acts 259 = .ok (.aload_n 0, 1) := by decide +kernel
theorem dL_acts_260 : decode cL_acts 260 = .ok (.iload 7, 2) := by decide +kernel
theorem dL_acts_262 : decode cL_acts 262 = .ok (.iconst 4, 1) := by decide +kernel
theorem dL_acts_263 : decode cL_acts 263 = .ok (.invokevirtual 19, 3) := by decide +kernel
theorem dL_acts_266 : decode cL_acts 266 = .ok (.iload 10, 2) := by decide +kernel
theorem dL_acts_268 : decode cL_acts 268 = .ok (.if_icmp .ne 38, 3) := by decide +kernel
theorem dL_acts_271 : decode cL_acts 271 = .ok (.aload_n 0, 1) := by decide +kernel
theorem dL_acts_272 : decode cL_acts 272 = .ok (.iload 7, 2) := by decide +kernel
theorem dL_acts_274 : decode cL_acts 274 = .ok (.iload 6, 2) := by decide +kernel
theorem dL_acts_276 : decode cL_acts 276 = .ok (.invokevirtual 23, 3) := by decide +kernel
theorem dL_acts_279 : decode cL_acts 279 = .ok (.bipush (-4), 2) := by decide +kernel
theorem dL_acts_281 : decode cL_acts 281 = .ok (.if_icmp .ne 7, 3) := by decide +kernel
theorem dL_acts_284 : decode cL_acts 284 = .ok (.iconst 1, 1) := by decide +kernel
theorem dL_acts_285 : decode cL_acts 285 = .ok (.goto 4, 3) := by decide +kernel
theorem dL_acts_288 : decode cL_acts 288 = .ok (.iconst 0, 1) := by decide +kernel
theorem dL_acts_289 : decode cL_acts 289 = .ok (.iload 8, 2) := by decide +kernel
theorem dL_acts_291 : decode cL_acts 291 = .ok (.ifCond .le 7, 3) := by decide +kernel
theorem dL_acts_294 : decode cL_acts 294 = .ok (.iconst 1, 1) := by decide +kernel
theorem dL_acts_295 : decode cL_acts 295 = .ok (.goto 4, 3) := by decide +kernel
theorem dL_acts_298 : decode cL_acts 298 = .ok (.iconst 0, 1) := by decide +kernel
theorem dL_acts_299 : decode cL_acts 299 = .ok (.if_icmp .ne 7, 3) := by decide +kernel
theorem dL_acts_302 : decode cL_acts 302 = .ok (.iconst 1, 1) := by decide +kernel
theorem dL_acts_303 : decode cL_acts 303 = .ok (.goto 4, 3) := by decide +kernel
theorem dL_acts_306 : decode cL_acts 306 = .ok (.iconst 0, 1) := by decide +kernel
theorem dL_acts_307 : decode cL_acts 307 = .ok (.ireturn, 1) := by decide +kernel
theorem dL_acts_308 : decode cL_acts 308 = .ok (.iload_n 3, 1) := by decide +kernel
theorem dL_acts_309 : decode cL_acts 309 = .ok (.bipush 7, 2) := by decide +kernel
theorem dL_acts_311 : decode cL_acts 311 = .ok (.if_icmp .ne 121, 3) := by decide +kernel
theorem dL_acts_314 : decode cL_acts 314 = .ok (.iload_n 2, 1) := by decide +kernel
theorem dL_acts_315 : decode cL_acts 315 = .ok (.iload 4, 2) := by decide +kernel
theorem dL_acts_317 : decode cL_acts 317 = .ok (.iconst 1, 1) := by decide +kernel
theorem dL_acts_318 : decode cL_acts 318 = .ok (.iadd, 1) := by decide +kernel
theorem dL_acts_319 : decode cL_acts 319 = .ok (.invokestatic 38, 3) := by decide +kernel
theorem dL_acts_322 : decode cL_acts 322 = .ok (.istore 7, 2) := by decide +kernel
theorem dL_acts_324 : decode cL_acts 324 = .ok (.iload_n 2, 1) := by decide +kernel
theorem dL_acts_325 : decode cL_acts 325 = .ok (.iconst 3, 1) := by decide +kernel
theorem dL_acts_326 : decode cL_acts 326 = .ok (.ishr, 1) := by decide +kernel
theorem dL_acts_327 : decode cL_acts 327 = .ok (.bipush 11, 2) := by decide +kernel
theorem dL_acts_329 : decode cL_acts 329 = .ok (.invokestatic 38, 3) := by decide +kernel
theorem dL_acts_332 : decode cL_acts 332 = .ok (.istore 8, 2) := by decide +kernel
theorem dL_acts_334 : decode cL_acts 334 = .ok (.iload 7, 2) := by decide +kernel
theorem dL_acts_336 : decode cL_acts 336 = .ok (.iload 4, 2) := by decide +kernel
theorem dL_acts_338 : decode cL_acts 338 = .ok (.if_icmp .eq 10, 3) := by decide +kernel
theorem dL_acts_341 : decode cL_acts 341 = .ok (.iload 8, 2) := by decide +kernel
theorem dL_acts_343 : decode cL_acts 343 = .ok (.bipush 10, 2) := by decide +kernel
theorem dL_acts_345 : decode cL_acts 345 = .ok (.if_icmp .ne 7, 3) := by decide +kernel
theorem dL_acts_348 : decode cL_acts 348 = .ok (.iconst 1, 1) := by decide +kernel
theorem dL_acts_349 : decode cL_acts 349 = .ok (.goto 4, 3) := by decide +kernel
theorem dL_acts_352 : decode cL_acts 352 = .ok (.iconst 0, 1) := by decide +kernel
theorem dL_acts_353 : decode cL_acts 353 = .ok (.istore 9, 2) := by decide +kernel
theorem dL_acts_355 : decode cL_acts 355 = .ok (.iload 7, 2) := by decide +kernel
theorem dL_acts_357 : decode cL_acts 357 = .ok (.iload 4, 2) := by decide +kernel
theorem dL_acts_359 : decode cL_acts 359 = .ok (.if_icmp .ne 7, 3) := by decide +kernel
theorem dL_acts_362 : decode cL_acts 362 = .ok (.iconst 0, 1) := by decide +kernel
theorem dL_acts_363 : decode cL_acts 363 = .ok (.goto 10, 3) := by decide +kernel
theorem dL_acts_366 : decode cL_acts 366 = .ok (.aload_n 0, 1) := by decide +kernel
theorem dL_acts_367 : decode cL_acts 367 = .ok (.iload 7, 2) := by decide +kernel
theorem dL_acts_369 : decode cL_acts 369 = .ok (.iconst 1, 1) := by decide +kernel
theorem dL_acts_370 : decode cL_acts 370 = .ok (.invokevirtual 19, 3) := by decide +kernel
theorem dL_acts_373 : decode cL_acts 373 = .ok (.istore 10, 2) := by decide +kernel
theorem dL_acts_375 : decode cL_acts 375 = .ok (.aload_n 0, 1) := by decide +kernel
theorem dL_acts_376 : decode cL_acts 376 = .ok (.iload 7, 2) := by decide +kernel
theorem dL_acts_378 : decode cL_acts 378 = .ok (.iload 8, 2) := by decide +kernel
theorem dL_acts_380 : decode cL_acts 380 = .ok (.invokevirtual 88, 3) := by decide +kernel
theorem dL_acts_383 : decode cL_acts 383 = .ok (.iload 9, 2) := by decide +kernel
theorem dL_acts_385 : decode cL_acts 385 = .ok (.ifCond .eq 7, 3) := by decide +kernel
theorem dL_acts_388 : decode cL_acts 388 = .ok (.iconst (-1), 1) := by decide +kernel
theorem dL_acts_389 : decode cL_acts 389 = .ok (.goto 5, 3) := by decide +kernel
theorem dL_acts_392 : decode cL_acts 392 = .ok (.iload 10, 2) := by decide +kernel
theorem dL_acts_394 : decode cL_acts 394 = .ok (.if_icmp .ne 36, 3) := by decide +kernel
theorem dL_acts_397 : decode cL_acts 397 = .ok (.iload 7, 2) := by decide +kernel
theorem dL_acts_399 : decode cL_acts 399 = .ok (.iload 4, 2) := by decide +kernel
theorem dL_acts_401 : decode cL_acts 401 = .ok (.if_icmp .eq 25, 3) := by decide +kernel
theorem dL_acts_404 : decode cL_acts 404 = .ok (.aload_n 0, 1) := by decide +kernel
theorem dL_acts_405 : decode cL_acts 405 = .ok (.iload 7, 2) := by decide +kernel
theorem dL_acts_407 : decode cL_acts 407 = .ok (.iconst 1, 1) := by decide +kernel
theorem dL_acts_408 : decode cL_acts 408 = .ok (.invokevirtual 19, 3) := by decide +kernel
theorem dL_acts_411 : decode cL_acts 411 = .ok (.iload 9, 2) := by decide +kernel
theorem dL_acts_413 : decode cL_acts 413 = .ok (.ifCond .eq 8, 3) := by decide +kernel
theorem dL_acts_416 : decode cL_acts 416 = .ok (.iload 10, 2) := by decide +kernel
theorem dL_acts_418 : decode cL_acts 418 = .ok (.goto 5, 3) := by decide +kernel
theorem dL_acts_421 : decode cL_acts 421 = .ok (.iload 8, 2) := by decide +kernel
theorem dL_acts_423 : decode cL_acts 423 = .ok (.if_icmp .ne 7, 3) := by decide +kernel
theorem dL_acts_426 : decode cL_acts 426 = .ok (.iconst 1, 1) := by decide +kernel
theorem dL_acts_427 : decode cL_acts 427 = .ok (.goto 4, 3) := by decide +kernel
theorem dL_acts_430 : decode cL_acts 430 = .ok (.iconst 0, 1) := by decide +kernel
theorem dL_acts_431 : decode cL_acts 431 = .ok (.ireturn, 1) := by decide +kernel
theorem dL_acts_432 : decode cL_acts 432 = .ok (.iload_n 3, 1) := by decide +kernel
theorem dL_acts_433 : decode cL_acts 433 = .ok (.bipush 8, 2) := by decide +kernel
theorem dL_acts_435 : decode cL_acts 435 = .ok (.if_icmp .ne 85, 3) := by decide +kernel
theorem dL_acts_438 : decode cL_acts 438 = .ok (.iload_n 2, 1) := by decide +kernel
theorem dL_acts_439 : decode cL_acts 439 = .ok (.bipush 10, 2) := by decide +kernel
theorem dL_acts_441 : decode cL_acts 441 = .ok (.invokestatic 38, 3) := by decide +kernel
theorem dL_acts_444 : decode cL_acts 444 = .ok (.istore 7, 2) := by decide +kernel
theorem dL_acts_446 : decode cL_acts 446 = .ok (.iload 7, 2) := by decide +kernel
theorem dL_acts_448 : decode cL_acts 448 = .ok (.ifCond .eq 10, 3) := by decide +kernel
theorem dL_acts_451 : decode cL_acts 451 = .ok (.iload 7, 2) := by decide +kernel
theorem dL_acts_453 : decode cL_acts 453 = .ok (.bipush 9, 2) := by decide +kernel
theorem dL_acts_455 : decode cL_acts 455 = .ok (.if_icmp .ne 7, 3) := by decide +kernel
theorem dL_acts_458 : decode cL_acts 458 = .ok (.iconst 1, 1) := by decide +kernel
theorem dL_acts_459 : decode cL_acts 459 = .ok (.goto 4, 3) := by decide +kernel
theorem dL_acts_462 : decode cL_acts 462 = .ok (.iconst 0, 1) := by decide +kernel
theorem dL_acts_463 : decode cL_acts 463 = .ok (.istore 8, 2) := by decide +kernel
theorem dL_acts_465 : decode cL_acts 465 = .ok (.aload_n 0, 1) := by decide +kernel
theorem dL_acts_466 : decode cL_acts 466 = .ok (.bipush 13, 2) := by decide +kernel
theorem dL_acts_468 : decode cL_acts 468 = .ok (.invokevirtual 13, 3) := by decide +kernel
theorem dL_acts_471 : decode cL_acts 471 = .ok (.istore 9, 2) := by decide +kernel
theorem dL_acts_473 : decode cL_acts 473 = .ok (.aload_n 0, 1) := by decide +kernel
theorem dL_acts_474 : decode cL_acts 474 = .ok (.iload 7, 2) := by decide +kernel
theorem dL_acts_476 : decode cL_acts 476 = .ok (.invokevirtual 91, 3) := by decide +kernel
theorem dL_acts_479 : decode cL_acts 479 = .ok (.iload 8, 2) := by decide +kernel
theorem dL_acts_481 : decode cL_acts 481 = .ok (.ifCond .eq 7, 3) := by decide +kernel
theorem dL_acts_484 : decode cL_acts 484 = .ok (.iconst (-1), 1) := by decide +kernel
theorem dL_acts_485 : decode cL_acts 485 = .ok (.goto 5, 3) := by decide +kernel
theorem dL_acts_488 : decode cL_acts 488 = .ok (.iload 9, 2) := by decide +kernel
theorem dL_acts_490 : decode cL_acts 490 = .ok (.if_icmp .ne 28, 3) := by decide +kernel
theorem dL_acts_493 : decode cL_acts 493 = .ok (.aload_n 0, 1) := by decide +kernel
theorem dL_acts_494 : decode cL_acts 494 = .ok (.bipush 13, 2) := by decide +kernel
theorem dL_acts_496 : decode cL_acts 496 = .ok (.invokevirtual 13, 3) := by decide +kernel
theorem dL_acts_499 : decode cL_acts 499 = .ok (.iload 8, 2) := by decide +kernel
theorem dL_acts_501 : decode cL_acts 501 = .ok (.ifCond .eq 8, 3) := by decide +kernel
theorem dL_acts_504 : decode cL_acts 504 = .ok (.iload 9, 2) := by decide +kernel
theorem dL_acts_506 : decode cL_acts 506 = .ok (.goto 5, 3) := by decide +kernel
theorem dL_acts_509 : decode cL_acts 509 = .ok (.iload 7, 2) := by decide +kernel
theorem dL_acts_511 : decode cL_acts 511 = .ok (.if_icmp .ne 7, 3) := by decide +kernel
theorem dL_acts_514 : decode cL_acts 514 = .ok (.iconst 1, 1) := by decide +kernel
theorem dL_acts_515 : decode cL_acts 515 = .ok (.goto 4, 3) := by decide +kernel
theorem dL_acts_518 : decode cL_acts 518 = .ok (.iconst 0, 1) := by decide +kernel
theorem dL_acts_519 : decode cL_acts 519 = .ok (.ireturn, 1) := by decide +kernel
theorem dL_acts_520 : decode cL_acts 520 = .ok (.iload_n 3, 1) := by decide +kernel
theorem dL_acts_521 : decode cL_acts 521 = .ok (.bipush 16, 2) := by decide +kernel
theorem dL_acts_523 : decode cL_acts 523 = .ok (.if_icmp .ge 256, 3) := by decide +kernel
theorem dL_acts_526 : decode cL_acts 526 = .ok (.iload_n 2, 1) := by decide +kernel
theorem dL_acts_527 : decode cL_acts 527 = .ok (.iload_n 2, 1) := by decide +kernel
theorem dL_acts_528 : decode cL_acts 528 = .ok (.bipush 9, 2) := by decide +kernel
theorem dL_acts_530 : decode cL_acts 530 = .ok (.ishr, 1) := by decide +kernel
theorem dL_acts_531 : decode cL_acts 531 = .ok (.bipush 6, 2) := by decide +kernel
theorem dL_acts_533 : decode cL_acts 533 = .ok (.invokestatic 38, 3) := by decide +kernel
theorem dL_acts_536 : decode cL_acts 536 = .ok (.ifCond .ne 8, 3) := by decide +kernel
theorem dL_acts_539 : decode cL_acts 539 = .ok (.bipush 7, 2) := by decide +kernel
theorem dL_acts_541 : decode cL_acts 541 = .ok (.goto 5, 3) := by decide +kernel
theorem dL_acts_544 : decode cL_acts 544 = .ok (.bipush 6, 2) := by decide +kernel
theorem dL_acts_546 : decode cL_acts 546 = .ok (.invokestatic 38, 3) := by decide +kernel
theorem dL_acts_549 : decode cL_acts 549 = .ok (.istore 7, 2) := by decide +kernel
theorem dL_acts_551 : decode cL_acts 551 = .ok (.iload_n 2, 1) := by decide +kernel
theorem dL_acts_552 : decode cL_acts 552 = .ok (.iconst 3, 1) := by decide +kernel
theorem dL_acts_553 : decode cL_acts 553 = .ok (.ishr, 1) := by decide +kernel
theorem dL_acts_554 : decode cL_acts 554 = .ok (.iload_n 2, 1) := by decide +kernel
theorem dL_acts_555 : decode cL_acts 555 = .ok (.bipush 10, 2) := by decide +kernel
theorem dL_acts_557 : decode cL_acts 557 = .ok (.ishr, 1) := by decide +kernel
theorem dL_acts_558 : decode cL_acts 558 = .ok (.bipush 6, 2) := by decide +kernel
theorem dL_acts_560 : decode cL_acts 560 = .ok (.invokestatic 38, 3) := by decide +kernel
theorem dL_acts_563 : decode cL_acts 563 = .ok (.ifCond .ne 8, 3) := by decide +kernel
theorem dL_acts_566 : decode cL_acts 566 = .ok (.bipush 7, 2) := by decide +kernel
theorem dL_acts_568 : decode cL_acts 568 = .ok (.goto 5, 3) := by decide +kernel
theorem dL_acts_571 : decode cL_acts 571 = .ok (.bipush 6, 2) := by decide +kernel
theorem dL_acts_573 : decode cL_acts 573 = .ok (.invokestatic 38, 3) := by decide +kernel
theorem dL_acts_576 : decode cL_acts 576 = .ok (.istore 8, 2) := by decide +kernel
theorem dL_acts_578 : decode cL_acts 578 = .ok (.iload 7, 2) := by decide +kernel
theorem dL_acts_580 : decode cL_acts 580 = .ok (.bipush 6, 2) := by decide +kernel
theorem dL_acts_582 : decode cL_acts 582 = .ok (.if_icmp .eq 17, 3) := by decide +kernel
theorem dL_acts_585 : decode cL_acts 585 = .ok (.iload 8, 2) := by decide +kernel
theorem dL_acts_587 : decode cL_acts 587 = .ok (.bipush 6, 2) := by decide +kernel
theorem dL_acts_589 : decode cL_acts 589 = .ok (.if_icmp .eq 10, 3) := by decide +kernel
theorem dL_acts_592 : decode cL_acts 592 = .ok (.iload 7, 2) := by decide +kernel
theorem dL_acts_594 : decode cL_acts 594 = .ok (.iload 8, 2) := by decide +kernel
theorem dL_acts_596 : decode cL_acts 596 = .ok (.if_icmp .ne 7, 3) := by decide +kernel
theorem dL_acts_599 : decode cL_acts 599 = .ok (.iconst 1, 1) := by decide +kernel
theorem dL_acts_600 : decode cL_acts 600 = .ok (.goto 4, 3) := by decide +kernel
theorem dL_acts_603 : decode cL_acts 603 = .ok (.iconst 0, 1) := by decide +kernel
theorem dL_acts_604 : decode cL_acts 604 = .ok (.istore 9, 2) := by decide +kernel
theorem dL_acts_606 : decode cL_acts 606 = .ok (.iload 9, 2) := by decide +kernel
theorem dL_acts_608 : decode cL_acts 608 = .ok (.ifCond .eq 7, 3) := by decide +kernel
theorem dL_acts_611 : decode cL_acts 611 = .ok (.iconst 0, 1) := by decide +kernel
theorem dL_acts_612 : decode cL_acts 612 = .ok (.goto 12, 3) := by decide +kernel
theorem dL_acts_615 : decode cL_acts 615 = .ok (.aload_n 0, 1) := by decide +kernel
theorem dL_acts_616 : decode cL_acts 616 = .ok (.iload 7, 2) := by decide +kernel
theorem dL_acts_618 : decode cL_acts 618 = .ok (.iload 8, 2) := by decide +kernel
theorem dL_acts_620 : decode cL_acts 620 = .ok (.iconst 0, 1) := by decide +kernel
theorem dL_acts_621 : decode cL_acts 621 = .ok (.invokevirtual 41, 3) := by decide +kernel
theorem dL_acts_624 : decode cL_acts 624 = .ok (.istore 10, 2) := by decide +kernel
theorem dL_acts_626 : decode cL_acts 626 = .ok (.aload_n 0, 1) := by decide +kernel
theorem dL_acts_627 : decode cL_acts 627 = .ok (.iload 7, 2) := by decide +kernel
theorem dL_acts_629 : decode cL_acts 629 = .ok (.iload 8, 2) := by decide +kernel
theorem dL_acts_631 : decode cL_acts 631 = .ok (.invokevirtual 94, 3) := by decide +kernel
theorem dL_acts_634 : decode cL_acts 634 = .ok (.istore 11, 2) := by decide +kernel
theorem dL_acts_636 : decode cL_acts 636 = .ok (.iload 11, 2) := by decide +kernel
theorem dL_acts_638 : decode cL_acts 638 = .ok (.iload 9, 2) := by decide +kernel
theorem dL_acts_640 : decode cL_acts 640 = .ok (.ifCond .eq 7, 3) := by decide +kernel
theorem dL_acts_643 : decode cL_acts 643 = .ok (.iconst (-1), 1) := by decide +kernel
theorem dL_acts_644 : decode cL_acts 644 = .ok (.goto 17, 3) := by decide +kernel
theorem dL_acts_647 : decode cL_acts 647 = .ok (.iload 5, 2) := by decide +kernel
theorem dL_acts_649 : decode cL_acts 649 = .ok (.bipush 8, 2) := by decide +kernel
theorem dL_acts_651 : decode cL_acts 651 = .ok (.if_icmp .ne 8, 3) := by decide +kernel
theorem dL_acts_654 : decode cL_acts 654 = .ok (.bipush (-3), 2) := by decide +kernel
theorem dL_acts_656 : decode cL_acts 656 = .ok (.goto 5, 3) := by decide +kernel
theorem dL_acts_659 : decode cL_acts 659 = .ok (.iload 10, 2) := by decide +kernel
theorem dL_acts_661 : decode cL_acts 661 = .ok (.if_icmp .ne 116, 3) := by decide +kernel
theorem dL_acts_664 : decode cL_acts 664 = .ok (.aload_n 0, 1) := by decide +kernel
theorem dL_acts_665 : decode cL_acts 665 = .ok (.iconst 4, 1) := by decide +kernel
theorem dL_acts_666 : decode cL_acts 666 = .ok (.invokevirtual 13, 3) := by decide +kernel
theorem dL_acts_669 : decode cL_acts 669 = .ok (.iload 5, 2) := by decide +kernel
theorem dL_acts_671 : decode cL_acts 671 = .ok (.iload 9, 2) := by decide +kernel
theorem dL_acts_673 : decode cL_acts 673 = .ok (.ifCond .ne 10, 3) := by decide +kernel
theorem dL_acts_676 : decode cL_acts 676 = .ok (.iload 5, 2) := by decide +kernel
theorem dL_acts_678 : decode cL_acts 678 = .ok (.bipush 8, 2) := by decide +kernel
theorem dL_acts_680 : decode cL_acts 680 = .ok (.if_icmp .ne 7, 3) := by decide +kernel
theorem dL_acts_683 : decode cL_acts 683 = .ok (.iconst 0, 1) := by decide +kernel
theorem dL_acts_684 : decode cL_acts 684 = .ok (.goto 4, 3) := by decide +kernel
theorem dL_acts_687 : decode cL_acts 687 = .ok (.iconst 1, 1) := by decide +kernel
theorem dL_acts_688 : decode cL_acts 688 = .ok (.iadd, 1) := by decide +kernel
theorem dL_acts_689 : decode cL_acts 689 = .ok (.if_icmp .ne 88, 3) := by decide +kernel
theorem dL_acts_692 : decode cL_acts 692 = .ok (.iload 9, 2) := by decide +kernel
theorem dL_acts_694 : decode cL_acts 694 = .ok (.ifCond .ne 79, 3) := by decide +kernel
theorem dL_acts_697 : decode cL_acts 697 = .ok (.iload 5, 2) := by decide +kernel
theorem dL_acts_699 : decode cL_acts 699 = .ok (.bipush 8, 2) := by decide +kernel
theorem dL_acts_701 : decode cL_acts 701 = .ok (.if_icmp .eq 72, 3) := by decide +kernel
theorem dL_acts_704 : decode cL_acts 704 = .ok (.aload_n 0, 1) := by decide +kernel
theorem dL_acts_705 : decode cL_acts 705 = .ok (.iload 5, 2) := by decide +kernel
theorem dL_acts_707 : decode cL_acts 707 = .ok (.iconst 0, 1) := by decide +kernel
theorem dL_acts_708 : decode cL_acts 708 = .ok (.invokevirtual 26, 3) := by decide +kernel
theorem dL_acts_711 : decode cL_acts 711 = .ok (.iload 8, 2) := by decide +kernel
theorem dL_acts_713 : decode cL_acts 713 = .ok (.if_icmp .ne 64, 3) := by decide +kernel
theorem dL_acts_716 : decode cL_acts 716 = .ok (.aload_n 0, 1) := by decide +kernel
theorem dL_acts_717 : decode cL_acts 717 = .ok (.iload 5, 2) := by decide +kernel
theorem dL_acts_719 : decode cL_acts 719 = .ok (.iconst 1, 1) := by decide +kernel
theorem dL_acts_720 : decode cL_acts 720 = .ok (.invokevirtual 26, 3) := by decide +kernel
theorem dL_acts_723 : decode cL_acts 723 = .ok (.iload 7, 2) := by decide +kernel
theorem dL_acts_725 : decode cL_acts 725 = .ok (.if_icmp .ne 52, 3) := by decide +kernel
theorem dL_acts_728 : decode cL_acts 728 = .ok (.aload_n 0, 1) := by decide +kernel
theorem dL_acts_729 : decode cL_acts 729 = .ok (.iload 5, 2) := by decide +kernel
theorem dL_acts_731 : decode cL_acts 731 = .ok (.iconst 4, 1) := by decide +kernel
theorem dL_acts_732 : decode cL_acts 732 = .ok (.invokevirtual 26, 3) := by decide +kernel
theorem dL_acts_735 : decode cL_acts 735 = .ok (.iload 10, 2) := by decide +kernel
theorem dL_acts_737 : decode cL_acts 737 = .ok (.if_icmp .ne 40, 3) := by decide +kernel
theorem dL_acts_740 : decode cL_acts 740 = .ok (.aload_n 0, 1) := by decide +kernel
theorem dL_acts_741 : decode cL_acts 741 = .ok (.iload 5, 2) := by decide +kernel
theorem dL_acts_743 : decode cL_acts 743 = .ok (.bipush 8, 2) := by decide +kernel
theorem dL_acts_745 : decode cL_acts 745 = .ok (.invokevirtual 26, 3) := by decide +kernel
theorem dL_acts_748 : decode cL_acts 748 = .ok (.iload 6, 2) := by decide +kernel
theorem dL_acts_750 : decode cL_acts 750 = .ok (.if_icmp .ne 27, 3) := by decide +kernel
theorem dL_acts_753 : decode cL_acts 753 = .ok (.aload_n 0, 1) := by decide +kernel
theorem dL_acts_754 : decode cL_acts 754 = .ok (.iload 5, 2) := by decide +kernel
theorem dL_acts_756 : decode cL_acts 756 = .ok (.bipush 6, 2) := by decide +kernel
theorem dL_acts_758 : decode cL_acts 758 = .ok (.invokevirtual 26, 3) := by decide +kernel
theorem dL_acts_761 : decode cL_acts 761 = .ok (.aload_n 0, 1) := by decide +kernel
theorem dL_acts_762 : decode cL_acts 762 = .ok (.iload 5, 2) := by decide +kernel
theorem dL_acts_764 : decode cL_acts 764 = .ok (.bipush 7, 2) := by decide +kernel
theorem dL_acts_766 : decode cL_acts 766 = .ok (.invokevirtual 26, 3) := by decide +kernel
theorem dL_acts_769 : decode cL_acts 769 = .ok (.iadd, 1) := by decide +kernel
theorem dL_acts_770 : decode cL_acts 770 = .ok (.ifCond .ne 7, 3) := by decide +kernel
theorem dL_acts_773 : decode cL_acts 773 = .ok (.iconst 1, 1) := by decide +kernel
theorem dL_acts_774 : decode cL_acts 774 = .ok (.goto 4, 3) := by decide +kernel
theorem dL_acts_777 : decode cL_acts 777 = .ok (.iconst 0, 1) := by decide +kernel
theorem dL_acts_778 : decode cL_acts 778 = .ok (.ireturn, 1) := by decide +kernel
theorem dL_acts_779 : decode cL_acts 779 = .ok (.iload_n 3, 1) := by decide +kernel
theorem dL_acts_780 : decode cL_acts 780 = .ok (.bipush 18, 2) := by decide +kernel
theorem dL_acts_782 : decode cL_acts 782 = .ok (.if_icmp .ge 98, 3) := by decide +kernel
theorem dL_acts_785 : decode cL_acts 785 = .ok (.iload_n 2, 1) := by decide +kernel
theorem dL_acts_786 : decode cL_acts 786 = .ok (.iload 5, 2) := by decide +kernel
theorem dL_acts_788 : decode cL_acts 788 = .ok (.iconst 1, 1) := by decide +kernel
theorem dL_acts_789 : decode cL_acts 789 = .ok (.iadd, 1) := by decide +kernel
theorem dL_acts_790 : decode cL_acts 790 = .ok (.invokestatic 38, 3) := by decide +kernel
theorem dL_acts_793 : decode cL_acts 793 = .ok (.istore 7, 2) := by decide +kernel
theorem dL_acts_795 : decode cL_acts 795 = .ok (.aload_n 0, 1) := by decide +kernel
theorem dL_acts_796 : decode cL_acts 796 = .ok (.bipush 11, 2) := by decide +kernel
theorem dL_acts_798 : decode cL_acts 798 = .ok (.invokevirtual 13, 3) := by decide +kernel
theorem dL_acts_801 : decode cL_acts 801 = .ok (.istore 8, 2) := by decide +kernel
theorem dL_acts_803 : decode cL_acts 803 = .ok (.aload_n 0, 1) := by decide +kernel
theorem dL_acts_804 : decode cL_acts 804 = .ok (.iload 7, 2) := by decide +kernel
theorem dL_acts_806 : decode cL_acts 806 = .ok (.invokevirtual 97, 3) := by decide +kernel
theorem dL_acts_809 : decode cL_acts 809 = .ok (.iload 7, 2) := by decide +kernel
theorem dL_acts_811 : decode cL_acts 811 = .ok (.iload 5, 2) := by decide +kernel
theorem dL_acts_813 : decode cL_acts 813 = .ok (.if_icmp .ne 7, 3) := by decide +kernel
theorem dL_acts_816 : decode cL_acts 816 = .ok (.iconst (-1), 1) := by decide +kernel
theorem dL_acts_817 : decode cL_acts 817 = .ok (.goto 7, 3) := by decide +kernel
theorem dL_acts_820 : decode cL_acts 820 = .ok (.iload 5, 2) := by decide +kernel
theorem dL_acts_822 : decode cL_acts 822 = .ok (.iconst 1, 1) := by decide +kernel
theorem dL_acts_823 : decode cL_acts 823 = .ok (.isub, 1) := by decide +kernel
theorem dL_acts_824 : decode cL_acts 824 = .ok (.if_icmp .ne 54, 3) := by decide +kernel
theorem dL_acts_827 : decode cL_acts 827 = .ok (.aload_n 0, 1) := by decide +kernel
theorem dL_acts_828 : decode cL_acts 828 = .ok (.bipush 11, 2) := by decide +kernel
theorem dL_acts_830 : decode cL_acts 830 = .ok (.invokevirtual 13, 3) := by decide +kernel
theorem dL_acts_833 : decode cL_acts 833 = .ok (.iload 8, 2) := by decide +kernel
theorem dL_acts_835 : decode cL_acts 835 = .ok (.iload 7, 2) := by decide +kernel
theorem dL_acts_837 : decode cL_acts 837 = .ok (.iload 5, 2) := by decide +kernel
theorem dL_acts_839 : decode cL_acts 839 = .ok (.if_icmp .ne 7, 3) := by decide +kernel
theorem dL_acts_842 : decode cL_acts 842 = .ok (.iconst 0, 1) := by decide +kernel
theorem dL_acts_843 : decode cL_acts 843 = .ok (.goto 4, 3) := by decide +kernel
theorem dL_acts_846 : decode cL_acts 846 = .ok (.iconst 1, 1) := by decide +kernel
theorem dL_acts_847 : decode cL_acts 847 = .ok (.iadd, 1) := by decide +kernel
theorem dL_acts_848 : decode cL_acts 848 = .ok (.if_icmp .ne 30, 3) := by decide +kernel
theorem dL_acts_851 : decode cL_acts 851 = .ok (.aload_n 0, 1) := by decide +kernel
theorem dL_acts_852 : decode cL_acts 852 = .ok (.iconst 4, 1) := by decide +kernel
theorem dL_acts_853 : decode cL_acts 853 = .ok (.invokevirtual 13, 3) := by decide +kernel
theorem dL_acts_856 : decode cL_acts 856 = .ok (.iload 5, 2) := by decide +kernel
theorem dL_acts_858 : decode cL_acts 858 = .ok (.iload 7, 2) := by decide +kernel
theorem dL_acts_860 : decode cL_acts 860 = .ok (.iload 5, 2) := by decide +kernel
theorem dL_acts_862 : decode cL_acts 862 = .ok (.if_icmp .ne 7, 3) := by decide +kernel
theorem dL_acts_865 : decode cL_acts 865 = .ok (.iconst 0, 1) := by decide +kernel
theorem dL_acts_866 : decode cL_acts 866 = .ok (.goto 4, 3) := by decide +kernel
theorem dL_acts_869 : decode cL_acts 869 = .ok (.iconst 1, 1) := by decide +kernel
theorem dL_acts_870 : decode cL_acts 870 = .ok (.isub, 1) := by decide +kernel
theorem dL_acts_871 : decode cL_acts 871 = .ok (.if_icmp .ne 7, 3) := by decide +kernel
theorem dL_acts_874 : decode cL_acts 874 = .ok (.iconst 1, 1) := by decide +kernel
theorem dL_acts_875 : decode cL_acts 875 = .ok (.goto 4, 3) := by decide +kernel
theorem dL_acts_878 : decode cL_acts 878 = .ok (.iconst 0, 1) := by decide +kernel
theorem dL_acts_879 : decode cL_acts 879 = .ok (.ireturn, 1) := by decide +kernel
theorem dL_acts_880 : decode cL_acts 880 = .ok (.iload_n 3, 1) := by decide +kernel
theorem dL_acts_881 : decode cL_acts 881 = .ok (.bipush 25, 2) := by decide +kernel
theorem dL_acts_883 : decode cL_acts 883 = .ok (.if_icmp .ge 173, 3) := by decide +kernel
theorem dL_acts_886 : decode cL_acts 886 = .ok (.iload_n 2, 1) := by decide +kernel
theorem dL_acts_887 : decode cL_acts 887 = .ok (.iload_n 2, 1) := by decide +kernel
theorem dL_acts_888 : decode cL_acts 888 = .ok (.bipush 7, 2) := by decide +kernel
theorem dL_acts_890 : decode cL_acts 890 = .ok (.ishr, 1) := by decide +kernel
theorem dL_acts_891 : decode cL_acts 891 = .ok (.iconst 5, 1) := by decide +kernel
theorem dL_acts_892 : decode cL_acts 892 = .ok (.invokestatic 38, 3) := by decide +kernel
theorem dL_acts_895 : decode cL_acts 895 = .ok (.ifCond .ne 8, 3) := by decide +kernel
theorem dL_acts_898 : decode cL_acts 898 = .ok (.bipush 32, 2) := by decide +kernel
theorem dL_acts_900 : decode cL_acts 900 = .ok (.goto 4, 3) := by decide +kernel
theorem dL_acts_903 : decode cL_acts 903 = .ok (.iconst 5, 1) := by decide +kernel
theorem dL_acts_904 : decode cL_acts 904 = .ok (.invokestatic 38, 3) := by decide +kernel
theorem dL_acts_907 : decode cL_acts 907 = .ok (.istore 7, 2) := by decide +kernel
theorem dL_acts_909 : decode cL_acts 909 = .ok (.iload 7, 2) := by decide +kernel
theorem dL_acts_911 : decode cL_acts 911 = .ok (.ifCond .eq 10, 3) := by decide +kernel
theorem dL_acts_914 : decode cL_acts 914 = .ok (.iload 7, 2) := by decide +kernel
theorem dL_acts_916 : decode cL_acts 916 = .ok (.bipush 31, 2) := by decide +kernel
theorem dL_acts_918 : decode cL_acts 918 = .ok (.if_icmp .ne 7, 3) := by decide +kernel
theorem dL_acts_921 : decode cL_acts 921 = .ok (.iconst 1, 1) := by decide +kernel
theorem dL_acts_922 : decode cL_acts 922 = .ok (.goto 4, 3) := by decide +kernel
theorem dL_acts_925 : decode cL_acts 925 = .ok (.iconst 0, 1) := by decide +kernel
theorem dL_acts_926 : decode cL_acts 926 = .ok (.istore 8, 2) := by decide +kernel
theorem dL_acts_928 : decode cL_acts 928 = .ok (.iload 8, 2) := by decide +kernel
theorem dL_acts_930 : decode cL_acts 930 = .ok (.ifCond .eq 7, 3) := by decide +kernel
theorem dL_acts_933 : decode cL_acts 933 = .ok (.iconst 0, 1) := by decide +kernel
theorem dL_acts_934 : decode cL_acts 934 = .ok (.goto 10, 3) := by decide +kernel
theorem dL_acts_937 : decode cL_acts 937 = .ok (.aload_n 0, 1) := by decide +kernel
theorem dL_acts_938 : decode cL_acts 938 = .ok (.iload 7, 2) := by decide +kernel
theorem dL_acts_940 : decode cL_acts 940 = .ok (.iconst 0, 1) := by decide +kernel
theorem dL_acts_941 : decode cL_acts 941 = .ok (.invokevirtual 51, 3) := by decide +kernel
theorem dL_acts_944 : decode cL_acts 944 = .ok (.istore 9, 2) := by decide +kernel
theorem dL_acts_946 : decode cL_acts 946 = .ok (.aload_n 0, 1) := by decide +kernel
theorem dL_acts_947 : decode cL_acts 947 = .ok (.bipush 12, 2) := by decide +kernel
theorem dL_acts_949 : decode cL_acts 949 = .ok (.invokevirtual 13, 3) := by decide +kernel
theorem dL_acts_952 : decode cL_acts 952 = .ok (.iload 8, 2) := by decide +kernel
theorem dL_acts_954 : decode cL_acts 954 = .ok (.ifCond .eq 7, 3) := by decide +kernel
theorem dL_acts_957 : decode cL_acts 957 = .ok (.iconst 0, 1) := by decide +kernel
theorem dL_acts_958 : decode cL_acts 958 = .ok (.goto 10, 3) := by decide +kernel
theorem dL_acts_961 : decode cL_acts 961 = .ok (.aload_n 0, 1) := by decide +kernel
theorem dL_acts_962 : decode cL_acts 962 = .ok (.iload 7, 2) := by decide +kernel
theorem dL_acts_964 : decode cL_acts 964 = .ok (.iconst 1, 1) := by decide +kernel
theorem dL_acts_965 : decode cL_acts 965 = .ok (.invokevirtual 51, 3) := by decide +kernel
theorem dL_acts_968 : decode cL_acts 968 = .ok (.iadd, 1) := by decide +kernel
theorem dL_acts_969 : decode cL_acts 969 = .ok (.istore 10, 2) := by decide +kernel
theorem dL_acts_971 : decode cL_acts 971 = .ok (.aload_n 0, 1) := by decide +kernel
theorem dL_acts_972 : decode cL_acts 972 = .ok (.bipush 7, 2) := by decide +kernel
theorem dL_acts_974 : decode cL_acts 974 = .ok (.invokevirtual 13, 3) := by decide +kernel
theorem dL_acts_977 : decode cL_acts 977 = .ok (.istore 11, 2) := by decide +kernel
theorem dL_acts_979 : decode cL_acts 979 = .ok (.aload_n 0, 1) := by decide +kernel
theorem dL_acts_980 : decode cL_acts 980 = .ok (.iload 7, 2) := by decide +kernel
theorem dL_acts_982 : decode cL_acts 982 = .ok (.invokevirtual 100, 3) := by decide +kernel
theorem dL_acts_985 : decode cL_acts 985 = .ok (.istore 12, 2) := by decide +kernel
theorem dL_acts_987 : decode cL_acts 987 = .ok (.iload 12, 2) := by decide +kernel
theorem dL_acts_989 : decode cL_acts 989 = .ok (.iload 8, 2) := by decide +kernel
theorem dL_acts_991 : decode cL_acts 991 = .ok (.ifCond .eq 7, 3) := by decide +kernel
theorem dL_acts_994 : decode cL_acts 994 = .ok (.iconst (-1), 1) := by decide +kernel
theorem dL_acts_995 : decode cL_acts 995 = .ok (.goto 5, 3) := by decide +kernel
theorem dL_acts_998 : decode cL_acts 998 = .ok (.iload 9, 2) := by decide +kernel
theorem dL_acts_1000 : decode cL_acts 1000 = .ok (.if_icmp .ne 54, 3) := by decide +kernel
theorem dL_acts_1003 : decode cL_acts 1003 = .ok (.aload_n 0, 1) := by decide +kernel
theorem dL_acts_1004 : decode cL_acts 1004 = .ok (.iconst 0, 1) := by decide +kernel
theorem dL_acts_1005 : decode cL_acts 1005 = .ok (.invokevirtual 13, 3) := by decide +kernel
theorem dL_acts_1008 : decode cL_acts 1008 = .ok (.iload 6, 2) := by decide +kernel
theorem dL_acts_1010 : decode cL_acts 1010 = .ok (.iload 8, 2) := by decide +kernel
theorem dL_acts_1012 : decode cL_acts 1012 = .ok (.ifCond .eq 7, 3) := by decide +kernel
theorem dL_acts_1015 : decode cL_acts 1015 = .ok (.iconst 0, 1) := by decide +kernel
theorem dL_acts_1016 : decode cL_acts 1016 = .ok (.goto 5, 3) := by decide +kernel
theorem dL_acts_1019 : decode cL_acts 1019 = .ok (.iload 7, 2) := by decide +kernel
theorem dL_acts_1021 : decode cL_acts 1021 = .ok (.iadd, 1) := by decide +kernel
theorem dL_acts_1022 : decode cL_acts 1022 = .ok (.if_icmp .ne 32, 3) := by decide +kernel
theorem dL_acts_1025 : decode cL_acts 1025 = .ok (.aload_n 0, 1) := by decide +kernel
theorem dL_acts_1026 : decode cL_acts 1026 = .ok (.bipush 12, 2) := by decide +kernel
theorem dL_acts_1028 : decode cL_acts 1028 = .ok (.invokevirtual 13, 3) := by decide +kernel
theorem dL_acts_1031 : decode cL_acts 1031 = .ok (.iload 10, 2) := by decide +kernel
theorem dL_acts_1033 : decode cL_acts 1033 = .ok (.if_icmp .ne 21, 3) := by decide +kernel
theorem dL_acts_1036 : decode cL_acts 1036 = .ok (.aload_n 0, 1) := by decide +kernel
theorem dL_acts_1037 : decode cL_acts 1037 = .ok (.bipush 7, 2) := by decide +kernel
theorem dL_acts_1039 : decode cL_acts 1039 = .ok (.invokevirtual 13, 3) := by decide +kernel
theorem dL_acts_1042 : decode cL_acts 1042 = .ok (.iload 11, 2) := by decide +kernel
theorem dL_acts_1044 : decode cL_acts 1044 = .ok (.iload 9, 2) := by decide +kernel
theorem dL_acts_1046 : decode cL_acts 1046 = .ok (.iadd, 1) := by decide +kernel
theorem dL_acts_1047 : decode cL_acts 1047 = .ok (.if_icmp .ne 7, 3) := by decide +kernel
theorem dL_acts_1050 : decode cL_acts 1050 = .ok (.iconst 1, 1) := by decide +kernel
theorem dL_acts_1051 : decode cL_acts 1051 = .ok (.goto 4, 3) := by decide +kernel
theorem dL_acts_1054 : decode cL_acts 1054 = .ok (.iconst 0, 1) := by decide +kernel
theorem dL_acts_1055 : decode cL_acts 1055 = .ok (.ireturn, 1) := by decide +kernel
theorem dL_acts_1056 : decode cL_acts 1056 = .ok (.aload_n 0, 1) := by decide +kernel
theorem dL_acts_1057 : decode cL_acts 1057 = .ok (.iload_n 2, 1) := by decide +kernel
theorem dL_acts_1058 : decode cL_acts 1058 = .ok (.invokestatic 103, 3) := by decide +kernel
theorem dL_acts_1061 : decode cL_acts 1061 = .ok (.ireturn, 1) := by decide +kernel
theorem dL_law_0 : decode cL_law 0 = .ok (.new 14, 3) := by decide +kernel
theorem dL_law_3 : decode cL_law 3 = .ok (.dup, 1) := by decide +kernel
theorem dL_law_4 : decode cL_law 4 = .ok (.invokespecial 107, 3) := by decide +kernel
theorem dL_law_7 : decode cL_law 7 = .ok (.astore_n 1, 1) := by decide +kernel
theorem dL_law_8 : decode cL_law 8 = .ok (.aload_n 1, 1) := by decide +kernel
theorem dL_law_9 : decode cL_law 9 = .ok (.invokestatic 108, 3) := by decide +kernel
theorem dL_law_12 : decode cL_law 12 = .ok (.ifCond .eq 40, 3) := by decide +kernel
theorem dL_law_15 : decode cL_law 15 = .ok (.aload_n 1, 1) := by decide +kernel
theorem dL_law_16 : decode cL_law 16 = .ok (.iconst 0, 1) := by decide +kernel
theorem dL_law_17 : decode cL_law 17 = .ok (.invokestatic 112, 3) := by decide +kernel
theorem dL_law_20 : decode cL_law 20 = .ok (.ifCond .eq 32, 3) := by decide +kernel
theorem dL_law_23 : decode cL_law 23 = .ok (.aload_n 1, 1) := by decide +kernel
theorem dL_law_24 : decode cL_law 24 = .ok (.invokevirtual 115, 3) := by decide +kernel
theorem dL_law_27 : decode cL_law 27 = .ok (.bipush (-2), 2) := by decide +kernel
theorem dL_law_29 : decode cL_law 29 = .ok (.if_icmp .ne 23, 3) := by decide +kernel
theorem dL_law_32 : decode cL_law 32 = .ok (.aload_n 1, 1) := by decide +kernel
theorem dL_law_33 : decode cL_law 33 = .ok (.invokevirtual 118, 3) := by decide +kernel
theorem dL_law_36 : decode cL_law 36 = .ok (.bipush (-2), 2) := by decide +kernel
theorem dL_law_38 : decode cL_law 38 = .ok (.if_icmp .ne 14, 3) := by decide +kernel
theorem dL_law_41 : decode cL_law 41 = .ok (.aload_n 1, 1) := by decide +kernel
theorem dL_law_42 : decode cL_law 42 = .ok (.invokevirtual 121, 3) := by decide +kernel
theorem dL_law_45 : decode cL_law 45 = .ok (.ifCond .ne 7, 3) := by decide +kernel
theorem dL_law_48 : decode cL_law 48 = .ok (.iconst 1, 1) := by decide +kernel
theorem dL_law_49 : decode cL_law 49 = .ok (.goto 4, 3) := by decide +kernel
theorem dL_law_52 : decode cL_law 52 = .ok (.iconst 0, 1) := by decide +kernel
theorem dL_law_53 : decode cL_law 53 = .ok (.istore_n 2, 1) := by decide +kernel
theorem dL_law_54 : decode cL_law 54 = .ok (.aload_n 1, 1) := by decide +kernel
theorem dL_law_55 : decode cL_law 55 = .ok (.invokestatic 69, 3) := by decide +kernel
theorem dL_law_58 : decode cL_law 58 = .ok (.lstore_n 3, 1) := by decide +kernel
theorem dL_law_59 : decode cL_law 59 = .ok (.iconst 0, 1) := by decide +kernel
theorem dL_law_60 : decode cL_law 60 = .ok (.istore 5, 2) := by decide +kernel
theorem dL_law_62 : decode cL_law 62 = .ok (.iload 5, 2) := by decide +kernel
theorem dL_law_64 : decode cL_law 64 = .ok (.bipush 54, 2) := by decide +kernel
theorem dL_law_66 : decode cL_law 66 = .ok (.if_icmp .ge 326, 3) := by decide +kernel
theorem dL_law_69 : decode cL_law 69 = .ok (.iload_n 2, 1) := by decide +kernel
theorem dL_law_70 : decode cL_law 70 = .ok (.ifCond .eq 322, 3) := by decide +kernel
theorem dL_law_73 : decode cL_law 73 = .ok (.iload 5, 2) := by decide +kernel
theorem dL_law_75 : decode cL_law 75 = .ok (.iconst 2, 1) := by decide +kernel
theorem dL_law_76 : decode cL_law 76 = .ok (.if_icmp .ge 8, 3) := by decide +kernel
theorem dL_law_79 : decode cL_law 79 = .ok (.bipush 29, 2) := by decide +kernel
theorem dL_law_81 : decode cL_law 81 = .ok (.goto 11, 3) := by decide +kernel
theorem dL_law_84 : decode cL_law 84 = .ok (.aload_n 0, 1) := by decide +kernel
theorem dL_law_85 : decode cL_law 85 = .ok (.iconst 2, 1) := by decide +kernel
theorem dL_law_86 : decode cL_law 86 = .ok (.iload 5, 2) := by decide +kernel
theorem dL_law_88 : decode cL_law 88 = .ok (.imul, 1) := by decide +kernel
theorem dL_law_89 : decode cL_law 89 = .ok (.invokestatic 124, 3) := by decide +kernel
theorem dL_law_92 : decode cL_law 92 = .ok (.istore 6, 2) := by decide +kernel
theorem dL_law_94 : decode cL_law 94 = .ok (.aload_n 0, 1) := by decide +kernel
theorem dL_law_95 : decode cL_law 95 = .ok (.iconst 2, 1) := by decide +kernel
theorem dL_law_96 : decode cL_law 96 = .ok (.iload 5, 2) := by decide +kernel
theorem dL_law_98 : decode cL_law 98 = .ok (.imul, 1) := by decide +kernel
theorem dL_law_99 : decode cL_law 99 = .ok (.iconst 1, 1) := by decide +kernel
theorem dL_law_100 : decode cL_law 100 = .ok (.iadd, 1) := by decide +kernel
theorem dL_law_101 : decode cL_law 101 = .ok (.invokestatic 124, 3) := by decide +kernel
theorem dL_law_104 : decode cL_law 104 = .ok (.istore 7, 2) := by decide +kernel
theorem dL_law_106 : decode cL_law 106 = .ok (.aload_n 1, 1) := by decide +kernel
theorem dL_law_107 : decode cL_law 107 = .ok (.invokestatic 69, 3) := by decide +kernel
theorem dL_law_110 : decode cL_law 110 = .ok (.lstore 8, 2) := by decide +kernel
theorem dL_law_112 : decode cL_law 112 = .ok (.aload_n 1, 1) := by decide +kernel
theorem dL_law_113 : decode cL_law 113 = .ok (.bipush 16, 2) := by decide +kernel
theorem dL_law_115 : decode cL_law 115 = .ok (.invokevirtual 13, 3) := by decide +kernel
theorem dL_law_118 : decode cL_law 118 = .ok (.istore 10, 2) := by decide +kernel
theorem dL_law_120 : decode cL_law 120 = .ok (.aload_n 1, 1) := by decide +kernel
theorem dL_law_121 : decode cL_law 121 = .ok (.iload 6, 2) := by decide +kernel
theorem dL_law_123 : decode cL_law 123 = .ok (.iload 7, 2) := by decide +kernel
theorem dL_law_125 : decode cL_law 125 = .ok (.invokestatic 128, 3) := by decide +kernel
theorem dL_law_128 : decode cL_law 128 = .ok (.ifCond .eq 38, 3) := by decide +kernel
theorem dL_law_131 : decode cL_law 131 = .ok (.iload 5, 2) := by decide +kernel
theorem dL_law_133 : decode cL_law 133 = .ok (.iconst 3, 1) := by decide +kernel
theorem dL_law_134 : decode cL_law 134 = .ok (.irem, 1) := by decide +kernel
theorem dL_law_135 : decode cL_law 135 = .ok (.ifCond .gt 10, 3) := by decide +kernel
theorem dL_law_138 : decode cL_law 138 = .ok (.aload_n 1, 1) := by decide +kernel
theorem dL_law_139 : decode cL_law 139 = .ok (.invokestatic 108, 3) := by decide +kernel
theorem dL_law_142 : decode cL_law 142 = .ok (.ifCond .eq 24, 3) := by decide +kernel
theorem dL_law_145 : decode cL_law 145 = .ok (.iload 5, 2) := by decide +kernel
theorem dL_law_147 : decode cL_law 147 = .ok (.iconst 4, 1) := by decide +kernel
theorem dL_law_148 : decode cL_law 148 = .ok (.irem, 1) := by decide +kernel
theorem dL_law_149 : decode cL_law 149 = .ok (.iconst 2, 1) := by decide +kernel
theorem dL_law_150 : decode cL_law 150 = .ok (.if_icmp .ne 12, 3) := by decide +kernel
theorem dL_law_153 : decode cL_law 153 = .ok (.aload_n 1, 1) := by decide +kernel
theorem dL_law_154 : decode cL_law 154 = .ok (.iload 7, 2) := by decide +kernel
theorem dL_law_156 : decode cL_law 156 = .ok (.invokestatic 112, 3) := by decide +kernel
theorem dL_law_159 : decode cL_law 159 = .ok (.ifCond .eq 7, 3) := by decide +kernel
theorem dL_law_162 : decode cL_law 162 = .ok (.iconst 1, 1) := by decide +kernel
theorem dL_law_163 : decode cL_law 163 = .ok (.goto 4, 3) := by decide +kernel
theorem dL_law_166 : decode cL_law 166 = .ok (.iconst 0, 1) := by decide +kernel
theorem dL_law_167 : decode cL_law 167 = .ok (.istore_n 2, 1) := by decide +kernel
theorem dL_law_168 : decode cL_law 168 = .ok (.aload_n 1, 1) := by decide +kernel
theorem dL_law_169 : decode cL_law 169 = .ok (.bipush 16, 2) := by decide +kernel
theorem dL_law_171 : decode cL_law 171 = .ok (.invokevirtual 13, 3) := by decide +kernel
theorem dL_law_174 : decode cL_law 174 = .ok (.istore 11, 2) := by decide +kernel
theorem dL_law_176 : decode cL_law 176 = .ok (.iload_n 2, 1) := by decide +kernel
theorem dL_law_177 : decode cL_law 177 = .ok (.ifCond .eq 39, 3) := by decide +kernel
theorem dL_law_180 : decode cL_law 180 = .ok (.iload 11, 2) := by decide +kernel
theorem dL_law_182 : decode cL_law 182 = .ok (.iload 10, 2) := by decide +kernel
theorem dL_law_184 : decode cL_law 184 = .ok (.if_icmp .ne 19, 3) := by decide +kernel
theorem dL_law_187 : decode cL_law 187 = .ok (.iload 10, 2) := by decide +kernel
theorem dL_law_189 : decode cL_law 189 = .ok (.iconst 4, 1) := by decide +kernel
theorem dL_law_190 : decode cL_law 190 = .ok (.if_icmp .eq 22, 3) := by decide +kernel
theorem dL_law_193 : decode cL_law 193 = .ok (.aload_n 1, 1) := by decide +kernel
theorem dL_law_194 : decode cL_law 194 = .ok (.invokestatic 69, 3) := by decide +kernel
theorem dL_law_197 : decode cL_law 197 = .ok (.lload 8, 2) := by decide +kernel
theorem dL_law_199 : decode cL_law 199 = .ok (.lcmp, 1) := by decide +kernel
theorem dL_law_200 : decode cL_law 200 = .ok (.ifCond .eq 12, 3) := by decide +kernel
theorem dL_law_203 : decode cL_law 203 = .ok (.iload 11, 2) := by decide +kernel
theorem dL_law_205 : decode cL_law 205 = .ok (.iload 10, 2) := by decide +kernel
theorem dL_law_207 : decode cL_law 207 = .ok (.iconst 1, 1) := by decide +kernel
theorem dL_law_208 : decode cL_law 208 = .ok (.iadd, 1) := by decide +kernel
theorem dL_law_209 : decode cL_law 209 = .ok (.if_icmp .ne 7, 3) := by decide +kernel
theorem dL_law_212 : decode cL_law 212 = .ok (.iconst 1, 1) := by decide +kernel
theorem dL_law_213 : decode cL_law 213 = .ok (.goto 4, 3) := by decide +kernel
theorem dL_law_216 : decode cL_law 216 = .ok (.iconst 0, 1) := by decide +kernel
theorem dL_law_217 : decode cL_law 217 = .ok (.istore_n 2, 1) := by decide +kernel
theorem dL_law_218 : decode cL_law 218 = .ok (.iload_n 2, 1) := by decide +kernel
theorem dL_law_219 : decode cL_law 219 = .ok (.ifCond .eq 49, 3) := by decide +kernel
theorem dL_law_222 : decode cL_law 222 = .ok (.iload 11, 2) := by decide +kernel
theorem dL_law_224 : decode cL_law 224 = .ok (.iload 10, 2) := by decide +kernel
theorem dL_law_226 : decode cL_law 226 = .ok (.iconst 1, 1) := by decide +kernel
theorem dL_law_227 : decode cL_law 227 = .ok (.iadd, 1) := by decide +kernel
theorem dL_law_228 : decode cL_law 228 = .ok (.if_icmp .ne 40, 3) := by decide +kernel
theorem dL_law_231 : decode cL_law 231 = .ok (.iload 7, 2) := by decide +kernel
theorem dL_law_233 : decode cL_law 233 = .ok (.bipush 8, 2) := by decide +kernel
theorem dL_law_235 : decode cL_law 235 = .ok (.ishr, 1) := by decide +kernel
theorem dL_law_236 : decode cL_law 236 = .ok (.iconst 3, 1) := by decide +kernel
theorem dL_law_237 : decode cL_law 237 = .ok (.invokestatic 38, 3) := by decide +kernel
theorem dL_law_240 : decode cL_law 240 = .ok (.ifCond .ne 28, 3) := by decide +kernel
theorem dL_law_243 : decode cL_law 243 = .ok (.aload_n 1, 1) := by decide +kernel
theorem dL_law_244 : decode cL_law 244 = .ok (.invokevirtual 115, 3) := by decide +kernel
theorem dL_law_247 : decode cL_law 247 = .ok (.iload 10, 2) := by decide +kernel
theorem dL_law_249 : decode cL_law 249 = .ok (.if_icmp .ne 17, 3) := by decide +kernel
theorem dL_law_252 : decode cL_law 252 = .ok (.aload_n 1, 1) := by decide +kernel
theorem dL_law_253 : decode cL_law 253 = .ok (.invokestatic 69, 3) := by decide +kernel
theorem dL_law_256 : decode cL_law 256 = .ok (.lload 8, 2) := by decide +kernel
theorem dL_law_258 : decode cL_law 258 = .ok (.lcmp, 1) := by decide +kernel
theorem dL_law_259 : decode cL_law 259 = .ok (.ifCond .ne 7, 3) := by decide +kernel
theorem dL_law_262 : decode cL_law 262 = .ok (.iconst 1, 1) := by decide +kernel
theorem dL_law_263 : decode cL_law 263 = .ok (.goto 4, 3) := by decide +kernel
theorem dL_law_266 : decode cL_law 266 = .ok (.iconst 0, 1) := by decide +kernel
theorem dL_law_267 : decode cL_law 267 = .ok (.istore_n 2, 1) := by decide +kernel
theorem dL_law_268 : decode cL_law 268 = .ok (.iload_n 2, 1) := by decide +kernel
theorem dL_law_269 : decode cL_law 269 = .ok (.ifCond .eq 68, 3) := by decide +kernel
theorem dL_law_272 : decode cL_law 272 = .ok (.iload 5, 2) := by decide +kernel
theorem dL_law_274 : decode cL_law 274 = .ok (.bipush 15, 2) := by decide +kernel
theorem dL_law_276 : decode cL_law 276 = .ok (.irem, 1) := by decide +kernel
theorem dL_law_277 : decode cL_law 277 = .ok (.bipush 14, 2) := by decide +kernel
theorem dL_law_279 : decode cL_law 279 = .ok (.if_icmp .ne 58, 3) := by decide +kernel
theorem dL_law_282 : decode cL_law 282 = .ok (.aload_n 1, 1) := by decide +kernel
theorem dL_law_283 : decode cL_law 283 = .ok (.invokevirtual 118, 3) := by decide +kernel
theorem dL_law_286 : decode cL_law 286 = .ok (.istore 12, 2) := by decide +kernel
theorem dL_law_288 : decode cL_law 288 = .ok (.iload 12, 2) := by decide +kernel
theorem dL_law_290 : decode cL_law 290 = .ok (.aload_n 1, 1) := by decide +kernel
theorem dL_law_291 : decode cL_law 291 = .ok (.iconst 0, 1) := by decide +kernel
theorem dL_law_292 : decode cL_law 292 = .ok (.invokevirtual 13, 3) := by decide +kernel
theorem dL_law_295 : decode cL_law 295 = .ok (.if_icmp .ne 35, 3) := by decide +kernel
theorem dL_law_298 : decode cL_law 298 = .ok (.aload_n 1, 1) := by decide +kernel
theorem dL_law_299 : decode cL_law 299 = .ok (.invokestatic 69, 3) := by decide +kernel
theorem dL_law_302 : decode cL_law 302 = .ok (.lload_n 3, 1) := by decide +kernel
theorem dL_law_303 : decode cL_law 303 = .ok (.lcmp, 1) := by decide +kernel
theorem dL_law_304 : decode cL_law 304 = .ok (.ifCond .ne 26, 3) := by decide +kernel
theorem dL_law_307 : decode cL_law 307 = .ok (.aload_n 1, 1) := by decide +kernel
theorem dL_law_308 : decode cL_law 308 = .ok (.invokevirtual 115, 3) := by decide +kernel
theorem dL_law_311 : decode cL_law 311 = .ok (.ifCond .lt 19, 3) := by decide +kernel
theorem dL_law_314 : decode cL_law 314 = .ok (.aload_n 1, 1) := by decide +kernel
theorem dL_law_315 : decode cL_law 315 = .ok (.invokevirtual 121, 3) := by decide +kernel
theorem dL_law_318 : decode cL_law 318 = .ok (.aload_n 1, 1) := by decide +kernel
theorem dL_law_319 : decode cL_law 319 = .ok (.iconst 0, 1) := by decide +kernel
theorem dL_law_320 : decode cL_law 320 = .ok (.invokevirtual 13, 3) := by decide +kernel
theorem dL_law_323 : decode cL_law 323 = .ok (.if_icmp .ne 7, 3) := by decide +kernel
theorem dL_law_326 : decode cL_law 326 = .ok (.iconst 1, 1) := by decide +kernel
theorem dL_law_327 : decode cL_law 327 = .ok (.goto 4, 3) := by decide +kernel
theorem dL_law_330 : decode cL_law 330 = .ok (.iconst 0, 1) := by decide +kernel
theorem dL_law_331 : decode cL_law 331 = .ok (.istore_n 2, 1) := by decide +kernel
theorem dL_law_332 : decode cL_law 332 = .ok (.aload_n 1, 1) := by decide +kernel
theorem dL_law_333 : decode cL_law 333 = .ok (.invokestatic 69, 3) := by decide +kernel
theorem dL_law_336 : decode cL_law 336 = .ok (.lstore_n 3, 1) := by decide +kernel
theorem dL_law_337 : decode cL_law 337 = .ok (.iload_n 2, 1) := by decide +kernel
theorem dL_law_338 : decode cL_law 338 = .ok (.ifCond .eq 48, 3) := by decide +kernel
theorem dL_law_341 : decode cL_law 341 = .ok (.iload 5, 2) := by decide +kernel
theorem dL_law_343 : decode cL_law 343 = .ok (.bipush 11, 2) := by decide +kernel
theorem dL_law_345 : decode cL_law 345 = .ok (.irem, 1) := by decide +kernel
theorem dL_law_346 : decode cL_law 346 = .ok (.bipush 10, 2) := by decide +kernel
theorem dL_law_348 : decode cL_law 348 = .ok (.if_icmp .ne 38, 3) := by decide +kernel
theorem dL_law_351 : decode cL_law 351 = .ok (.aload_n 1, 1) := by decide +kernel
theorem dL_law_352 : decode cL_law 352 = .ok (.bipush 16, 2) := by decide +kernel
theorem dL_law_354 : decode cL_law 354 = .ok (.invokevirtual 13, 3) := by decide +kernel
theorem dL_law_357 : decode cL_law 357 = .ok (.istore 12, 2) := by decide +kernel
theorem dL_law_359 : decode cL_law 359 = .ok (.aload_n 1, 1) := by decide +kernel
theorem dL_law_360 : decode cL_law 360 = .ok (.invokevirtual 115, 3) := by decide +kernel
theorem dL_law_363 : decode cL_law 363 = .ok (.iload 12, 2) := by decide +kernel
theorem dL_law_365 : decode cL_law 365 = .ok (.ifCond .ne 8, 3) := by decide +kernel
theorem dL_law_368 : decode cL_law 368 = .ok (.bipush (-2), 2) := by decide +kernel
theorem dL_law_370 : decode cL_law 370 = .ok (.goto 7, 3) := by decide +kernel
theorem dL_law_373 : decode cL_law 373 = .ok (.iload 12, 2) := by decide +kernel
theorem dL_law_375 : decode cL_law 375 = .ok (.iconst 1, 1) := by decide +kernel
theorem dL_law_376 : decode cL_law 376 = .ok (.isub, 1) := by decide +kernel
theorem dL_law_377 : decode cL_law 377 = .ok (.if_icmp .ne 7, 3) := by decide +kernel
theorem dL_law_380 : decode cL_law 380 = .ok (.iconst 1, 1) := by decide +kernel
theorem dL_law_381 : decode cL_law 381 = .ok (.goto 4, 3) := by decide +kernel
theorem dL_law_384 : decode cL_law 384 = .ok (.iconst 0, 1) := by decide +kernel
theorem dL_law_385 : decode cL_law 385 = .ok (.istore_n 2, 1) := by decide +kernel
theorem dL_law_386 : decode cL_law 386 = .ok (.iinc 5 1, 3) := by decide +kernel
theorem dL_law_389 : decode cL_law 389 = .ok (.goto (-327), 3) := by decide +kernel
theorem dL_law_392 : decode cL_law 392 = .ok (.iload_n 2, 1) := by decide +kernel
theorem dL_law_393 : decode cL_law 393 = .ok (.ifCond .eq 14, 3) := by decide +kernel
theorem dL_law_396 : decode cL_law 396 = .ok (.aload_n 1, 1) := by decide +kernel
theorem dL_law_397 : decode cL_law 397 = .ok (.invokestatic 108, 3) := by decide +kernel
theorem dL_law_400 : decode cL_law 400 = .ok (.ifCond .eq 7, 3) := by decide +kernel
theorem dL_law_403 : decode cL_law 403 = .ok (.iconst 1, 1) := by decide +kernel
theorem dL_law_404 : decode cL_law 404 = .ok (.goto 4, 3) := by decide +kernel
theorem dL_law_407 : decode cL_law 407 = .ok (.iconst 0, 1) := by decide +kernel
theorem dL_law_408 : decode cL_law 408 = .ok (.ireturn, 1) := by decide +kernel
