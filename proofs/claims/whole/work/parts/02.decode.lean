theorem dX0_init_0 : decode cX0_init 0 = .ok (.aload_n 0, 1) := by decide +kernel
theorem dX0_init_1 : decode cX0_init 1 = .ok (.invokespecial 3, 3) := by decide +kernel
theorem dX0_init_4 : decode cX0_init 4 = .ok (.return_, 1) := by decide +kernel
theorem dX0_begin_0 : decode cX0_begin 0 = .ok (.aload_n 0, 1) := by decide +kernel
theorem dX0_begin_1 : decode cX0_begin 1 = .ok (.iload_n 2, 1) := by decide +kernel
theorem dX0_begin_2 : decode cX0_begin 2 = .ok (.putfield 9, 3) := by decide +kernel
theorem dX0_begin_5 : decode cX0_begin 5 = .ok (.aload_n 0, 1) := by decide +kernel
theorem dX0_begin_6 : decode cX0_begin 6 = .ok (.iload_n 1, 1) := by decide +kernel
theorem dX0_begin_7 : decode cX0_begin 7 = .ok (.putfield 15, 3) := by decide +kernel
theorem dX0_begin_10 : decode cX0_begin 10 = .ok (.aload_n 0, 1) := by decide +kernel
theorem dX0_begin_11 : decode cX0_begin 11 = .ok (.bipush (-4), 2) := by decide +kernel
theorem dX0_begin_13 : decode cX0_begin 13 = .ok (.putfield 18, 3) := by decide +kernel
theorem dX0_begin_16 : decode cX0_begin 16 = .ok (.aload_n 0, 1) := by decide +kernel
theorem dX0_begin_17 : decode cX0_begin 17 = .ok (.bipush (-4), 2) := by decide +kernel
theorem dX0_begin_19 : decode cX0_begin 19 = .ok (.putfield 21, 3) := by decide +kernel
theorem dX0_begin_22 : decode cX0_begin 22 = .ok (.aload_n 0, 1) := by decide +kernel
theorem dX0_begin_23 : decode cX0_begin 23 = .ok (.iload_n 3, 1) := by decide +kernel
theorem dX0_begin_24 : decode cX0_begin 24 = .ok (.putfield 24, 3) := by decide +kernel
theorem dX0_begin_27 : decode cX0_begin 27 = .ok (.aload_n 0, 1) := by decide +kernel
theorem dX0_begin_28 : decode cX0_begin 28 = .ok (.iconst 0, 1) := by decide +kernel
theorem dX0_begin_29 : decode cX0_begin 29 = .ok (.putfield 27, 3) := by decide +kernel
theorem dX0_begin_32 : decode cX0_begin 32 = .ok (.aload_n 0, 1) := by decide +kernel
theorem dX0_begin_33 : decode cX0_begin 33 = .ok (.iconst 0, 1) := by decide +kernel
theorem dX0_begin_34 : decode cX0_begin 34 = .ok (.putfield 31, 3) := by decide +kernel
theorem dX0_begin_37 : decode cX0_begin 37 = .ok (.aload_n 0, 1) := by decide +kernel
theorem dX0_begin_38 : decode cX0_begin 38 = .ok (.iload 4, 2) := by decide +kernel
theorem dX0_begin_40 : decode cX0_begin 40 = .ok (.putfield 34, 3) := by decide +kernel
theorem dX0_begin_43 : decode cX0_begin 43 = .ok (.return_, 1) := by decide +kernel
theorem dX0_copyFrom_0 : decode cX0_copyFrom 0 = .ok (.aload_n 0, 1) := by decide +kernel
theorem dX0_copyFrom_1 : decode cX0_copyFrom 1 = .ok (.aload_n 1, 1) := by decide +kernel
theorem dX0_copyFrom_2 : decode cX0_copyFrom 2 = .ok (.getfield 9, 3) := by decide +kernel
theorem dX0_copyFrom_5 : decode cX0_copyFrom 5 = .ok (.putfield 9, 3) := by decide +kernel
theorem dX0_copyFrom_8 : decode cX0_copyFrom 8 = .ok (.aload_n 0, 1) := by decide +kernel
theorem dX0_copyFrom_9 : decode cX0_copyFrom 9 = .ok (.aload_n 1, 1) := by decide +kernel
theorem dX0_copyFrom_10 : decode cX0_copyFrom 10 = .ok (.getfield 15, 3) := by decide +kernel
theorem dX0_copyFrom_13 : decode cX0_copyFrom 13 = .ok (.putfield 15, 3) := by decide +kernel
theorem dX0_copyFrom_16 : decode cX0_copyFrom 16 = .ok (.aload_n 0, 1) := by decide +kernel
theorem dX0_copyFrom_17 : decode cX0_copyFrom 17 = .ok (.aload_n 1, 1) := by decide +kernel
theorem dX0_copyFrom_18 : decode cX0_copyFrom 18 = .ok (.getfield 18, 3) := by decide +kernel
theorem dX0_copyFrom_21 : decode cX0_copyFrom 21 = .ok (.putfield 18, 3) := by decide +kernel
theorem dX0_copyFrom_24 : decode cX0_copyFrom 24 = .ok (.aload_n 0, 1) := by decide +kernel
theorem dX0_copyFrom_25 : decode cX0_copyFrom 25 = .ok (.aload_n 1, 1) := by decide +kernel
theorem dX0_copyFrom_26 : decode cX0_copyFrom 26 = .ok (.getfield 21, 3) := by decide +kernel
theorem dX0_copyFrom_29 : decode cX0_copyFrom 29 = .ok (.putfield 21, 3) := by decide +kernel
theorem dX0_copyFrom_32 : decode cX0_copyFrom 32 = .ok (.aload_n 0, 1) := by decide +kernel
theorem dX0_copyFrom_33 : decode cX0_copyFrom 33 = .ok (.aload_n 1, 1) := by decide +kernel
theorem dX0_copyFrom_34 : decode cX0_copyFrom 34 = .ok (.getfield 24, 3) := by decide +kernel
theorem dX0_copyFrom_37 : decode cX0_copyFrom 37 = .ok (.putfield 24, 3) := by decide +kernel
theorem dX0_copyFrom_40 : decode cX0_copyFrom 40 = .ok (.aload_n 0, 1) := by decide +kernel
theorem dX0_copyFrom_41 : decode cX0_copyFrom 41 = .ok (.aload_n 1, 1) := by decide +kernel
theorem dX0_copyFrom_42 : decode cX0_copyFrom 42 = .ok (.getfield 27, 3) := by decide +kernel
theorem dX0_copyFrom_45 : decode cX0_copyFrom 45 = .ok (.putfield 27, 3) := by decide +kernel
theorem dX0_copyFrom_48 : decode cX0_copyFrom 48 = .ok (.aload_n 0, 1) := by decide +kernel
theorem dX0_copyFrom_49 : decode cX0_copyFrom 49 = .ok (.aload_n 1, 1) := by decide +kernel
theorem dX0_copyFrom_50 : decode cX0_copyFrom 50 = .ok (.getfield 31, 3) := by decide +kernel
theorem dX0_copyFrom_53 : decode cX0_copyFrom 53 = .ok (.putfield 31, 3) := by decide +kernel
theorem dX0_copyFrom_56 : decode cX0_copyFrom 56 = .ok (.aload_n 0, 1) := by decide +kernel
theorem dX0_copyFrom_57 : decode cX0_copyFrom 57 = .ok (.aload_n 1, 1) := by decide +kernel
theorem dX0_copyFrom_58 : decode cX0_copyFrom 58 = .ok (.getfield 34, 3) := by decide +kernel
theorem dX0_copyFrom_61 : decode cX0_copyFrom 61 = .ok (.putfield 34, 3) := by decide +kernel
theorem dX0_copyFrom_64 : decode cX0_copyFrom 64 = .ok (.return_, 1) := by decide +kernel
theorem dX1_init_0 : decode cX1_init 0 = .ok (.aload_n 0, 1) := by decide +kernel
theorem dX1_init_1 : decode cX1_init 1 = .ok (.invokespecial 3, 3) := by decide +kernel
theorem dX1_init_4 : decode cX1_init 4 = .ok (.aload_n 0, 1) := by decide +kernel
theorem dX1_init_5 : decode cX1_init 5 = .ok (.bipush 7, 2) := by decide +kernel
theorem dX1_init_7 : decode cX1_init 7 = .ok (.newarray .int, 2) := by decide +kernel
theorem dX1_init_9 : decode cX1_init 9 = .ok (.putfield 9, 3) := by decide +kernel
theorem dX1_init_12 : decode cX1_init 12 = .ok (.return_, 1) := by decide +kernel
theorem dX1_begin_0 : decode cX1_begin 0 = .ok (.aload_n 0, 1) := by decide +kernel
theorem dX1_begin_1 : decode cX1_begin 1 = .ok (.iconst 0, 1) := by decide +kernel
theorem dX1_begin_2 : decode cX1_begin 2 = .ok (.putfield 15, 3) := by decide +kernel
theorem dX1_begin_5 : decode cX1_begin 5 = .ok (.aload_n 0, 1) := by decide +kernel
theorem dX1_begin_6 : decode cX1_begin 6 = .ok (.iconst 0, 1) := by decide +kernel
theorem dX1_begin_7 : decode cX1_begin 7 = .ok (.putfield 19, 3) := by decide +kernel
theorem dX1_begin_10 : decode cX1_begin 10 = .ok (.aload_n 0, 1) := by decide +kernel
theorem dX1_begin_11 : decode cX1_begin 11 = .ok (.iconst 0, 1) := by decide +kernel
theorem dX1_begin_12 : decode cX1_begin 12 = .ok (.putfield 22, 3) := by decide +kernel
theorem dX1_begin_15 : decode cX1_begin 15 = .ok (.aload_n 0, 1) := by decide +kernel
theorem dX1_begin_16 : decode cX1_begin 16 = .ok (.iconst 0, 1) := by decide +kernel
theorem dX1_begin_17 : decode cX1_begin 17 = .ok (.putfield 25, 3) := by decide +kernel
theorem dX1_begin_20 : decode cX1_begin 20 = .ok (.aload_n 0, 1) := by decide +kernel
theorem dX1_begin_21 : decode cX1_begin 21 = .ok (.iconst 0, 1) := by decide +kernel
theorem dX1_begin_22 : decode cX1_begin 22 = .ok (.putfield 28, 3) := by decide +kernel
theorem dX1_begin_25 : decode cX1_begin 25 = .ok (.return_, 1) := by decide +kernel
theorem dX1_addTown_0 : decode cX1_addTown 0 = .ok (.aload_n 0, 1) := by decide +kernel
theorem dX1_addTown_1 : decode cX1_addTown 1 = .ok (.getfield 15, 3) := by decide +kernel
theorem dX1_addTown_4 : decode cX1_addTown 4 = .ok (.ifCond .lt 35, 3) := by decide +kernel
theorem dX1_addTown_7 : decode cX1_addTown 7 = .ok (.aload_n 0, 1) := by decide +kernel
theorem dX1_addTown_8 : decode cX1_addTown 8 = .ok (.getfield 15, 3) := by decide +kernel
theorem dX1_addTown_11 : decode cX1_addTown 11 = .ok (.aload_n 0, 1) := by decide +kernel
theorem dX1_addTown_12 : decode cX1_addTown 12 = .ok (.getfield 9, 3) := by decide +kernel
theorem dX1_addTown_15 : decode cX1_addTown 15 = .ok (.arraylength, 1) := by decide +kernel
theorem dX1_addTown_16 : decode cX1_addTown 16 = .ok (.if_icmp .ge 23, 3) := by decide +kernel
theorem dX1_addTown_19 : decode cX1_addTown 19 = .ok (.aload_n 0, 1) := by decide +kernel
theorem dX1_addTown_20 : decode cX1_addTown 20 = .ok (.getfield 9, 3) := by decide +kernel
theorem dX1_addTown_23 : decode cX1_addTown 23 = .ok (.aload_n 0, 1) := by decide +kernel
theorem dX1_addTown_24 : decode cX1_addTown 24 = .ok (.getfield 15, 3) := by decide +kernel
theorem dX1_addTown_27 : decode cX1_addTown 27 = .ok (.iload_n 1, 1) := by decide +kernel
theorem dX1_addTown_28 : decode cX1_addTown 28 = .ok (.iastore, 1) := by decide +kernel
theorem dX1_addTown_29 : decode cX1_addTown 29 = .ok (.aload_n 0, 1) := by decide +kernel
theorem dX1_addTown_30 : decode cX1_addTown 30 = .ok (.dup, 1) := by decide +kernel
theorem dX1_addTown_31 : decode cX1_addTown 31 = .ok (.getfield 15, 3) := by decide +kernel
theorem dX1_addTown_34 : decode cX1_addTown 34 = .ok (.iconst 1, 1) := by decide +kernel
theorem dX1_addTown_35 : decode cX1_addTown 35 = .ok (.iadd, 1) := by decide +kernel
theorem dX1_addTown_36 : decode cX1_addTown 36 = .ok (.putfield 15, 3) := by decide +kernel
theorem dX1_addTown_39 : decode cX1_addTown 39 = .ok (.return_, 1) := by decide +kernel
theorem dX1_copyFrom_0 : decode cX1_copyFrom 0 = .ok (.iconst 0, 1) := by decide +kernel
theorem dX1_copyFrom_1 : decode cX1_copyFrom 1 = .ok (.istore_n 2, 1) := by decide +kernel
theorem dX1_copyFrom_2 : decode cX1_copyFrom 2 = .ok (.iload_n 2, 1) := by decide +kernel
theorem dX1_copyFrom_3 : decode cX1_copyFrom 3 = .ok (.aload_n 0, 1) := by decide +kernel
theorem dX1_copyFrom_4 : decode cX1_copyFrom 4 = .ok (.getfield 9, 3) := by decide +kernel
theorem dX1_copyFrom_7 : decode cX1_copyFrom 7 = .ok (.arraylength, 1) := by decide +kernel
theorem dX1_copyFrom_8 : decode cX1_copyFrom 8 = .ok (.if_icmp .ge 30, 3) := by decide +kernel
theorem dX1_copyFrom_11 : decode cX1_copyFrom 11 = .ok (.iload_n 2, 1) := by decide +kernel
theorem dX1_copyFrom_12 : decode cX1_copyFrom 12 = .ok (.aload_n 1, 1) := by decide +kernel
theorem dX1_copyFrom_13 : decode cX1_copyFrom 13 = .ok (.getfield 9, 3) := by decide +kernel
theorem dX1_copyFrom_16 : decode cX1_copyFrom 16 = .ok (.arraylength, 1) := by decide +kernel
theorem dX1_copyFrom_17 : decode cX1_copyFrom 17 = .ok (.if_icmp .ge 21, 3) := by decide +kernel
theorem dX1_copyFrom_20 : decode cX1_copyFrom 20 = .ok (.aload_n 0, 1) := by decide +kernel
theorem dX1_copyFrom_21 : decode cX1_copyFrom 21 = .ok (.getfield 9, 3) := by decide +kernel
theorem dX1_copyFrom_24 : decode cX1_copyFrom 24 = .ok (.iload_n 2, 1) := by decide +kernel
theorem dX1_copyFrom_25 : decode cX1_copyFrom 25 = .ok (.aload_n 1, 1) := by decide +kernel
theorem dX1_copyFrom_26 : decode cX1_copyFrom 26 = .ok (.getfield 9, 3) := by decide +kernel
theorem dX1_copyFrom_29 : decode cX1_copyFrom 29 = .ok (.iload_n 2, 1) := by decide +kernel
theorem dX1_copyFrom_30 : decode cX1_copyFrom 30 = .ok (.iaload, 1) := by decide +kernel
theorem dX1_copyFrom_31 : decode cX1_copyFrom 31 = .ok (.iastore, 1) := by decide +kernel
theorem dX1_copyFrom_32 : decode cX1_copyFrom 32 = .ok (.iinc 2 1, 3) := by decide +kernel
theorem dX1_copyFrom_35 : decode cX1_copyFrom 35 = .ok (.goto (-33), 3) := by decide +kernel
theorem dX1_copyFrom_38 : decode cX1_copyFrom 38 = .ok (.aload_n 0, 1) := by decide +kernel
theorem dX1_copyFrom_39 : decode cX1_copyFrom 39 = .ok (.aload_n 1, 1) := by decide +kernel
theorem dX1_copyFrom_40 : decode cX1_copyFrom 40 = .ok (.getfield 15, 3) := by decide +kernel
theorem dX1_copyFrom_43 : decode cX1_copyFrom 43 = .ok (.putfield 15, 3) := by decide +kernel
theorem dX1_copyFrom_46 : decode cX1_copyFrom 46 = .ok (.aload_n 0, 1) := by decide +kernel
theorem dX1_copyFrom_47 : decode cX1_copyFrom 47 = .ok (.aload_n 1, 1) := by decide +kernel
theorem dX1_copyFrom_48 : decode cX1_copyFrom 48 = .ok (.getfield 19, 3) := by decide +kernel
theorem dX1_copyFrom_51 : decode cX1_copyFrom 51 = .ok (.putfield 19, 3) := by decide +kernel
theorem dX1_copyFrom_54 : decode cX1_copyFrom 54 = .ok (.aload_n 0, 1) := by decide +kernel
theorem dX1_copyFrom_55 : decode cX1_copyFrom 55 = .ok (.aload_n 1, 1) := by decide +kernel
theorem dX1_copyFrom_56 : decode cX1_copyFrom 56 = .ok (.getfield 22, 3) := by decide +kernel
theorem dX1_copyFrom_59 : decode cX1_copyFrom 59 = .ok (.putfield 22, 3) := by decide +kernel
theorem dX1_copyFrom_62 : decode cX1_copyFrom 62 = .ok (.aload_n 0, 1) := by decide +kernel
theorem dX1_copyFrom_63 : decode cX1_copyFrom 63 = .ok (.aload_n 1, 1) := by decide +kernel
theorem dX1_copyFrom_64 : decode cX1_copyFrom 64 = .ok (.getfield 25, 3) := by decide +kernel
theorem dX1_copyFrom_67 : decode cX1_copyFrom 67 = .ok (.putfield 25, 3) := by decide +kernel
theorem dX1_copyFrom_70 : decode cX1_copyFrom 70 = .ok (.aload_n 0, 1) := by decide +kernel
theorem dX1_copyFrom_71 : decode cX1_copyFrom 71 = .ok (.aload_n 1, 1) := by decide +kernel
theorem dX1_copyFrom_72 : decode cX1_copyFrom 72 = .ok (.getfield 28, 3) := by decide +kernel
theorem dX1_copyFrom_75 : decode cX1_copyFrom 75 = .ok (.putfield 28, 3) := by decide +kernel
theorem dX1_copyFrom_78 : decode cX1_copyFrom 78 = .ok (.return_, 1) := by decide +kernel
theorem dX2_init_0 : decode cX2_init 0 = .ok (.aload_n 0, 1) := by decide +kernel
theorem dX2_init_1 : decode cX2_init 1 = .ok (.invokespecial 3, 3) := by decide +kernel
theorem dX2_init_4 : decode cX2_init 4 = .ok (.aload_n 0, 1) := by decide +kernel
theorem dX2_init_5 : decode cX2_init 5 = .ok (.iconst 4, 1) := by decide +kernel
theorem dX2_init_6 : decode cX2_init 6 = .ok (.newarray .int, 2) := by decide +kernel
theorem dX2_init_8 : decode cX2_init 8 = .ok (.putfield 9, 3) := by decide +kernel
theorem dX2_init_11 : decode cX2_init 11 = .ok (.return_, 1) := by decide +kernel
theorem dX2_ifLying_0 : decode cX2_ifLying 0 = .ok (.aload_n 0, 1) := by decide +kernel
theorem dX2_ifLying_1 : decode cX2_ifLying 1 = .ok (.aload_n 1, 1) := by decide +kernel
theorem dX2_ifLying_2 : decode cX2_ifLying 2 = .ok (.iload_n 2, 1) := by decide +kernel
theorem dX2_ifLying_3 : decode cX2_ifLying 3 = .ok (.iload_n 3, 1) := by decide +kernel
theorem dX2_ifLying_4 : decode cX2_ifLying 4 = .ok (.iload 4, 2) := by decide +kernel
theorem dX2_ifLying_6 : decode cX2_ifLying 6 = .ok (.invokevirtual 15, 3) := by decide +kernel
theorem dX2_ifLying_9 : decode cX2_ifLying 9 = .ok (.aload_n 0, 1) := by decide +kernel
theorem dX2_ifLying_10 : decode cX2_ifLying 10 = .ok (.getfield 19, 3) := by decide +kernel
theorem dX2_ifLying_13 : decode cX2_ifLying 13 = .ok (.ldc 23, 2) := by decide +kernel
theorem dX2_ifLying_15 : decode cX2_ifLying 15 = .ok (.if_icmp .ne 8, 3) := by decide +kernel
theorem dX2_ifLying_18 : decode cX2_ifLying 18 = .ok (.bipush (-4), 2) := by decide +kernel
theorem dX2_ifLying_20 : decode cX2_ifLying 20 = .ok (.goto 7, 3) := by decide +kernel
theorem dX2_ifLying_23 : decode cX2_ifLying 23 = .ok (.aload_n 0, 1) := by decide +kernel
theorem dX2_ifLying_24 : decode cX2_ifLying 24 = .ok (.getfield 19, 3) := by decide +kernel
theorem dX2_ifLying_27 : decode cX2_ifLying 27 = .ok (.ireturn, 1) := by decide +kernel
theorem dX2_arrivalOf_0 : decode cX2_arrivalOf 0 = .ok (.aload_n 2, 1) := by decide +kernel
theorem dX2_arrivalOf_1 : decode cX2_arrivalOf 1 = .ok (.getfield 24, 3) := by decide +kernel
theorem dX2_arrivalOf_4 : decode cX2_arrivalOf 4 = .ok (.bipush (-4), 2) := by decide +kernel
theorem dX2_arrivalOf_6 : decode cX2_arrivalOf 6 = .ok (.if_icmp .eq 8, 3) := by decide +kernel
theorem dX2_arrivalOf_9 : decode cX2_arrivalOf 9 = .ok (.aload_n 2, 1) := by decide +kernel
theorem dX2_arrivalOf_10 : decode cX2_arrivalOf 10 = .ok (.getfield 24, 3) := by decide +kernel
theorem dX2_arrivalOf_13 : decode cX2_arrivalOf 13 = .ok (.ireturn, 1) := by decide +kernel
theorem dX2_arrivalOf_14 : decode cX2_arrivalOf 14 = .ok (.aload_n 0, 1) := by decide +kernel
theorem dX2_arrivalOf_15 : decode cX2_arrivalOf 15 = .ok (.aload_n 1, 1) := by decide +kernel
theorem dX2_arrivalOf_16 : decode cX2_arrivalOf 16 = .ok (.aload_n 2, 1) := by decide +kernel
theorem dX2_arrivalOf_17 : decode cX2_arrivalOf 17 = .ok (.getfield 29, 3) := by decide +kernel
theorem dX2_arrivalOf_20 : decode cX2_arrivalOf 20 = .ok (.aload_n 2, 1) := by decide +kernel
theorem dX2_arrivalOf_21 : decode cX2_arrivalOf 21 = .ok (.getfield 32, 3) := by decide +kernel
theorem dX2_arrivalOf_24 : decode cX2_arrivalOf 24 = .ok (.aload_n 1, 1) := by decide +kernel
theorem dX2_arrivalOf_25 : decode cX2_arrivalOf 25 = .ok (.getfield 35, 3) := by decide +kernel
theorem dX2_arrivalOf_28 : decode cX2_arrivalOf 28 = .ok (.invokevirtual 15, 3) := by decide +kernel
theorem dX2_arrivalOf_31 : decode cX2_arrivalOf 31 = .ok (.aload_n 0, 1) := by decide +kernel
theorem dX2_arrivalOf_32 : decode cX2_arrivalOf 32 = .ok (.aload_n 2, 1) := by decide +kernel
theorem dX2_arrivalOf_33 : decode cX2_arrivalOf 33 = .ok (.invokevirtual 40, 3) := by decide +kernel
theorem dX2_arrivalOf_36 : decode cX2_arrivalOf 36 = .ok (.istore_n 3, 1) := by decide +kernel
theorem dX2_arrivalOf_37 : decode cX2_arrivalOf 37 = .ok (.iload_n 3, 1) := by decide +kernel
theorem dX2_arrivalOf_38 : decode cX2_arrivalOf 38 = .ok (.ldc 23, 2) := by decide +kernel
theorem dX2_arrivalOf_40 : decode cX2_arrivalOf 40 = .ok (.if_icmp .ne 8, 3) := by decide +kernel
theorem dX2_arrivalOf_43 : decode cX2_arrivalOf 43 = .ok (.bipush (-4), 2) := by decide +kernel
theorem dX2_arrivalOf_45 : decode cX2_arrivalOf 45 = .ok (.goto 4, 3) := by decide +kernel
theorem dX2_arrivalOf_48 : decode cX2_arrivalOf 48 = .ok (.iload_n 3, 1) := by decide +kernel
theorem dX2_arrivalOf_49 : decode cX2_arrivalOf 49 = .ok (.ireturn, 1) := by decide +kernel
theorem dX2_addUpArrivals_0 : decode cX2_addUpArrivals 0 = .ok (.aload_n 0, 1) := by decide +kernel
theorem dX2_addUpArrivals_1 : decode cX2_addUpArrivals 1 = .ok (.iconst 0, 1) := by decide +kernel
theorem dX2_addUpArrivals_2 : decode cX2_addUpArrivals 2 = .ok (.putfield 44, 3) := by decide +kernel
theorem dX2_addUpArrivals_5 : decode cX2_addUpArrivals 5 = .ok (.aload_n 0, 1) := by decide +kernel
theorem dX2_addUpArrivals_6 : decode cX2_addUpArrivals 6 = .ok (.iconst 0, 1) := by decide +kernel
theorem dX2_addUpArrivals_7 : decode cX2_addUpArrivals 7 = .ok (.putfield 47, 3) := by decide +kernel
theorem dX2_addUpArrivals_10 : decode cX2_addUpArrivals 10 = .ok (.iconst 0, 1) := by decide +kernel
theorem dX2_addUpArrivals_11 : decode cX2_addUpArrivals 11 = .ok (.istore_n 2, 1) := by decide +kernel
theorem dX2_addUpArrivals_12 : decode cX2_addUpArrivals 12 = .ok (.iload_n 2, 1) := by decide +kernel
theorem dX2_addUpArrivals_13 : decode cX2_addUpArrivals 13 = .ok (.aload_n 1, 1) := by decide +kernel
theorem dX2_addUpArrivals_14 : decode cX2_addUpArrivals 14 = .ok (.getfield 50, 3) := by decide +kernel
theorem dX2_addUpArrivals_17 : decode cX2_addUpArrivals 17 = .ok (.if_icmp .ge 67, 3) := by decide +kernel
theorem dX2_addUpArrivals_20 : decode cX2_addUpArrivals 20 = .ok (.aload_n 1, 1) := by decide +kernel
theorem dX2_addUpArrivals_21 : decode cX2_addUpArrivals 21 = .ok (.iload_n 2, 1) := by decide +kernel
theorem dX2_addUpArrivals_22 : decode cX2_addUpArrivals 22 = .ok (.invokevirtual 53, 3) := by decide +kernel
theorem dX2_addUpArrivals_25 : decode cX2_addUpArrivals 25 = .ok (.astore_n 3, 1) := by decide +kernel
theorem dX2_addUpArrivals_26 : decode cX2_addUpArrivals 26 = .ok (.aload_n 3, 1) := by decide +kernel
theorem dX2_addUpArrivals_27 : decode cX2_addUpArrivals 27 = .ok (.ifnull 51, 3) := by decide +kernel
theorem dX2_addUpArrivals_30 : decode cX2_addUpArrivals 30 = .ok (.aload_n 3, 1) := by decide +kernel
theorem dX2_addUpArrivals_31 : decode cX2_addUpArrivals 31 = .ok (.getfield 24, 3) := by decide +kernel
theorem dX2_addUpArrivals_34 : decode cX2_addUpArrivals 34 = .ok (.bipush (-4), 2) := by decide +kernel
theorem dX2_addUpArrivals_36 : decode cX2_addUpArrivals 36 = .ok (.if_icmp .eq 6, 3) := by decide +kernel
theorem dX2_addUpArrivals_39 : decode cX2_addUpArrivals 39 = .ok (.goto 39, 3) := by decide +kernel
theorem dX2_addUpArrivals_42 : decode cX2_addUpArrivals 42 = .ok (.aload_n 0, 1) := by decide +kernel
theorem dX2_addUpArrivals_43 : decode cX2_addUpArrivals 43 = .ok (.aload_n 1, 1) := by decide +kernel
theorem dX2_addUpArrivals_44 : decode cX2_addUpArrivals 44 = .ok (.aload_n 3, 1) := by decide +kernel
theorem dX2_addUpArrivals_45 : decode cX2_addUpArrivals 45 = .ok (.invokevirtual 57, 3) := by decide +kernel
theorem dX2_addUpArrivals_48 : decode cX2_addUpArrivals 48 = .ok (.istore 4, 2) := by decide +kernel
theorem dX2_addUpArrivals_50 : decode cX2_addUpArrivals 50 = .ok (.iload 4, 2) := by decide +kernel
theorem dX2_addUpArrivals_52 : decode cX2_addUpArrivals 52 = .ok (.bipush (-4), 2) := by decide +kernel
theorem dX2_addUpArrivals_54 : decode cX2_addUpArrivals 54 = .ok (.if_icmp .eq 24, 3) := by decide +kernel
theorem dX2_addUpArrivals_57 : decode cX2_addUpArrivals 57 = .ok (.aload_n 0, 1) := by decide +kernel
theorem dX2_addUpArrivals_58 : decode cX2_addUpArrivals 58 = .ok (.dup, 1) := by decide +kernel
theorem dX2_addUpArrivals_59 : decode cX2_addUpArrivals 59 = .ok (.getfield 44, 3) := by decide +kernel
theorem dX2_addUpArrivals_62 : decode cX2_addUpArrivals 62 = .ok (.iconst 1, 1) := by decide +kernel
theorem dX2_addUpArrivals_63 : decode cX2_addUpArrivals 63 = .ok (.iadd, 1) := by decide +kernel
theorem dX2_addUpArrivals_64 : decode cX2_addUpArrivals 64 = .ok (.putfield 44, 3) := by decide +kernel
theorem dX2_addUpArrivals_67 : decode cX2_addUpArrivals 67 = .ok (.aload_n 0, 1) := by decide +kernel
theorem dX2_addUpArrivals_68 : decode cX2_addUpArrivals 68 = .ok (.dup, 1) := by decide +kernel
theorem dX2_addUpArrivals_69 : decode cX2_addUpArrivals 69 = .ok (.getfield 47, 3) := by decide +kernel
theorem dX2_addUpArrivals_72 : decode cX2_addUpArrivals 72 = .ok (.iload 4, 2) := by decide +kernel
theorem dX2_addUpArrivals_74 : decode cX2_addUpArrivals 74 = .ok (.iadd, 1) := by decide +kernel
theorem dX2_addUpArrivals_75 : decode cX2_addUpArrivals 75 = .ok (.putfield 47, 3) := by decide +kernel
theorem dX2_addUpArrivals_78 : decode cX2_addUpArrivals 78 = .ok (.iinc 2 1, 3) := by decide +kernel
theorem dX2_addUpArrivals_81 : decode cX2_addUpArrivals 81 = .ok (.goto (-69), 3) := by decide +kernel
theorem dX2_addUpArrivals_84 : decode cX2_addUpArrivals 84 = .ok (.return_, 1) := by decide +kernel
theorem dX2_bestTaker_0 : decode cX2_bestTaker 0 = .ok (.aload_n 0, 1) := by decide +kernel
theorem dX2_bestTaker_1 : decode cX2_bestTaker 1 = .ok (.aload_n 1, 1) := by decide +kernel
theorem dX2_bestTaker_2 : decode cX2_bestTaker 2 = .ok (.aload_n 2, 1) := by decide +kernel
theorem dX2_bestTaker_3 : decode cX2_bestTaker 3 = .ok (.getfield 29, 3) := by decide +kernel
theorem dX2_bestTaker_6 : decode cX2_bestTaker 6 = .ok (.aload_n 2, 1) := by decide +kernel
theorem dX2_bestTaker_7 : decode cX2_bestTaker 7 = .ok (.getfield 32, 3) := by decide +kernel
theorem dX2_bestTaker_10 : decode cX2_bestTaker 10 = .ok (.aload_n 1, 1) := by decide +kernel
theorem dX2_bestTaker_11 : decode cX2_bestTaker 11 = .ok (.getfield 35, 3) := by decide +kernel
theorem dX2_bestTaker_14 : decode cX2_bestTaker 14 = .ok (.invokevirtual 15, 3) := by decide +kernel
theorem dX2_bestTaker_17 : decode cX2_bestTaker 17 = .ok (.bipush (-4), 2) := by decide +kernel
theorem dX2_bestTaker_19 : decode cX2_bestTaker 19 = .ok (.istore 4, 2) := by decide +kernel
theorem dX2_bestTaker_21 : decode cX2_bestTaker 21 = .ok (.aload_n 0, 1) := by decide +kernel
theorem dX2_bestTaker_22 : decode cX2_bestTaker 22 = .ok (.aload_n 2, 1) := by decide +kernel
theorem dX2_bestTaker_23 : decode cX2_bestTaker 23 = .ok (.invokevirtual 40, 3) := by decide +kernel
theorem dX2_bestTaker_26 : decode cX2_bestTaker 26 = .ok (.istore 5, 2) := by decide +kernel
theorem dX2_bestTaker_28 : decode cX2_bestTaker 28 = .ok (.iconst 0, 1) := by decide +kernel
theorem dX2_bestTaker_29 : decode cX2_bestTaker 29 = .ok (.istore 6, 2) := by decide +kernel
theorem dX2_bestTaker_31 : decode cX2_bestTaker 31 = .ok (.iload 6, 2) := by decide +kernel
theorem dX2_bestTaker_33 : decode cX2_bestTaker 33 = .ok (.aload_n 0, 1) := by decide +kernel
theorem dX2_bestTaker_34 : decode cX2_bestTaker 34 = .ok (.getfield 9, 3) := by decide +kernel
theorem dX2_bestTaker_37 : decode cX2_bestTaker 37 = .ok (.arraylength, 1) := by decide +kernel
theorem dX2_bestTaker_38 : decode cX2_bestTaker 38 = .ok (.if_icmp .ge 43, 3) := by decide +kernel
theorem dX2_bestTaker_41 : decode cX2_bestTaker 41 = .ok (.iload_n 3, 1) := by decide +kernel
theorem dX2_bestTaker_42 : decode cX2_bestTaker 42 = .ok (.iconst 1, 1) := by decide +kernel
theorem dX2_bestTaker_43 : decode cX2_bestTaker 43 = .ok (.iload 6, 2) := by decide +kernel
theorem dX2_bestTaker_45 : decode cX2_bestTaker 45 = .ok (.ishl, 1) := by decide +kernel
theorem dX2_bestTaker_46 : decode cX2_bestTaker 46 = .ok (.iand, 1) := by decide +kernel
theorem dX2_bestTaker_47 : decode cX2_bestTaker 47 = .ok (.ifCond .eq 28, 3) := by decide +kernel
theorem dX2_bestTaker_50 : decode cX2_bestTaker 50 = .ok (.aload_n 0, 1) := by decide +kernel
theorem dX2_bestTaker_51 : decode cX2_bestTaker 51 = .ok (.getfield 9, 3) := by decide +kernel
theorem dX2_bestTaker_54 : decode cX2_bestTaker 54 = .ok (.iload 6, 2) := by decide +kernel
theorem dX2_bestTaker_56 : decode cX2_bestTaker 56 = .ok (.iaload, 1) := by decide +kernel
theorem dX2_bestTaker_57 : decode cX2_bestTaker 57 = .ok (.iload 5, 2) := by decide +kernel
theorem dX2_bestTaker_59 : decode cX2_bestTaker 59 = .ok (.if_icmp .ge 16, 3) := by decide +kernel
theorem dX2_bestTaker_62 : decode cX2_bestTaker 62 = .ok (.aload_n 0, 1) := by decide +kernel
theorem dX2_bestTaker_63 : decode cX2_bestTaker 63 = .ok (.getfield 9, 3) := by decide +kernel
theorem dX2_bestTaker_66 : decode cX2_bestTaker 66 = .ok (.iload 6, 2) := by decide +kernel
theorem dX2_bestTaker_68 : decode cX2_bestTaker 68 = .ok (.iaload, 1) := by decide +kernel
theorem dX2_bestTaker_69 : decode cX2_bestTaker 69 = .ok (.istore 5, 2) := by decide +kernel
theorem dX2_bestTaker_71 : decode cX2_bestTaker 71 = .ok (.iload 6, 2) := by decide +kernel
theorem dX2_bestTaker_73 : decode cX2_bestTaker 73 = .ok (.istore 4, 2) := by decide +kernel
theorem dX2_bestTaker_75 : decode cX2_bestTaker 75 = .ok (.iinc 6 1, 3) := by decide +kernel
theorem dX2_bestTaker_78 : decode cX2_bestTaker 78 = .ok (.goto (-47), 3) := by decide +kernel
theorem dX2_bestTaker_81 : decode cX2_bestTaker 81 = .ok (.iload 4, 2) := by decide +kernel
theorem dX2_bestTaker_83 : decode cX2_bestTaker 83 = .ok (.ireturn, 1) := by decide +kernel
theorem dX2_ifStaying_0 : decode cX2_ifStaying 0 = .ok (.aload_n 1, 1) := by decide +kernel
theorem dX2_ifStaying_1 : decode cX2_ifStaying 1 = .ok (.getfield 61, 3) := by decide +kernel
theorem dX2_ifStaying_4 : decode cX2_ifStaying 4 = .ok (.bipush (-4), 2) := by decide +kernel
theorem dX2_ifStaying_6 : decode cX2_ifStaying 6 = .ok (.if_icmp .ne 8, 3) := by decide +kernel
theorem dX2_ifStaying_9 : decode cX2_ifStaying 9 = .ok (.aload_n 0, 1) := by decide +kernel
theorem dX2_ifStaying_10 : decode cX2_ifStaying 10 = .ok (.getfield 19, 3) := by decide +kernel
theorem dX2_ifStaying_13 : decode cX2_ifStaying 13 = .ok (.ireturn, 1) := by decide +kernel
theorem dX2_ifStaying_14 : decode cX2_ifStaying 14 = .ok (.aload_n 1, 1) := by decide +kernel
theorem dX2_ifStaying_15 : decode cX2_ifStaying 15 = .ok (.getfield 61, 3) := by decide +kernel
theorem dX2_ifStaying_18 : decode cX2_ifStaying 18 = .ok (.ifCond .lt 27, 3) := by decide +kernel
theorem dX2_ifStaying_21 : decode cX2_ifStaying 21 = .ok (.aload_n 1, 1) := by decide +kernel
theorem dX2_ifStaying_22 : decode cX2_ifStaying 22 = .ok (.getfield 61, 3) := by decide +kernel
theorem dX2_ifStaying_25 : decode cX2_ifStaying 25 = .ok (.aload_n 0, 1) := by decide +kernel
theorem dX2_ifStaying_26 : decode cX2_ifStaying 26 = .ok (.getfield 9, 3) := by decide +kernel
theorem dX2_ifStaying_29 : decode cX2_ifStaying 29 = .ok (.arraylength, 1) := by decide +kernel
theorem dX2_ifStaying_30 : decode cX2_ifStaying 30 = .ok (.if_icmp .ge 15, 3) := by decide +kernel
theorem dX2_ifStaying_33 : decode cX2_ifStaying 33 = .ok (.aload_n 0, 1) := by decide +kernel
theorem dX2_ifStaying_34 : decode cX2_ifStaying 34 = .ok (.getfield 9, 3) := by decide +kernel
theorem dX2_ifStaying_37 : decode cX2_ifStaying 37 = .ok (.aload_n 1, 1) := by decide +kernel
theorem dX2_ifStaying_38 : decode cX2_ifStaying 38 = .ok (.getfield 61, 3) := by decide +kernel
theorem dX2_ifStaying_41 : decode cX2_ifStaying 41 = .ok (.iaload, 1) := by decide +kernel
theorem dX2_ifStaying_42 : decode cX2_ifStaying 42 = .ok (.goto 5, 3) := by decide +kernel
theorem dX2_ifStaying_45 : decode cX2_ifStaying 45 = .ok (.ldc 23, 2) := by decide +kernel
theorem dX2_ifStaying_47 : decode cX2_ifStaying 47 = .ok (.ireturn, 1) := by decide +kernel
theorem dX2_lookBack_0 : decode cX2_lookBack 0 = .ok (.aload_n 0, 1) := by decide +kernel
theorem dX2_lookBack_1 : decode cX2_lookBack 1 = .ok (.getfield 9, 3) := by decide +kernel
theorem dX2_lookBack_4 : decode cX2_lookBack 4 = .ok (.ldc 23, 2) := by decide +kernel
theorem dX2_lookBack_6 : decode cX2_lookBack 6 = .ok (.invokestatic 64, 3) := by decide +kernel
theorem dX2_lookBack_9 : decode cX2_lookBack 9 = .ok (.aload_n 0, 1) := by decide +kernel
theorem dX2_lookBack_10 : decode cX2_lookBack 10 = .ok (.ldc 23, 2) := by decide +kernel
theorem dX2_lookBack_12 : decode cX2_lookBack 12 = .ok (.putfield 19, 3) := by decide +kernel
theorem dX2_lookBack_15 : decode cX2_lookBack 15 = .ok (.bipush 30, 2) := by decide +kernel
theorem dX2_lookBack_17 : decode cX2_lookBack 17 = .ok (.istore 5, 2) := by decide +kernel
theorem dX2_lookBack_19 : decode cX2_lookBack 19 = .ok (.iload 5, 2) := by decide +kernel
theorem dX2_lookBack_21 : decode cX2_lookBack 21 = .ok (.iconst 1, 1) := by decide +kernel
theorem dX2_lookBack_22 : decode cX2_lookBack 22 = .ok (.if_icmp .lt 21, 3) := by decide +kernel
theorem dX2_lookBack_25 : decode cX2_lookBack 25 = .ok (.aload_n 0, 1) := by decide +kernel
theorem dX2_lookBack_26 : decode cX2_lookBack 26 = .ok (.aload_n 1, 1) := by decide +kernel
theorem dX2_lookBack_27 : decode cX2_lookBack 27 = .ok (.iload_n 2, 1) := by decide +kernel
theorem dX2_lookBack_28 : decode cX2_lookBack 28 = .ok (.iload_n 3, 1) := by decide +kernel
theorem dX2_lookBack_29 : decode cX2_lookBack 29 = .ok (.iload 4, 2) := by decide +kernel
theorem dX2_lookBack_31 : decode cX2_lookBack 31 = .ok (.iload 5, 2) := by decide +kernel
theorem dX2_lookBack_33 : decode cX2_lookBack 33 = .ok (.iadd, 1) := by decide +kernel
theorem dX2_lookBack_34 : decode cX2_lookBack 34 = .ok (.invokevirtual 70, 3) := by decide +kernel
theorem dX2_lookBack_37 : decode cX2_lookBack 37 = .ok (.iinc 5 (-1), 3) := by decide +kernel
theorem dX2_lookBack_40 : decode cX2_lookBack 40 = .ok (.goto (-21), 3) := by decide +kernel
theorem dX2_lookBack_43 : decode cX2_lookBack 43 = .ok (.return_, 1) := by decide +kernel
theorem dX2_stepBack_0 : decode cX2_stepBack 0 = .ok (.aload_n 1, 1) := by decide +kernel
theorem dX2_stepBack_1 : decode cX2_stepBack 1 = .ok (.iload 4, 2) := by decide +kernel
theorem dX2_stepBack_3 : decode cX2_stepBack 3 = .ok (.invokevirtual 73, 3) := by decide +kernel
theorem dX2_stepBack_6 : decode cX2_stepBack 6 = .ok (.istore 5, 2) := by decide +kernel
theorem dX2_stepBack_8 : decode cX2_stepBack 8 = .ok (.ldc 23, 2) := by decide +kernel
theorem dX2_stepBack_10 : decode cX2_stepBack 10 = .ok (.istore 6, 2) := by decide +kernel
theorem dX2_stepBack_12 : decode cX2_stepBack 12 = .ok (.iconst 0, 1) := by decide +kernel
theorem dX2_stepBack_13 : decode cX2_stepBack 13 = .ok (.istore 7, 2) := by decide +kernel
theorem dX2_stepBack_15 : decode cX2_stepBack 15 = .ok (.iload 7, 2) := by decide +kernel
theorem dX2_stepBack_17 : decode cX2_stepBack 17 = .ok (.aload_n 0, 1) := by decide +kernel
theorem dX2_stepBack_18 : decode cX2_stepBack 18 = .ok (.getfield 9, 3) := by decide +kernel
theorem dX2_stepBack_21 : decode cX2_stepBack 21 = .ok (.arraylength, 1) := by decide +kernel
theorem dX2_stepBack_22 : decode cX2_stepBack 22 = .ok (.if_icmp .ge 64, 3) := by decide +kernel
theorem dX2_stepBack_25 : decode cX2_stepBack 25 = .ok (.aload_n 1, 1) := by decide +kernel
theorem dX2_stepBack_26 : decode cX2_stepBack 26 = .ok (.iload 7, 2) := by decide +kernel
theorem dX2_stepBack_28 : decode cX2_stepBack 28 = .ok (.iload 4, 2) := by decide +kernel
theorem dX2_stepBack_30 : decode cX2_stepBack 30 = .ok (.invokevirtual 77, 3) := by decide +kernel
theorem dX2_stepBack_33 : decode cX2_stepBack 33 = .ok (.istore 8, 2) := by decide +kernel
theorem dX2_stepBack_35 : decode cX2_stepBack 35 = .ok (.iload 8, 2) := by decide +kernel
theorem dX2_stepBack_37 : decode cX2_stepBack 37 = .ok (.iload 5, 2) := by decide +kernel
theorem dX2_stepBack_39 : decode cX2_stepBack 39 = .ok (.if_icmp .ne 17, 3) := by decide +kernel
theorem dX2_stepBack_42 : decode cX2_stepBack 42 = .ok (.iload 6, 2) := by decide +kernel
theorem dX2_stepBack_44 : decode cX2_stepBack 44 = .ok (.aload_n 0, 1) := by decide +kernel
theorem dX2_stepBack_45 : decode cX2_stepBack 45 = .ok (.getfield 9, 3) := by decide +kernel
theorem dX2_stepBack_48 : decode cX2_stepBack 48 = .ok (.iload 7, 2) := by decide +kernel
theorem dX2_stepBack_50 : decode cX2_stepBack 50 = .ok (.iaload, 1) := by decide +kernel
theorem dX2_stepBack_51 : decode cX2_stepBack 51 = .ok (.invokestatic 81, 3) := by decide +kernel
theorem dX2_stepBack_54 : decode cX2_stepBack 54 = .ok (.istore 6, 2) := by decide +kernel
theorem dX2_stepBack_56 : decode cX2_stepBack 56 = .ok (.iload 8, 2) := by decide +kernel
theorem dX2_stepBack_58 : decode cX2_stepBack 58 = .ok (.iload_n 2, 1) := by decide +kernel
theorem dX2_stepBack_59 : decode cX2_stepBack 59 = .ok (.if_icmp .ne 21, 3) := by decide +kernel
theorem dX2_stepBack_62 : decode cX2_stepBack 62 = .ok (.aload_n 0, 1) := by decide +kernel
theorem dX2_stepBack_63 : decode cX2_stepBack 63 = .ok (.aload_n 0, 1) := by decide +kernel
theorem dX2_stepBack_64 : decode cX2_stepBack 64 = .ok (.getfield 19, 3) := by decide +kernel
theorem dX2_stepBack_67 : decode cX2_stepBack 67 = .ok (.aload_n 0, 1) := by decide +kernel
theorem dX2_stepBack_68 : decode cX2_stepBack 68 = .ok (.getfield 9, 3) := by decide +kernel
theorem dX2_stepBack_71 : decode cX2_stepBack 71 = .ok (.iload 7, 2) := by decide +kernel
theorem dX2_stepBack_73 : decode cX2_stepBack 73 = .ok (.iaload, 1) := by decide +kernel
theorem dX2_stepBack_74 : decode cX2_stepBack 74 = .ok (.invokestatic 81, 3) := by decide +kernel
theorem dX2_stepBack_77 : decode cX2_stepBack 77 = .ok (.putfield 19, 3) := by decide +kernel
theorem dX2_stepBack_80 : decode cX2_stepBack 80 = .ok (.iinc 7 1, 3) := by decide +kernel
theorem dX2_stepBack_83 : decode cX2_stepBack 83 = .ok (.goto (-68), 3) := by decide +kernel
theorem dX2_stepBack_86 : decode cX2_stepBack 86 = .ok (.iconst 0, 1) := by decide +kernel
theorem dX2_stepBack_87 : decode cX2_stepBack 87 = .ok (.istore 7, 2) := by decide +kernel
theorem dX2_stepBack_89 : decode cX2_stepBack 89 = .ok (.iload 7, 2) := by decide +kernel
theorem dX2_stepBack_91 : decode cX2_stepBack 91 = .ok (.aload_n 0, 1) := by decide +kernel
theorem dX2_stepBack_92 : decode cX2_stepBack 92 = .ok (.getfield 9, 3) := by decide +kernel
theorem dX2_stepBack_95 : decode cX2_stepBack 95 = .ok (.arraylength, 1) := by decide +kernel
theorem dX2_stepBack_96 : decode cX2_stepBack 96 = .ok (.if_icmp .ge 53, 3) := by decide +kernel
theorem dX2_stepBack_99 : decode cX2_stepBack 99 = .ok (.aload_n 1, 1) := by decide +kernel
theorem dX2_stepBack_100 : decode cX2_stepBack 100 = .ok (.iload 7, 2) := by decide +kernel
theorem dX2_stepBack_102 : decode cX2_stepBack 102 = .ok (.iload 4, 2) := by decide +kernel
theorem dX2_stepBack_104 : decode cX2_stepBack 104 = .ok (.invokevirtual 77, 3) := by decide +kernel
theorem dX2_stepBack_107 : decode cX2_stepBack 107 = .ok (.istore 8, 2) := by decide +kernel
theorem dX2_stepBack_109 : decode cX2_stepBack 109 = .ok (.iload 8, 2) := by decide +kernel
theorem dX2_stepBack_111 : decode cX2_stepBack 111 = .ok (.iload_n 3, 1) := by decide +kernel
theorem dX2_stepBack_112 : decode cX2_stepBack 112 = .ok (.if_icmp .ne 15, 3) := by decide +kernel
theorem dX2_stepBack_115 : decode cX2_stepBack 115 = .ok (.aload_n 0, 1) := by decide +kernel
theorem dX2_stepBack_116 : decode cX2_stepBack 116 = .ok (.getfield 9, 3) := by decide +kernel
theorem dX2_stepBack_119 : decode cX2_stepBack 119 = .ok (.iload 7, 2) := by decide +kernel
theorem dX2_stepBack_121 : decode cX2_stepBack 121 = .ok (.iload 4, 2) := by decide +kernel
theorem dX2_stepBack_123 : decode cX2_stepBack 123 = .ok (.iastore, 1) := by decide +kernel
theorem dX2_stepBack_124 : decode cX2_stepBack 124 = .ok (.goto 19, 3) := by decide +kernel
theorem dX2_stepBack_127 : decode cX2_stepBack 127 = .ok (.iload 8, 2) := by decide +kernel
theorem dX2_stepBack_129 : decode cX2_stepBack 129 = .ok (.iload 5, 2) := by decide +kernel
theorem dX2_stepBack_131 : decode cX2_stepBack 131 = .ok (.if_icmp .ne 12, 3) := by decide +kernel
theorem dX2_stepBack_134 : decode cX2_stepBack 134 = .ok (.aload_n 0, 1) := by decide +kernel
theorem dX2_stepBack_135 : decode cX2_stepBack 135 = .ok (.getfield 9, 3) := by decide +kernel
theorem dX2_stepBack_138 : decode cX2_stepBack 138 = .ok (.iload 7, 2) := by decide +kernel
theorem dX2_stepBack_140 : decode cX2_stepBack 140 = .ok (.iload 6, 2) := by decide +kernel
theorem dX2_stepBack_142 : decode cX2_stepBack 142 = .ok (.iastore, 1) := by decide +kernel
theorem dX2_stepBack_143 : decode cX2_stepBack 143 = .ok (.iinc 7 1, 3) := by decide +kernel
theorem dX2_stepBack_146 : decode cX2_stepBack 146 = .ok (.goto (-57), 3) := by decide +kernel
theorem dX2_stepBack_149 : decode cX2_stepBack 149 = .ok (.return_, 1) := by decide +kernel
theorem dX2_arrivalByHands_0 : decode cX2_arrivalByHands 0 = .ok (.aload_n 2, 1) := by decide +kernel
theorem dX2_arrivalByHands_1 : decode cX2_arrivalByHands 1 = .ok (.getfield 24, 3) := by decide +kernel
theorem dX2_arrivalByHands_4 : decode cX2_arrivalByHands 4 = .ok (.bipush (-4), 2) := by decide +kernel
theorem dX2_arrivalByHands_6 : decode cX2_arrivalByHands 6 = .ok (.if_icmp .eq 8, 3) := by decide +kernel
theorem dX2_arrivalByHands_9 : decode cX2_arrivalByHands 9 = .ok (.aload_n 2, 1) := by decide +kernel
theorem dX2_arrivalByHands_10 : decode cX2_arrivalByHands 10 = .ok (.getfield 24, 3) := by decide +kernel
theorem dX2_arrivalByHands_13 : decode cX2_arrivalByHands 13 = .ok (.ireturn, 1) := by decide +kernel
theorem dX2_arrivalByHands_14 : decode cX2_arrivalByHands 14 = .ok (.aload_n 2, 1) := by decide +kernel
theorem dX2_arrivalByHands_15 : decode cX2_arrivalByHands 15 = .ok (.getfield 61, 3) := by decide +kernel
theorem dX2_arrivalByHands_18 : decode cX2_arrivalByHands 18 = .ok (.bipush (-4), 2) := by decide +kernel
theorem dX2_arrivalByHands_20 : decode cX2_arrivalByHands 20 = .ok (.if_icmp .ne 7, 3) := by decide +kernel
theorem dX2_arrivalByHands_23 : decode cX2_arrivalByHands 23 = .ok (.iconst 0, 1) := by decide +kernel
theorem dX2_arrivalByHands_24 : decode cX2_arrivalByHands 24 = .ok (.goto 9, 3) := by decide +kernel
theorem dX2_arrivalByHands_27 : decode cX2_arrivalByHands 27 = .ok (.iconst 1, 1) := by decide +kernel
theorem dX2_arrivalByHands_28 : decode cX2_arrivalByHands 28 = .ok (.aload_n 2, 1) := by decide +kernel
theorem dX2_arrivalByHands_29 : decode cX2_arrivalByHands 29 = .ok (.getfield 61, 3) := by decide +kernel
theorem dX2_arrivalByHands_32 : decode cX2_arrivalByHands 32 = .ok (.ishl, 1) := by decide +kernel
theorem dX2_arrivalByHands_33 : decode cX2_arrivalByHands 33 = .ok (.istore_n 3, 1) := by decide +kernel
theorem dX2_arrivalByHands_34 : decode cX2_arrivalByHands 34 = .ok (.iconst 1, 1) := by decide +kernel
theorem dX2_arrivalByHands_35 : decode cX2_arrivalByHands 35 = .ok (.istore 4, 2) := by decide +kernel
theorem dX2_arrivalByHands_37 : decode cX2_arrivalByHands 37 = .ok (.iload 4, 2) := by decide +kernel
theorem dX2_arrivalByHands_39 : decode cX2_arrivalByHands 39 = .ok (.bipush 30, 2) := by decide +kernel
theorem dX2_arrivalByHands_41 : decode cX2_arrivalByHands 41 = .ok (.if_icmp .gt 75, 3) := by decide +kernel
theorem dX2_arrivalByHands_44 : decode cX2_arrivalByHands 44 = .ok (.aload_n 1, 1) := by decide +kernel
theorem dX2_arrivalByHands_45 : decode cX2_arrivalByHands 45 = .ok (.getfield 35, 3) := by decide +kernel
theorem dX2_arrivalByHands_48 : decode cX2_arrivalByHands 48 = .ok (.iload 4, 2) := by decide +kernel
theorem dX2_arrivalByHands_50 : decode cX2_arrivalByHands 50 = .ok (.iadd, 1) := by decide +kernel
theorem dX2_arrivalByHands_51 : decode cX2_arrivalByHands 51 = .ok (.istore 5, 2) := by decide +kernel
theorem dX2_arrivalByHands_53 : decode cX2_arrivalByHands 53 = .ok (.iload_n 3, 1) := by decide +kernel
theorem dX2_arrivalByHands_54 : decode cX2_arrivalByHands 54 = .ok (.aload_n 1, 1) := by decide +kernel
theorem dX2_arrivalByHands_55 : decode cX2_arrivalByHands 55 = .ok (.aload_n 2, 1) := by decide +kernel
theorem dX2_arrivalByHands_56 : decode cX2_arrivalByHands 56 = .ok (.getfield 32, 3) := by decide +kernel
theorem dX2_arrivalByHands_59 : decode cX2_arrivalByHands 59 = .ok (.iload 5, 2) := by decide +kernel
theorem dX2_arrivalByHands_61 : decode cX2_arrivalByHands 61 = .ok (.invokevirtual 86, 3) := by decide +kernel
theorem dX2_arrivalByHands_64 : decode cX2_arrivalByHands 64 = .ok (.iand, 1) := by decide +kernel
theorem dX2_arrivalByHands_65 : decode cX2_arrivalByHands 65 = .ok (.ifCond .eq 6, 3) := by decide +kernel
theorem dX2_arrivalByHands_68 : decode cX2_arrivalByHands 68 = .ok (.iload 5, 2) := by decide +kernel
theorem dX2_arrivalByHands_70 : decode cX2_arrivalByHands 70 = .ok (.ireturn, 1) := by decide +kernel
theorem dX2_arrivalByHands_71 : decode cX2_arrivalByHands 71 = .ok (.aload_n 1, 1) := by decide +kernel
theorem dX2_arrivalByHands_72 : decode cX2_arrivalByHands 72 = .ok (.aload_n 1, 1) := by decide +kernel
theorem dX2_arrivalByHands_73 : decode cX2_arrivalByHands 73 = .ok (.iload 5, 2) := by decide +kernel
theorem dX2_arrivalByHands_75 : decode cX2_arrivalByHands 75 = .ok (.invokevirtual 73, 3) := by decide +kernel
theorem dX2_arrivalByHands_78 : decode cX2_arrivalByHands 78 = .ok (.iload 5, 2) := by decide +kernel
theorem dX2_arrivalByHands_80 : decode cX2_arrivalByHands 80 = .ok (.invokevirtual 86, 3) := by decide +kernel
theorem dX2_arrivalByHands_83 : decode cX2_arrivalByHands 83 = .ok (.istore 6, 2) := by decide +kernel
theorem dX2_arrivalByHands_85 : decode cX2_arrivalByHands 85 = .ok (.iload_n 3, 1) := by decide +kernel
theorem dX2_arrivalByHands_86 : decode cX2_arrivalByHands 86 = .ok (.iload 6, 2) := by decide +kernel
theorem dX2_arrivalByHands_88 : decode cX2_arrivalByHands 88 = .ok (.iand, 1) := by decide +kernel
theorem dX2_arrivalByHands_89 : decode cX2_arrivalByHands 89 = .ok (.ifCond .eq 8, 3) := by decide +kernel
theorem dX2_arrivalByHands_92 : decode cX2_arrivalByHands 92 = .ok (.iload_n 3, 1) := by decide +kernel
theorem dX2_arrivalByHands_93 : decode cX2_arrivalByHands 93 = .ok (.iload 6, 2) := by decide +kernel
theorem dX2_arrivalByHands_95 : decode cX2_arrivalByHands 95 = .ok (.ior, 1) := by decide +kernel
theorem dX2_arrivalByHands_96 : decode cX2_arrivalByHands 96 = .ok (.istore_n 3, 1) := by decide +kernel
theorem dX2_arrivalByHands_97 : decode cX2_arrivalByHands 97 = .ok (.iload_n 3, 1) := by decide +kernel
theorem dX2_arrivalByHands_98 : decode cX2_arrivalByHands 98 = .ok (.aload_n 1, 1) := by decide +kernel
theorem dX2_arrivalByHands_99 : decode cX2_arrivalByHands 99 = .ok (.aload_n 2, 1) := by decide +kernel
theorem dX2_arrivalByHands_100 : decode cX2_arrivalByHands 100 = .ok (.getfield 29, 3) := by decide +kernel
theorem dX2_arrivalByHands_103 : decode cX2_arrivalByHands 103 = .ok (.iload 5, 2) := by decide +kernel
theorem dX2_arrivalByHands_105 : decode cX2_arrivalByHands 105 = .ok (.invokevirtual 86, 3) := by decide +kernel
theorem dX2_arrivalByHands_108 : decode cX2_arrivalByHands 108 = .ok (.ior, 1) := by decide +kernel
theorem dX2_arrivalByHands_109 : decode cX2_arrivalByHands 109 = .ok (.istore_n 3, 1) := by decide +kernel
theorem dX2_arrivalByHands_110 : decode cX2_arrivalByHands 110 = .ok (.iinc 4 1, 3) := by decide +kernel
theorem dX2_arrivalByHands_113 : decode cX2_arrivalByHands 113 = .ok (.goto (-76), 3) := by decide +kernel
theorem dX2_arrivalByHands_116 : decode cX2_arrivalByHands 116 = .ok (.bipush (-4), 2) := by decide +kernel
theorem dX2_arrivalByHands_118 : decode cX2_arrivalByHands 118 = .ok (.ireturn, 1) := by decide +kernel
theorem dX3_init_0 : decode cX3_init 0 = .ok (.aload_n 0, 1) := by decide +kernel
theorem dX3_init_1 : decode cX3_init 1 = .ok (.invokespecial 3, 3) := by decide +kernel
theorem dX3_init_4 : decode cX3_init 4 = .ok (.aload_n 0, 1) := by decide +kernel
theorem dX3_init_5 : decode cX3_init 5 = .ok (.iconst 4, 1) := by decide +kernel
theorem dX3_init_6 : decode cX3_init 6 = .ok (.anewarray 9, 3) := by decide +kernel
theorem dX3_init_9 : decode cX3_init 9 = .ok (.putfield 11, 3) := by decide +kernel
theorem dX3_init_12 : decode cX3_init 12 = .ok (.iconst 0, 1) := by decide +kernel
theorem dX3_init_13 : decode cX3_init 13 = .ok (.istore_n 1, 1) := by decide +kernel
theorem dX3_init_14 : decode cX3_init 14 = .ok (.iload_n 1, 1) := by decide +kernel
theorem dX3_init_15 : decode cX3_init 15 = .ok (.aload_n 0, 1) := by decide +kernel
theorem dX3_init_16 : decode cX3_init 16 = .ok (.getfield 11, 3) := by decide +kernel
theorem dX3_init_19 : decode cX3_init 19 = .ok (.arraylength, 1) := by decide +kernel
theorem dX3_init_20 : decode cX3_init 20 = .ok (.if_icmp .ge 22, 3) := by decide +kernel
theorem dX3_init_23 : decode cX3_init 23 = .ok (.aload_n 0, 1) := by decide +kernel
theorem dX3_init_24 : decode cX3_init 24 = .ok (.getfield 11, 3) := by decide +kernel
theorem dX3_init_27 : decode cX3_init 27 = .ok (.iload_n 1, 1) := by decide +kernel
theorem dX3_init_28 : decode cX3_init 28 = .ok (.new 9, 3) := by decide +kernel
theorem dX3_init_31 : decode cX3_init 31 = .ok (.dup, 1) := by decide +kernel
theorem dX3_init_32 : decode cX3_init 32 = .ok (.invokespecial 17, 3) := by decide +kernel
theorem dX3_init_35 : decode cX3_init 35 = .ok (.aastore, 1) := by decide +kernel
theorem dX3_init_36 : decode cX3_init 36 = .ok (.iinc 1 1, 3) := by decide +kernel
theorem dX3_init_39 : decode cX3_init 39 = .ok (.goto (-25), 3) := by decide +kernel
theorem dX3_init_42 : decode cX3_init 42 = .ok (.return_, 1) := by decide +kernel
theorem dX3_keep_0 : decode cX3_keep 0 = .ok (.aload_n 0, 1) := by decide +kernel
theorem dX3_keep_1 : decode cX3_keep 1 = .ok (.getfield 18, 3) := by decide +kernel
theorem dX3_keep_4 : decode cX3_keep 4 = .ok (.aload_n 0, 1) := by decide +kernel
theorem dX3_keep_5 : decode cX3_keep 5 = .ok (.getfield 11, 3) := by decide +kernel
theorem dX3_keep_8 : decode cX3_keep 8 = .ok (.arraylength, 1) := by decide +kernel
theorem dX3_keep_9 : decode cX3_keep 9 = .ok (.if_icmp .lt 7, 3) := by decide +kernel
theorem dX3_keep_12 : decode cX3_keep 12 = .ok (.aload_n 0, 1) := by decide +kernel
theorem dX3_keep_13 : decode cX3_keep 13 = .ok (.invokevirtual 22, 3) := by decide +kernel
theorem dX3_keep_16 : decode cX3_keep 16 = .ok (.aload_n 0, 1) := by decide +kernel
theorem dX3_keep_17 : decode cX3_keep 17 = .ok (.aload_n 0, 1) := by decide +kernel
theorem dX3_keep_18 : decode cX3_keep 18 = .ok (.getfield 18, 3) := by decide +kernel
theorem dX3_keep_21 : decode cX3_keep 21 = .ok (.invokevirtual 25, 3) := by decide +kernel
theorem dX3_keep_24 : decode cX3_keep 24 = .ok (.astore_n 2, 1) := by decide +kernel
theorem dX3_keep_25 : decode cX3_keep 25 = .ok (.aload_n 2, 1) := by decide +kernel
theorem dX3_keep_26 : decode cX3_keep 26 = .ok (.ifnull 18, 3) := by decide +kernel
theorem dX3_keep_29 : decode cX3_keep 29 = .ok (.aload_n 2, 1) := by decide +kernel
theorem dX3_keep_30 : decode cX3_keep 30 = .ok (.aload_n 1, 1) := by decide +kernel
theorem dX3_keep_31 : decode cX3_keep 31 = .ok (.invokevirtual 29, 3) := by decide +kernel
theorem dX3_keep_34 : decode cX3_keep 34 = .ok (.aload_n 0, 1) := by decide +kernel
theorem dX3_keep_35 : decode cX3_keep 35 = .ok (.dup, 1) := by decide +kernel
theorem dX3_keep_36 : decode cX3_keep 36 = .ok (.getfield 18, 3) := by decide +kernel
theorem dX3_keep_39 : decode cX3_keep 39 = .ok (.iconst 1, 1) := by decide +kernel
theorem dX3_keep_40 : decode cX3_keep 40 = .ok (.iadd, 1) := by decide +kernel
theorem dX3_keep_41 : decode cX3_keep 41 = .ok (.putfield 18, 3) := by decide +kernel
theorem dX3_keep_44 : decode cX3_keep 44 = .ok (.return_, 1) := by decide +kernel
theorem dX3_takeBack_0 : decode cX3_takeBack 0 = .ok (.aload_n 0, 1) := by decide +kernel
theorem dX3_takeBack_1 : decode cX3_takeBack 1 = .ok (.aload_n 0, 1) := by decide +kernel
theorem dX3_takeBack_2 : decode cX3_takeBack 2 = .ok (.getfield 18, 3) := by decide +kernel
theorem dX3_takeBack_5 : decode cX3_takeBack 5 = .ok (.iconst 1, 1) := by decide +kernel
theorem dX3_takeBack_6 : decode cX3_takeBack 6 = .ok (.isub, 1) := by decide +kernel
theorem dX3_takeBack_7 : decode cX3_takeBack 7 = .ok (.invokevirtual 25, 3) := by decide +kernel
theorem dX3_takeBack_10 : decode cX3_takeBack 10 = .ok (.astore_n 2, 1) := by decide +kernel
theorem dX3_takeBack_11 : decode cX3_takeBack 11 = .ok (.aload_n 2, 1) := by decide +kernel
theorem dX3_takeBack_12 : decode cX3_takeBack 12 = .ok (.ifnull 18, 3) := by decide +kernel
theorem dX3_takeBack_15 : decode cX3_takeBack 15 = .ok (.aload_n 1, 1) := by decide +kernel
theorem dX3_takeBack_16 : decode cX3_takeBack 16 = .ok (.aload_n 2, 1) := by decide +kernel
theorem dX3_takeBack_17 : decode cX3_takeBack 17 = .ok (.invokevirtual 29, 3) := by decide +kernel
theorem dX3_takeBack_20 : decode cX3_takeBack 20 = .ok (.aload_n 0, 1) := by decide +kernel
theorem dX3_takeBack_21 : decode cX3_takeBack 21 = .ok (.dup, 1) := by decide +kernel
theorem dX3_takeBack_22 : decode cX3_takeBack 22 = .ok (.getfield 18, 3) := by decide +kernel
theorem dX3_takeBack_25 : decode cX3_takeBack 25 = .ok (.iconst 1, 1) := by decide +kernel
theorem dX3_takeBack_26 : decode cX3_takeBack 26 = .ok (.isub, 1) := by decide +kernel
theorem dX3_takeBack_27 : decode cX3_takeBack 27 = .ok (.putfield 18, 3) := by decide +kernel
theorem dX3_takeBack_30 : decode cX3_takeBack 30 = .ok (.return_, 1) := by decide +kernel
theorem dX3_stateAt_0 : decode cX3_stateAt 0 = .ok (.iload_n 1, 1) := by decide +kernel
theorem dX3_stateAt_1 : decode cX3_stateAt 1 = .ok (.ifCond .lt 21, 3) := by decide +kernel
theorem dX3_stateAt_4 : decode cX3_stateAt 4 = .ok (.iload_n 1, 1) := by decide +kernel
theorem dX3_stateAt_5 : decode cX3_stateAt 5 = .ok (.aload_n 0, 1) := by decide +kernel
theorem dX3_stateAt_6 : decode cX3_stateAt 6 = .ok (.getfield 11, 3) := by decide +kernel
theorem dX3_stateAt_9 : decode cX3_stateAt 9 = .ok (.arraylength, 1) := by decide +kernel
theorem dX3_stateAt_10 : decode cX3_stateAt 10 = .ok (.if_icmp .ge 12, 3) := by decide +kernel
theorem dX3_stateAt_13 : decode cX3_stateAt 13 = .ok (.aload_n 0, 1) := by decide +kernel
theorem dX3_stateAt_14 : decode cX3_stateAt 14 = .ok (.getfield 11, 3) := by decide +kernel
theorem dX3_stateAt_17 : decode cX3_stateAt 17 = .ok (.iload_n 1, 1) := by decide +kernel
theorem dX3_stateAt_18 : decode cX3_stateAt 18 = .ok (.aaload, 1) := by decide +kernel
theorem dX3_stateAt_19 : decode cX3_stateAt 19 = .ok (.goto 4, 3) := by decide +kernel
theorem dX3_stateAt_22 : decode cX3_stateAt 22 = .ok (.aconst_null, 1) := by decide +kernel
theorem dX3_stateAt_23 : decode cX3_stateAt 23 = .ok (.areturn, 1) := by decide +kernel
theorem dX3_dropOldest_0 : decode cX3_dropOldest 0 = .ok (.aload_n 0, 1) := by decide +kernel
theorem dX3_dropOldest_1 : decode cX3_dropOldest 1 = .ok (.iconst 0, 1) := by decide +kernel
theorem dX3_dropOldest_2 : decode cX3_dropOldest 2 = .ok (.invokevirtual 25, 3) := by decide +kernel
theorem dX3_dropOldest_5 : decode cX3_dropOldest 5 = .ok (.astore_n 1, 1) := by decide +kernel
theorem dX3_dropOldest_6 : decode cX3_dropOldest 6 = .ok (.iconst 0, 1) := by decide +kernel
theorem dX3_dropOldest_7 : decode cX3_dropOldest 7 = .ok (.istore_n 2, 1) := by decide +kernel
theorem dX3_dropOldest_8 : decode cX3_dropOldest 8 = .ok (.iconst 0, 1) := by decide +kernel
theorem dX3_dropOldest_9 : decode cX3_dropOldest 9 = .ok (.istore_n 3, 1) := by decide +kernel
theorem dX3_dropOldest_10 : decode cX3_dropOldest 10 = .ok (.iload_n 3, 1) := by decide +kernel
theorem dX3_dropOldest_11 : decode cX3_dropOldest 11 = .ok (.iconst 1, 1) := by decide +kernel
theorem dX3_dropOldest_12 : decode cX3_dropOldest 12 = .ok (.iadd, 1) := by decide +kernel
theorem dX3_dropOldest_13 : decode cX3_dropOldest 13 = .ok (.aload_n 0, 1) := by decide +kernel
theorem dX3_dropOldest_14 : decode cX3_dropOldest 14 = .ok (.getfield 11, 3) := by decide +kernel
theorem dX3_dropOldest_17 : decode cX3_dropOldest 17 = .ok (.arraylength, 1) := by decide +kernel
theorem dX3_dropOldest_18 : decode cX3_dropOldest 18 = .ok (.if_icmp .ge 27, 3) := by decide +kernel
theorem dX3_dropOldest_21 : decode cX3_dropOldest 21 = .ok (.aload_n 0, 1) := by decide +kernel
theorem dX3_dropOldest_22 : decode cX3_dropOldest 22 = .ok (.getfield 11, 3) := by decide +kernel
theorem dX3_dropOldest_25 : decode cX3_dropOldest 25 = .ok (.iload_n 3, 1) := by decide +kernel
theorem dX3_dropOldest_26 : decode cX3_dropOldest 26 = .ok (.aload_n 0, 1) := by decide +kernel
theorem dX3_dropOldest_27 : decode cX3_dropOldest 27 = .ok (.getfield 11, 3) := by decide +kernel
theorem dX3_dropOldest_30 : decode cX3_dropOldest 30 = .ok (.iload_n 3, 1) := by decide +kernel
theorem dX3_dropOldest_31 : decode cX3_dropOldest 31 = .ok (.iconst 1, 1) := by decide +kernel
theorem dX3_dropOldest_32 : decode cX3_dropOldest 32 = .ok (.iadd, 1) := by decide +kernel
theorem dX3_dropOldest_33 : decode cX3_dropOldest 33 = .ok (.aaload, 1) := by decide +kernel
theorem dX3_dropOldest_34 : decode cX3_dropOldest 34 = .ok (.aastore, 1) := by decide +kernel
theorem dX3_dropOldest_35 : decode cX3_dropOldest 35 = .ok (.iload_n 3, 1) := by decide +kernel
theorem dX3_dropOldest_36 : decode cX3_dropOldest 36 = .ok (.iconst 1, 1) := by decide +kernel
theorem dX3_dropOldest_37 : decode cX3_dropOldest 37 = .ok (.iadd, 1) := by decide +kernel
theorem dX3_dropOldest_38 : decode cX3_dropOldest 38 = .ok (.istore_n 2, 1) := by decide +kernel
theorem dX3_dropOldest_39 : decode cX3_dropOldest 39 = .ok (.iinc 3 1, 3) := by decide +kernel
theorem dX3_dropOldest_42 : decode cX3_dropOldest 42 = .ok (.goto (-32), 3) := by decide +kernel
theorem dX3_dropOldest_45 : decode cX3_dropOldest 45 = .ok (.iload_n 2, 1) := by decide +kernel
theorem dX3_dropOldest_46 : decode cX3_dropOldest 46 = .ok (.aload_n 0, 1) := by decide +kernel
theorem dX3_dropOldest_47 : decode cX3_dropOldest 47 = .ok (.getfield 11, 3) := by decide +kernel
theorem dX3_dropOldest_50 : decode cX3_dropOldest 50 = .ok (.arraylength, 1) := by decide +kernel
theorem dX3_dropOldest_51 : decode cX3_dropOldest 51 = .ok (.if_icmp .ge 10, 3) := by decide +kernel
theorem dX3_dropOldest_54 : decode cX3_dropOldest 54 = .ok (.aload_n 0, 1) := by decide +kernel
theorem dX3_dropOldest_55 : decode cX3_dropOldest 55 = .ok (.getfield 11, 3) := by decide +kernel
theorem dX3_dropOldest_58 : decode cX3_dropOldest 58 = .ok (.iload_n 2, 1) := by decide +kernel
theorem dX3_dropOldest_59 : decode cX3_dropOldest 59 = .ok (.aload_n 1, 1) := by decide +kernel
theorem dX3_dropOldest_60 : decode cX3_dropOldest 60 = .ok (.aastore, 1) := by decide +kernel
theorem dX3_dropOldest_61 : decode cX3_dropOldest 61 = .ok (.aload_n 0, 1) := by decide +kernel
theorem dX3_dropOldest_62 : decode cX3_dropOldest 62 = .ok (.iload_n 2, 1) := by decide +kernel
theorem dX3_dropOldest_63 : decode cX3_dropOldest 63 = .ok (.putfield 18, 3) := by decide +kernel
theorem dX3_dropOldest_66 : decode cX3_dropOldest 66 = .ok (.return_, 1) := by decide +kernel
theorem dX4_init_0 : decode cX4_init 0 = .ok (.aload_n 0, 1) := by decide +kernel
theorem dX4_init_1 : decode cX4_init 1 = .ok (.invokespecial 3, 3) := by decide +kernel
theorem dX4_init_4 : decode cX4_init 4 = .ok (.aload_n 0, 1) := by decide +kernel
theorem dX4_init_5 : decode cX4_init 5 = .ok (.bipush 60, 2) := by decide +kernel
theorem dX4_init_7 : decode cX4_init 7 = .ok (.newarray .int, 2) := by decide +kernel
theorem dX4_init_9 : decode cX4_init 9 = .ok (.putfield 9, 3) := by decide +kernel
theorem dX4_init_12 : decode cX4_init 12 = .ok (.return_, 1) := by decide +kernel
theorem dX4_add_0 : decode cX4_add 0 = .ok (.aload_n 0, 1) := by decide +kernel
theorem dX4_add_1 : decode cX4_add 1 = .ok (.getfield 15, 3) := by decide +kernel
theorem dX4_add_4 : decode cX4_add 4 = .ok (.ifCond .lt 35, 3) := by decide +kernel
theorem dX4_add_7 : decode cX4_add 7 = .ok (.aload_n 0, 1) := by decide +kernel
theorem dX4_add_8 : decode cX4_add 8 = .ok (.getfield 15, 3) := by decide +kernel
theorem dX4_add_11 : decode cX4_add 11 = .ok (.aload_n 0, 1) := by decide +kernel
theorem dX4_add_12 : decode cX4_add 12 = .ok (.getfield 9, 3) := by decide +kernel
theorem dX4_add_15 : decode cX4_add 15 = .ok (.arraylength, 1) := by decide +kernel
theorem dX4_add_16 : decode cX4_add 16 = .ok (.if_icmp .ge 23, 3) := by decide +kernel
theorem dX4_add_19 : decode cX4_add 19 = .ok (.aload_n 0, 1) := by decide +kernel
theorem dX4_add_20 : decode cX4_add 20 = .ok (.getfield 9, 3) := by decide +kernel
theorem dX4_add_23 : decode cX4_add 23 = .ok (.aload_n 0, 1) := by decide +kernel
theorem dX4_add_24 : decode cX4_add 24 = .ok (.getfield 15, 3) := by decide +kernel
theorem dX4_add_27 : decode cX4_add 27 = .ok (.iload_n 1, 1) := by decide +kernel
theorem dX4_add_28 : decode cX4_add 28 = .ok (.iastore, 1) := by decide +kernel
theorem dX4_add_29 : decode cX4_add 29 = .ok (.aload_n 0, 1) := by decide +kernel
theorem dX4_add_30 : decode cX4_add 30 = .ok (.dup, 1) := by decide +kernel
theorem dX4_add_31 : decode cX4_add 31 = .ok (.getfield 15, 3) := by decide +kernel
theorem dX4_add_34 : decode cX4_add 34 = .ok (.iconst 1, 1) := by decide +kernel
theorem dX4_add_35 : decode cX4_add 35 = .ok (.iadd, 1) := by decide +kernel
theorem dX4_add_36 : decode cX4_add 36 = .ok (.putfield 15, 3) := by decide +kernel
theorem dX4_add_39 : decode cX4_add 39 = .ok (.return_, 1) := by decide +kernel
theorem dX4_signAt_0 : decode cX4_signAt 0 = .ok (.iload_n 1, 1) := by decide +kernel
theorem dX4_signAt_1 : decode cX4_signAt 1 = .ok (.ifCond .lt 29, 3) := by decide +kernel
theorem dX4_signAt_4 : decode cX4_signAt 4 = .ok (.iload_n 1, 1) := by decide +kernel
theorem dX4_signAt_5 : decode cX4_signAt 5 = .ok (.aload_n 0, 1) := by decide +kernel
theorem dX4_signAt_6 : decode cX4_signAt 6 = .ok (.getfield 15, 3) := by decide +kernel
theorem dX4_signAt_9 : decode cX4_signAt 9 = .ok (.if_icmp .ge 21, 3) := by decide +kernel
theorem dX4_signAt_12 : decode cX4_signAt 12 = .ok (.iload_n 1, 1) := by decide +kernel
theorem dX4_signAt_13 : decode cX4_signAt 13 = .ok (.aload_n 0, 1) := by decide +kernel
theorem dX4_signAt_14 : decode cX4_signAt 14 = .ok (.getfield 9, 3) := by decide +kernel
theorem dX4_signAt_17 : decode cX4_signAt 17 = .ok (.arraylength, 1) := by decide +kernel
theorem dX4_signAt_18 : decode cX4_signAt 18 = .ok (.if_icmp .ge 12, 3) := by decide +kernel
theorem dX4_signAt_21 : decode cX4_signAt 21 = .ok (.aload_n 0, 1) := by decide +kernel
theorem dX4_signAt_22 : decode cX4_signAt 22 = .ok (.getfield 9, 3) := by decide +kernel
theorem dX4_signAt_25 : decode cX4_signAt 25 = .ok (.iload_n 1, 1) := by decide +kernel
theorem dX4_signAt_26 : decode cX4_signAt 26 = .ok (.iaload, 1) := by decide +kernel
theorem dX4_signAt_27 : decode cX4_signAt 27 = .ok (.goto 4, 3) := by decide +kernel
theorem dX4_signAt_30 : decode cX4_signAt 30 = .ok (.iconst 0, 1) := by decide +kernel
theorem dX4_signAt_31 : decode cX4_signAt 31 = .ok (.ireturn, 1) := by decide +kernel
theorem dX4_parts_0 : decode cX4_parts 0 = .ok (.iconst 1, 1) := by decide +kernel
theorem dX4_parts_1 : decode cX4_parts 1 = .ok (.istore_n 2, 1) := by decide +kernel
theorem dX4_parts_2 : decode cX4_parts 2 = .ok (.iconst 0, 1) := by decide +kernel
theorem dX4_parts_3 : decode cX4_parts 3 = .ok (.istore_n 3, 1) := by decide +kernel
theorem dX4_parts_4 : decode cX4_parts 4 = .ok (.iload_n 3, 1) := by decide +kernel
theorem dX4_parts_5 : decode cX4_parts 5 = .ok (.aload_n 0, 1) := by decide +kernel
theorem dX4_parts_6 : decode cX4_parts 6 = .ok (.getfield 15, 3) := by decide +kernel
theorem dX4_parts_9 : decode cX4_parts 9 = .ok (.if_icmp .ge 21, 3) := by decide +kernel
theorem dX4_parts_12 : decode cX4_parts 12 = .ok (.aload_n 0, 1) := by decide +kernel
theorem dX4_parts_13 : decode cX4_parts 13 = .ok (.iload_n 3, 1) := by decide +kernel
theorem dX4_parts_14 : decode cX4_parts 14 = .ok (.invokevirtual 19, 3) := by decide +kernel
theorem dX4_parts_17 : decode cX4_parts 17 = .ok (.iload_n 1, 1) := by decide +kernel
theorem dX4_parts_18 : decode cX4_parts 18 = .ok (.if_icmp .ne 6, 3) := by decide +kernel
theorem dX4_parts_21 : decode cX4_parts 21 = .ok (.iinc 2 1, 3) := by decide +kernel
theorem dX4_parts_24 : decode cX4_parts 24 = .ok (.iinc 3 1, 3) := by decide +kernel
theorem dX4_parts_27 : decode cX4_parts 27 = .ok (.goto (-23), 3) := by decide +kernel
theorem dX4_parts_30 : decode cX4_parts 30 = .ok (.iload_n 2, 1) := by decide +kernel
theorem dX4_parts_31 : decode cX4_parts 31 = .ok (.ireturn, 1) := by decide +kernel
theorem dX4_faultAsTours_0 : decode cX4_faultAsTours 0 = .ok (.iconst 0, 1) := by decide +kernel
theorem dX4_faultAsTours_1 : decode cX4_faultAsTours 1 = .ok (.istore_n 1, 1) := by decide +kernel
theorem dX4_faultAsTours_2 : decode cX4_faultAsTours 2 = .ok (.iconst 0, 1) := by decide +kernel
theorem dX4_faultAsTours_3 : decode cX4_faultAsTours 3 = .ok (.istore_n 2, 1) := by decide +kernel
theorem dX4_faultAsTours_4 : decode cX4_faultAsTours 4 = .ok (.iload_n 2, 1) := by decide +kernel
theorem dX4_faultAsTours_5 : decode cX4_faultAsTours 5 = .ok (.aload_n 0, 1) := by decide +kernel
theorem dX4_faultAsTours_6 : decode cX4_faultAsTours 6 = .ok (.getfield 15, 3) := by decide +kernel
theorem dX4_faultAsTours_9 : decode cX4_faultAsTours 9 = .ok (.if_icmp .ge 26, 3) := by decide +kernel
theorem dX4_faultAsTours_12 : decode cX4_faultAsTours 12 = .ok (.iload_n 1, 1) := by decide +kernel
theorem dX4_faultAsTours_13 : decode cX4_faultAsTours 13 = .ok (.aload_n 0, 1) := by decide +kernel
theorem dX4_faultAsTours_14 : decode cX4_faultAsTours 14 = .ok (.iload_n 2, 1) := by decide +kernel
theorem dX4_faultAsTours_15 : decode cX4_faultAsTours 15 = .ok (.invokevirtual 19, 3) := by decide +kernel
theorem dX4_faultAsTours_18 : decode cX4_faultAsTours 18 = .ok (.invokestatic 23, 3) := by decide +kernel
theorem dX4_faultAsTours_21 : decode cX4_faultAsTours 21 = .ok (.istore_n 1, 1) := by decide +kernel
theorem dX4_faultAsTours_22 : decode cX4_faultAsTours 22 = .ok (.iload_n 1, 1) := by decide +kernel
theorem dX4_faultAsTours_23 : decode cX4_faultAsTours 23 = .ok (.iconst (-1), 1) := by decide +kernel
theorem dX4_faultAsTours_24 : decode cX4_faultAsTours 24 = .ok (.if_icmp .ne 5, 3) := by decide +kernel
theorem dX4_faultAsTours_27 : decode cX4_faultAsTours 27 = .ok (.iload_n 2, 1) := by decide +kernel
theorem dX4_faultAsTours_28 : decode cX4_faultAsTours 28 = .ok (.ireturn, 1) := by decide +kernel
theorem dX4_faultAsTours_29 : decode cX4_faultAsTours 29 = .ok (.iinc 2 1, 3) := by decide +kernel
theorem dX4_faultAsTours_32 : decode cX4_faultAsTours 32 = .ok (.goto (-28), 3) := by decide +kernel
theorem dX4_faultAsTours_35 : decode cX4_faultAsTours 35 = .ok (.iload_n 1, 1) := by decide +kernel
theorem dX4_faultAsTours_36 : decode cX4_faultAsTours 36 = .ok (.ifCond .eq 9, 3) := by decide +kernel
theorem dX4_faultAsTours_39 : decode cX4_faultAsTours 39 = .ok (.iload_n 1, 1) := by decide +kernel
theorem dX4_faultAsTours_40 : decode cX4_faultAsTours 40 = .ok (.bipush 8, 2) := by decide +kernel
theorem dX4_faultAsTours_42 : decode cX4_faultAsTours 42 = .ok (.if_icmp .ne 10, 3) := by decide +kernel
theorem dX4_faultAsTours_45 : decode cX4_faultAsTours 45 = .ok (.aload_n 0, 1) := by decide +kernel
theorem dX4_faultAsTours_46 : decode cX4_faultAsTours 46 = .ok (.getfield 15, 3) := by decide +kernel
theorem dX4_faultAsTours_49 : decode cX4_faultAsTours 49 = .ok (.goto 5, 3) := by decide +kernel
theorem dX4_faultAsTours_52 : decode cX4_faultAsTours 52 = .ok (.bipush (-4), 2) := by decide +kernel
theorem dX4_faultAsTours_54 : decode cX4_faultAsTours 54 = .ok (.ireturn, 1) := by decide +kernel
theorem dX4_readTourSign_0 : decode cX4_readTourSign 0 = .ok (.iload_n 0, 1) := by decide +kernel
theorem dX4_readTourSign_1 : decode cX4_readTourSign 1 = .ok (.bipush 8, 2) := by decide +kernel
theorem dX4_readTourSign_3 : decode cX4_readTourSign 3 = .ok (.if_icmp .ne 22, 3) := by decide +kernel
theorem dX4_readTourSign_6 : decode cX4_readTourSign 6 = .ok (.iload_n 1, 1) := by decide +kernel
theorem dX4_readTourSign_7 : decode cX4_readTourSign 7 = .ok (.bipush 48, 2) := by decide +kernel
theorem dX4_readTourSign_9 : decode cX4_readTourSign 9 = .ok (.if_icmp .lt 14, 3) := by decide +kernel
theorem dX4_readTourSign_12 : decode cX4_readTourSign 12 = .ok (.iload_n 1, 1) := by decide +kernel
theorem dX4_readTourSign_13 : decode cX4_readTourSign 13 = .ok (.bipush 57, 2) := by decide +kernel
theorem dX4_readTourSign_15 : decode cX4_readTourSign 15 = .ok (.if_icmp .gt 8, 3) := by decide +kernel
theorem dX4_readTourSign_18 : decode cX4_readTourSign 18 = .ok (.bipush 9, 2) := by decide +kernel
theorem dX4_readTourSign_20 : decode cX4_readTourSign 20 = .ok (.goto 4, 3) := by decide +kernel
theorem dX4_readTourSign_23 : decode cX4_readTourSign 23 = .ok (.iconst (-1), 1) := by decide +kernel
theorem dX4_readTourSign_24 : decode cX4_readTourSign 24 = .ok (.ireturn, 1) := by decide +kernel
theorem dX4_readTourSign_25 : decode cX4_readTourSign 25 = .ok (.iload_n 1, 1) := by decide +kernel
theorem dX4_readTourSign_26 : decode cX4_readTourSign 26 = .ok (.bipush 59, 2) := by decide +kernel
theorem dX4_readTourSign_28 : decode cX4_readTourSign 28 = .ok (.if_icmp .ne 13, 3) := by decide +kernel
theorem dX4_readTourSign_31 : decode cX4_readTourSign 31 = .ok (.iload_n 0, 1) := by decide +kernel
theorem dX4_readTourSign_32 : decode cX4_readTourSign 32 = .ok (.ifCond .ne 7, 3) := by decide +kernel
theorem dX4_readTourSign_35 : decode cX4_readTourSign 35 = .ok (.iconst (-1), 1) := by decide +kernel
theorem dX4_readTourSign_36 : decode cX4_readTourSign 36 = .ok (.goto 4, 3) := by decide +kernel
theorem dX4_readTourSign_39 : decode cX4_readTourSign 39 = .ok (.iconst 0, 1) := by decide +kernel
theorem dX4_readTourSign_40 : decode cX4_readTourSign 40 = .ok (.ireturn, 1) := by decide +kernel
theorem dX4_readTourSign_41 : decode cX4_readTourSign 41 = .ok (.iload_n 1, 1) := by decide +kernel
theorem dX4_readTourSign_42 : decode cX4_readTourSign 42 = .ok (.bipush 42, 2) := by decide +kernel
theorem dX4_readTourSign_44 : decode cX4_readTourSign 44 = .ok (.if_icmp .ne 20, 3) := by decide +kernel
theorem dX4_readTourSign_47 : decode cX4_readTourSign 47 = .ok (.iload_n 0, 1) := by decide +kernel
theorem dX4_readTourSign_48 : decode cX4_readTourSign 48 = .ok (.ifCond .eq 9, 3) := by decide +kernel
theorem dX4_readTourSign_51 : decode cX4_readTourSign 51 = .ok (.iload_n 0, 1) := by decide +kernel
theorem dX4_readTourSign_52 : decode cX4_readTourSign 52 = .ok (.bipush 9, 2) := by decide +kernel
theorem dX4_readTourSign_54 : decode cX4_readTourSign 54 = .ok (.if_icmp .ne 7, 3) := by decide +kernel
theorem dX4_readTourSign_57 : decode cX4_readTourSign 57 = .ok (.iconst (-1), 1) := by decide +kernel
theorem dX4_readTourSign_58 : decode cX4_readTourSign 58 = .ok (.goto 5, 3) := by decide +kernel
theorem dX4_readTourSign_61 : decode cX4_readTourSign 61 = .ok (.bipush 8, 2) := by decide +kernel
theorem dX4_readTourSign_63 : decode cX4_readTourSign 63 = .ok (.ireturn, 1) := by decide +kernel
theorem dX4_readTourSign_64 : decode cX4_readTourSign 64 = .ok (.iload_n 1, 1) := by decide +kernel
theorem dX4_readTourSign_65 : decode cX4_readTourSign 65 = .ok (.invokestatic 27, 3) := by decide +kernel
theorem dX4_readTourSign_68 : decode cX4_readTourSign 68 = .ok (.ifCond .eq 15, 3) := by decide +kernel
theorem dX4_readTourSign_71 : decode cX4_readTourSign 71 = .ok (.iload_n 0, 1) := by decide +kernel
theorem dX4_readTourSign_72 : decode cX4_readTourSign 72 = .ok (.bipush 7, 2) := by decide +kernel
theorem dX4_readTourSign_74 : decode cX4_readTourSign 74 = .ok (.if_icmp .ge 9, 3) := by decide +kernel
theorem dX4_readTourSign_77 : decode cX4_readTourSign 77 = .ok (.iload_n 0, 1) := by decide +kernel
theorem dX4_readTourSign_78 : decode cX4_readTourSign 78 = .ok (.iconst 1, 1) := by decide +kernel
theorem dX4_readTourSign_79 : decode cX4_readTourSign 79 = .ok (.iadd, 1) := by decide +kernel
theorem dX4_readTourSign_80 : decode cX4_readTourSign 80 = .ok (.goto 4, 3) := by decide +kernel
theorem dX4_readTourSign_83 : decode cX4_readTourSign 83 = .ok (.iconst (-1), 1) := by decide +kernel
theorem dX4_readTourSign_84 : decode cX4_readTourSign 84 = .ok (.ireturn, 1) := by decide +kernel
theorem dX4_faultAsLetters_0 : decode cX4_faultAsLetters 0 = .ok (.iconst 0, 1) := by decide +kernel
theorem dX4_faultAsLetters_1 : decode cX4_faultAsLetters 1 = .ok (.istore_n 1, 1) := by decide +kernel
theorem dX4_faultAsLetters_2 : decode cX4_faultAsLetters 2 = .ok (.iload_n 1, 1) := by decide +kernel
theorem dX4_faultAsLetters_3 : decode cX4_faultAsLetters 3 = .ok (.aload_n 0, 1) := by decide +kernel
theorem dX4_faultAsLetters_4 : decode cX4_faultAsLetters 4 = .ok (.getfield 15, 3) := by decide +kernel
theorem dX4_faultAsLetters_7 : decode cX4_faultAsLetters 7 = .ok (.if_icmp .ge 19, 3) := by decide +kernel
theorem dX4_faultAsLetters_10 : decode cX4_faultAsLetters 10 = .ok (.aload_n 0, 1) := by decide +kernel
theorem dX4_faultAsLetters_11 : decode cX4_faultAsLetters 11 = .ok (.iload_n 1, 1) := by decide +kernel
theorem dX4_faultAsLetters_12 : decode cX4_faultAsLetters 12 = .ok (.invokevirtual 31, 3) := by decide +kernel
theorem dX4_faultAsLetters_15 : decode cX4_faultAsLetters 15 = .ok (.ifCond .ne 5, 3) := by decide +kernel
theorem dX4_faultAsLetters_18 : decode cX4_faultAsLetters 18 = .ok (.iload_n 1, 1) := by decide +kernel
theorem dX4_faultAsLetters_19 : decode cX4_faultAsLetters 19 = .ok (.ireturn, 1) := by decide +kernel
theorem dX4_faultAsLetters_20 : decode cX4_faultAsLetters 20 = .ok (.iinc 1 1, 3) := by decide +kernel
theorem dX4_faultAsLetters_23 : decode cX4_faultAsLetters 23 = .ok (.goto (-21), 3) := by decide +kernel
theorem dX4_faultAsLetters_26 : decode cX4_faultAsLetters 26 = .ok (.aload_n 0, 1) := by decide +kernel
theorem dX4_faultAsLetters_27 : decode cX4_faultAsLetters 27 = .ok (.getfield 15, 3) := by decide +kernel
theorem dX4_faultAsLetters_30 : decode cX4_faultAsLetters 30 = .ok (.iconst 4, 1) := by decide +kernel
theorem dX4_faultAsLetters_31 : decode cX4_faultAsLetters 31 = .ok (.irem, 1) := by decide +kernel
theorem dX4_faultAsLetters_32 : decode cX4_faultAsLetters 32 = .ok (.iconst 3, 1) := by decide +kernel
theorem dX4_faultAsLetters_33 : decode cX4_faultAsLetters 33 = .ok (.if_icmp .ne 8, 3) := by decide +kernel
theorem dX4_faultAsLetters_36 : decode cX4_faultAsLetters 36 = .ok (.bipush (-4), 2) := by decide +kernel
theorem dX4_faultAsLetters_38 : decode cX4_faultAsLetters 38 = .ok (.goto 7, 3) := by decide +kernel
theorem dX4_faultAsLetters_41 : decode cX4_faultAsLetters 41 = .ok (.aload_n 0, 1) := by decide +kernel
theorem dX4_faultAsLetters_42 : decode cX4_faultAsLetters 42 = .ok (.getfield 15, 3) := by decide +kernel
theorem dX4_faultAsLetters_45 : decode cX4_faultAsLetters 45 = .ok (.ireturn, 1) := by decide +kernel
theorem dX4_fitsLetters_0 : decode cX4_fitsLetters 0 = .ok (.aload_n 0, 1) := by decide +kernel
theorem dX4_fitsLetters_1 : decode cX4_fitsLetters 1 = .ok (.iload_n 1, 1) := by decide +kernel
theorem dX4_fitsLetters_2 : decode cX4_fitsLetters 2 = .ok (.invokevirtual 19, 3) := by decide +kernel
theorem dX4_fitsLetters_5 : decode cX4_fitsLetters 5 = .ok (.istore_n 2, 1) := by decide +kernel
theorem dX4_fitsLetters_6 : decode cX4_fitsLetters 6 = .ok (.iload_n 1, 1) := by decide +kernel
theorem dX4_fitsLetters_7 : decode cX4_fitsLetters 7 = .ok (.iconst 4, 1) := by decide +kernel
theorem dX4_fitsLetters_8 : decode cX4_fitsLetters 8 = .ok (.irem, 1) := by decide +kernel
theorem dX4_fitsLetters_9 : decode cX4_fitsLetters 9 = .ok (.tableswitch 68 0 2 #[27, 32, 44], 27) := by decide +kernel
theorem dX4_fitsLetters_36 : decode cX4_fitsLetters 36 = .ok (.iload_n 2, 1) := by decide +kernel
theorem dX4_fitsLetters_37 : decode cX4_fitsLetters 37 = .ok (.invokestatic 27, 3) := by decide +kernel
theorem dX4_fitsLetters_40 : decode cX4_fitsLetters 40 = .ok (.ireturn, 1) := by decide +kernel
theorem dX4_fitsLetters_41 : decode cX4_fitsLetters 41 = .ok (.iload_n 2, 1) := by decide +kernel
theorem dX4_fitsLetters_42 : decode cX4_fitsLetters 42 = .ok (.bipush 62, 2) := by decide +kernel
theorem dX4_fitsLetters_44 : decode cX4_fitsLetters 44 = .ok (.if_icmp .ne 7, 3) := by decide +kernel
theorem dX4_fitsLetters_47 : decode cX4_fitsLetters 47 = .ok (.iconst 1, 1) := by decide +kernel
theorem dX4_fitsLetters_48 : decode cX4_fitsLetters 48 = .ok (.goto 4, 3) := by decide +kernel
theorem dX4_fitsLetters_51 : decode cX4_fitsLetters 51 = .ok (.iconst 0, 1) := by decide +kernel
theorem dX4_fitsLetters_52 : decode cX4_fitsLetters 52 = .ok (.ireturn, 1) := by decide +kernel
theorem dX4_fitsLetters_53 : decode cX4_fitsLetters 53 = .ok (.iload_n 2, 1) := by decide +kernel
theorem dX4_fitsLetters_54 : decode cX4_fitsLetters 54 = .ok (.invokestatic 27, 3) := by decide +kernel
theorem dX4_fitsLetters_57 : decode cX4_fitsLetters 57 = .ok (.ifCond .eq 18, 3) := by decide +kernel
theorem dX4_fitsLetters_60 : decode cX4_fitsLetters 60 = .ok (.iload_n 2, 1) := by decide +kernel
theorem dX4_fitsLetters_61 : decode cX4_fitsLetters 61 = .ok (.aload_n 0, 1) := by decide +kernel
theorem dX4_fitsLetters_62 : decode cX4_fitsLetters 62 = .ok (.iload_n 1, 1) := by decide +kernel
theorem dX4_fitsLetters_63 : decode cX4_fitsLetters 63 = .ok (.iconst 2, 1) := by decide +kernel
theorem dX4_fitsLetters_64 : decode cX4_fitsLetters 64 = .ok (.isub, 1) := by decide +kernel
theorem dX4_fitsLetters_65 : decode cX4_fitsLetters 65 = .ok (.invokevirtual 19, 3) := by decide +kernel
theorem dX4_fitsLetters_68 : decode cX4_fitsLetters 68 = .ok (.if_icmp .eq 7, 3) := by decide +kernel
theorem dX4_fitsLetters_71 : decode cX4_fitsLetters 71 = .ok (.iconst 1, 1) := by decide +kernel
theorem dX4_fitsLetters_72 : decode cX4_fitsLetters 72 = .ok (.goto 4, 3) := by decide +kernel
theorem dX4_fitsLetters_75 : decode cX4_fitsLetters 75 = .ok (.iconst 0, 1) := by decide +kernel
theorem dX4_fitsLetters_76 : decode cX4_fitsLetters 76 = .ok (.ireturn, 1) := by decide +kernel
theorem dX4_fitsLetters_77 : decode cX4_fitsLetters 77 = .ok (.iload_n 2, 1) := by decide +kernel
theorem dX4_fitsLetters_78 : decode cX4_fitsLetters 78 = .ok (.bipush 44, 2) := by decide +kernel
theorem dX4_fitsLetters_80 : decode cX4_fitsLetters 80 = .ok (.if_icmp .ne 7, 3) := by decide +kernel
theorem dX4_fitsLetters_83 : decode cX4_fitsLetters 83 = .ok (.iconst 1, 1) := by decide +kernel
theorem dX4_fitsLetters_84 : decode cX4_fitsLetters 84 = .ok (.goto 4, 3) := by decide +kernel
theorem dX4_fitsLetters_87 : decode cX4_fitsLetters 87 = .ok (.iconst 0, 1) := by decide +kernel
theorem dX4_fitsLetters_88 : decode cX4_fitsLetters 88 = .ok (.ireturn, 1) := by decide +kernel
theorem dX4_isTown_0 : decode cX4_isTown 0 = .ok (.iload_n 0, 1) := by decide +kernel
theorem dX4_isTown_1 : decode cX4_isTown 1 = .ok (.bipush 48, 2) := by decide +kernel
theorem dX4_isTown_3 : decode cX4_isTown 3 = .ok (.if_icmp .lt 13, 3) := by decide +kernel
theorem dX4_isTown_6 : decode cX4_isTown 6 = .ok (.iload_n 0, 1) := by decide +kernel
theorem dX4_isTown_7 : decode cX4_isTown 7 = .ok (.bipush 54, 2) := by decide +kernel
theorem dX4_isTown_9 : decode cX4_isTown 9 = .ok (.if_icmp .ge 7, 3) := by decide +kernel
theorem dX4_isTown_12 : decode cX4_isTown 12 = .ok (.iconst 1, 1) := by decide +kernel
theorem dX4_isTown_13 : decode cX4_isTown 13 = .ok (.goto 4, 3) := by decide +kernel
theorem dX4_isTown_16 : decode cX4_isTown 16 = .ok (.iconst 0, 1) := by decide +kernel
theorem dX4_isTown_17 : decode cX4_isTown 17 = .ok (.ireturn, 1) := by decide +kernel
theorem dX5_init_0 : decode cX5_init 0 = .ok (.aload_n 0, 1) := by decide +kernel
theorem dX5_init_1 : decode cX5_init 1 = .ok (.invokespecial 3, 3) := by decide +kernel
theorem dX5_init_4 : decode cX5_init 4 = .ok (.aload_n 0, 1) := by decide +kernel
theorem dX5_init_5 : decode cX5_init 5 = .ok (.bipush 7, 2) := by decide +kernel
theorem dX5_init_7 : decode cX5_init 7 = .ok (.newarray .int, 2) := by decide +kernel
theorem dX5_init_9 : decode cX5_init 9 = .ok (.putfield 9, 3) := by decide +kernel
theorem dX5_init_12 : decode cX5_init 12 = .ok (.aload_n 0, 1) := by decide +kernel
theorem dX5_init_13 : decode cX5_init 13 = .ok (.iconst 4, 1) := by decide +kernel
theorem dX5_init_14 : decode cX5_init 14 = .ok (.anewarray 15, 3) := by decide +kernel
theorem dX5_init_17 : decode cX5_init 17 = .ok (.putfield 17, 3) := by decide +kernel
theorem dX5_init_20 : decode cX5_init 20 = .ok (.aload_n 0, 1) := by decide +kernel
theorem dX5_init_21 : decode cX5_init 21 = .ok (.bipush 8, 2) := by decide +kernel
theorem dX5_init_23 : decode cX5_init 23 = .ok (.anewarray 21, 3) := by decide +kernel
theorem dX5_init_26 : decode cX5_init 26 = .ok (.putfield 23, 3) := by decide +kernel
theorem dX5_init_29 : decode cX5_init 29 = .ok (.aload_n 0, 1) := by decide +kernel
theorem dX5_init_30 : decode cX5_init 30 = .ok (.iconst 3, 1) := by decide +kernel
theorem dX5_init_31 : decode cX5_init 31 = .ok (.putfield 27, 3) := by decide +kernel
theorem dX5_init_34 : decode cX5_init 34 = .ok (.aload_n 0, 1) := by decide +kernel
theorem dX5_init_35 : decode cX5_init 35 = .ok (.iconst 1, 1) := by decide +kernel
theorem dX5_init_36 : decode cX5_init 36 = .ok (.putfield 31, 3) := by decide +kernel
theorem dX5_init_39 : decode cX5_init 39 = .ok (.iconst 0, 1) := by decide +kernel
theorem dX5_init_40 : decode cX5_init 40 = .ok (.istore_n 1, 1) := by decide +kernel
theorem dX5_init_41 : decode cX5_init 41 = .ok (.iload_n 1, 1) := by decide +kernel
theorem dX5_init_42 : decode cX5_init 42 = .ok (.aload_n 0, 1) := by decide +kernel
theorem dX5_init_43 : decode cX5_init 43 = .ok (.getfield 17, 3) := by decide +kernel
theorem dX5_init_46 : decode cX5_init 46 = .ok (.arraylength, 1) := by decide +kernel
theorem dX5_init_47 : decode cX5_init 47 = .ok (.if_icmp .ge 22, 3) := by decide +kernel
theorem dX5_init_50 : decode cX5_init 50 = .ok (.aload_n 0, 1) := by decide +kernel
theorem dX5_init_51 : decode cX5_init 51 = .ok (.getfield 17, 3) := by decide +kernel
theorem dX5_init_54 : decode cX5_init 54 = .ok (.iload_n 1, 1) := by decide +kernel
theorem dX5_init_55 : decode cX5_init 55 = .ok (.new 15, 3) := by decide +kernel
theorem dX5_init_58 : decode cX5_init 58 = .ok (.dup, 1) := by decide +kernel
theorem dX5_init_59 : decode cX5_init 59 = .ok (.invokespecial 34, 3) := by decide +kernel
theorem dX5_init_62 : decode cX5_init 62 = .ok (.aastore, 1) := by decide +kernel
theorem dX5_init_63 : decode cX5_init 63 = .ok (.iinc 1 1, 3) := by decide +kernel
theorem dX5_init_66 : decode cX5_init 66 = .ok (.goto (-25), 3) := by decide +kernel
theorem dX5_init_69 : decode cX5_init 69 = .ok (.iconst 0, 1) := by decide +kernel
theorem dX5_init_70 : decode cX5_init 70 = .ok (.istore_n 1, 1) := by decide +kernel
theorem dX5_init_71 : decode cX5_init 71 = .ok (.iload_n 1, 1) := by decide +kernel
theorem dX5_init_72 : decode cX5_init 72 = .ok (.aload_n 0, 1) := by decide +kernel
theorem dX5_init_73 : decode cX5_init 73 = .ok (.getfield 23, 3) := by decide +kernel
theorem dX5_init_76 : decode cX5_init 76 = .ok (.arraylength, 1) := by decide +kernel
theorem dX5_init_77 : decode cX5_init 77 = .ok (.if_icmp .ge 22, 3) := by decide +kernel
theorem dX5_init_80 : decode cX5_init 80 = .ok (.aload_n 0, 1) := by decide +kernel
theorem dX5_init_81 : decode cX5_init 81 = .ok (.getfield 23, 3) := by decide +kernel
theorem dX5_init_84 : decode cX5_init 84 = .ok (.iload_n 1, 1) := by decide +kernel
theorem dX5_init_85 : decode cX5_init 85 = .ok (.new 21, 3) := by decide +kernel
theorem dX5_init_88 : decode cX5_init 88 = .ok (.dup, 1) := by decide +kernel
theorem dX5_init_89 : decode cX5_init 89 = .ok (.invokespecial 35, 3) := by decide +kernel
theorem dX5_init_92 : decode cX5_init 92 = .ok (.aastore, 1) := by decide +kernel
theorem dX5_init_93 : decode cX5_init 93 = .ok (.iinc 1 1, 3) := by decide +kernel
theorem dX5_init_96 : decode cX5_init 96 = .ok (.goto (-25), 3) := by decide +kernel
theorem dX5_init_99 : decode cX5_init 99 = .ok (.return_, 1) := by decide +kernel
theorem dX5_copyFrom_0 : decode cX5_copyFrom 0 = .ok (.iconst 0, 1) := by decide +kernel
theorem dX5_copyFrom_1 : decode cX5_copyFrom 1 = .ok (.istore_n 2, 1) := by decide +kernel
theorem dX5_copyFrom_2 : decode cX5_copyFrom 2 = .ok (.iload_n 2, 1) := by decide +kernel
theorem dX5_copyFrom_3 : decode cX5_copyFrom 3 = .ok (.aload_n 0, 1) := by decide +kernel
theorem dX5_copyFrom_4 : decode cX5_copyFrom 4 = .ok (.getfield 9, 3) := by decide +kernel
theorem dX5_copyFrom_7 : decode cX5_copyFrom 7 = .ok (.arraylength, 1) := by decide +kernel
theorem dX5_copyFrom_8 : decode cX5_copyFrom 8 = .ok (.if_icmp .ge 30, 3) := by decide +kernel
theorem dX5_copyFrom_11 : decode cX5_copyFrom 11 = .ok (.iload_n 2, 1) := by decide +kernel
theorem dX5_copyFrom_12 : decode cX5_copyFrom 12 = .ok (.aload_n 1, 1) := by decide +kernel
theorem dX5_copyFrom_13 : decode cX5_copyFrom 13 = .ok (.getfield 9, 3) := by decide +kernel
theorem dX5_copyFrom_16 : decode cX5_copyFrom 16 = .ok (.arraylength, 1) := by decide +kernel
theorem dX5_copyFrom_17 : decode cX5_copyFrom 17 = .ok (.if_icmp .ge 21, 3) := by decide +kernel
theorem dX5_copyFrom_20 : decode cX5_copyFrom 20 = .ok (.aload_n 0, 1) := by decide +kernel
theorem dX5_copyFrom_21 : decode cX5_copyFrom 21 = .ok (.getfield 9, 3) := by decide +kernel
theorem dX5_copyFrom_24 : decode cX5_copyFrom 24 = .ok (.iload_n 2, 1) := by decide +kernel
theorem dX5_copyFrom_25 : decode cX5_copyFrom 25 = .ok (.aload_n 1, 1) := by decide +kernel
theorem dX5_copyFrom_26 : decode cX5_copyFrom 26 = .ok (.getfield 9, 3) := by decide +kernel
theorem dX5_copyFrom_29 : decode cX5_copyFrom 29 = .ok (.iload_n 2, 1) := by decide +kernel
theorem dX5_copyFrom_30 : decode cX5_copyFrom 30 = .ok (.iaload, 1) := by decide +kernel
theorem dX5_copyFrom_31 : decode cX5_copyFrom 31 = .ok (.iastore, 1) := by decide +kernel
theorem dX5_copyFrom_32 : decode cX5_copyFrom 32 = .ok (.iinc 2 1, 3) := by decide +kernel
theorem dX5_copyFrom_35 : decode cX5_copyFrom 35 = .ok (.goto (-33), 3) := by decide +kernel
theorem dX5_copyFrom_38 : decode cX5_copyFrom 38 = .ok (.aload_n 0, 1) := by decide +kernel
theorem dX5_copyFrom_39 : decode cX5_copyFrom 39 = .ok (.aload_n 1, 1) := by decide +kernel
theorem dX5_copyFrom_40 : decode cX5_copyFrom 40 = .ok (.getfield 36, 3) := by decide +kernel
theorem dX5_copyFrom_43 : decode cX5_copyFrom 43 = .ok (.putfield 36, 3) := by decide +kernel
theorem dX5_copyFrom_46 : decode cX5_copyFrom 46 = .ok (.aload_n 0, 1) := by decide +kernel
theorem dX5_copyFrom_47 : decode cX5_copyFrom 47 = .ok (.aload_n 1, 1) := by decide +kernel
theorem dX5_copyFrom_48 : decode cX5_copyFrom 48 = .ok (.getfield 39, 3) := by decide +kernel
theorem dX5_copyFrom_51 : decode cX5_copyFrom 51 = .ok (.putfield 39, 3) := by decide +kernel
theorem dX5_copyFrom_54 : decode cX5_copyFrom 54 = .ok (.iconst 0, 1) := by decide +kernel
theorem dX5_copyFrom_55 : decode cX5_copyFrom 55 = .ok (.istore_n 2, 1) := by decide +kernel
theorem dX5_copyFrom_56 : decode cX5_copyFrom 56 = .ok (.iload_n 2, 1) := by decide +kernel
theorem dX5_copyFrom_57 : decode cX5_copyFrom 57 = .ok (.aload_n 0, 1) := by decide +kernel
theorem dX5_copyFrom_58 : decode cX5_copyFrom 58 = .ok (.getfield 36, 3) := by decide +kernel
theorem dX5_copyFrom_61 : decode cX5_copyFrom 61 = .ok (.if_icmp .ge 22, 3) := by decide +kernel
theorem dX5_copyFrom_64 : decode cX5_copyFrom 64 = .ok (.aload_n 0, 1) := by decide +kernel
theorem dX5_copyFrom_65 : decode cX5_copyFrom 65 = .ok (.iload_n 2, 1) := by decide +kernel
theorem dX5_copyFrom_66 : decode cX5_copyFrom 66 = .ok (.invokevirtual 42, 3) := by decide +kernel
theorem dX5_copyFrom_69 : decode cX5_copyFrom 69 = .ok (.aload_n 1, 1) := by decide +kernel
theorem dX5_copyFrom_70 : decode cX5_copyFrom 70 = .ok (.iload_n 2, 1) := by decide +kernel
theorem dX5_copyFrom_71 : decode cX5_copyFrom 71 = .ok (.invokevirtual 42, 3) := by decide +kernel
theorem dX5_copyFrom_74 : decode cX5_copyFrom 74 = .ok (.invokestatic 46, 3) := by decide +kernel
theorem dX5_copyFrom_77 : decode cX5_copyFrom 77 = .ok (.iinc 2 1, 3) := by decide +kernel
theorem dX5_copyFrom_80 : decode cX5_copyFrom 80 = .ok (.goto (-24), 3) := by decide +kernel
theorem dX5_copyFrom_83 : decode cX5_copyFrom 83 = .ok (.iconst 0, 1) := by decide +kernel
theorem dX5_copyFrom_84 : decode cX5_copyFrom 84 = .ok (.istore_n 2, 1) := by decide +kernel
theorem dX5_copyFrom_85 : decode cX5_copyFrom 85 = .ok (.iload_n 2, 1) := by decide +kernel
theorem dX5_copyFrom_86 : decode cX5_copyFrom 86 = .ok (.aload_n 0, 1) := by decide +kernel
theorem dX5_copyFrom_87 : decode cX5_copyFrom 87 = .ok (.getfield 39, 3) := by decide +kernel
theorem dX5_copyFrom_90 : decode cX5_copyFrom 90 = .ok (.if_icmp .ge 22, 3) := by decide +kernel
theorem dX5_copyFrom_93 : decode cX5_copyFrom 93 = .ok (.aload_n 0, 1) := by decide +kernel
theorem dX5_copyFrom_94 : decode cX5_copyFrom 94 = .ok (.iload_n 2, 1) := by decide +kernel
theorem dX5_copyFrom_95 : decode cX5_copyFrom 95 = .ok (.invokevirtual 50, 3) := by decide +kernel
theorem dX5_copyFrom_98 : decode cX5_copyFrom 98 = .ok (.aload_n 1, 1) := by decide +kernel
theorem dX5_copyFrom_99 : decode cX5_copyFrom 99 = .ok (.iload_n 2, 1) := by decide +kernel
theorem dX5_copyFrom_100 : decode cX5_copyFrom 100 = .ok (.invokevirtual 50, 3) := by decide +kernel
theorem dX5_copyFrom_103 : decode cX5_copyFrom 103 = .ok (.invokestatic 54, 3) := by decide +kernel
theorem dX5_copyFrom_106 : decode cX5_copyFrom 106 = .ok (.iinc 2 1, 3) := by decide +kernel
theorem dX5_copyFrom_109 : decode cX5_copyFrom 109 = .ok (.goto (-24), 3) := by decide +kernel
theorem dX5_copyFrom_112 : decode cX5_copyFrom 112 = .ok (.aload_n 0, 1) := by decide +kernel
theorem dX5_copyFrom_113 : decode cX5_copyFrom 113 = .ok (.aload_n 1, 1) := by decide +kernel
theorem dX5_copyFrom_114 : decode cX5_copyFrom 114 = .ok (.getfield 58, 3) := by decide +kernel
theorem dX5_copyFrom_117 : decode cX5_copyFrom 117 = .ok (.putfield 58, 3) := by decide +kernel
theorem dX5_copyFrom_120 : decode cX5_copyFrom 120 = .ok (.aload_n 0, 1) := by decide +kernel
theorem dX5_copyFrom_121 : decode cX5_copyFrom 121 = .ok (.aload_n 1, 1) := by decide +kernel
theorem dX5_copyFrom_122 : decode cX5_copyFrom 122 = .ok (.getfield 27, 3) := by decide +kernel
theorem dX5_copyFrom_125 : decode cX5_copyFrom 125 = .ok (.putfield 27, 3) := by decide +kernel
theorem dX5_copyFrom_128 : decode cX5_copyFrom 128 = .ok (.aload_n 0, 1) := by decide +kernel
theorem dX5_copyFrom_129 : decode cX5_copyFrom 129 = .ok (.aload_n 1, 1) := by decide +kernel
theorem dX5_copyFrom_130 : decode cX5_copyFrom 130 = .ok (.getfield 31, 3) := by decide +kernel
theorem dX5_copyFrom_133 : decode cX5_copyFrom 133 = .ok (.putfield 31, 3) := by decide +kernel
theorem dX5_copyFrom_136 : decode cX5_copyFrom 136 = .ok (.aload_n 0, 1) := by decide +kernel
theorem dX5_copyFrom_137 : decode cX5_copyFrom 137 = .ok (.aload_n 1, 1) := by decide +kernel
theorem dX5_copyFrom_138 : decode cX5_copyFrom 138 = .ok (.getfield 61, 3) := by decide +kernel
theorem dX5_copyFrom_141 : decode cX5_copyFrom 141 = .ok (.putfield 61, 3) := by decide +kernel
theorem dX5_copyFrom_144 : decode cX5_copyFrom 144 = .ok (.aload_n 0, 1) := by decide +kernel
theorem dX5_copyFrom_145 : decode cX5_copyFrom 145 = .ok (.aload_n 1, 1) := by decide +kernel
theorem dX5_copyFrom_146 : decode cX5_copyFrom 146 = .ok (.getfield 64, 3) := by decide +kernel
theorem dX5_copyFrom_149 : decode cX5_copyFrom 149 = .ok (.putfield 64, 3) := by decide +kernel
theorem dX5_copyFrom_152 : decode cX5_copyFrom 152 = .ok (.aload_n 0, 1) := by decide +kernel
theorem dX5_copyFrom_153 : decode cX5_copyFrom 153 = .ok (.aload_n 1, 1) := by decide +kernel
theorem dX5_copyFrom_154 : decode cX5_copyFrom 154 = .ok (.getfield 67, 3) := by decide +kernel
theorem dX5_copyFrom_157 : decode cX5_copyFrom 157 = .ok (.putfield 67, 3) := by decide +kernel
theorem dX5_copyFrom_160 : decode cX5_copyFrom 160 = .ok (.aload_n 0, 1) := by decide +kernel
theorem dX5_copyFrom_161 : decode cX5_copyFrom 161 = .ok (.aload_n 1, 1) := by decide +kernel
theorem dX5_copyFrom_162 : decode cX5_copyFrom 162 = .ok (.getfield 70, 3) := by decide +kernel
theorem dX5_copyFrom_165 : decode cX5_copyFrom 165 = .ok (.putfield 70, 3) := by decide +kernel
theorem dX5_copyFrom_168 : decode cX5_copyFrom 168 = .ok (.return_, 1) := by decide +kernel
theorem dX5_copyCarrier_0 : decode cX5_copyCarrier 0 = .ok (.aload_n 0, 1) := by decide +kernel
theorem dX5_copyCarrier_1 : decode cX5_copyCarrier 1 = .ok (.ifnull 12, 3) := by decide +kernel
theorem dX5_copyCarrier_4 : decode cX5_copyCarrier 4 = .ok (.aload_n 1, 1) := by decide +kernel
theorem dX5_copyCarrier_5 : decode cX5_copyCarrier 5 = .ok (.ifnull 8, 3) := by decide +kernel
theorem dX5_copyCarrier_8 : decode cX5_copyCarrier 8 = .ok (.aload_n 0, 1) := by decide +kernel
theorem dX5_copyCarrier_9 : decode cX5_copyCarrier 9 = .ok (.aload_n 1, 1) := by decide +kernel
theorem dX5_copyCarrier_10 : decode cX5_copyCarrier 10 = .ok (.invokevirtual 73, 3) := by decide +kernel
theorem dX5_copyCarrier_13 : decode cX5_copyCarrier 13 = .ok (.return_, 1) := by decide +kernel
theorem dX5_copyBundle_0 : decode cX5_copyBundle 0 = .ok (.aload_n 0, 1) := by decide +kernel
theorem dX5_copyBundle_1 : decode cX5_copyBundle 1 = .ok (.ifnull 12, 3) := by decide +kernel
theorem dX5_copyBundle_4 : decode cX5_copyBundle 4 = .ok (.aload_n 1, 1) := by decide +kernel
theorem dX5_copyBundle_5 : decode cX5_copyBundle 5 = .ok (.ifnull 8, 3) := by decide +kernel
theorem dX5_copyBundle_8 : decode cX5_copyBundle 8 = .ok (.aload_n 0, 1) := by decide +kernel
theorem dX5_copyBundle_9 : decode cX5_copyBundle 9 = .ok (.aload_n 1, 1) := by decide +kernel
theorem dX5_copyBundle_10 : decode cX5_copyBundle 10 = .ok (.invokevirtual 77, 3) := by decide +kernel
theorem dX5_copyBundle_13 : decode cX5_copyBundle 13 = .ok (.return_, 1) := by decide +kernel
theorem dX5_hasCarrier_0 : decode cX5_hasCarrier 0 = .ok (.iload_n 1, 1) := by decide +kernel
theorem dX5_hasCarrier_1 : decode cX5_hasCarrier 1 = .ok (.ifCond .lt 15, 3) := by decide +kernel
theorem dX5_hasCarrier_4 : decode cX5_hasCarrier 4 = .ok (.iload_n 1, 1) := by decide +kernel
theorem dX5_hasCarrier_5 : decode cX5_hasCarrier 5 = .ok (.aload_n 0, 1) := by decide +kernel
theorem dX5_hasCarrier_6 : decode cX5_hasCarrier 6 = .ok (.getfield 36, 3) := by decide +kernel
theorem dX5_hasCarrier_9 : decode cX5_hasCarrier 9 = .ok (.if_icmp .ge 7, 3) := by decide +kernel
theorem dX5_hasCarrier_12 : decode cX5_hasCarrier 12 = .ok (.iconst 1, 1) := by decide +kernel
theorem dX5_hasCarrier_13 : decode cX5_hasCarrier 13 = .ok (.goto 4, 3) := by decide +kernel
theorem dX5_hasCarrier_16 : decode cX5_hasCarrier 16 = .ok (.iconst 0, 1) := by decide +kernel
theorem dX5_hasCarrier_17 : decode cX5_hasCarrier 17 = .ok (.ireturn, 1) := by decide +kernel
theorem dX5_carrierAt_0 : decode cX5_carrierAt 0 = .ok (.iload_n 1, 1) := by decide +kernel
theorem dX5_carrierAt_1 : decode cX5_carrierAt 1 = .ok (.ifCond .lt 24, 3) := by decide +kernel
theorem dX5_carrierAt_4 : decode cX5_carrierAt 4 = .ok (.iload_n 1, 1) := by decide +kernel
theorem dX5_carrierAt_5 : decode cX5_carrierAt 5 = .ok (.aload_n 0, 1) := by decide +kernel
theorem dX5_carrierAt_6 : decode cX5_carrierAt 6 = .ok (.getfield 36, 3) := by decide +kernel
theorem dX5_carrierAt_9 : decode cX5_carrierAt 9 = .ok (.if_icmp .ge 16, 3) := by decide +kernel
theorem dX5_carrierAt_12 : decode cX5_carrierAt 12 = .ok (.iload_n 1, 1) := by decide +kernel
theorem dX5_carrierAt_13 : decode cX5_carrierAt 13 = .ok (.aload_n 0, 1) := by decide +kernel
theorem dX5_carrierAt_14 : decode cX5_carrierAt 14 = .ok (.getfield 17, 3) := by decide +kernel
theorem dX5_carrierAt_17 : decode cX5_carrierAt 17 = .ok (.arraylength, 1) := by decide +kernel
theorem dX5_carrierAt_18 : decode cX5_carrierAt 18 = .ok (.if_icmp .ge 7, 3) := by decide +kernel
theorem dX5_carrierAt_21 : decode cX5_carrierAt 21 = .ok (.iconst 1, 1) := by decide +kernel
theorem dX5_carrierAt_22 : decode cX5_carrierAt 22 = .ok (.goto 4, 3) := by decide +kernel
theorem dX5_carrierAt_25 : decode cX5_carrierAt 25 = .ok (.iconst 0, 1) := by decide +kernel
theorem dX5_carrierAt_26 : decode cX5_carrierAt 26 = .ok (.istore_n 2, 1) := by decide +kernel
theorem dX5_carrierAt_27 : decode cX5_carrierAt 27 = .ok (.iload_n 2, 1) := by decide +kernel
theorem dX5_carrierAt_28 : decode cX5_carrierAt 28 = .ok (.ifCond .eq 12, 3) := by decide +kernel
theorem dX5_carrierAt_31 : decode cX5_carrierAt 31 = .ok (.aload_n 0, 1) := by decide +kernel
theorem dX5_carrierAt_32 : decode cX5_carrierAt 32 = .ok (.getfield 17, 3) := by decide +kernel
theorem dX5_carrierAt_35 : decode cX5_carrierAt 35 = .ok (.iload_n 1, 1) := by decide +kernel
theorem dX5_carrierAt_36 : decode cX5_carrierAt 36 = .ok (.aaload, 1) := by decide +kernel
theorem dX5_carrierAt_37 : decode cX5_carrierAt 37 = .ok (.goto 4, 3) := by decide +kernel
theorem dX5_carrierAt_40 : decode cX5_carrierAt 40 = .ok (.aconst_null, 1) := by decide +kernel
theorem dX5_carrierAt_41 : decode cX5_carrierAt 41 = .ok (.areturn, 1) := by decide +kernel
theorem dX5_bundleAt_0 : decode cX5_bundleAt 0 = .ok (.iload_n 1, 1) := by decide +kernel
theorem dX5_bundleAt_1 : decode cX5_bundleAt 1 = .ok (.ifCond .lt 24, 3) := by decide +kernel
theorem dX5_bundleAt_4 : decode cX5_bundleAt 4 = .ok (.iload_n 1, 1) := by decide +kernel
theorem dX5_bundleAt_5 : decode cX5_bundleAt 5 = .ok (.aload_n 0, 1) := by decide +kernel
theorem dX5_bundleAt_6 : decode cX5_bundleAt 6 = .ok (.getfield 39, 3) := by decide +kernel
theorem dX5_bundleAt_9 : decode cX5_bundleAt 9 = .ok (.if_icmp .ge 16, 3) := by decide +kernel
theorem dX5_bundleAt_12 : decode cX5_bundleAt 12 = .ok (.iload_n 1, 1) := by decide +kernel
theorem dX5_bundleAt_13 : decode cX5_bundleAt 13 = .ok (.aload_n 0, 1) := by decide +kernel
theorem dX5_bundleAt_14 : decode cX5_bundleAt 14 = .ok (.getfield 23, 3) := by decide +kernel
theorem dX5_bundleAt_17 : decode cX5_bundleAt 17 = .ok (.arraylength, 1) := by decide +kernel
theorem dX5_bundleAt_18 : decode cX5_bundleAt 18 = .ok (.if_icmp .ge 7, 3) := by decide +kernel
theorem dX5_bundleAt_21 : decode cX5_bundleAt 21 = .ok (.iconst 1, 1) := by decide +kernel
theorem dX5_bundleAt_22 : decode cX5_bundleAt 22 = .ok (.goto 4, 3) := by decide +kernel
theorem dX5_bundleAt_25 : decode cX5_bundleAt 25 = .ok (.iconst 0, 1) := by decide +kernel
theorem dX5_bundleAt_26 : decode cX5_bundleAt 26 = .ok (.istore_n 2, 1) := by decide +kernel
theorem dX5_bundleAt_27 : decode cX5_bundleAt 27 = .ok (.iload_n 2, 1) := by decide +kernel
theorem dX5_bundleAt_28 : decode cX5_bundleAt 28 = .ok (.ifCond .eq 12, 3) := by decide +kernel
theorem dX5_bundleAt_31 : decode cX5_bundleAt 31 = .ok (.aload_n 0, 1) := by decide +kernel
theorem dX5_bundleAt_32 : decode cX5_bundleAt 32 = .ok (.getfield 23, 3) := by decide +kernel
theorem dX5_bundleAt_35 : decode cX5_bundleAt 35 = .ok (.iload_n 1, 1) := by decide +kernel
theorem dX5_bundleAt_36 : decode cX5_bundleAt 36 = .ok (.aaload, 1) := by decide +kernel
theorem dX5_bundleAt_37 : decode cX5_bundleAt 37 = .ok (.goto 4, 3) := by decide +kernel
theorem dX5_bundleAt_40 : decode cX5_bundleAt 40 = .ok (.aconst_null, 1) := by decide +kernel
theorem dX5_bundleAt_41 : decode cX5_bundleAt 41 = .ok (.areturn, 1) := by decide +kernel
theorem dX5_addCarrier_0 : decode cX5_addCarrier 0 = .ok (.aload_n 0, 1) := by decide +kernel
theorem dX5_addCarrier_1 : decode cX5_addCarrier 1 = .ok (.getfield 36, 3) := by decide +kernel
theorem dX5_addCarrier_4 : decode cX5_addCarrier 4 = .ok (.ifCond .lt 15, 3) := by decide +kernel
theorem dX5_addCarrier_7 : decode cX5_addCarrier 7 = .ok (.aload_n 0, 1) := by decide +kernel
theorem dX5_addCarrier_8 : decode cX5_addCarrier 8 = .ok (.getfield 36, 3) := by decide +kernel
theorem dX5_addCarrier_11 : decode cX5_addCarrier 11 = .ok (.aload_n 0, 1) := by decide +kernel
theorem dX5_addCarrier_12 : decode cX5_addCarrier 12 = .ok (.getfield 17, 3) := by decide +kernel
theorem dX5_addCarrier_15 : decode cX5_addCarrier 15 = .ok (.arraylength, 1) := by decide +kernel
theorem dX5_addCarrier_16 : decode cX5_addCarrier 16 = .ok (.if_icmp .lt 5, 3) := by decide +kernel
theorem dX5_addCarrier_19 : decode cX5_addCarrier 19 = .ok (.aconst_null, 1) := by decide +kernel
theorem dX5_addCarrier_20 : decode cX5_addCarrier 20 = .ok (.areturn, 1) := by decide +kernel
theorem dX5_addCarrier_21 : decode cX5_addCarrier 21 = .ok (.aload_n 0, 1) := by decide +kernel
theorem dX5_addCarrier_22 : decode cX5_addCarrier 22 = .ok (.getfield 17, 3) := by decide +kernel
theorem dX5_addCarrier_25 : decode cX5_addCarrier 25 = .ok (.aload_n 0, 1) := by decide +kernel
theorem dX5_addCarrier_26 : decode cX5_addCarrier 26 = .ok (.getfield 36, 3) := by decide +kernel
theorem dX5_addCarrier_29 : decode cX5_addCarrier 29 = .ok (.aaload, 1) := by decide +kernel
theorem dX5_addCarrier_30 : decode cX5_addCarrier 30 = .ok (.astore_n 1, 1) := by decide +kernel
theorem dX5_addCarrier_31 : decode cX5_addCarrier 31 = .ok (.aload_n 0, 1) := by decide +kernel
theorem dX5_addCarrier_32 : decode cX5_addCarrier 32 = .ok (.dup, 1) := by decide +kernel
theorem dX5_addCarrier_33 : decode cX5_addCarrier 33 = .ok (.getfield 36, 3) := by decide +kernel
theorem dX5_addCarrier_36 : decode cX5_addCarrier 36 = .ok (.iconst 1, 1) := by decide +kernel
theorem dX5_addCarrier_37 : decode cX5_addCarrier 37 = .ok (.iadd, 1) := by decide +kernel
theorem dX5_addCarrier_38 : decode cX5_addCarrier 38 = .ok (.putfield 36, 3) := by decide +kernel
theorem dX5_addCarrier_41 : decode cX5_addCarrier 41 = .ok (.aload_n 1, 1) := by decide +kernel
theorem dX5_addCarrier_42 : decode cX5_addCarrier 42 = .ok (.ifnull 7, 3) := by decide +kernel
theorem dX5_addCarrier_45 : decode cX5_addCarrier 45 = .ok (.aload_n 1, 1) := by decide +kernel
theorem dX5_addCarrier_46 : decode cX5_addCarrier 46 = .ok (.invokevirtual 80, 3) := by decide +kernel
theorem dX5_addCarrier_49 : decode cX5_addCarrier 49 = .ok (.aload_n 1, 1) := by decide +kernel
theorem dX5_addCarrier_50 : decode cX5_addCarrier 50 = .ok (.areturn, 1) := by decide +kernel
theorem dX5_addBundle_0 : decode cX5_addBundle 0 = .ok (.aload_n 0, 1) := by decide +kernel
theorem dX5_addBundle_1 : decode cX5_addBundle 1 = .ok (.getfield 39, 3) := by decide +kernel
theorem dX5_addBundle_4 : decode cX5_addBundle 4 = .ok (.ifCond .lt 15, 3) := by decide +kernel
theorem dX5_addBundle_7 : decode cX5_addBundle 7 = .ok (.aload_n 0, 1) := by decide +kernel
theorem dX5_addBundle_8 : decode cX5_addBundle 8 = .ok (.getfield 39, 3) := by decide +kernel
theorem dX5_addBundle_11 : decode cX5_addBundle 11 = .ok (.aload_n 0, 1) := by decide +kernel
theorem dX5_addBundle_12 : decode cX5_addBundle 12 = .ok (.getfield 23, 3) := by decide +kernel
theorem dX5_addBundle_15 : decode cX5_addBundle 15 = .ok (.arraylength, 1) := by decide +kernel
theorem dX5_addBundle_16 : decode cX5_addBundle 16 = .ok (.if_icmp .lt 4, 3) := by decide +kernel
theorem dX5_addBundle_19 : decode cX5_addBundle 19 = .ok (.return_, 1) := by decide +kernel
theorem dX5_addBundle_20 : decode cX5_addBundle 20 = .ok (.aload_n 0, 1) := by decide +kernel
theorem dX5_addBundle_21 : decode cX5_addBundle 21 = .ok (.getfield 23, 3) := by decide +kernel
theorem dX5_addBundle_24 : decode cX5_addBundle 24 = .ok (.aload_n 0, 1) := by decide +kernel
theorem dX5_addBundle_25 : decode cX5_addBundle 25 = .ok (.getfield 39, 3) := by decide +kernel
theorem dX5_addBundle_28 : decode cX5_addBundle 28 = .ok (.aaload, 1) := by decide +kernel
theorem dX5_addBundle_29 : decode cX5_addBundle 29 = .ok (.astore 4, 2) := by decide +kernel
theorem dX5_addBundle_31 : decode cX5_addBundle 31 = .ok (.aload 4, 2) := by decide +kernel
theorem dX5_addBundle_33 : decode cX5_addBundle 33 = .ok (.ifnull 35, 3) := by decide +kernel
theorem dX5_addBundle_36 : decode cX5_addBundle 36 = .ok (.aload 4, 2) := by decide +kernel
theorem dX5_addBundle_38 : decode cX5_addBundle 38 = .ok (.iload_n 1, 1) := by decide +kernel
theorem dX5_addBundle_39 : decode cX5_addBundle 39 = .ok (.iload_n 2, 1) := by decide +kernel
theorem dX5_addBundle_40 : decode cX5_addBundle 40 = .ok (.iload_n 3, 1) := by decide +kernel
theorem dX5_addBundle_41 : decode cX5_addBundle 41 = .ok (.aload_n 0, 1) := by decide +kernel
theorem dX5_addBundle_42 : decode cX5_addBundle 42 = .ok (.getfield 58, 3) := by decide +kernel
theorem dX5_addBundle_45 : decode cX5_addBundle 45 = .ok (.invokevirtual 83, 3) := by decide +kernel
theorem dX5_addBundle_48 : decode cX5_addBundle 48 = .ok (.aload_n 0, 1) := by decide +kernel
theorem dX5_addBundle_49 : decode cX5_addBundle 49 = .ok (.dup, 1) := by decide +kernel
theorem dX5_addBundle_50 : decode cX5_addBundle 50 = .ok (.getfield 39, 3) := by decide +kernel
theorem dX5_addBundle_53 : decode cX5_addBundle 53 = .ok (.iconst 1, 1) := by decide +kernel
theorem dX5_addBundle_54 : decode cX5_addBundle 54 = .ok (.iadd, 1) := by decide +kernel
theorem dX5_addBundle_55 : decode cX5_addBundle 55 = .ok (.putfield 39, 3) := by decide +kernel
theorem dX5_addBundle_58 : decode cX5_addBundle 58 = .ok (.aload_n 0, 1) := by decide +kernel
theorem dX5_addBundle_59 : decode cX5_addBundle 59 = .ok (.dup, 1) := by decide +kernel
theorem dX5_addBundle_60 : decode cX5_addBundle 60 = .ok (.getfield 61, 3) := by decide +kernel
theorem dX5_addBundle_63 : decode cX5_addBundle 63 = .ok (.iconst 1, 1) := by decide +kernel
theorem dX5_addBundle_64 : decode cX5_addBundle 64 = .ok (.iadd, 1) := by decide +kernel
theorem dX5_addBundle_65 : decode cX5_addBundle 65 = .ok (.putfield 61, 3) := by decide +kernel
theorem dX5_addBundle_68 : decode cX5_addBundle 68 = .ok (.return_, 1) := by decide +kernel
theorem dX5_removeBundle_0 : decode cX5_removeBundle 0 = .ok (.aload_n 0, 1) := by decide +kernel
theorem dX5_removeBundle_1 : decode cX5_removeBundle 1 = .ok (.iload_n 1, 1) := by decide +kernel
theorem dX5_removeBundle_2 : decode cX5_removeBundle 2 = .ok (.invokevirtual 50, 3) := by decide +kernel
theorem dX5_removeBundle_5 : decode cX5_removeBundle 5 = .ok (.astore_n 2, 1) := by decide +kernel
theorem dX5_removeBundle_6 : decode cX5_removeBundle 6 = .ok (.aload_n 2, 1) := by decide +kernel
theorem dX5_removeBundle_7 : decode cX5_removeBundle 7 = .ok (.ifnonnull 4, 3) := by decide +kernel
theorem dX5_removeBundle_10 : decode cX5_removeBundle 10 = .ok (.return_, 1) := by decide +kernel
theorem dX5_removeBundle_11 : decode cX5_removeBundle 11 = .ok (.iload_n 1, 1) := by decide +kernel
theorem dX5_removeBundle_12 : decode cX5_removeBundle 12 = .ok (.istore_n 3, 1) := by decide +kernel
theorem dX5_removeBundle_13 : decode cX5_removeBundle 13 = .ok (.iload_n 1, 1) := by decide +kernel
theorem dX5_removeBundle_14 : decode cX5_removeBundle 14 = .ok (.istore 4, 2) := by decide +kernel
theorem dX5_removeBundle_16 : decode cX5_removeBundle 16 = .ok (.iload 4, 2) := by decide +kernel
theorem dX5_removeBundle_18 : decode cX5_removeBundle 18 = .ok (.iconst 1, 1) := by decide +kernel
theorem dX5_removeBundle_19 : decode cX5_removeBundle 19 = .ok (.iadd, 1) := by decide +kernel
theorem dX5_removeBundle_20 : decode cX5_removeBundle 20 = .ok (.aload_n 0, 1) := by decide +kernel
theorem dX5_removeBundle_21 : decode cX5_removeBundle 21 = .ok (.getfield 39, 3) := by decide +kernel
theorem dX5_removeBundle_24 : decode cX5_removeBundle 24 = .ok (.if_icmp .ge 42, 3) := by decide +kernel
theorem dX5_removeBundle_27 : decode cX5_removeBundle 27 = .ok (.iload 4, 2) := by decide +kernel
theorem dX5_removeBundle_29 : decode cX5_removeBundle 29 = .ok (.iconst 1, 1) := by decide +kernel
theorem dX5_removeBundle_30 : decode cX5_removeBundle 30 = .ok (.iadd, 1) := by decide +kernel
theorem dX5_removeBundle_31 : decode cX5_removeBundle 31 = .ok (.aload_n 0, 1) := by decide +kernel
theorem dX5_removeBundle_32 : decode cX5_removeBundle 32 = .ok (.getfield 23, 3) := by decide +kernel
theorem dX5_removeBundle_35 : decode cX5_removeBundle 35 = .ok (.arraylength, 1) := by decide +kernel
theorem dX5_removeBundle_36 : decode cX5_removeBundle 36 = .ok (.if_icmp .ge 30, 3) := by decide +kernel
theorem dX5_removeBundle_39 : decode cX5_removeBundle 39 = .ok (.aload_n 0, 1) := by decide +kernel
theorem dX5_removeBundle_40 : decode cX5_removeBundle 40 = .ok (.getfield 23, 3) := by decide +kernel
theorem dX5_removeBundle_43 : decode cX5_removeBundle 43 = .ok (.iload 4, 2) := by decide +kernel
theorem dX5_removeBundle_45 : decode cX5_removeBundle 45 = .ok (.aload_n 0, 1) := by decide +kernel
theorem dX5_removeBundle_46 : decode cX5_removeBundle 46 = .ok (.getfield 23, 3) := by decide +kernel
theorem dX5_removeBundle_49 : decode cX5_removeBundle 49 = .ok (.iload 4, 2) := by decide +kernel
theorem dX5_removeBundle_51 : decode cX5_removeBundle 51 = .ok (.iconst 1, 1) := by decide +kernel
theorem dX5_removeBundle_52 : decode cX5_removeBundle 52 = .ok (.iadd, 1) := by decide +kernel
theorem dX5_removeBundle_53 : decode cX5_removeBundle 53 = .ok (.aaload, 1) := by decide +kernel
theorem dX5_removeBundle_54 : decode cX5_removeBundle 54 = .ok (.aastore, 1) := by decide +kernel
theorem dX5_removeBundle_55 : decode cX5_removeBundle 55 = .ok (.iload 4, 2) := by decide +kernel
theorem dX5_removeBundle_57 : decode cX5_removeBundle 57 = .ok (.iconst 1, 1) := by decide +kernel
theorem dX5_removeBundle_58 : decode cX5_removeBundle 58 = .ok (.iadd, 1) := by decide +kernel
theorem dX5_removeBundle_59 : decode cX5_removeBundle 59 = .ok (.istore_n 3, 1) := by decide +kernel
theorem dX5_removeBundle_60 : decode cX5_removeBundle 60 = .ok (.iinc 4 1, 3) := by decide +kernel
theorem dX5_removeBundle_63 : decode cX5_removeBundle 63 = .ok (.goto (-47), 3) := by decide +kernel
theorem dX5_removeBundle_66 : decode cX5_removeBundle 66 = .ok (.aload_n 0, 1) := by decide +kernel
theorem dX5_removeBundle_67 : decode cX5_removeBundle 67 = .ok (.getfield 23, 3) := by decide +kernel
theorem dX5_removeBundle_70 : decode cX5_removeBundle 70 = .ok (.iload_n 3, 1) := by decide +kernel
theorem dX5_removeBundle_71 : decode cX5_removeBundle 71 = .ok (.aload_n 2, 1) := by decide +kernel
theorem dX5_removeBundle_72 : decode cX5_removeBundle 72 = .ok (.aastore, 1) := by decide +kernel
theorem dX5_removeBundle_73 : decode cX5_removeBundle 73 = .ok (.aload_n 0, 1) := by decide +kernel
theorem dX5_removeBundle_74 : decode cX5_removeBundle 74 = .ok (.dup, 1) := by decide +kernel
theorem dX5_removeBundle_75 : decode cX5_removeBundle 75 = .ok (.getfield 39, 3) := by decide +kernel
theorem dX5_removeBundle_78 : decode cX5_removeBundle 78 = .ok (.iconst 1, 1) := by decide +kernel
theorem dX5_removeBundle_79 : decode cX5_removeBundle 79 = .ok (.isub, 1) := by decide +kernel
theorem dX5_removeBundle_80 : decode cX5_removeBundle 80 = .ok (.putfield 39, 3) := by decide +kernel
theorem dX5_removeBundle_83 : decode cX5_removeBundle 83 = .ok (.aload_n 0, 1) := by decide +kernel
theorem dX5_removeBundle_84 : decode cX5_removeBundle 84 = .ok (.dup, 1) := by decide +kernel
theorem dX5_removeBundle_85 : decode cX5_removeBundle 85 = .ok (.getfield 67, 3) := by decide +kernel
theorem dX5_removeBundle_88 : decode cX5_removeBundle 88 = .ok (.iconst 1, 1) := by decide +kernel
theorem dX5_removeBundle_89 : decode cX5_removeBundle 89 = .ok (.iadd, 1) := by decide +kernel
theorem dX5_removeBundle_90 : decode cX5_removeBundle 90 = .ok (.putfield 67, 3) := by decide +kernel
theorem dX5_removeBundle_93 : decode cX5_removeBundle 93 = .ok (.return_, 1) := by decide +kernel
theorem dX5_moveStall_0 : decode cX5_moveStall 0 = .ok (.iload_n 1, 1) := by decide +kernel
theorem dX5_moveStall_1 : decode cX5_moveStall 1 = .ok (.ifCond .lt 19, 3) := by decide +kernel
theorem dX5_moveStall_4 : decode cX5_moveStall 4 = .ok (.iload_n 1, 1) := by decide +kernel
theorem dX5_moveStall_5 : decode cX5_moveStall 5 = .ok (.aload_n 0, 1) := by decide +kernel
theorem dX5_moveStall_6 : decode cX5_moveStall 6 = .ok (.getfield 9, 3) := by decide +kernel
theorem dX5_moveStall_9 : decode cX5_moveStall 9 = .ok (.arraylength, 1) := by decide +kernel
theorem dX5_moveStall_10 : decode cX5_moveStall 10 = .ok (.if_icmp .ge 10, 3) := by decide +kernel
theorem dX5_moveStall_13 : decode cX5_moveStall 13 = .ok (.aload_n 0, 1) := by decide +kernel
theorem dX5_moveStall_14 : decode cX5_moveStall 14 = .ok (.getfield 9, 3) := by decide +kernel
theorem dX5_moveStall_17 : decode cX5_moveStall 17 = .ok (.iload_n 1, 1) := by decide +kernel
theorem dX5_moveStall_18 : decode cX5_moveStall 18 = .ok (.iload_n 2, 1) := by decide +kernel
theorem dX5_moveStall_19 : decode cX5_moveStall 19 = .ok (.iastore, 1) := by decide +kernel
theorem dX5_moveStall_20 : decode cX5_moveStall 20 = .ok (.return_, 1) := by decide +kernel
theorem dX5_stallOn_0 : decode cX5_stallOn 0 = .ok (.iload_n 1, 1) := by decide +kernel
theorem dX5_stallOn_1 : decode cX5_stallOn 1 = .ok (.bipush 7, 2) := by decide +kernel
theorem dX5_stallOn_3 : decode cX5_stallOn 3 = .ok (.irem, 1) := by decide +kernel
theorem dX5_stallOn_4 : decode cX5_stallOn 4 = .ok (.istore_n 2, 1) := by decide +kernel
theorem dX5_stallOn_5 : decode cX5_stallOn 5 = .ok (.iload_n 2, 1) := by decide +kernel
theorem dX5_stallOn_6 : decode cX5_stallOn 6 = .ok (.ifCond .lt 21, 3) := by decide +kernel
theorem dX5_stallOn_9 : decode cX5_stallOn 9 = .ok (.iload_n 2, 1) := by decide +kernel
theorem dX5_stallOn_10 : decode cX5_stallOn 10 = .ok (.aload_n 0, 1) := by decide +kernel
theorem dX5_stallOn_11 : decode cX5_stallOn 11 = .ok (.getfield 9, 3) := by decide +kernel
theorem dX5_stallOn_14 : decode cX5_stallOn 14 = .ok (.arraylength, 1) := by decide +kernel
theorem dX5_stallOn_15 : decode cX5_stallOn 15 = .ok (.if_icmp .ge 12, 3) := by decide +kernel
theorem dX5_stallOn_18 : decode cX5_stallOn 18 = .ok (.aload_n 0, 1) := by decide +kernel
theorem dX5_stallOn_19 : decode cX5_stallOn 19 = .ok (.getfield 9, 3) := by decide +kernel
theorem dX5_stallOn_22 : decode cX5_stallOn 22 = .ok (.iload_n 2, 1) := by decide +kernel
theorem dX5_stallOn_23 : decode cX5_stallOn 23 = .ok (.iaload, 1) := by decide +kernel
theorem dX5_stallOn_24 : decode cX5_stallOn 24 = .ok (.goto 5, 3) := by decide +kernel
theorem dX5_stallOn_27 : decode cX5_stallOn 27 = .ok (.bipush 6, 2) := by decide +kernel
theorem dX5_stallOn_29 : decode cX5_stallOn 29 = .ok (.ireturn, 1) := by decide +kernel
theorem dX5_townOf_0 : decode cX5_townOf 0 = .ok (.iload_n 1, 1) := by decide +kernel
theorem dX5_townOf_1 : decode cX5_townOf 1 = .ok (.ifCond .lt 20, 3) := by decide +kernel
theorem dX5_townOf_4 : decode cX5_townOf 4 = .ok (.iload_n 1, 1) := by decide +kernel
theorem dX5_townOf_5 : decode cX5_townOf 5 = .ok (.aload_n 0, 1) := by decide +kernel
theorem dX5_townOf_6 : decode cX5_townOf 6 = .ok (.getfield 36, 3) := by decide +kernel
theorem dX5_townOf_9 : decode cX5_townOf 9 = .ok (.if_icmp .ge 12, 3) := by decide +kernel
theorem dX5_townOf_12 : decode cX5_townOf 12 = .ok (.iload_n 1, 1) := by decide +kernel
theorem dX5_townOf_13 : decode cX5_townOf 13 = .ok (.aload_n 0, 1) := by decide +kernel
theorem dX5_townOf_14 : decode cX5_townOf 14 = .ok (.getfield 17, 3) := by decide +kernel
theorem dX5_townOf_17 : decode cX5_townOf 17 = .ok (.arraylength, 1) := by decide +kernel
theorem dX5_townOf_18 : decode cX5_townOf 18 = .ok (.if_icmp .lt 5, 3) := by decide +kernel
theorem dX5_townOf_21 : decode cX5_townOf 21 = .ok (.iconst (-1), 1) := by decide +kernel
theorem dX5_townOf_22 : decode cX5_townOf 22 = .ok (.ireturn, 1) := by decide +kernel
theorem dX5_townOf_23 : decode cX5_townOf 23 = .ok (.aload_n 0, 1) := by decide +kernel
theorem dX5_townOf_24 : decode cX5_townOf 24 = .ok (.getfield 17, 3) := by decide +kernel
theorem dX5_townOf_27 : decode cX5_townOf 27 = .ok (.iload_n 1, 1) := by decide +kernel
theorem dX5_townOf_28 : decode cX5_townOf 28 = .ok (.aaload, 1) := by decide +kernel
theorem dX5_townOf_29 : decode cX5_townOf 29 = .ok (.astore_n 3, 1) := by decide +kernel
theorem dX5_townOf_30 : decode cX5_townOf 30 = .ok (.aload_n 3, 1) := by decide +kernel
theorem dX5_townOf_31 : decode cX5_townOf 31 = .ok (.ifnull 23, 3) := by decide +kernel
theorem dX5_townOf_34 : decode cX5_townOf 34 = .ok (.aload_n 3, 1) := by decide +kernel
theorem dX5_townOf_35 : decode cX5_townOf 35 = .ok (.getfield 86, 3) := by decide +kernel
theorem dX5_townOf_38 : decode cX5_townOf 38 = .ok (.iconst 1, 1) := by decide +kernel
theorem dX5_townOf_39 : decode cX5_townOf 39 = .ok (.if_icmp .lt 15, 3) := by decide +kernel
theorem dX5_townOf_42 : decode cX5_townOf 42 = .ok (.iload_n 2, 1) := by decide +kernel
theorem dX5_townOf_43 : decode cX5_townOf 43 = .ok (.ifCond .lt 11, 3) := by decide +kernel
theorem dX5_townOf_46 : decode cX5_townOf 46 = .ok (.iload_n 2, 1) := by decide +kernel
theorem dX5_townOf_47 : decode cX5_townOf 47 = .ok (.aload_n 3, 1) := by decide +kernel
theorem dX5_townOf_48 : decode cX5_townOf 48 = .ok (.getfield 89, 3) := by decide +kernel
theorem dX5_townOf_51 : decode cX5_townOf 51 = .ok (.if_icmp .ge 5, 3) := by decide +kernel
theorem dX5_townOf_54 : decode cX5_townOf 54 = .ok (.iconst (-1), 1) := by decide +kernel
theorem dX5_townOf_55 : decode cX5_townOf 55 = .ok (.ireturn, 1) := by decide +kernel
theorem dX5_townOf_56 : decode cX5_townOf 56 = .ok (.iload_n 2, 1) := by decide +kernel
theorem dX5_townOf_57 : decode cX5_townOf 57 = .ok (.aload_n 3, 1) := by decide +kernel
theorem dX5_townOf_58 : decode cX5_townOf 58 = .ok (.getfield 86, 3) := by decide +kernel
theorem dX5_townOf_61 : decode cX5_townOf 61 = .ok (.irem, 1) := by decide +kernel
theorem dX5_townOf_62 : decode cX5_townOf 62 = .ok (.istore 4, 2) := by decide +kernel
theorem dX5_townOf_64 : decode cX5_townOf 64 = .ok (.iload 4, 2) := by decide +kernel
theorem dX5_townOf_66 : decode cX5_townOf 66 = .ok (.aload_n 3, 1) := by decide +kernel
theorem dX5_townOf_67 : decode cX5_townOf 67 = .ok (.getfield 92, 3) := by decide +kernel
theorem dX5_townOf_70 : decode cX5_townOf 70 = .ok (.arraylength, 1) := by decide +kernel
theorem dX5_townOf_71 : decode cX5_townOf 71 = .ok (.if_icmp .ge 13, 3) := by decide +kernel
theorem dX5_townOf_74 : decode cX5_townOf 74 = .ok (.aload_n 3, 1) := by decide +kernel
theorem dX5_townOf_75 : decode cX5_townOf 75 = .ok (.getfield 92, 3) := by decide +kernel
theorem dX5_townOf_78 : decode cX5_townOf 78 = .ok (.iload 4, 2) := by decide +kernel
theorem dX5_townOf_80 : decode cX5_townOf 80 = .ok (.iaload, 1) := by decide +kernel
theorem dX5_townOf_81 : decode cX5_townOf 81 = .ok (.goto 4, 3) := by decide +kernel
theorem dX5_townOf_84 : decode cX5_townOf 84 = .ok (.iconst (-1), 1) := by decide +kernel
theorem dX5_townOf_85 : decode cX5_townOf 85 = .ok (.ireturn, 1) := by decide +kernel
theorem dX5_carriersIn_0 : decode cX5_carriersIn 0 = .ok (.iconst 0, 1) := by decide +kernel
theorem dX5_carriersIn_1 : decode cX5_carriersIn 1 = .ok (.istore_n 3, 1) := by decide +kernel
theorem dX5_carriersIn_2 : decode cX5_carriersIn 2 = .ok (.iconst 0, 1) := by decide +kernel
theorem dX5_carriersIn_3 : decode cX5_carriersIn 3 = .ok (.istore 4, 2) := by decide +kernel
theorem dX5_carriersIn_5 : decode cX5_carriersIn 5 = .ok (.iload 4, 2) := by decide +kernel
theorem dX5_carriersIn_7 : decode cX5_carriersIn 7 = .ok (.aload_n 0, 1) := by decide +kernel
theorem dX5_carriersIn_8 : decode cX5_carriersIn 8 = .ok (.getfield 36, 3) := by decide +kernel
theorem dX5_carriersIn_11 : decode cX5_carriersIn 11 = .ok (.if_icmp .ge 27, 3) := by decide +kernel
theorem dX5_carriersIn_14 : decode cX5_carriersIn 14 = .ok (.aload_n 0, 1) := by decide +kernel
theorem dX5_carriersIn_15 : decode cX5_carriersIn 15 = .ok (.iload 4, 2) := by decide +kernel
theorem dX5_carriersIn_17 : decode cX5_carriersIn 17 = .ok (.iload_n 2, 1) := by decide +kernel
theorem dX5_carriersIn_18 : decode cX5_carriersIn 18 = .ok (.invokevirtual 95, 3) := by decide +kernel
theorem dX5_carriersIn_21 : decode cX5_carriersIn 21 = .ok (.iload_n 1, 1) := by decide +kernel
theorem dX5_carriersIn_22 : decode cX5_carriersIn 22 = .ok (.if_icmp .ne 10, 3) := by decide +kernel
theorem dX5_carriersIn_25 : decode cX5_carriersIn 25 = .ok (.iload_n 3, 1) := by decide +kernel
theorem dX5_carriersIn_26 : decode cX5_carriersIn 26 = .ok (.iconst 1, 1) := by decide +kernel
theorem dX5_carriersIn_27 : decode cX5_carriersIn 27 = .ok (.iload 4, 2) := by decide +kernel
theorem dX5_carriersIn_29 : decode cX5_carriersIn 29 = .ok (.ishl, 1) := by decide +kernel
theorem dX5_carriersIn_30 : decode cX5_carriersIn 30 = .ok (.ior, 1) := by decide +kernel
theorem dX5_carriersIn_31 : decode cX5_carriersIn 31 = .ok (.istore_n 3, 1) := by decide +kernel
theorem dX5_carriersIn_32 : decode cX5_carriersIn 32 = .ok (.iinc 4 1, 3) := by decide +kernel
theorem dX5_carriersIn_35 : decode cX5_carriersIn 35 = .ok (.goto (-30), 3) := by decide +kernel
theorem dX5_carriersIn_38 : decode cX5_carriersIn 38 = .ok (.iload_n 3, 1) := by decide +kernel
theorem dX5_carriersIn_39 : decode cX5_carriersIn 39 = .ok (.ireturn, 1) := by decide +kernel
theorem dX5_illToday_0 : decode cX5_illToday 0 = .ok (.iconst 0, 1) := by decide +kernel
theorem dX5_illToday_1 : decode cX5_illToday 1 = .ok (.istore_n 1, 1) := by decide +kernel
theorem dX5_illToday_2 : decode cX5_illToday 2 = .ok (.iconst 0, 1) := by decide +kernel
theorem dX5_illToday_3 : decode cX5_illToday 3 = .ok (.istore_n 2, 1) := by decide +kernel
theorem dX5_illToday_4 : decode cX5_illToday 4 = .ok (.iload_n 2, 1) := by decide +kernel
theorem dX5_illToday_5 : decode cX5_illToday 5 = .ok (.aload_n 0, 1) := by decide +kernel
theorem dX5_illToday_6 : decode cX5_illToday 6 = .ok (.getfield 36, 3) := by decide +kernel
theorem dX5_illToday_9 : decode cX5_illToday 9 = .ok (.if_icmp .ge 25, 3) := by decide +kernel
theorem dX5_illToday_12 : decode cX5_illToday 12 = .ok (.aload_n 0, 1) := by decide +kernel
theorem dX5_illToday_13 : decode cX5_illToday 13 = .ok (.iload_n 2, 1) := by decide +kernel
theorem dX5_illToday_14 : decode cX5_illToday 14 = .ok (.aload_n 0, 1) := by decide +kernel
theorem dX5_illToday_15 : decode cX5_illToday 15 = .ok (.getfield 58, 3) := by decide +kernel
theorem dX5_illToday_18 : decode cX5_illToday 18 = .ok (.invokevirtual 95, 3) := by decide +kernel
theorem dX5_illToday_21 : decode cX5_illToday 21 = .ok (.iconst (-1), 1) := by decide +kernel
theorem dX5_illToday_22 : decode cX5_illToday 22 = .ok (.if_icmp .ne 6, 3) := by decide +kernel
theorem dX5_illToday_25 : decode cX5_illToday 25 = .ok (.iinc 1 1, 3) := by decide +kernel
theorem dX5_illToday_28 : decode cX5_illToday 28 = .ok (.iinc 2 1, 3) := by decide +kernel
theorem dX5_illToday_31 : decode cX5_illToday 31 = .ok (.goto (-27), 3) := by decide +kernel
theorem dX5_illToday_34 : decode cX5_illToday 34 = .ok (.iload_n 1, 1) := by decide +kernel
theorem dX5_illToday_35 : decode cX5_illToday 35 = .ok (.ireturn, 1) := by decide +kernel
theorem dX5_bundlesWith_0 : decode cX5_bundlesWith 0 = .ok (.iconst 0, 1) := by decide +kernel
theorem dX5_bundlesWith_1 : decode cX5_bundlesWith 1 = .ok (.istore_n 2, 1) := by decide +kernel
theorem dX5_bundlesWith_2 : decode cX5_bundlesWith 2 = .ok (.iconst 0, 1) := by decide +kernel
theorem dX5_bundlesWith_3 : decode cX5_bundlesWith 3 = .ok (.istore_n 3, 1) := by decide +kernel
theorem dX5_bundlesWith_4 : decode cX5_bundlesWith 4 = .ok (.iload_n 3, 1) := by decide +kernel
theorem dX5_bundlesWith_5 : decode cX5_bundlesWith 5 = .ok (.aload_n 0, 1) := by decide +kernel
theorem dX5_bundlesWith_6 : decode cX5_bundlesWith 6 = .ok (.getfield 39, 3) := by decide +kernel
theorem dX5_bundlesWith_9 : decode cX5_bundlesWith 9 = .ok (.if_icmp .ge 33, 3) := by decide +kernel
theorem dX5_bundlesWith_12 : decode cX5_bundlesWith 12 = .ok (.aload_n 0, 1) := by decide +kernel
theorem dX5_bundlesWith_13 : decode cX5_bundlesWith 13 = .ok (.iload_n 3, 1) := by decide +kernel
theorem dX5_bundlesWith_14 : decode cX5_bundlesWith 14 = .ok (.invokevirtual 50, 3) := by decide +kernel
theorem dX5_bundlesWith_17 : decode cX5_bundlesWith 17 = .ok (.astore 4, 2) := by decide +kernel
theorem dX5_bundlesWith_19 : decode cX5_bundlesWith 19 = .ok (.aload 4, 2) := by decide +kernel
theorem dX5_bundlesWith_21 : decode cX5_bundlesWith 21 = .ok (.ifnull 15, 3) := by decide +kernel
theorem dX5_bundlesWith_24 : decode cX5_bundlesWith 24 = .ok (.aload 4, 2) := by decide +kernel
theorem dX5_bundlesWith_26 : decode cX5_bundlesWith 26 = .ok (.getfield 99, 3) := by decide +kernel
theorem dX5_bundlesWith_29 : decode cX5_bundlesWith 29 = .ok (.iload_n 1, 1) := by decide +kernel
theorem dX5_bundlesWith_30 : decode cX5_bundlesWith 30 = .ok (.if_icmp .ne 6, 3) := by decide +kernel
theorem dX5_bundlesWith_33 : decode cX5_bundlesWith 33 = .ok (.iinc 2 1, 3) := by decide +kernel
theorem dX5_bundlesWith_36 : decode cX5_bundlesWith 36 = .ok (.iinc 3 1, 3) := by decide +kernel
theorem dX5_bundlesWith_39 : decode cX5_bundlesWith 39 = .ok (.goto (-35), 3) := by decide +kernel
theorem dX5_bundlesWith_42 : decode cX5_bundlesWith 42 = .ok (.iload_n 2, 1) := by decide +kernel
theorem dX5_bundlesWith_43 : decode cX5_bundlesWith 43 = .ok (.ireturn, 1) := by decide +kernel
theorem dX5_isFull_0 : decode cX5_isFull 0 = .ok (.aload_n 0, 1) := by decide +kernel
theorem dX5_isFull_1 : decode cX5_isFull 1 = .ok (.iload_n 1, 1) := by decide +kernel
theorem dX5_isFull_2 : decode cX5_isFull 2 = .ok (.invokevirtual 102, 3) := by decide +kernel
theorem dX5_isFull_5 : decode cX5_isFull 5 = .ok (.aload_n 0, 1) := by decide +kernel
theorem dX5_isFull_6 : decode cX5_isFull 6 = .ok (.getfield 27, 3) := by decide +kernel
theorem dX5_isFull_9 : decode cX5_isFull 9 = .ok (.if_icmp .lt 7, 3) := by decide +kernel
theorem dX5_isFull_12 : decode cX5_isFull 12 = .ok (.iconst 1, 1) := by decide +kernel
theorem dX5_isFull_13 : decode cX5_isFull 13 = .ok (.goto 4, 3) := by decide +kernel
theorem dX5_isFull_16 : decode cX5_isFull 16 = .ok (.iconst 0, 1) := by decide +kernel
theorem dX5_isFull_17 : decode cX5_isFull 17 = .ok (.ireturn, 1) := by decide +kernel
theorem dX5_lyingBundles_0 : decode cX5_lyingBundles 0 = .ok (.iconst 0, 1) := by decide +kernel
theorem dX5_lyingBundles_1 : decode cX5_lyingBundles 1 = .ok (.istore_n 1, 1) := by decide +kernel
theorem dX5_lyingBundles_2 : decode cX5_lyingBundles 2 = .ok (.iconst 0, 1) := by decide +kernel
theorem dX5_lyingBundles_3 : decode cX5_lyingBundles 3 = .ok (.istore_n 2, 1) := by decide +kernel
theorem dX5_lyingBundles_4 : decode cX5_lyingBundles 4 = .ok (.iload_n 2, 1) := by decide +kernel
theorem dX5_lyingBundles_5 : decode cX5_lyingBundles 5 = .ok (.aload_n 0, 1) := by decide +kernel
theorem dX5_lyingBundles_6 : decode cX5_lyingBundles 6 = .ok (.getfield 39, 3) := by decide +kernel
theorem dX5_lyingBundles_9 : decode cX5_lyingBundles 9 = .ok (.if_icmp .ge 31, 3) := by decide +kernel
theorem dX5_lyingBundles_12 : decode cX5_lyingBundles 12 = .ok (.aload_n 0, 1) := by decide +kernel
theorem dX5_lyingBundles_13 : decode cX5_lyingBundles 13 = .ok (.iload_n 2, 1) := by decide +kernel
theorem dX5_lyingBundles_14 : decode cX5_lyingBundles 14 = .ok (.invokevirtual 50, 3) := by decide +kernel
theorem dX5_lyingBundles_17 : decode cX5_lyingBundles 17 = .ok (.astore_n 3, 1) := by decide +kernel
theorem dX5_lyingBundles_18 : decode cX5_lyingBundles 18 = .ok (.aload_n 3, 1) := by decide +kernel
theorem dX5_lyingBundles_19 : decode cX5_lyingBundles 19 = .ok (.ifnull 15, 3) := by decide +kernel
theorem dX5_lyingBundles_22 : decode cX5_lyingBundles 22 = .ok (.aload_n 3, 1) := by decide +kernel
theorem dX5_lyingBundles_23 : decode cX5_lyingBundles 23 = .ok (.getfield 106, 3) := by decide +kernel
theorem dX5_lyingBundles_26 : decode cX5_lyingBundles 26 = .ok (.bipush (-4), 2) := by decide +kernel
theorem dX5_lyingBundles_28 : decode cX5_lyingBundles 28 = .ok (.if_icmp .eq 6, 3) := by decide +kernel
theorem dX5_lyingBundles_31 : decode cX5_lyingBundles 31 = .ok (.iinc 1 1, 3) := by decide +kernel
theorem dX5_lyingBundles_34 : decode cX5_lyingBundles 34 = .ok (.iinc 2 1, 3) := by decide +kernel
theorem dX5_lyingBundles_37 : decode cX5_lyingBundles 37 = .ok (.goto (-33), 3) := by decide +kernel
theorem dX5_lyingBundles_40 : decode cX5_lyingBundles 40 = .ok (.iload_n 1, 1) := by decide +kernel
theorem dX5_lyingBundles_41 : decode cX5_lyingBundles 41 = .ok (.ireturn, 1) := by decide +kernel
theorem dX5_arrivedBundles_0 : decode cX5_arrivedBundles 0 = .ok (.iconst 0, 1) := by decide +kernel
theorem dX5_arrivedBundles_1 : decode cX5_arrivedBundles 1 = .ok (.istore_n 1, 1) := by decide +kernel
theorem dX5_arrivedBundles_2 : decode cX5_arrivedBundles 2 = .ok (.iconst 0, 1) := by decide +kernel
theorem dX5_arrivedBundles_3 : decode cX5_arrivedBundles 3 = .ok (.istore_n 2, 1) := by decide +kernel
theorem dX5_arrivedBundles_4 : decode cX5_arrivedBundles 4 = .ok (.iload_n 2, 1) := by decide +kernel
theorem dX5_arrivedBundles_5 : decode cX5_arrivedBundles 5 = .ok (.aload_n 0, 1) := by decide +kernel
theorem dX5_arrivedBundles_6 : decode cX5_arrivedBundles 6 = .ok (.getfield 39, 3) := by decide +kernel
theorem dX5_arrivedBundles_9 : decode cX5_arrivedBundles 9 = .ok (.if_icmp .ge 31, 3) := by decide +kernel
theorem dX5_arrivedBundles_12 : decode cX5_arrivedBundles 12 = .ok (.aload_n 0, 1) := by decide +kernel
theorem dX5_arrivedBundles_13 : decode cX5_arrivedBundles 13 = .ok (.iload_n 2, 1) := by decide +kernel
theorem dX5_arrivedBundles_14 : decode cX5_arrivedBundles 14 = .ok (.invokevirtual 50, 3) := by decide +kernel
theorem dX5_arrivedBundles_17 : decode cX5_arrivedBundles 17 = .ok (.astore_n 3, 1) := by decide +kernel
theorem dX5_arrivedBundles_18 : decode cX5_arrivedBundles 18 = .ok (.aload_n 3, 1) := by decide +kernel
theorem dX5_arrivedBundles_19 : decode cX5_arrivedBundles 19 = .ok (.ifnull 15, 3) := by decide +kernel
theorem dX5_arrivedBundles_22 : decode cX5_arrivedBundles 22 = .ok (.aload_n 3, 1) := by decide +kernel
theorem dX5_arrivedBundles_23 : decode cX5_arrivedBundles 23 = .ok (.getfield 109, 3) := by decide +kernel
theorem dX5_arrivedBundles_26 : decode cX5_arrivedBundles 26 = .ok (.bipush (-4), 2) := by decide +kernel
theorem dX5_arrivedBundles_28 : decode cX5_arrivedBundles 28 = .ok (.if_icmp .eq 6, 3) := by decide +kernel
theorem dX5_arrivedBundles_31 : decode cX5_arrivedBundles 31 = .ok (.iinc 1 1, 3) := by decide +kernel
theorem dX5_arrivedBundles_34 : decode cX5_arrivedBundles 34 = .ok (.iinc 2 1, 3) := by decide +kernel
theorem dX5_arrivedBundles_37 : decode cX5_arrivedBundles 37 = .ok (.goto (-33), 3) := by decide +kernel
theorem dX5_arrivedBundles_40 : decode cX5_arrivedBundles 40 = .ok (.iload_n 1, 1) := by decide +kernel
theorem dX5_arrivedBundles_41 : decode cX5_arrivedBundles 41 = .ok (.ireturn, 1) := by decide +kernel
theorem dX5_brokenBundles_0 : decode cX5_brokenBundles 0 = .ok (.iconst 0, 1) := by decide +kernel
theorem dX5_brokenBundles_1 : decode cX5_brokenBundles 1 = .ok (.istore_n 1, 1) := by decide +kernel
theorem dX5_brokenBundles_2 : decode cX5_brokenBundles 2 = .ok (.iconst 0, 1) := by decide +kernel
theorem dX5_brokenBundles_3 : decode cX5_brokenBundles 3 = .ok (.istore_n 2, 1) := by decide +kernel
theorem dX5_brokenBundles_4 : decode cX5_brokenBundles 4 = .ok (.iload_n 2, 1) := by decide +kernel
theorem dX5_brokenBundles_5 : decode cX5_brokenBundles 5 = .ok (.aload_n 0, 1) := by decide +kernel
theorem dX5_brokenBundles_6 : decode cX5_brokenBundles 6 = .ok (.getfield 39, 3) := by decide +kernel
theorem dX5_brokenBundles_9 : decode cX5_brokenBundles 9 = .ok (.if_icmp .ge 29, 3) := by decide +kernel
theorem dX5_brokenBundles_12 : decode cX5_brokenBundles 12 = .ok (.aload_n 0, 1) := by decide +kernel
theorem dX5_brokenBundles_13 : decode cX5_brokenBundles 13 = .ok (.iload_n 2, 1) := by decide +kernel
theorem dX5_brokenBundles_14 : decode cX5_brokenBundles 14 = .ok (.invokevirtual 50, 3) := by decide +kernel
theorem dX5_brokenBundles_17 : decode cX5_brokenBundles 17 = .ok (.astore_n 3, 1) := by decide +kernel
theorem dX5_brokenBundles_18 : decode cX5_brokenBundles 18 = .ok (.aload_n 3, 1) := by decide +kernel
theorem dX5_brokenBundles_19 : decode cX5_brokenBundles 19 = .ok (.ifnull 13, 3) := by decide +kernel
theorem dX5_brokenBundles_22 : decode cX5_brokenBundles 22 = .ok (.aload_n 3, 1) := by decide +kernel
theorem dX5_brokenBundles_23 : decode cX5_brokenBundles 23 = .ok (.getfield 112, 3) := by decide +kernel
theorem dX5_brokenBundles_26 : decode cX5_brokenBundles 26 = .ok (.ifCond .eq 6, 3) := by decide +kernel
theorem dX5_brokenBundles_29 : decode cX5_brokenBundles 29 = .ok (.iinc 1 1, 3) := by decide +kernel
theorem dX5_brokenBundles_32 : decode cX5_brokenBundles 32 = .ok (.iinc 2 1, 3) := by decide +kernel
theorem dX5_brokenBundles_35 : decode cX5_brokenBundles 35 = .ok (.goto (-31), 3) := by decide +kernel
theorem dX5_brokenBundles_38 : decode cX5_brokenBundles 38 = .ok (.iload_n 1, 1) := by decide +kernel
theorem dX5_brokenBundles_39 : decode cX5_brokenBundles 39 = .ok (.ireturn, 1) := by decide +kernel
theorem dX5_passDay_0 : decode cX5_passDay 0 = .ok (.aload_n 0, 1) := by decide +kernel
theorem dX5_passDay_1 : decode cX5_passDay 1 = .ok (.dup, 1) := by decide +kernel
theorem dX5_passDay_2 : decode cX5_passDay 2 = .ok (.getfield 58, 3) := by decide +kernel
theorem dX5_passDay_5 : decode cX5_passDay 5 = .ok (.iconst 1, 1) := by decide +kernel
theorem dX5_passDay_6 : decode cX5_passDay 6 = .ok (.iadd, 1) := by decide +kernel
theorem dX5_passDay_7 : decode cX5_passDay 7 = .ok (.putfield 58, 3) := by decide +kernel
theorem dX5_passDay_10 : decode cX5_passDay 10 = .ok (.iconst 0, 1) := by decide +kernel
theorem dX5_passDay_11 : decode cX5_passDay 11 = .ok (.istore_n 2, 1) := by decide +kernel
theorem dX5_passDay_12 : decode cX5_passDay 12 = .ok (.iload_n 2, 1) := by decide +kernel
theorem dX5_passDay_13 : decode cX5_passDay 13 = .ok (.aload_n 0, 1) := by decide +kernel
theorem dX5_passDay_14 : decode cX5_passDay 14 = .ok (.getfield 39, 3) := by decide +kernel
theorem dX5_passDay_17 : decode cX5_passDay 17 = .ok (.if_icmp .ge 34, 3) := by decide +kernel
theorem dX5_passDay_20 : decode cX5_passDay 20 = .ok (.aload_n 0, 1) := by decide +kernel
theorem dX5_passDay_21 : decode cX5_passDay 21 = .ok (.iload_n 2, 1) := by decide +kernel
theorem dX5_passDay_22 : decode cX5_passDay 22 = .ok (.invokevirtual 50, 3) := by decide +kernel
theorem dX5_passDay_25 : decode cX5_passDay 25 = .ok (.astore_n 3, 1) := by decide +kernel
theorem dX5_passDay_26 : decode cX5_passDay 26 = .ok (.aload_n 3, 1) := by decide +kernel
theorem dX5_passDay_27 : decode cX5_passDay 27 = .ok (.ifnull 18, 3) := by decide +kernel
theorem dX5_passDay_30 : decode cX5_passDay 30 = .ok (.aload_n 3, 1) := by decide +kernel
theorem dX5_passDay_31 : decode cX5_passDay 31 = .ok (.getfield 109, 3) := by decide +kernel
theorem dX5_passDay_34 : decode cX5_passDay 34 = .ok (.bipush (-4), 2) := by decide +kernel
theorem dX5_passDay_36 : decode cX5_passDay 36 = .ok (.if_icmp .ne 9, 3) := by decide +kernel
theorem dX5_passDay_39 : decode cX5_passDay 39 = .ok (.aload_n 0, 1) := by decide +kernel
theorem dX5_passDay_40 : decode cX5_passDay 40 = .ok (.aload_n 3, 1) := by decide +kernel
theorem dX5_passDay_41 : decode cX5_passDay 41 = .ok (.aload_n 1, 1) := by decide +kernel
theorem dX5_passDay_42 : decode cX5_passDay 42 = .ok (.invokevirtual 116, 3) := by decide +kernel
theorem dX5_passDay_45 : decode cX5_passDay 45 = .ok (.iinc 2 1, 3) := by decide +kernel
theorem dX5_passDay_48 : decode cX5_passDay 48 = .ok (.goto (-36), 3) := by decide +kernel
theorem dX5_passDay_51 : decode cX5_passDay 51 = .ok (.return_, 1) := by decide +kernel
theorem dX5_moveOn_0 : decode cX5_moveOn 0 = .ok (.aload_n 0, 1) := by decide +kernel
theorem dX5_moveOn_1 : decode cX5_moveOn 1 = .ok (.aload_n 1, 1) := by decide +kernel
theorem dX5_moveOn_2 : decode cX5_moveOn 2 = .ok (.getfield 99, 3) := by decide +kernel
theorem dX5_moveOn_5 : decode cX5_moveOn 5 = .ok (.aload_n 0, 1) := by decide +kernel
theorem dX5_moveOn_6 : decode cX5_moveOn 6 = .ok (.getfield 58, 3) := by decide +kernel
theorem dX5_moveOn_9 : decode cX5_moveOn 9 = .ok (.invokevirtual 95, 3) := by decide +kernel
theorem dX5_moveOn_12 : decode cX5_moveOn 12 = .ok (.aload_n 1, 1) := by decide +kernel
theorem dX5_moveOn_13 : decode cX5_moveOn 13 = .ok (.getfield 120, 3) := by decide +kernel
theorem dX5_moveOn_16 : decode cX5_moveOn 16 = .ok (.if_icmp .ne 28, 3) := by decide +kernel
theorem dX5_moveOn_19 : decode cX5_moveOn 19 = .ok (.aload_n 1, 1) := by decide +kernel
theorem dX5_moveOn_20 : decode cX5_moveOn 20 = .ok (.bipush (-4), 2) := by decide +kernel
theorem dX5_moveOn_22 : decode cX5_moveOn 22 = .ok (.putfield 99, 3) := by decide +kernel
theorem dX5_moveOn_25 : decode cX5_moveOn 25 = .ok (.aload_n 1, 1) := by decide +kernel
theorem dX5_moveOn_26 : decode cX5_moveOn 26 = .ok (.aload_n 0, 1) := by decide +kernel
theorem dX5_moveOn_27 : decode cX5_moveOn 27 = .ok (.getfield 58, 3) := by decide +kernel
theorem dX5_moveOn_30 : decode cX5_moveOn 30 = .ok (.putfield 109, 3) := by decide +kernel
theorem dX5_moveOn_33 : decode cX5_moveOn 33 = .ok (.aload_n 0, 1) := by decide +kernel
theorem dX5_moveOn_34 : decode cX5_moveOn 34 = .ok (.dup, 1) := by decide +kernel
theorem dX5_moveOn_35 : decode cX5_moveOn 35 = .ok (.getfield 64, 3) := by decide +kernel
theorem dX5_moveOn_38 : decode cX5_moveOn 38 = .ok (.iconst 1, 1) := by decide +kernel
theorem dX5_moveOn_39 : decode cX5_moveOn 39 = .ok (.iadd, 1) := by decide +kernel
theorem dX5_moveOn_40 : decode cX5_moveOn 40 = .ok (.putfield 64, 3) := by decide +kernel
theorem dX5_moveOn_43 : decode cX5_moveOn 43 = .ok (.return_, 1) := by decide +kernel
theorem dX5_moveOn_44 : decode cX5_moveOn 44 = .ok (.aload_n 0, 1) := by decide +kernel
theorem dX5_moveOn_45 : decode cX5_moveOn 45 = .ok (.aload_n 1, 1) := by decide +kernel
theorem dX5_moveOn_46 : decode cX5_moveOn 46 = .ok (.invokevirtual 123, 3) := by decide +kernel
theorem dX5_moveOn_49 : decode cX5_moveOn 49 = .ok (.istore_n 3, 1) := by decide +kernel
theorem dX5_moveOn_50 : decode cX5_moveOn 50 = .ok (.iload_n 3, 1) := by decide +kernel
theorem dX5_moveOn_51 : decode cX5_moveOn 51 = .ok (.ifCond .ne 4, 3) := by decide +kernel
theorem dX5_moveOn_54 : decode cX5_moveOn 54 = .ok (.return_, 1) := by decide +kernel
theorem dX5_moveOn_55 : decode cX5_moveOn 55 = .ok (.aload_n 2, 1) := by decide +kernel
theorem dX5_moveOn_56 : decode cX5_moveOn 56 = .ok (.aload_n 0, 1) := by decide +kernel
theorem dX5_moveOn_57 : decode cX5_moveOn 57 = .ok (.aload_n 1, 1) := by decide +kernel
theorem dX5_moveOn_58 : decode cX5_moveOn 58 = .ok (.iload_n 3, 1) := by decide +kernel
theorem dX5_moveOn_59 : decode cX5_moveOn 59 = .ok (.invokevirtual 127, 3) := by decide +kernel
theorem dX5_moveOn_62 : decode cX5_moveOn 62 = .ok (.istore 4, 2) := by decide +kernel
theorem dX5_moveOn_64 : decode cX5_moveOn 64 = .ok (.iload 4, 2) := by decide +kernel
theorem dX5_moveOn_66 : decode cX5_moveOn 66 = .ok (.bipush (-4), 2) := by decide +kernel
theorem dX5_moveOn_68 : decode cX5_moveOn 68 = .ok (.if_icmp .eq 10, 3) := by decide +kernel
theorem dX5_moveOn_71 : decode cX5_moveOn 71 = .ok (.aload_n 0, 1) := by decide +kernel
theorem dX5_moveOn_72 : decode cX5_moveOn 72 = .ok (.aload_n 1, 1) := by decide +kernel
theorem dX5_moveOn_73 : decode cX5_moveOn 73 = .ok (.iload 4, 2) := by decide +kernel
theorem dX5_moveOn_75 : decode cX5_moveOn 75 = .ok (.invokevirtual 133, 3) := by decide +kernel
theorem dX5_moveOn_78 : decode cX5_moveOn 78 = .ok (.return_, 1) := by decide +kernel
theorem dX5_takersOf_0 : decode cX5_takersOf 0 = .ok (.aload_n 1, 1) := by decide +kernel
theorem dX5_takersOf_1 : decode cX5_takersOf 1 = .ok (.getfield 106, 3) := by decide +kernel
theorem dX5_takersOf_4 : decode cX5_takersOf 4 = .ok (.bipush (-4), 2) := by decide +kernel
theorem dX5_takersOf_6 : decode cX5_takersOf 6 = .ok (.if_icmp .eq 10, 3) := by decide +kernel
theorem dX5_takersOf_9 : decode cX5_takersOf 9 = .ok (.aload_n 1, 1) := by decide +kernel
theorem dX5_takersOf_10 : decode cX5_takersOf 10 = .ok (.getfield 106, 3) := by decide +kernel
theorem dX5_takersOf_13 : decode cX5_takersOf 13 = .ok (.goto 11, 3) := by decide +kernel
theorem dX5_takersOf_16 : decode cX5_takersOf 16 = .ok (.aload_n 0, 1) := by decide +kernel
theorem dX5_takersOf_17 : decode cX5_takersOf 17 = .ok (.aload_n 0, 1) := by decide +kernel
theorem dX5_takersOf_18 : decode cX5_takersOf 18 = .ok (.getfield 58, 3) := by decide +kernel
theorem dX5_takersOf_21 : decode cX5_takersOf 21 = .ok (.invokevirtual 137, 3) := by decide +kernel
theorem dX5_takersOf_24 : decode cX5_takersOf 24 = .ok (.istore_n 2, 1) := by decide +kernel
theorem dX5_takersOf_25 : decode cX5_takersOf 25 = .ok (.aload_n 1, 1) := by decide +kernel
theorem dX5_takersOf_26 : decode cX5_takersOf 26 = .ok (.getfield 99, 3) := by decide +kernel
theorem dX5_takersOf_29 : decode cX5_takersOf 29 = .ok (.bipush (-4), 2) := by decide +kernel
theorem dX5_takersOf_31 : decode cX5_takersOf 31 = .ok (.if_icmp .eq 21, 3) := by decide +kernel
theorem dX5_takersOf_34 : decode cX5_takersOf 34 = .ok (.aload_n 0, 1) := by decide +kernel
theorem dX5_takersOf_35 : decode cX5_takersOf 35 = .ok (.aload_n 1, 1) := by decide +kernel
theorem dX5_takersOf_36 : decode cX5_takersOf 36 = .ok (.getfield 99, 3) := by decide +kernel
theorem dX5_takersOf_39 : decode cX5_takersOf 39 = .ok (.aload_n 0, 1) := by decide +kernel
theorem dX5_takersOf_40 : decode cX5_takersOf 40 = .ok (.getfield 58, 3) := by decide +kernel
theorem dX5_takersOf_43 : decode cX5_takersOf 43 = .ok (.invokevirtual 95, 3) := by decide +kernel
theorem dX5_takersOf_46 : decode cX5_takersOf 46 = .ok (.iload_n 2, 1) := by decide +kernel
theorem dX5_takersOf_47 : decode cX5_takersOf 47 = .ok (.if_icmp .eq 5, 3) := by decide +kernel
theorem dX5_takersOf_50 : decode cX5_takersOf 50 = .ok (.iconst 0, 1) := by decide +kernel
theorem dX5_takersOf_51 : decode cX5_takersOf 51 = .ok (.ireturn, 1) := by decide +kernel
theorem dX5_takersOf_52 : decode cX5_takersOf 52 = .ok (.aload_n 0, 1) := by decide +kernel
theorem dX5_takersOf_53 : decode cX5_takersOf 53 = .ok (.iload_n 2, 1) := by decide +kernel
theorem dX5_takersOf_54 : decode cX5_takersOf 54 = .ok (.aload_n 0, 1) := by decide +kernel
theorem dX5_takersOf_55 : decode cX5_takersOf 55 = .ok (.getfield 58, 3) := by decide +kernel
theorem dX5_takersOf_58 : decode cX5_takersOf 58 = .ok (.invokevirtual 140, 3) := by decide +kernel
theorem dX5_takersOf_61 : decode cX5_takersOf 61 = .ok (.istore_n 3, 1) := by decide +kernel
theorem dX5_takersOf_62 : decode cX5_takersOf 62 = .ok (.iconst 0, 1) := by decide +kernel
theorem dX5_takersOf_63 : decode cX5_takersOf 63 = .ok (.istore 4, 2) := by decide +kernel
theorem dX5_takersOf_65 : decode cX5_takersOf 65 = .ok (.iload 4, 2) := by decide +kernel
theorem dX5_takersOf_67 : decode cX5_takersOf 67 = .ok (.aload_n 0, 1) := by decide +kernel
theorem dX5_takersOf_68 : decode cX5_takersOf 68 = .ok (.getfield 36, 3) := by decide +kernel
theorem dX5_takersOf_71 : decode cX5_takersOf 71 = .ok (.if_icmp .ge 36, 3) := by decide +kernel
theorem dX5_takersOf_74 : decode cX5_takersOf 74 = .ok (.iload 4, 2) := by decide +kernel
theorem dX5_takersOf_76 : decode cX5_takersOf 76 = .ok (.aload_n 1, 1) := by decide +kernel
theorem dX5_takersOf_77 : decode cX5_takersOf 77 = .ok (.getfield 99, 3) := by decide +kernel
theorem dX5_takersOf_80 : decode cX5_takersOf 80 = .ok (.if_icmp .eq 12, 3) := by decide +kernel
theorem dX5_takersOf_83 : decode cX5_takersOf 83 = .ok (.aload_n 0, 1) := by decide +kernel
theorem dX5_takersOf_84 : decode cX5_takersOf 84 = .ok (.iload 4, 2) := by decide +kernel
theorem dX5_takersOf_86 : decode cX5_takersOf 86 = .ok (.invokevirtual 143, 3) := by decide +kernel
theorem dX5_takersOf_89 : decode cX5_takersOf 89 = .ok (.ifCond .eq 12, 3) := by decide +kernel
theorem dX5_takersOf_92 : decode cX5_takersOf 92 = .ok (.iload_n 3, 1) := by decide +kernel
theorem dX5_takersOf_93 : decode cX5_takersOf 93 = .ok (.iconst 1, 1) := by decide +kernel
theorem dX5_takersOf_94 : decode cX5_takersOf 94 = .ok (.iload 4, 2) := by decide +kernel
theorem dX5_takersOf_96 : decode cX5_takersOf 96 = .ok (.ishl, 1) := by decide +kernel
theorem dX5_takersOf_97 : decode cX5_takersOf 97 = .ok (.iconst (-1), 1) := by decide +kernel
theorem dX5_takersOf_98 : decode cX5_takersOf 98 = .ok (.ixor, 1) := by decide +kernel
theorem dX5_takersOf_99 : decode cX5_takersOf 99 = .ok (.iand, 1) := by decide +kernel
theorem dX5_takersOf_100 : decode cX5_takersOf 100 = .ok (.istore_n 3, 1) := by decide +kernel
theorem dX5_takersOf_101 : decode cX5_takersOf 101 = .ok (.iinc 4 1, 3) := by decide +kernel
theorem dX5_takersOf_104 : decode cX5_takersOf 104 = .ok (.goto (-39), 3) := by decide +kernel
theorem dX5_takersOf_107 : decode cX5_takersOf 107 = .ok (.iload_n 3, 1) := by decide +kernel
theorem dX5_takersOf_108 : decode cX5_takersOf 108 = .ok (.ireturn, 1) := by decide +kernel
theorem dX5_changeHands_0 : decode cX5_changeHands 0 = .ok (.aload_n 0, 1) := by decide +kernel
theorem dX5_changeHands_1 : decode cX5_changeHands 1 = .ok (.iload_n 2, 1) := by decide +kernel
theorem dX5_changeHands_2 : decode cX5_changeHands 2 = .ok (.invokevirtual 42, 3) := by decide +kernel
theorem dX5_changeHands_5 : decode cX5_changeHands 5 = .ok (.astore_n 3, 1) := by decide +kernel
theorem dX5_changeHands_6 : decode cX5_changeHands 6 = .ok (.aload_n 3, 1) := by decide +kernel
theorem dX5_changeHands_7 : decode cX5_changeHands 7 = .ok (.ifnonnull 4, 3) := by decide +kernel
theorem dX5_changeHands_10 : decode cX5_changeHands 10 = .ok (.return_, 1) := by decide +kernel
theorem dX5_changeHands_11 : decode cX5_changeHands 11 = .ok (.aload_n 1, 1) := by decide +kernel
theorem dX5_changeHands_12 : decode cX5_changeHands 12 = .ok (.bipush (-4), 2) := by decide +kernel
theorem dX5_changeHands_14 : decode cX5_changeHands 14 = .ok (.putfield 106, 3) := by decide +kernel
theorem dX5_changeHands_17 : decode cX5_changeHands 17 = .ok (.aload_n 1, 1) := by decide +kernel
theorem dX5_changeHands_18 : decode cX5_changeHands 18 = .ok (.iload_n 2, 1) := by decide +kernel
theorem dX5_changeHands_19 : decode cX5_changeHands 19 = .ok (.putfield 99, 3) := by decide +kernel
theorem dX5_changeHands_22 : decode cX5_changeHands 22 = .ok (.aload_n 1, 1) := by decide +kernel
theorem dX5_changeHands_23 : decode cX5_changeHands 23 = .ok (.dup, 1) := by decide +kernel
theorem dX5_changeHands_24 : decode cX5_changeHands 24 = .ok (.getfield 147, 3) := by decide +kernel
theorem dX5_changeHands_27 : decode cX5_changeHands 27 = .ok (.iconst 1, 1) := by decide +kernel
theorem dX5_changeHands_28 : decode cX5_changeHands 28 = .ok (.iadd, 1) := by decide +kernel
theorem dX5_changeHands_29 : decode cX5_changeHands 29 = .ok (.putfield 147, 3) := by decide +kernel
theorem dX5_changeHands_32 : decode cX5_changeHands 32 = .ok (.aload_n 3, 1) := by decide +kernel
theorem dX5_changeHands_33 : decode cX5_changeHands 33 = .ok (.dup, 1) := by decide +kernel
theorem dX5_changeHands_34 : decode cX5_changeHands 34 = .ok (.getfield 148, 3) := by decide +kernel
theorem dX5_changeHands_37 : decode cX5_changeHands 37 = .ok (.iconst 1, 1) := by decide +kernel
theorem dX5_changeHands_38 : decode cX5_changeHands 38 = .ok (.iadd, 1) := by decide +kernel
theorem dX5_changeHands_39 : decode cX5_changeHands 39 = .ok (.putfield 148, 3) := by decide +kernel
theorem dX5_changeHands_42 : decode cX5_changeHands 42 = .ok (.aload_n 0, 1) := by decide +kernel
theorem dX5_changeHands_43 : decode cX5_changeHands 43 = .ok (.dup, 1) := by decide +kernel
theorem dX5_changeHands_44 : decode cX5_changeHands 44 = .ok (.getfield 70, 3) := by decide +kernel
theorem dX5_changeHands_47 : decode cX5_changeHands 47 = .ok (.iconst 1, 1) := by decide +kernel
theorem dX5_changeHands_48 : decode cX5_changeHands 48 = .ok (.iadd, 1) := by decide +kernel
theorem dX5_changeHands_49 : decode cX5_changeHands 49 = .ok (.putfield 70, 3) := by decide +kernel
theorem dX5_changeHands_52 : decode cX5_changeHands 52 = .ok (.aload_n 0, 1) := by decide +kernel
theorem dX5_changeHands_53 : decode cX5_changeHands 53 = .ok (.sipush 421, 3) := by decide +kernel
theorem dX5_changeHands_56 : decode cX5_changeHands 56 = .ok (.aload_n 0, 1) := by decide +kernel
theorem dX5_changeHands_57 : decode cX5_changeHands 57 = .ok (.getfield 31, 3) := by decide +kernel
theorem dX5_changeHands_60 : decode cX5_changeHands 60 = .ok (.imul, 1) := by decide +kernel
theorem dX5_changeHands_61 : decode cX5_changeHands 61 = .ok (.sipush 1663, 3) := by decide +kernel
theorem dX5_changeHands_64 : decode cX5_changeHands 64 = .ok (.iadd, 1) := by decide +kernel
theorem dX5_changeHands_65 : decode cX5_changeHands 65 = .ok (.sipush 10000, 3) := by decide +kernel
theorem dX5_changeHands_68 : decode cX5_changeHands 68 = .ok (.irem, 1) := by decide +kernel
theorem dX5_changeHands_69 : decode cX5_changeHands 69 = .ok (.putfield 31, 3) := by decide +kernel
theorem dX5_changeHands_72 : decode cX5_changeHands 72 = .ok (.aload_n 0, 1) := by decide +kernel
theorem dX5_changeHands_73 : decode cX5_changeHands 73 = .ok (.getfield 31, 3) := by decide +kernel
theorem dX5_changeHands_76 : decode cX5_changeHands 76 = .ok (.bipush 10, 2) := by decide +kernel
theorem dX5_changeHands_78 : decode cX5_changeHands 78 = .ok (.irem, 1) := by decide +kernel
theorem dX5_changeHands_79 : decode cX5_changeHands 79 = .ok (.aload_n 3, 1) := by decide +kernel
theorem dX5_changeHands_80 : decode cX5_changeHands 80 = .ok (.getfield 149, 3) := by decide +kernel
theorem dX5_changeHands_83 : decode cX5_changeHands 83 = .ok (.if_icmp .ge 25, 3) := by decide +kernel
theorem dX5_changeHands_86 : decode cX5_changeHands 86 = .ok (.aload_n 1, 1) := by decide +kernel
theorem dX5_changeHands_87 : decode cX5_changeHands 87 = .ok (.getfield 112, 3) := by decide +kernel
theorem dX5_changeHands_90 : decode cX5_changeHands 90 = .ok (.ifCond .ne 18, 3) := by decide +kernel
theorem dX5_changeHands_93 : decode cX5_changeHands 93 = .ok (.aload_n 1, 1) := by decide +kernel
theorem dX5_changeHands_94 : decode cX5_changeHands 94 = .ok (.iconst 1, 1) := by decide +kernel
theorem dX5_changeHands_95 : decode cX5_changeHands 95 = .ok (.putfield 112, 3) := by decide +kernel
theorem dX5_changeHands_98 : decode cX5_changeHands 98 = .ok (.aload_n 3, 1) := by decide +kernel
theorem dX5_changeHands_99 : decode cX5_changeHands 99 = .ok (.dup, 1) := by decide +kernel
theorem dX5_changeHands_100 : decode cX5_changeHands 100 = .ok (.getfield 152, 3) := by decide +kernel
theorem dX5_changeHands_103 : decode cX5_changeHands 103 = .ok (.iconst 1, 1) := by decide +kernel
theorem dX5_changeHands_104 : decode cX5_changeHands 104 = .ok (.iadd, 1) := by decide +kernel
theorem dX5_changeHands_105 : decode cX5_changeHands 105 = .ok (.putfield 152, 3) := by decide +kernel
theorem dX5_changeHands_108 : decode cX5_changeHands 108 = .ok (.return_, 1) := by decide +kernel
theorem dX6_init_0 : decode cX6_init 0 = .ok (.aload_n 0, 1) := by decide +kernel
theorem dX6_init_1 : decode cX6_init 1 = .ok (.invokespecial 1, 3) := by decide +kernel
theorem dX6_init_4 : decode cX6_init 4 = .ok (.aload_n 0, 1) := by decide +kernel
theorem dX6_init_5 : decode cX6_init 5 = .ok (.new 7, 3) := by decide +kernel
theorem dX6_init_8 : decode cX6_init 8 = .ok (.dup, 1) := by decide +kernel
theorem dX6_init_9 : decode cX6_init 9 = .ok (.invokespecial 9, 3) := by decide +kernel
theorem dX6_init_12 : decode cX6_init 12 = .ok (.putfield 10, 3) := by decide +kernel
theorem dX6_init_15 : decode cX6_init 15 = .ok (.aload_n 0, 1) := by decide +kernel
theorem dX6_init_16 : decode cX6_init 16 = .ok (.new 7, 3) := by decide +kernel
theorem dX6_init_19 : decode cX6_init 19 = .ok (.dup, 1) := by decide +kernel
theorem dX6_init_20 : decode cX6_init 20 = .ok (.invokespecial 9, 3) := by decide +kernel
theorem dX6_init_23 : decode cX6_init 23 = .ok (.putfield 16, 3) := by decide +kernel
theorem dX6_init_26 : decode cX6_init 26 = .ok (.aload_n 0, 1) := by decide +kernel
theorem dX6_init_27 : decode cX6_init 27 = .ok (.new 7, 3) := by decide +kernel
theorem dX6_init_30 : decode cX6_init 30 = .ok (.dup, 1) := by decide +kernel
theorem dX6_init_31 : decode cX6_init 31 = .ok (.invokespecial 9, 3) := by decide +kernel
theorem dX6_init_34 : decode cX6_init 34 = .ok (.putfield 19, 3) := by decide +kernel
theorem dX6_init_37 : decode cX6_init 37 = .ok (.aload_n 0, 1) := by decide +kernel
theorem dX6_init_38 : decode cX6_init 38 = .ok (.new 22, 3) := by decide +kernel
theorem dX6_init_41 : decode cX6_init 41 = .ok (.dup, 1) := by decide +kernel
theorem dX6_init_42 : decode cX6_init 42 = .ok (.invokespecial 24, 3) := by decide +kernel
theorem dX6_init_45 : decode cX6_init 45 = .ok (.putfield 25, 3) := by decide +kernel
theorem dX6_init_48 : decode cX6_init 48 = .ok (.aload_n 0, 1) := by decide +kernel
theorem dX6_init_49 : decode cX6_init 49 = .ok (.new 29, 3) := by decide +kernel
theorem dX6_init_52 : decode cX6_init 52 = .ok (.dup, 1) := by decide +kernel
theorem dX6_init_53 : decode cX6_init 53 = .ok (.invokespecial 31, 3) := by decide +kernel
theorem dX6_init_56 : decode cX6_init 56 = .ok (.putfield 32, 3) := by decide +kernel
theorem dX6_init_59 : decode cX6_init 59 = .ok (.aload_n 0, 1) := by decide +kernel
theorem dX6_init_60 : decode cX6_init 60 = .ok (.new 36, 3) := by decide +kernel
theorem dX6_init_63 : decode cX6_init 63 = .ok (.dup, 1) := by decide +kernel
theorem dX6_init_64 : decode cX6_init 64 = .ok (.invokespecial 38, 3) := by decide +kernel
theorem dX6_init_67 : decode cX6_init 67 = .ok (.putfield 39, 3) := by decide +kernel
theorem dX6_init_70 : decode cX6_init 70 = .ok (.return_, 1) := by decide +kernel
theorem dX6_stall_0 : decode cX6_stall 0 = .ok (.iload_n 1, 1) := by decide +kernel
theorem dX6_stall_1 : decode cX6_stall 1 = .ok (.invokestatic 43, 3) := by decide +kernel
theorem dX6_stall_4 : decode cX6_stall 4 = .ok (.ifCond .eq 13, 3) := by decide +kernel
theorem dX6_stall_7 : decode cX6_stall 7 = .ok (.iload_n 2, 1) := by decide +kernel
theorem dX6_stall_8 : decode cX6_stall 8 = .ok (.ifCond .lt 9, 3) := by decide +kernel
theorem dX6_stall_11 : decode cX6_stall 11 = .ok (.iload_n 2, 1) := by decide +kernel
theorem dX6_stall_12 : decode cX6_stall 12 = .ok (.bipush 6, 2) := by decide +kernel
theorem dX6_stall_14 : decode cX6_stall 14 = .ok (.if_icmp .le 5, 3) := by decide +kernel
theorem dX6_stall_17 : decode cX6_stall 17 = .ok (.iconst (-1), 1) := by decide +kernel
theorem dX6_stall_18 : decode cX6_stall 18 = .ok (.ireturn, 1) := by decide +kernel
theorem dX6_stall_19 : decode cX6_stall 19 = .ok (.aload_n 0, 1) := by decide +kernel
theorem dX6_stall_20 : decode cX6_stall 20 = .ok (.getfield 10, 3) := by decide +kernel
theorem dX6_stall_23 : decode cX6_stall 23 = .ok (.iload_n 1, 1) := by decide +kernel
theorem dX6_stall_24 : decode cX6_stall 24 = .ok (.invokevirtual 47, 3) := by decide +kernel
theorem dX6_stall_27 : decode cX6_stall 27 = .ok (.istore_n 3, 1) := by decide +kernel
theorem dX6_stall_28 : decode cX6_stall 28 = .ok (.aload_n 0, 1) := by decide +kernel
theorem dX6_stall_29 : decode cX6_stall 29 = .ok (.getfield 25, 3) := by decide +kernel
theorem dX6_stall_32 : decode cX6_stall 32 = .ok (.aload_n 0, 1) := by decide +kernel
theorem dX6_stall_33 : decode cX6_stall 33 = .ok (.getfield 10, 3) := by decide +kernel
theorem dX6_stall_36 : decode cX6_stall 36 = .ok (.invokevirtual 51, 3) := by decide +kernel
theorem dX6_stall_39 : decode cX6_stall 39 = .ok (.aload_n 0, 1) := by decide +kernel
theorem dX6_stall_40 : decode cX6_stall 40 = .ok (.getfield 10, 3) := by decide +kernel
theorem dX6_stall_43 : decode cX6_stall 43 = .ok (.iload_n 1, 1) := by decide +kernel
theorem dX6_stall_44 : decode cX6_stall 44 = .ok (.iload_n 2, 1) := by decide +kernel
theorem dX6_stall_45 : decode cX6_stall 45 = .ok (.invokevirtual 55, 3) := by decide +kernel
theorem dX6_stall_48 : decode cX6_stall 48 = .ok (.iload_n 3, 1) := by decide +kernel
theorem dX6_stall_49 : decode cX6_stall 49 = .ok (.ireturn, 1) := by decide +kernel
theorem dX6_ill_0 : decode cX6_ill 0 = .ok (.aload_n 0, 1) := by decide +kernel
theorem dX6_ill_1 : decode cX6_ill 1 = .ok (.getfield 10, 3) := by decide +kernel
theorem dX6_ill_4 : decode cX6_ill 4 = .ok (.iload_n 1, 1) := by decide +kernel
theorem dX6_ill_5 : decode cX6_ill 5 = .ok (.invokevirtual 59, 3) := by decide +kernel
theorem dX6_ill_8 : decode cX6_ill 8 = .ok (.astore_n 3, 1) := by decide +kernel
theorem dX6_ill_9 : decode cX6_ill 9 = .ok (.aload_n 3, 1) := by decide +kernel
theorem dX6_ill_10 : decode cX6_ill 10 = .ok (.ifnull 13, 3) := by decide +kernel
theorem dX6_ill_13 : decode cX6_ill 13 = .ok (.iload_n 2, 1) := by decide +kernel
theorem dX6_ill_14 : decode cX6_ill 14 = .ok (.ifCond .lt 9, 3) := by decide +kernel
theorem dX6_ill_17 : decode cX6_ill 17 = .ok (.iload_n 2, 1) := by decide +kernel
theorem dX6_ill_18 : decode cX6_ill 18 = .ok (.bipush 30, 2) := by decide +kernel
theorem dX6_ill_20 : decode cX6_ill 20 = .ok (.if_icmp .le 5, 3) := by decide +kernel
theorem dX6_ill_23 : decode cX6_ill 23 = .ok (.iconst (-1), 1) := by decide +kernel
theorem dX6_ill_24 : decode cX6_ill 24 = .ok (.ireturn, 1) := by decide +kernel
theorem dX6_ill_25 : decode cX6_ill 25 = .ok (.aload_n 0, 1) := by decide +kernel
theorem dX6_ill_26 : decode cX6_ill 26 = .ok (.getfield 25, 3) := by decide +kernel
theorem dX6_ill_29 : decode cX6_ill 29 = .ok (.aload_n 0, 1) := by decide +kernel
theorem dX6_ill_30 : decode cX6_ill 30 = .ok (.getfield 10, 3) := by decide +kernel
theorem dX6_ill_33 : decode cX6_ill 33 = .ok (.invokevirtual 51, 3) := by decide +kernel
theorem dX6_ill_36 : decode cX6_ill 36 = .ok (.aload_n 3, 1) := by decide +kernel
theorem dX6_ill_37 : decode cX6_ill 37 = .ok (.iload_n 2, 1) := by decide +kernel
theorem dX6_ill_38 : decode cX6_ill 38 = .ok (.ifCond .ne 7, 3) := by decide +kernel
theorem dX6_ill_41 : decode cX6_ill 41 = .ok (.iconst 0, 1) := by decide +kernel
theorem dX6_ill_42 : decode cX6_ill 42 = .ok (.goto 14, 3) := by decide +kernel
theorem dX6_ill_45 : decode cX6_ill 45 = .ok (.aload_n 0, 1) := by decide +kernel
theorem dX6_ill_46 : decode cX6_ill 46 = .ok (.getfield 10, 3) := by decide +kernel
theorem dX6_ill_49 : decode cX6_ill 49 = .ok (.getfield 63, 3) := by decide +kernel
theorem dX6_ill_52 : decode cX6_ill 52 = .ok (.iconst 1, 1) := by decide +kernel
theorem dX6_ill_53 : decode cX6_ill 53 = .ok (.iadd, 1) := by decide +kernel
theorem dX6_ill_54 : decode cX6_ill 54 = .ok (.iload_n 2, 1) := by decide +kernel
theorem dX6_ill_55 : decode cX6_ill 55 = .ok (.iadd, 1) := by decide +kernel
theorem dX6_ill_56 : decode cX6_ill 56 = .ok (.putfield 67, 3) := by decide +kernel
theorem dX6_ill_59 : decode cX6_ill 59 = .ok (.aload_n 3, 1) := by decide +kernel
theorem dX6_ill_60 : decode cX6_ill 60 = .ok (.getfield 67, 3) := by decide +kernel
theorem dX6_ill_63 : decode cX6_ill 63 = .ok (.ireturn, 1) := by decide +kernel
theorem dX6_rough_0 : decode cX6_rough 0 = .ok (.aload_n 0, 1) := by decide +kernel
theorem dX6_rough_1 : decode cX6_rough 1 = .ok (.getfield 10, 3) := by decide +kernel
theorem dX6_rough_4 : decode cX6_rough 4 = .ok (.iload_n 1, 1) := by decide +kernel
theorem dX6_rough_5 : decode cX6_rough 5 = .ok (.invokevirtual 59, 3) := by decide +kernel
theorem dX6_rough_8 : decode cX6_rough 8 = .ok (.astore_n 3, 1) := by decide +kernel
theorem dX6_rough_9 : decode cX6_rough 9 = .ok (.aload_n 3, 1) := by decide +kernel
theorem dX6_rough_10 : decode cX6_rough 10 = .ok (.ifnull 13, 3) := by decide +kernel
theorem dX6_rough_13 : decode cX6_rough 13 = .ok (.iload_n 2, 1) := by decide +kernel
theorem dX6_rough_14 : decode cX6_rough 14 = .ok (.ifCond .lt 9, 3) := by decide +kernel
theorem dX6_rough_17 : decode cX6_rough 17 = .ok (.iload_n 2, 1) := by decide +kernel
theorem dX6_rough_18 : decode cX6_rough 18 = .ok (.bipush 9, 2) := by decide +kernel
theorem dX6_rough_20 : decode cX6_rough 20 = .ok (.if_icmp .le 5, 3) := by decide +kernel
theorem dX6_rough_23 : decode cX6_rough 23 = .ok (.iconst (-1), 1) := by decide +kernel
theorem dX6_rough_24 : decode cX6_rough 24 = .ok (.ireturn, 1) := by decide +kernel
theorem dX6_rough_25 : decode cX6_rough 25 = .ok (.aload_n 3, 1) := by decide +kernel
theorem dX6_rough_26 : decode cX6_rough 26 = .ok (.getfield 72, 3) := by decide +kernel
theorem dX6_rough_29 : decode cX6_rough 29 = .ok (.istore 4, 2) := by decide +kernel
theorem dX6_rough_31 : decode cX6_rough 31 = .ok (.aload_n 0, 1) := by decide +kernel
theorem dX6_rough_32 : decode cX6_rough 32 = .ok (.getfield 25, 3) := by decide +kernel
theorem dX6_rough_35 : decode cX6_rough 35 = .ok (.aload_n 0, 1) := by decide +kernel
theorem dX6_rough_36 : decode cX6_rough 36 = .ok (.getfield 10, 3) := by decide +kernel
theorem dX6_rough_39 : decode cX6_rough 39 = .ok (.invokevirtual 51, 3) := by decide +kernel
theorem dX6_rough_42 : decode cX6_rough 42 = .ok (.aload_n 3, 1) := by decide +kernel
theorem dX6_rough_43 : decode cX6_rough 43 = .ok (.iload_n 2, 1) := by decide +kernel
theorem dX6_rough_44 : decode cX6_rough 44 = .ok (.putfield 72, 3) := by decide +kernel
theorem dX6_rough_47 : decode cX6_rough 47 = .ok (.iload 4, 2) := by decide +kernel
theorem dX6_rough_49 : decode cX6_rough 49 = .ok (.ireturn, 1) := by decide +kernel
theorem dX6_load_0 : decode cX6_load 0 = .ok (.iload_n 1, 1) := by decide +kernel
theorem dX6_load_1 : decode cX6_load 1 = .ok (.iconst 1, 1) := by decide +kernel
theorem dX6_load_2 : decode cX6_load 2 = .ok (.if_icmp .lt 9, 3) := by decide +kernel
theorem dX6_load_5 : decode cX6_load 5 = .ok (.iload_n 1, 1) := by decide +kernel
theorem dX6_load_6 : decode cX6_load 6 = .ok (.bipush 8, 2) := by decide +kernel
theorem dX6_load_8 : decode cX6_load 8 = .ok (.if_icmp .le 5, 3) := by decide +kernel
theorem dX6_load_11 : decode cX6_load 11 = .ok (.iconst (-1), 1) := by decide +kernel
theorem dX6_load_12 : decode cX6_load 12 = .ok (.ireturn, 1) := by decide +kernel
theorem dX6_load_13 : decode cX6_load 13 = .ok (.aload_n 0, 1) := by decide +kernel
theorem dX6_load_14 : decode cX6_load 14 = .ok (.getfield 10, 3) := by decide +kernel
theorem dX6_load_17 : decode cX6_load 17 = .ok (.getfield 75, 3) := by decide +kernel
theorem dX6_load_20 : decode cX6_load 20 = .ok (.istore_n 2, 1) := by decide +kernel
theorem dX6_load_21 : decode cX6_load 21 = .ok (.aload_n 0, 1) := by decide +kernel
theorem dX6_load_22 : decode cX6_load 22 = .ok (.getfield 25, 3) := by decide +kernel
theorem dX6_load_25 : decode cX6_load 25 = .ok (.aload_n 0, 1) := by decide +kernel
theorem dX6_load_26 : decode cX6_load 26 = .ok (.getfield 10, 3) := by decide +kernel
theorem dX6_load_29 : decode cX6_load 29 = .ok (.invokevirtual 51, 3) := by decide +kernel
theorem dX6_load_32 : decode cX6_load 32 = .ok (.aload_n 0, 1) := by decide +kernel
theorem dX6_load_33 : decode cX6_load 33 = .ok (.getfield 10, 3) := by decide +kernel
theorem dX6_load_36 : decode cX6_load 36 = .ok (.iload_n 1, 1) := by decide +kernel
theorem dX6_load_37 : decode cX6_load 37 = .ok (.putfield 75, 3) := by decide +kernel
theorem dX6_load_40 : decode cX6_load 40 = .ok (.iload_n 2, 1) := by decide +kernel
theorem dX6_load_41 : decode cX6_load 41 = .ok (.ireturn, 1) := by decide +kernel
theorem dX6_post_0 : decode cX6_post 0 = .ok (.iload_n 1, 1) := by decide +kernel
theorem dX6_post_1 : decode cX6_post 1 = .ok (.iload_n 2, 1) := by decide +kernel
theorem dX6_post_2 : decode cX6_post 2 = .ok (.invokestatic 78, 3) := by decide +kernel
theorem dX6_post_5 : decode cX6_post 5 = .ok (.ifCond .ne 5, 3) := by decide +kernel
theorem dX6_post_8 : decode cX6_post 8 = .ok (.iconst (-1), 1) := by decide +kernel
theorem dX6_post_9 : decode cX6_post 9 = .ok (.ireturn, 1) := by decide +kernel
theorem dX6_post_10 : decode cX6_post 10 = .ok (.aload_n 0, 1) := by decide +kernel
theorem dX6_post_11 : decode cX6_post 11 = .ok (.getfield 10, 3) := by decide +kernel
theorem dX6_post_14 : decode cX6_post 14 = .ok (.getfield 82, 3) := by decide +kernel
theorem dX6_post_17 : decode cX6_post 17 = .ok (.bipush 8, 2) := by decide +kernel
theorem dX6_post_19 : decode cX6_post 19 = .ok (.if_icmp .lt 6, 3) := by decide +kernel
theorem dX6_post_22 : decode cX6_post 22 = .ok (.bipush (-3), 2) := by decide +kernel
theorem dX6_post_24 : decode cX6_post 24 = .ok (.ireturn, 1) := by decide +kernel
theorem dX6_post_25 : decode cX6_post 25 = .ok (.aload_n 0, 1) := by decide +kernel
theorem dX6_post_26 : decode cX6_post 26 = .ok (.getfield 25, 3) := by decide +kernel
theorem dX6_post_29 : decode cX6_post 29 = .ok (.aload_n 0, 1) := by decide +kernel
theorem dX6_post_30 : decode cX6_post 30 = .ok (.getfield 10, 3) := by decide +kernel
theorem dX6_post_33 : decode cX6_post 33 = .ok (.invokevirtual 51, 3) := by decide +kernel
theorem dX6_post_36 : decode cX6_post 36 = .ok (.aload_n 0, 1) := by decide +kernel
theorem dX6_post_37 : decode cX6_post 37 = .ok (.getfield 39, 3) := by decide +kernel
theorem dX6_post_40 : decode cX6_post 40 = .ok (.aload_n 0, 1) := by decide +kernel
theorem dX6_post_41 : decode cX6_post 41 = .ok (.getfield 10, 3) := by decide +kernel
theorem dX6_post_44 : decode cX6_post 44 = .ok (.iload_n 1, 1) := by decide +kernel
theorem dX6_post_45 : decode cX6_post 45 = .ok (.iload_n 2, 1) := by decide +kernel
theorem dX6_post_46 : decode cX6_post 46 = .ok (.aload_n 0, 1) := by decide +kernel
theorem dX6_post_47 : decode cX6_post 47 = .ok (.getfield 10, 3) := by decide +kernel
theorem dX6_post_50 : decode cX6_post 50 = .ok (.getfield 63, 3) := by decide +kernel
theorem dX6_post_53 : decode cX6_post 53 = .ok (.invokevirtual 85, 3) := by decide +kernel
theorem dX6_post_56 : decode cX6_post 56 = .ok (.istore_n 3, 1) := by decide +kernel
theorem dX6_post_57 : decode cX6_post 57 = .ok (.aload_n 0, 1) := by decide +kernel
theorem dX6_post_58 : decode cX6_post 58 = .ok (.getfield 10, 3) := by decide +kernel
theorem dX6_post_61 : decode cX6_post 61 = .ok (.iload_n 1, 1) := by decide +kernel
theorem dX6_post_62 : decode cX6_post 62 = .ok (.iload_n 2, 1) := by decide +kernel
theorem dX6_post_63 : decode cX6_post 63 = .ok (.iload_n 3, 1) := by decide +kernel
theorem dX6_post_64 : decode cX6_post 64 = .ok (.invokevirtual 89, 3) := by decide +kernel
theorem dX6_post_67 : decode cX6_post 67 = .ok (.iload_n 3, 1) := by decide +kernel
theorem dX6_post_68 : decode cX6_post 68 = .ok (.ireturn, 1) := by decide +kernel
theorem dX6_forget_0 : decode cX6_forget 0 = .ok (.aload_n 0, 1) := by decide +kernel
theorem dX6_forget_1 : decode cX6_forget 1 = .ok (.getfield 10, 3) := by decide +kernel
theorem dX6_forget_4 : decode cX6_forget 4 = .ok (.iload_n 1, 1) := by decide +kernel
theorem dX6_forget_5 : decode cX6_forget 5 = .ok (.invokevirtual 93, 3) := by decide +kernel
theorem dX6_forget_8 : decode cX6_forget 8 = .ok (.ifnonnull 5, 3) := by decide +kernel
theorem dX6_forget_11 : decode cX6_forget 11 = .ok (.iconst (-1), 1) := by decide +kernel
theorem dX6_forget_12 : decode cX6_forget 12 = .ok (.ireturn, 1) := by decide +kernel
theorem dX6_forget_13 : decode cX6_forget 13 = .ok (.aload_n 0, 1) := by decide +kernel
theorem dX6_forget_14 : decode cX6_forget 14 = .ok (.getfield 25, 3) := by decide +kernel
theorem dX6_forget_17 : decode cX6_forget 17 = .ok (.aload_n 0, 1) := by decide +kernel
theorem dX6_forget_18 : decode cX6_forget 18 = .ok (.getfield 10, 3) := by decide +kernel
theorem dX6_forget_21 : decode cX6_forget 21 = .ok (.invokevirtual 51, 3) := by decide +kernel
theorem dX6_forget_24 : decode cX6_forget 24 = .ok (.aload_n 0, 1) := by decide +kernel
theorem dX6_forget_25 : decode cX6_forget 25 = .ok (.getfield 10, 3) := by decide +kernel
theorem dX6_forget_28 : decode cX6_forget 28 = .ok (.iload_n 1, 1) := by decide +kernel
theorem dX6_forget_29 : decode cX6_forget 29 = .ok (.invokevirtual 97, 3) := by decide +kernel
theorem dX6_forget_32 : decode cX6_forget 32 = .ok (.aload_n 0, 1) := by decide +kernel
theorem dX6_forget_33 : decode cX6_forget 33 = .ok (.getfield 10, 3) := by decide +kernel
theorem dX6_forget_36 : decode cX6_forget 36 = .ok (.getfield 82, 3) := by decide +kernel
theorem dX6_forget_39 : decode cX6_forget 39 = .ok (.ireturn, 1) := by decide +kernel
theorem dX6_pass_0 : decode cX6_pass 0 = .ok (.iload_n 1, 1) := by decide +kernel
theorem dX6_pass_1 : decode cX6_pass 1 = .ok (.iconst 1, 1) := by decide +kernel
theorem dX6_pass_2 : decode cX6_pass 2 = .ok (.if_icmp .lt 9, 3) := by decide +kernel
theorem dX6_pass_5 : decode cX6_pass 5 = .ok (.iload_n 1, 1) := by decide +kernel
theorem dX6_pass_6 : decode cX6_pass 6 = .ok (.bipush 30, 2) := by decide +kernel
theorem dX6_pass_8 : decode cX6_pass 8 = .ok (.if_icmp .le 5, 3) := by decide +kernel
theorem dX6_pass_11 : decode cX6_pass 11 = .ok (.iconst (-1), 1) := by decide +kernel
theorem dX6_pass_12 : decode cX6_pass 12 = .ok (.ireturn, 1) := by decide +kernel
theorem dX6_pass_13 : decode cX6_pass 13 = .ok (.aload_n 0, 1) := by decide +kernel
theorem dX6_pass_14 : decode cX6_pass 14 = .ok (.getfield 10, 3) := by decide +kernel
theorem dX6_pass_17 : decode cX6_pass 17 = .ok (.getfield 101, 3) := by decide +kernel
theorem dX6_pass_20 : decode cX6_pass 20 = .ok (.istore_n 2, 1) := by decide +kernel
theorem dX6_pass_21 : decode cX6_pass 21 = .ok (.aload_n 0, 1) := by decide +kernel
theorem dX6_pass_22 : decode cX6_pass 22 = .ok (.getfield 25, 3) := by decide +kernel
theorem dX6_pass_25 : decode cX6_pass 25 = .ok (.aload_n 0, 1) := by decide +kernel
theorem dX6_pass_26 : decode cX6_pass 26 = .ok (.getfield 10, 3) := by decide +kernel
theorem dX6_pass_29 : decode cX6_pass 29 = .ok (.invokevirtual 51, 3) := by decide +kernel
theorem dX6_pass_32 : decode cX6_pass 32 = .ok (.iconst 0, 1) := by decide +kernel
theorem dX6_pass_33 : decode cX6_pass 33 = .ok (.istore_n 3, 1) := by decide +kernel
theorem dX6_pass_34 : decode cX6_pass 34 = .ok (.iload_n 3, 1) := by decide +kernel
theorem dX6_pass_35 : decode cX6_pass 35 = .ok (.iload_n 1, 1) := by decide +kernel
theorem dX6_pass_36 : decode cX6_pass 36 = .ok (.if_icmp .ge 20, 3) := by decide +kernel
theorem dX6_pass_39 : decode cX6_pass 39 = .ok (.aload_n 0, 1) := by decide +kernel
theorem dX6_pass_40 : decode cX6_pass 40 = .ok (.getfield 10, 3) := by decide +kernel
theorem dX6_pass_43 : decode cX6_pass 43 = .ok (.aload_n 0, 1) := by decide +kernel
theorem dX6_pass_44 : decode cX6_pass 44 = .ok (.getfield 39, 3) := by decide +kernel
theorem dX6_pass_47 : decode cX6_pass 47 = .ok (.invokevirtual 104, 3) := by decide +kernel
theorem dX6_pass_50 : decode cX6_pass 50 = .ok (.iinc 3 1, 3) := by decide +kernel
theorem dX6_pass_53 : decode cX6_pass 53 = .ok (.goto (-19), 3) := by decide +kernel
theorem dX6_pass_56 : decode cX6_pass 56 = .ok (.aload_n 0, 1) := by decide +kernel
theorem dX6_pass_57 : decode cX6_pass 57 = .ok (.getfield 10, 3) := by decide +kernel
theorem dX6_pass_60 : decode cX6_pass 60 = .ok (.getfield 101, 3) := by decide +kernel
theorem dX6_pass_63 : decode cX6_pass 63 = .ok (.iload_n 2, 1) := by decide +kernel
theorem dX6_pass_64 : decode cX6_pass 64 = .ok (.isub, 1) := by decide +kernel
theorem dX6_pass_65 : decode cX6_pass 65 = .ok (.ireturn, 1) := by decide +kernel
theorem dX6_append_0 : decode cX6_append 0 = .ok (.iload_n 1, 1) := by decide +kernel
theorem dX6_append_1 : decode cX6_append 1 = .ok (.bipush 33, 2) := by decide +kernel
theorem dX6_append_3 : decode cX6_append 3 = .ok (.if_icmp .lt 9, 3) := by decide +kernel
theorem dX6_append_6 : decode cX6_append 6 = .ok (.iload_n 1, 1) := by decide +kernel
theorem dX6_append_7 : decode cX6_append 7 = .ok (.bipush 126, 2) := by decide +kernel
theorem dX6_append_9 : decode cX6_append 9 = .ok (.if_icmp .le 5, 3) := by decide +kernel
theorem dX6_append_12 : decode cX6_append 12 = .ok (.iconst (-1), 1) := by decide +kernel
theorem dX6_append_13 : decode cX6_append 13 = .ok (.ireturn, 1) := by decide +kernel
theorem dX6_append_14 : decode cX6_append 14 = .ok (.aload_n 0, 1) := by decide +kernel
theorem dX6_append_15 : decode cX6_append 15 = .ok (.getfield 32, 3) := by decide +kernel
theorem dX6_append_18 : decode cX6_append 18 = .ok (.getfield 108, 3) := by decide +kernel
theorem dX6_append_21 : decode cX6_append 21 = .ok (.bipush 60, 2) := by decide +kernel
theorem dX6_append_23 : decode cX6_append 23 = .ok (.if_icmp .lt 6, 3) := by decide +kernel
theorem dX6_append_26 : decode cX6_append 26 = .ok (.bipush (-3), 2) := by decide +kernel
theorem dX6_append_28 : decode cX6_append 28 = .ok (.ireturn, 1) := by decide +kernel
theorem dX6_append_29 : decode cX6_append 29 = .ok (.aload_n 0, 1) := by decide +kernel
theorem dX6_append_30 : decode cX6_append 30 = .ok (.getfield 32, 3) := by decide +kernel
theorem dX6_append_33 : decode cX6_append 33 = .ok (.iload_n 1, 1) := by decide +kernel
theorem dX6_append_34 : decode cX6_append 34 = .ok (.invokevirtual 111, 3) := by decide +kernel
theorem dX6_append_37 : decode cX6_append 37 = .ok (.aload_n 0, 1) := by decide +kernel
theorem dX6_append_38 : decode cX6_append 38 = .ok (.getfield 32, 3) := by decide +kernel
theorem dX6_append_41 : decode cX6_append 41 = .ok (.getfield 108, 3) := by decide +kernel
theorem dX6_append_44 : decode cX6_append 44 = .ok (.ireturn, 1) := by decide +kernel
theorem dX6_clear_0 : decode cX6_clear 0 = .ok (.aload_n 0, 1) := by decide +kernel
theorem dX6_clear_1 : decode cX6_clear 1 = .ok (.getfield 32, 3) := by decide +kernel
theorem dX6_clear_4 : decode cX6_clear 4 = .ok (.getfield 108, 3) := by decide +kernel
theorem dX6_clear_7 : decode cX6_clear 7 = .ok (.istore_n 1, 1) := by decide +kernel
theorem dX6_clear_8 : decode cX6_clear 8 = .ok (.aload_n 0, 1) := by decide +kernel
theorem dX6_clear_9 : decode cX6_clear 9 = .ok (.getfield 32, 3) := by decide +kernel
theorem dX6_clear_12 : decode cX6_clear 12 = .ok (.iconst 0, 1) := by decide +kernel
theorem dX6_clear_13 : decode cX6_clear 13 = .ok (.putfield 108, 3) := by decide +kernel
theorem dX6_clear_16 : decode cX6_clear 16 = .ok (.iload_n 1, 1) := by decide +kernel
theorem dX6_clear_17 : decode cX6_clear 17 = .ok (.ireturn, 1) := by decide +kernel
theorem dX6_fault_0 : decode cX6_fault 0 = .ok (.iload_n 1, 1) := by decide +kernel
theorem dX6_fault_1 : decode cX6_fault 1 = .ok (.ifCond .eq 10, 3) := by decide +kernel
theorem dX6_fault_4 : decode cX6_fault 4 = .ok (.iload_n 1, 1) := by decide +kernel
theorem dX6_fault_5 : decode cX6_fault 5 = .ok (.iconst 1, 1) := by decide +kernel
theorem dX6_fault_6 : decode cX6_fault 6 = .ok (.if_icmp .eq 5, 3) := by decide +kernel
theorem dX6_fault_9 : decode cX6_fault 9 = .ok (.iconst (-1), 1) := by decide +kernel
theorem dX6_fault_10 : decode cX6_fault 10 = .ok (.ireturn, 1) := by decide +kernel
theorem dX6_fault_11 : decode cX6_fault 11 = .ok (.iload_n 1, 1) := by decide +kernel
theorem dX6_fault_12 : decode cX6_fault 12 = .ok (.ifCond .ne 13, 3) := by decide +kernel
theorem dX6_fault_15 : decode cX6_fault 15 = .ok (.aload_n 0, 1) := by decide +kernel
theorem dX6_fault_16 : decode cX6_fault 16 = .ok (.getfield 32, 3) := by decide +kernel
theorem dX6_fault_19 : decode cX6_fault 19 = .ok (.invokevirtual 114, 3) := by decide +kernel
theorem dX6_fault_22 : decode cX6_fault 22 = .ok (.goto 10, 3) := by decide +kernel
theorem dX6_fault_25 : decode cX6_fault 25 = .ok (.aload_n 0, 1) := by decide +kernel
theorem dX6_fault_26 : decode cX6_fault 26 = .ok (.getfield 32, 3) := by decide +kernel
theorem dX6_fault_29 : decode cX6_fault 29 = .ok (.invokevirtual 118, 3) := by decide +kernel
theorem dX6_fault_32 : decode cX6_fault 32 = .ok (.ireturn, 1) := by decide +kernel
theorem dX6_tours_0 : decode cX6_tours 0 = .ok (.aload_n 0, 1) := by decide +kernel
theorem dX6_tours_1 : decode cX6_tours 1 = .ok (.getfield 32, 3) := by decide +kernel
theorem dX6_tours_4 : decode cX6_tours 4 = .ok (.invokevirtual 114, 3) := by decide +kernel
theorem dX6_tours_7 : decode cX6_tours 7 = .ok (.bipush (-4), 2) := by decide +kernel
theorem dX6_tours_9 : decode cX6_tours 9 = .ok (.if_icmp .eq 6, 3) := by decide +kernel
theorem dX6_tours_12 : decode cX6_tours 12 = .ok (.bipush (-2), 2) := by decide +kernel
theorem dX6_tours_14 : decode cX6_tours 14 = .ok (.ireturn, 1) := by decide +kernel
theorem dX6_tours_15 : decode cX6_tours 15 = .ok (.aload_n 0, 1) := by decide +kernel
theorem dX6_tours_16 : decode cX6_tours 16 = .ok (.getfield 10, 3) := by decide +kernel
theorem dX6_tours_19 : decode cX6_tours 19 = .ok (.getfield 121, 3) := by decide +kernel
theorem dX6_tours_22 : decode cX6_tours 22 = .ok (.aload_n 0, 1) := by decide +kernel
theorem dX6_tours_23 : decode cX6_tours 23 = .ok (.getfield 32, 3) := by decide +kernel
theorem dX6_tours_26 : decode cX6_tours 26 = .ok (.bipush 59, 2) := by decide +kernel
theorem dX6_tours_28 : decode cX6_tours 28 = .ok (.invokevirtual 124, 3) := by decide +kernel
theorem dX6_tours_31 : decode cX6_tours 31 = .ok (.iadd, 1) := by decide +kernel
theorem dX6_tours_32 : decode cX6_tours 32 = .ok (.iconst 4, 1) := by decide +kernel
theorem dX6_tours_33 : decode cX6_tours 33 = .ok (.if_icmp .le 6, 3) := by decide +kernel
theorem dX6_tours_36 : decode cX6_tours 36 = .ok (.bipush (-3), 2) := by decide +kernel
theorem dX6_tours_38 : decode cX6_tours 38 = .ok (.ireturn, 1) := by decide +kernel
theorem dX6_tours_39 : decode cX6_tours 39 = .ok (.aload_n 0, 1) := by decide +kernel
theorem dX6_tours_40 : decode cX6_tours 40 = .ok (.getfield 25, 3) := by decide +kernel
theorem dX6_tours_43 : decode cX6_tours 43 = .ok (.aload_n 0, 1) := by decide +kernel
theorem dX6_tours_44 : decode cX6_tours 44 = .ok (.getfield 10, 3) := by decide +kernel
theorem dX6_tours_47 : decode cX6_tours 47 = .ok (.invokevirtual 51, 3) := by decide +kernel
theorem dX6_tours_50 : decode cX6_tours 50 = .ok (.aload_n 0, 1) := by decide +kernel
theorem dX6_tours_51 : decode cX6_tours 51 = .ok (.invokevirtual 127, 3) := by decide +kernel
theorem dX6_tours_54 : decode cX6_tours 54 = .ok (.aload_n 0, 1) := by decide +kernel
theorem dX6_tours_55 : decode cX6_tours 55 = .ok (.getfield 32, 3) := by decide +kernel
theorem dX6_tours_58 : decode cX6_tours 58 = .ok (.iconst 0, 1) := by decide +kernel
theorem dX6_tours_59 : decode cX6_tours 59 = .ok (.putfield 108, 3) := by decide +kernel
theorem dX6_tours_62 : decode cX6_tours 62 = .ok (.aload_n 0, 1) := by decide +kernel
theorem dX6_tours_63 : decode cX6_tours 63 = .ok (.getfield 10, 3) := by decide +kernel
theorem dX6_tours_66 : decode cX6_tours 66 = .ok (.getfield 121, 3) := by decide +kernel
theorem dX6_tours_69 : decode cX6_tours 69 = .ok (.ireturn, 1) := by decide +kernel
theorem dX6_letters_0 : decode cX6_letters 0 = .ok (.aload_n 0, 1) := by decide +kernel
theorem dX6_letters_1 : decode cX6_letters 1 = .ok (.getfield 32, 3) := by decide +kernel
theorem dX6_letters_4 : decode cX6_letters 4 = .ok (.invokevirtual 118, 3) := by decide +kernel
theorem dX6_letters_7 : decode cX6_letters 7 = .ok (.bipush (-4), 2) := by decide +kernel
theorem dX6_letters_9 : decode cX6_letters 9 = .ok (.if_icmp .eq 6, 3) := by decide +kernel
theorem dX6_letters_12 : decode cX6_letters 12 = .ok (.bipush (-2), 2) := by decide +kernel
theorem dX6_letters_14 : decode cX6_letters 14 = .ok (.ireturn, 1) := by decide +kernel
theorem dX6_letters_15 : decode cX6_letters 15 = .ok (.aload_n 0, 1) := by decide +kernel
theorem dX6_letters_16 : decode cX6_letters 16 = .ok (.getfield 10, 3) := by decide +kernel
theorem dX6_letters_19 : decode cX6_letters 19 = .ok (.getfield 82, 3) := by decide +kernel
theorem dX6_letters_22 : decode cX6_letters 22 = .ok (.aload_n 0, 1) := by decide +kernel
theorem dX6_letters_23 : decode cX6_letters 23 = .ok (.getfield 32, 3) := by decide +kernel
theorem dX6_letters_26 : decode cX6_letters 26 = .ok (.bipush 44, 2) := by decide +kernel
theorem dX6_letters_28 : decode cX6_letters 28 = .ok (.invokevirtual 124, 3) := by decide +kernel
theorem dX6_letters_31 : decode cX6_letters 31 = .ok (.iadd, 1) := by decide +kernel
theorem dX6_letters_32 : decode cX6_letters 32 = .ok (.bipush 8, 2) := by decide +kernel
theorem dX6_letters_34 : decode cX6_letters 34 = .ok (.if_icmp .le 6, 3) := by decide +kernel
theorem dX6_letters_37 : decode cX6_letters 37 = .ok (.bipush (-3), 2) := by decide +kernel
theorem dX6_letters_39 : decode cX6_letters 39 = .ok (.ireturn, 1) := by decide +kernel
theorem dX6_letters_40 : decode cX6_letters 40 = .ok (.aload_n 0, 1) := by decide +kernel
theorem dX6_letters_41 : decode cX6_letters 41 = .ok (.getfield 25, 3) := by decide +kernel
theorem dX6_letters_44 : decode cX6_letters 44 = .ok (.aload_n 0, 1) := by decide +kernel
theorem dX6_letters_45 : decode cX6_letters 45 = .ok (.getfield 10, 3) := by decide +kernel
theorem dX6_letters_48 : decode cX6_letters 48 = .ok (.invokevirtual 51, 3) := by decide +kernel
theorem dX6_letters_51 : decode cX6_letters 51 = .ok (.iconst 0, 1) := by decide +kernel
theorem dX6_letters_52 : decode cX6_letters 52 = .ok (.istore_n 1, 1) := by decide +kernel
theorem dX6_letters_53 : decode cX6_letters 53 = .ok (.iload_n 1, 1) := by decide +kernel
theorem dX6_letters_54 : decode cX6_letters 54 = .ok (.iconst 2, 1) := by decide +kernel
theorem dX6_letters_55 : decode cX6_letters 55 = .ok (.iadd, 1) := by decide +kernel
theorem dX6_letters_56 : decode cX6_letters 56 = .ok (.aload_n 0, 1) := by decide +kernel
theorem dX6_letters_57 : decode cX6_letters 57 = .ok (.getfield 32, 3) := by decide +kernel
theorem dX6_letters_60 : decode cX6_letters 60 = .ok (.getfield 108, 3) := by decide +kernel
theorem dX6_letters_63 : decode cX6_letters 63 = .ok (.if_icmp .ge 64, 3) := by decide +kernel
theorem dX6_letters_66 : decode cX6_letters 66 = .ok (.aload_n 0, 1) := by decide +kernel
theorem dX6_letters_67 : decode cX6_letters 67 = .ok (.getfield 32, 3) := by decide +kernel
theorem dX6_letters_70 : decode cX6_letters 70 = .ok (.iload_n 1, 1) := by decide +kernel
theorem dX6_letters_71 : decode cX6_letters 71 = .ok (.invokevirtual 130, 3) := by decide +kernel
theorem dX6_letters_74 : decode cX6_letters 74 = .ok (.bipush 48, 2) := by decide +kernel
theorem dX6_letters_76 : decode cX6_letters 76 = .ok (.isub, 1) := by decide +kernel
theorem dX6_letters_77 : decode cX6_letters 77 = .ok (.istore_n 2, 1) := by decide +kernel
theorem dX6_letters_78 : decode cX6_letters 78 = .ok (.aload_n 0, 1) := by decide +kernel
theorem dX6_letters_79 : decode cX6_letters 79 = .ok (.getfield 32, 3) := by decide +kernel
theorem dX6_letters_82 : decode cX6_letters 82 = .ok (.iload_n 1, 1) := by decide +kernel
theorem dX6_letters_83 : decode cX6_letters 83 = .ok (.iconst 2, 1) := by decide +kernel
theorem dX6_letters_84 : decode cX6_letters 84 = .ok (.iadd, 1) := by decide +kernel
theorem dX6_letters_85 : decode cX6_letters 85 = .ok (.invokevirtual 130, 3) := by decide +kernel
theorem dX6_letters_88 : decode cX6_letters 88 = .ok (.bipush 48, 2) := by decide +kernel
theorem dX6_letters_90 : decode cX6_letters 90 = .ok (.isub, 1) := by decide +kernel
theorem dX6_letters_91 : decode cX6_letters 91 = .ok (.istore_n 3, 1) := by decide +kernel
theorem dX6_letters_92 : decode cX6_letters 92 = .ok (.aload_n 0, 1) := by decide +kernel
theorem dX6_letters_93 : decode cX6_letters 93 = .ok (.getfield 10, 3) := by decide +kernel
theorem dX6_letters_96 : decode cX6_letters 96 = .ok (.iload_n 2, 1) := by decide +kernel
theorem dX6_letters_97 : decode cX6_letters 97 = .ok (.iload_n 3, 1) := by decide +kernel
theorem dX6_letters_98 : decode cX6_letters 98 = .ok (.aload_n 0, 1) := by decide +kernel
theorem dX6_letters_99 : decode cX6_letters 99 = .ok (.getfield 39, 3) := by decide +kernel
theorem dX6_letters_102 : decode cX6_letters 102 = .ok (.aload_n 0, 1) := by decide +kernel
theorem dX6_letters_103 : decode cX6_letters 103 = .ok (.getfield 10, 3) := by decide +kernel
theorem dX6_letters_106 : decode cX6_letters 106 = .ok (.iload_n 2, 1) := by decide +kernel
theorem dX6_letters_107 : decode cX6_letters 107 = .ok (.iload_n 3, 1) := by decide +kernel
theorem dX6_letters_108 : decode cX6_letters 108 = .ok (.aload_n 0, 1) := by decide +kernel
theorem dX6_letters_109 : decode cX6_letters 109 = .ok (.getfield 10, 3) := by decide +kernel
theorem dX6_letters_112 : decode cX6_letters 112 = .ok (.getfield 63, 3) := by decide +kernel
theorem dX6_letters_115 : decode cX6_letters 115 = .ok (.invokevirtual 85, 3) := by decide +kernel
theorem dX6_letters_118 : decode cX6_letters 118 = .ok (.invokevirtual 89, 3) := by decide +kernel
theorem dX6_letters_121 : decode cX6_letters 121 = .ok (.iinc 1 4, 3) := by decide +kernel
theorem dX6_letters_124 : decode cX6_letters 124 = .ok (.goto (-71), 3) := by decide +kernel
theorem dX6_letters_127 : decode cX6_letters 127 = .ok (.aload_n 0, 1) := by decide +kernel
theorem dX6_letters_128 : decode cX6_letters 128 = .ok (.getfield 32, 3) := by decide +kernel
theorem dX6_letters_131 : decode cX6_letters 131 = .ok (.iconst 0, 1) := by decide +kernel
theorem dX6_letters_132 : decode cX6_letters 132 = .ok (.putfield 108, 3) := by decide +kernel
theorem dX6_letters_135 : decode cX6_letters 135 = .ok (.aload_n 0, 1) := by decide +kernel
theorem dX6_letters_136 : decode cX6_letters 136 = .ok (.getfield 10, 3) := by decide +kernel
theorem dX6_letters_139 : decode cX6_letters 139 = .ok (.getfield 82, 3) := by decide +kernel
theorem dX6_letters_142 : decode cX6_letters 142 = .ok (.ireturn, 1) := by decide +kernel
theorem dX6_where_0 : decode cX6_where 0 = .ok (.aload_n 0, 1) := by decide +kernel
theorem dX6_where_1 : decode cX6_where 1 = .ok (.getfield 10, 3) := by decide +kernel
theorem dX6_where_4 : decode cX6_where 4 = .ok (.iload_n 1, 1) := by decide +kernel
theorem dX6_where_5 : decode cX6_where 5 = .ok (.invokevirtual 133, 3) := by decide +kernel
theorem dX6_where_8 : decode cX6_where 8 = .ok (.ifCond .eq 14, 3) := by decide +kernel
theorem dX6_where_11 : decode cX6_where 11 = .ok (.iload_n 2, 1) := by decide +kernel
theorem dX6_where_12 : decode cX6_where 12 = .ok (.ifCond .lt 10, 3) := by decide +kernel
theorem dX6_where_15 : decode cX6_where 15 = .ok (.iload_n 2, 1) := by decide +kernel
theorem dX6_where_16 : decode cX6_where 16 = .ok (.sipush 9999, 3) := by decide +kernel
theorem dX6_where_19 : decode cX6_where 19 = .ok (.if_icmp .le 5, 3) := by decide +kernel
theorem dX6_where_22 : decode cX6_where 22 = .ok (.iconst (-1), 1) := by decide +kernel
theorem dX6_where_23 : decode cX6_where 23 = .ok (.ireturn, 1) := by decide +kernel
theorem dX6_where_24 : decode cX6_where 24 = .ok (.aload_n 0, 1) := by decide +kernel
theorem dX6_where_25 : decode cX6_where 25 = .ok (.getfield 10, 3) := by decide +kernel
theorem dX6_where_28 : decode cX6_where 28 = .ok (.iload_n 1, 1) := by decide +kernel
theorem dX6_where_29 : decode cX6_where 29 = .ok (.iload_n 2, 1) := by decide +kernel
theorem dX6_where_30 : decode cX6_where 30 = .ok (.invokevirtual 136, 3) := by decide +kernel
theorem dX6_where_33 : decode cX6_where 33 = .ok (.istore_n 3, 1) := by decide +kernel
theorem dX6_where_34 : decode cX6_where 34 = .ok (.iload_n 3, 1) := by decide +kernel
theorem dX6_where_35 : decode cX6_where 35 = .ok (.iconst (-1), 1) := by decide +kernel
theorem dX6_where_36 : decode cX6_where 36 = .ok (.if_icmp .ne 8, 3) := by decide +kernel
theorem dX6_where_39 : decode cX6_where 39 = .ok (.bipush (-4), 2) := by decide +kernel
theorem dX6_where_41 : decode cX6_where 41 = .ok (.goto 4, 3) := by decide +kernel
theorem dX6_where_44 : decode cX6_where 44 = .ok (.iload_n 3, 1) := by decide +kernel
theorem dX6_where_45 : decode cX6_where 45 = .ok (.ireturn, 1) := by decide +kernel
theorem dX6_carrier_0 : decode cX6_carrier 0 = .ok (.aload_n 0, 1) := by decide +kernel
theorem dX6_carrier_1 : decode cX6_carrier 1 = .ok (.getfield 10, 3) := by decide +kernel
theorem dX6_carrier_4 : decode cX6_carrier 4 = .ok (.iload_n 1, 1) := by decide +kernel
theorem dX6_carrier_5 : decode cX6_carrier 5 = .ok (.invokevirtual 59, 3) := by decide +kernel
theorem dX6_carrier_8 : decode cX6_carrier 8 = .ok (.astore_n 3, 1) := by decide +kernel
theorem dX6_carrier_9 : decode cX6_carrier 9 = .ok (.aload_n 3, 1) := by decide +kernel
theorem dX6_carrier_10 : decode cX6_carrier 10 = .ok (.ifnonnull 5, 3) := by decide +kernel
theorem dX6_carrier_13 : decode cX6_carrier 13 = .ok (.iconst (-1), 1) := by decide +kernel
theorem dX6_carrier_14 : decode cX6_carrier 14 = .ok (.ireturn, 1) := by decide +kernel
theorem dX6_carrier_15 : decode cX6_carrier 15 = .ok (.iload_n 2, 1) := by decide +kernel
theorem dX6_carrier_16 : decode cX6_carrier 16 = .ok (.tableswitch 95 0 6 #[44, 49, 54, 63, 80, 85, 90], 44) := by decide +kernel
theorem dX6_carrier_60 : decode cX6_carrier 60 = .ok (.aload_n 3, 1) := by decide +kernel
theorem dX6_carrier_61 : decode cX6_carrier 61 = .ok (.getfield 140, 3) := by decide +kernel
theorem dX6_carrier_64 : decode cX6_carrier 64 = .ok (.ireturn, 1) := by decide +kernel
theorem dX6_carrier_65 : decode cX6_carrier 65 = .ok (.aload_n 3, 1) := by decide +kernel
theorem dX6_carrier_66 : decode cX6_carrier 66 = .ok (.getfield 72, 3) := by decide +kernel
theorem dX6_carrier_69 : decode cX6_carrier 69 = .ok (.ireturn, 1) := by decide +kernel
theorem dX6_carrier_70 : decode cX6_carrier 70 = .ok (.aload_n 0, 1) := by decide +kernel
theorem dX6_carrier_71 : decode cX6_carrier 71 = .ok (.getfield 10, 3) := by decide +kernel
theorem dX6_carrier_74 : decode cX6_carrier 74 = .ok (.iload_n 1, 1) := by decide +kernel
theorem dX6_carrier_75 : decode cX6_carrier 75 = .ok (.invokevirtual 141, 3) := by decide +kernel
theorem dX6_carrier_78 : decode cX6_carrier 78 = .ok (.ireturn, 1) := by decide +kernel
theorem dX6_carrier_79 : decode cX6_carrier 79 = .ok (.aload_n 0, 1) := by decide +kernel
theorem dX6_carrier_80 : decode cX6_carrier 80 = .ok (.getfield 10, 3) := by decide +kernel
theorem dX6_carrier_83 : decode cX6_carrier 83 = .ok (.iload_n 1, 1) := by decide +kernel
theorem dX6_carrier_84 : decode cX6_carrier 84 = .ok (.invokevirtual 144, 3) := by decide +kernel
theorem dX6_carrier_87 : decode cX6_carrier 87 = .ok (.ifCond .eq 7, 3) := by decide +kernel
theorem dX6_carrier_90 : decode cX6_carrier 90 = .ok (.iconst 1, 1) := by decide +kernel
theorem dX6_carrier_91 : decode cX6_carrier 91 = .ok (.goto 4, 3) := by decide +kernel
theorem dX6_carrier_94 : decode cX6_carrier 94 = .ok (.iconst 0, 1) := by decide +kernel
theorem dX6_carrier_95 : decode cX6_carrier 95 = .ok (.ireturn, 1) := by decide +kernel
theorem dX6_carrier_96 : decode cX6_carrier 96 = .ok (.aload_n 3, 1) := by decide +kernel
theorem dX6_carrier_97 : decode cX6_carrier 97 = .ok (.getfield 67, 3) := by decide +kernel
theorem dX6_carrier_100 : decode cX6_carrier 100 = .ok (.ireturn, 1) := by decide +kernel
theorem dX6_carrier_101 : decode cX6_carrier 101 = .ok (.aload_n 3, 1) := by decide +kernel
theorem dX6_carrier_102 : decode cX6_carrier 102 = .ok (.getfield 147, 3) := by decide +kernel
theorem dX6_carrier_105 : decode cX6_carrier 105 = .ok (.ireturn, 1) := by decide +kernel
theorem dX6_carrier_106 : decode cX6_carrier 106 = .ok (.aload_n 3, 1) := by decide +kernel
theorem dX6_carrier_107 : decode cX6_carrier 107 = .ok (.getfield 150, 3) := by decide +kernel
theorem dX6_carrier_110 : decode cX6_carrier 110 = .ok (.ireturn, 1) := by decide +kernel
theorem dX6_carrier_111 : decode cX6_carrier 111 = .ok (.iconst (-1), 1) := by decide +kernel
theorem dX6_carrier_112 : decode cX6_carrier 112 = .ok (.ireturn, 1) := by decide +kernel
theorem dX6_bundle_0 : decode cX6_bundle 0 = .ok (.aload_n 0, 1) := by decide +kernel
theorem dX6_bundle_1 : decode cX6_bundle 1 = .ok (.getfield 10, 3) := by decide +kernel
theorem dX6_bundle_4 : decode cX6_bundle 4 = .ok (.iload_n 1, 1) := by decide +kernel
theorem dX6_bundle_5 : decode cX6_bundle 5 = .ok (.invokevirtual 93, 3) := by decide +kernel
theorem dX6_bundle_8 : decode cX6_bundle 8 = .ok (.astore_n 3, 1) := by decide +kernel
theorem dX6_bundle_9 : decode cX6_bundle 9 = .ok (.aload_n 3, 1) := by decide +kernel
theorem dX6_bundle_10 : decode cX6_bundle 10 = .ok (.ifnonnull 5, 3) := by decide +kernel
theorem dX6_bundle_13 : decode cX6_bundle 13 = .ok (.iconst (-1), 1) := by decide +kernel
theorem dX6_bundle_14 : decode cX6_bundle 14 = .ok (.ireturn, 1) := by decide +kernel
theorem dX6_bundle_15 : decode cX6_bundle 15 = .ok (.iload_n 2, 1) := by decide +kernel
theorem dX6_bundle_16 : decode cX6_bundle 16 = .ok (.tableswitch 106 0 8 #[52, 57, 62, 67, 72, 77, 83, 96, 101], 52) := by decide +kernel
theorem dX6_bundle_68 : decode cX6_bundle 68 = .ok (.aload_n 3, 1) := by decide +kernel
theorem dX6_bundle_69 : decode cX6_bundle 69 = .ok (.getfield 153, 3) := by decide +kernel
theorem dX6_bundle_72 : decode cX6_bundle 72 = .ok (.ireturn, 1) := by decide +kernel
theorem dX6_bundle_73 : decode cX6_bundle 73 = .ok (.aload_n 3, 1) := by decide +kernel
theorem dX6_bundle_74 : decode cX6_bundle 74 = .ok (.getfield 158, 3) := by decide +kernel
theorem dX6_bundle_77 : decode cX6_bundle 77 = .ok (.ireturn, 1) := by decide +kernel
theorem dX6_bundle_78 : decode cX6_bundle 78 = .ok (.aload_n 3, 1) := by decide +kernel
theorem dX6_bundle_79 : decode cX6_bundle 79 = .ok (.getfield 161, 3) := by decide +kernel
theorem dX6_bundle_82 : decode cX6_bundle 82 = .ok (.ireturn, 1) := by decide +kernel
theorem dX6_bundle_83 : decode cX6_bundle 83 = .ok (.aload_n 3, 1) := by decide +kernel
theorem dX6_bundle_84 : decode cX6_bundle 84 = .ok (.getfield 164, 3) := by decide +kernel
theorem dX6_bundle_87 : decode cX6_bundle 87 = .ok (.ireturn, 1) := by decide +kernel
theorem dX6_bundle_88 : decode cX6_bundle 88 = .ok (.aload_n 3, 1) := by decide +kernel
theorem dX6_bundle_89 : decode cX6_bundle 89 = .ok (.getfield 167, 3) := by decide +kernel
theorem dX6_bundle_92 : decode cX6_bundle 92 = .ok (.ireturn, 1) := by decide +kernel
theorem dX6_bundle_93 : decode cX6_bundle 93 = .ok (.aload_n 0, 1) := by decide +kernel
theorem dX6_bundle_94 : decode cX6_bundle 94 = .ok (.aload_n 3, 1) := by decide +kernel
theorem dX6_bundle_95 : decode cX6_bundle 95 = .ok (.invokevirtual 170, 3) := by decide +kernel
theorem dX6_bundle_98 : decode cX6_bundle 98 = .ok (.ireturn, 1) := by decide +kernel
theorem dX6_bundle_99 : decode cX6_bundle 99 = .ok (.aload_n 3, 1) := by decide +kernel
theorem dX6_bundle_100 : decode cX6_bundle 100 = .ok (.getfield 174, 3) := by decide +kernel
theorem dX6_bundle_103 : decode cX6_bundle 103 = .ok (.ifCond .eq 7, 3) := by decide +kernel
theorem dX6_bundle_106 : decode cX6_bundle 106 = .ok (.iconst 1, 1) := by decide +kernel
theorem dX6_bundle_107 : decode cX6_bundle 107 = .ok (.goto 4, 3) := by decide +kernel
theorem dX6_bundle_110 : decode cX6_bundle 110 = .ok (.iconst 0, 1) := by decide +kernel
theorem dX6_bundle_111 : decode cX6_bundle 111 = .ok (.ireturn, 1) := by decide +kernel
theorem dX6_bundle_112 : decode cX6_bundle 112 = .ok (.aload_n 3, 1) := by decide +kernel
theorem dX6_bundle_113 : decode cX6_bundle 113 = .ok (.getfield 177, 3) := by decide +kernel
theorem dX6_bundle_116 : decode cX6_bundle 116 = .ok (.ireturn, 1) := by decide +kernel
theorem dX6_bundle_117 : decode cX6_bundle 117 = .ok (.aload_n 3, 1) := by decide +kernel
theorem dX6_bundle_118 : decode cX6_bundle 118 = .ok (.getfield 178, 3) := by decide +kernel
theorem dX6_bundle_121 : decode cX6_bundle 121 = .ok (.ireturn, 1) := by decide +kernel
theorem dX6_bundle_122 : decode cX6_bundle 122 = .ok (.iconst (-1), 1) := by decide +kernel
theorem dX6_bundle_123 : decode cX6_bundle 123 = .ok (.ireturn, 1) := by decide +kernel
theorem dX6_arrival_0 : decode cX6_arrival 0 = .ok (.aload_n 0, 1) := by decide +kernel
theorem dX6_arrival_1 : decode cX6_arrival 1 = .ok (.getfield 10, 3) := by decide +kernel
theorem dX6_arrival_4 : decode cX6_arrival 4 = .ok (.iload_n 1, 1) := by decide +kernel
theorem dX6_arrival_5 : decode cX6_arrival 5 = .ok (.invokevirtual 93, 3) := by decide +kernel
theorem dX6_arrival_8 : decode cX6_arrival 8 = .ok (.astore_n 3, 1) := by decide +kernel
theorem dX6_arrival_9 : decode cX6_arrival 9 = .ok (.aload_n 3, 1) := by decide +kernel
theorem dX6_arrival_10 : decode cX6_arrival 10 = .ok (.ifnull 12, 3) := by decide +kernel
theorem dX6_arrival_13 : decode cX6_arrival 13 = .ok (.iload_n 2, 1) := by decide +kernel
theorem dX6_arrival_14 : decode cX6_arrival 14 = .ok (.ifCond .eq 10, 3) := by decide +kernel
theorem dX6_arrival_17 : decode cX6_arrival 17 = .ok (.iload_n 2, 1) := by decide +kernel
theorem dX6_arrival_18 : decode cX6_arrival 18 = .ok (.iconst 1, 1) := by decide +kernel
theorem dX6_arrival_19 : decode cX6_arrival 19 = .ok (.if_icmp .eq 5, 3) := by decide +kernel
theorem dX6_arrival_22 : decode cX6_arrival 22 = .ok (.iconst (-1), 1) := by decide +kernel
theorem dX6_arrival_23 : decode cX6_arrival 23 = .ok (.ireturn, 1) := by decide +kernel
theorem dX6_arrival_24 : decode cX6_arrival 24 = .ok (.iload_n 2, 1) := by decide +kernel
theorem dX6_arrival_25 : decode cX6_arrival 25 = .ok (.ifCond .ne 18, 3) := by decide +kernel
theorem dX6_arrival_28 : decode cX6_arrival 28 = .ok (.aload_n 0, 1) := by decide +kernel
theorem dX6_arrival_29 : decode cX6_arrival 29 = .ok (.getfield 39, 3) := by decide +kernel
theorem dX6_arrival_32 : decode cX6_arrival 32 = .ok (.aload_n 0, 1) := by decide +kernel
theorem dX6_arrival_33 : decode cX6_arrival 33 = .ok (.getfield 10, 3) := by decide +kernel
theorem dX6_arrival_36 : decode cX6_arrival 36 = .ok (.aload_n 3, 1) := by decide +kernel
theorem dX6_arrival_37 : decode cX6_arrival 37 = .ok (.invokevirtual 181, 3) := by decide +kernel
theorem dX6_arrival_40 : decode cX6_arrival 40 = .ok (.goto 15, 3) := by decide +kernel
theorem dX6_arrival_43 : decode cX6_arrival 43 = .ok (.aload_n 0, 1) := by decide +kernel
theorem dX6_arrival_44 : decode cX6_arrival 44 = .ok (.getfield 39, 3) := by decide +kernel
theorem dX6_arrival_47 : decode cX6_arrival 47 = .ok (.aload_n 0, 1) := by decide +kernel
theorem dX6_arrival_48 : decode cX6_arrival 48 = .ok (.getfield 10, 3) := by decide +kernel
theorem dX6_arrival_51 : decode cX6_arrival 51 = .ok (.aload_n 3, 1) := by decide +kernel
theorem dX6_arrival_52 : decode cX6_arrival 52 = .ok (.invokevirtual 185, 3) := by decide +kernel
theorem dX6_arrival_55 : decode cX6_arrival 55 = .ok (.ireturn, 1) := by decide +kernel
theorem dX6_meeting_0 : decode cX6_meeting 0 = .ok (.aload_n 0, 1) := by decide +kernel
theorem dX6_meeting_1 : decode cX6_meeting 1 = .ok (.getfield 10, 3) := by decide +kernel
theorem dX6_meeting_4 : decode cX6_meeting 4 = .ok (.iload_n 1, 1) := by decide +kernel
theorem dX6_meeting_5 : decode cX6_meeting 5 = .ok (.invokevirtual 133, 3) := by decide +kernel
theorem dX6_meeting_8 : decode cX6_meeting 8 = .ok (.ifCond .eq 19, 3) := by decide +kernel
theorem dX6_meeting_11 : decode cX6_meeting 11 = .ok (.aload_n 0, 1) := by decide +kernel
theorem dX6_meeting_12 : decode cX6_meeting 12 = .ok (.getfield 10, 3) := by decide +kernel
theorem dX6_meeting_15 : decode cX6_meeting 15 = .ok (.iload_n 2, 1) := by decide +kernel
theorem dX6_meeting_16 : decode cX6_meeting 16 = .ok (.invokevirtual 133, 3) := by decide +kernel
theorem dX6_meeting_19 : decode cX6_meeting 19 = .ok (.ifCond .eq 8, 3) := by decide +kernel
theorem dX6_meeting_22 : decode cX6_meeting 22 = .ok (.iload_n 1, 1) := by decide +kernel
theorem dX6_meeting_23 : decode cX6_meeting 23 = .ok (.iload_n 2, 1) := by decide +kernel
theorem dX6_meeting_24 : decode cX6_meeting 24 = .ok (.if_icmp .ne 5, 3) := by decide +kernel
theorem dX6_meeting_27 : decode cX6_meeting 27 = .ok (.iconst (-1), 1) := by decide +kernel
theorem dX6_meeting_28 : decode cX6_meeting 28 = .ok (.ireturn, 1) := by decide +kernel
theorem dX6_meeting_29 : decode cX6_meeting 29 = .ok (.iconst 1, 1) := by decide +kernel
theorem dX6_meeting_30 : decode cX6_meeting 30 = .ok (.istore 4, 2) := by decide +kernel
theorem dX6_meeting_32 : decode cX6_meeting 32 = .ok (.iload 4, 2) := by decide +kernel
theorem dX6_meeting_34 : decode cX6_meeting 34 = .ok (.bipush 30, 2) := by decide +kernel
theorem dX6_meeting_36 : decode cX6_meeting 36 = .ok (.if_icmp .gt 87, 3) := by decide +kernel
theorem dX6_meeting_39 : decode cX6_meeting 39 = .ok (.aload_n 0, 1) := by decide +kernel
theorem dX6_meeting_40 : decode cX6_meeting 40 = .ok (.getfield 10, 3) := by decide +kernel
theorem dX6_meeting_43 : decode cX6_meeting 43 = .ok (.getfield 63, 3) := by decide +kernel
theorem dX6_meeting_46 : decode cX6_meeting 46 = .ok (.iload 4, 2) := by decide +kernel
theorem dX6_meeting_48 : decode cX6_meeting 48 = .ok (.iadd, 1) := by decide +kernel
theorem dX6_meeting_49 : decode cX6_meeting 49 = .ok (.istore 5, 2) := by decide +kernel
theorem dX6_meeting_51 : decode cX6_meeting 51 = .ok (.aload_n 0, 1) := by decide +kernel
theorem dX6_meeting_52 : decode cX6_meeting 52 = .ok (.getfield 10, 3) := by decide +kernel
theorem dX6_meeting_55 : decode cX6_meeting 55 = .ok (.iload_n 1, 1) := by decide +kernel
theorem dX6_meeting_56 : decode cX6_meeting 56 = .ok (.iload 5, 2) := by decide +kernel
theorem dX6_meeting_58 : decode cX6_meeting 58 = .ok (.invokevirtual 136, 3) := by decide +kernel
theorem dX6_meeting_61 : decode cX6_meeting 61 = .ok (.istore 6, 2) := by decide +kernel
theorem dX6_meeting_63 : decode cX6_meeting 63 = .ok (.iload 6, 2) := by decide +kernel
theorem dX6_meeting_65 : decode cX6_meeting 65 = .ok (.iconst (-1), 1) := by decide +kernel
theorem dX6_meeting_66 : decode cX6_meeting 66 = .ok (.if_icmp .eq 22, 3) := by decide +kernel
theorem dX6_meeting_69 : decode cX6_meeting 69 = .ok (.iload 6, 2) := by decide +kernel
theorem dX6_meeting_71 : decode cX6_meeting 71 = .ok (.aload_n 0, 1) := by decide +kernel
theorem dX6_meeting_72 : decode cX6_meeting 72 = .ok (.getfield 10, 3) := by decide +kernel
theorem dX6_meeting_75 : decode cX6_meeting 75 = .ok (.iload_n 2, 1) := by decide +kernel
theorem dX6_meeting_76 : decode cX6_meeting 76 = .ok (.iload 5, 2) := by decide +kernel
theorem dX6_meeting_78 : decode cX6_meeting 78 = .ok (.invokevirtual 136, 3) := by decide +kernel
theorem dX6_meeting_81 : decode cX6_meeting 81 = .ok (.if_icmp .ne 7, 3) := by decide +kernel
theorem dX6_meeting_84 : decode cX6_meeting 84 = .ok (.iconst 1, 1) := by decide +kernel
theorem dX6_meeting_85 : decode cX6_meeting 85 = .ok (.goto 4, 3) := by decide +kernel
theorem dX6_meeting_88 : decode cX6_meeting 88 = .ok (.iconst 0, 1) := by decide +kernel
theorem dX6_meeting_89 : decode cX6_meeting 89 = .ok (.istore 7, 2) := by decide +kernel
theorem dX6_meeting_91 : decode cX6_meeting 91 = .ok (.iload 7, 2) := by decide +kernel
theorem dX6_meeting_93 : decode cX6_meeting 93 = .ok (.ifCond .eq 24, 3) := by decide +kernel
theorem dX6_meeting_96 : decode cX6_meeting 96 = .ok (.iload_n 3, 1) := by decide +kernel
theorem dX6_meeting_97 : decode cX6_meeting 97 = .ok (.ifCond .eq 17, 3) := by decide +kernel
theorem dX6_meeting_100 : decode cX6_meeting 100 = .ok (.iload 6, 2) := by decide +kernel
theorem dX6_meeting_102 : decode cX6_meeting 102 = .ok (.aload_n 0, 1) := by decide +kernel
theorem dX6_meeting_103 : decode cX6_meeting 103 = .ok (.getfield 10, 3) := by decide +kernel
theorem dX6_meeting_106 : decode cX6_meeting 106 = .ok (.iload 5, 2) := by decide +kernel
theorem dX6_meeting_108 : decode cX6_meeting 108 = .ok (.invokevirtual 47, 3) := by decide +kernel
theorem dX6_meeting_111 : decode cX6_meeting 111 = .ok (.if_icmp .ne 6, 3) := by decide +kernel
theorem dX6_meeting_114 : decode cX6_meeting 114 = .ok (.iload 5, 2) := by decide +kernel
theorem dX6_meeting_116 : decode cX6_meeting 116 = .ok (.ireturn, 1) := by decide +kernel
theorem dX6_meeting_117 : decode cX6_meeting 117 = .ok (.iinc 4 1, 3) := by decide +kernel
theorem dX6_meeting_120 : decode cX6_meeting 120 = .ok (.goto (-88), 3) := by decide +kernel
theorem dX6_meeting_123 : decode cX6_meeting 123 = .ok (.bipush (-4), 2) := by decide +kernel
theorem dX6_meeting_125 : decode cX6_meeting 125 = .ok (.ireturn, 1) := by decide +kernel
theorem dX6_count_0 : decode cX6_count 0 = .ok (.iload_n 1, 1) := by decide +kernel
theorem dX6_count_1 : decode cX6_count 1 = .ok (.tableswitch 232 0 16 #[83, 91, 96, 104, 112, 120, 128, 152, 160, 168, 176, 184, 192, 200, 208, 216, 224], 83) := by decide +kernel
theorem dX6_count_84 : decode cX6_count 84 = .ok (.aload_n 0, 1) := by decide +kernel
theorem dX6_count_85 : decode cX6_count 85 = .ok (.getfield 10, 3) := by decide +kernel
theorem dX6_count_88 : decode cX6_count 88 = .ok (.getfield 63, 3) := by decide +kernel
theorem dX6_count_91 : decode cX6_count 91 = .ok (.ireturn, 1) := by decide +kernel
theorem dX6_count_92 : decode cX6_count 92 = .ok (.aload_n 0, 1) := by decide +kernel
theorem dX6_count_93 : decode cX6_count 93 = .ok (.invokevirtual 188, 3) := by decide +kernel
theorem dX6_count_96 : decode cX6_count 96 = .ok (.ireturn, 1) := by decide +kernel
theorem dX6_count_97 : decode cX6_count 97 = .ok (.aload_n 0, 1) := by decide +kernel
theorem dX6_count_98 : decode cX6_count 98 = .ok (.getfield 10, 3) := by decide +kernel
theorem dX6_count_101 : decode cX6_count 101 = .ok (.getfield 121, 3) := by decide +kernel
theorem dX6_count_104 : decode cX6_count 104 = .ok (.ireturn, 1) := by decide +kernel
theorem dX6_count_105 : decode cX6_count 105 = .ok (.aload_n 0, 1) := by decide +kernel
theorem dX6_count_106 : decode cX6_count 106 = .ok (.getfield 10, 3) := by decide +kernel
theorem dX6_count_109 : decode cX6_count 109 = .ok (.invokevirtual 191, 3) := by decide +kernel
theorem dX6_count_112 : decode cX6_count 112 = .ok (.ireturn, 1) := by decide +kernel
theorem dX6_count_113 : decode cX6_count 113 = .ok (.aload_n 0, 1) := by decide +kernel
theorem dX6_count_114 : decode cX6_count 114 = .ok (.getfield 10, 3) := by decide +kernel
theorem dX6_count_117 : decode cX6_count 117 = .ok (.getfield 82, 3) := by decide +kernel
theorem dX6_count_120 : decode cX6_count 120 = .ok (.ireturn, 1) := by decide +kernel
theorem dX6_count_121 : decode cX6_count 121 = .ok (.aload_n 0, 1) := by decide +kernel
theorem dX6_count_122 : decode cX6_count 122 = .ok (.getfield 10, 3) := by decide +kernel
theorem dX6_count_125 : decode cX6_count 125 = .ok (.invokevirtual 194, 3) := by decide +kernel
theorem dX6_count_128 : decode cX6_count 128 = .ok (.ireturn, 1) := by decide +kernel
theorem dX6_count_129 : decode cX6_count 129 = .ok (.aload_n 0, 1) := by decide +kernel
theorem dX6_count_130 : decode cX6_count 130 = .ok (.getfield 10, 3) := by decide +kernel
theorem dX6_count_133 : decode cX6_count 133 = .ok (.getfield 82, 3) := by decide +kernel
theorem dX6_count_136 : decode cX6_count 136 = .ok (.aload_n 0, 1) := by decide +kernel
theorem dX6_count_137 : decode cX6_count 137 = .ok (.getfield 10, 3) := by decide +kernel
theorem dX6_count_140 : decode cX6_count 140 = .ok (.invokevirtual 194, 3) := by decide +kernel
theorem dX6_count_143 : decode cX6_count 143 = .ok (.isub, 1) := by decide +kernel
theorem dX6_count_144 : decode cX6_count 144 = .ok (.aload_n 0, 1) := by decide +kernel
theorem dX6_count_145 : decode cX6_count 145 = .ok (.getfield 10, 3) := by decide +kernel
theorem dX6_count_148 : decode cX6_count 148 = .ok (.invokevirtual 197, 3) := by decide +kernel
theorem dX6_count_151 : decode cX6_count 151 = .ok (.isub, 1) := by decide +kernel
theorem dX6_count_152 : decode cX6_count 152 = .ok (.ireturn, 1) := by decide +kernel
theorem dX6_count_153 : decode cX6_count 153 = .ok (.aload_n 0, 1) := by decide +kernel
theorem dX6_count_154 : decode cX6_count 154 = .ok (.getfield 10, 3) := by decide +kernel
theorem dX6_count_157 : decode cX6_count 157 = .ok (.invokevirtual 197, 3) := by decide +kernel
theorem dX6_count_160 : decode cX6_count 160 = .ok (.ireturn, 1) := by decide +kernel
theorem dX6_count_161 : decode cX6_count 161 = .ok (.aload_n 0, 1) := by decide +kernel
theorem dX6_count_162 : decode cX6_count 162 = .ok (.getfield 10, 3) := by decide +kernel
theorem dX6_count_165 : decode cX6_count 165 = .ok (.invokevirtual 200, 3) := by decide +kernel
theorem dX6_count_168 : decode cX6_count 168 = .ok (.ireturn, 1) := by decide +kernel
theorem dX6_count_169 : decode cX6_count 169 = .ok (.aload_n 0, 1) := by decide +kernel
theorem dX6_count_170 : decode cX6_count 170 = .ok (.getfield 10, 3) := by decide +kernel
theorem dX6_count_173 : decode cX6_count 173 = .ok (.getfield 203, 3) := by decide +kernel
theorem dX6_count_176 : decode cX6_count 176 = .ok (.ireturn, 1) := by decide +kernel
theorem dX6_count_177 : decode cX6_count 177 = .ok (.aload_n 0, 1) := by decide +kernel
theorem dX6_count_178 : decode cX6_count 178 = .ok (.getfield 10, 3) := by decide +kernel
theorem dX6_count_181 : decode cX6_count 181 = .ok (.getfield 101, 3) := by decide +kernel
theorem dX6_count_184 : decode cX6_count 184 = .ok (.ireturn, 1) := by decide +kernel
theorem dX6_count_185 : decode cX6_count 185 = .ok (.aload_n 0, 1) := by decide +kernel
theorem dX6_count_186 : decode cX6_count 186 = .ok (.getfield 10, 3) := by decide +kernel
theorem dX6_count_189 : decode cX6_count 189 = .ok (.getfield 206, 3) := by decide +kernel
theorem dX6_count_192 : decode cX6_count 192 = .ok (.ireturn, 1) := by decide +kernel
theorem dX6_count_193 : decode cX6_count 193 = .ok (.aload_n 0, 1) := by decide +kernel
theorem dX6_count_194 : decode cX6_count 194 = .ok (.getfield 10, 3) := by decide +kernel
theorem dX6_count_197 : decode cX6_count 197 = .ok (.getfield 209, 3) := by decide +kernel
theorem dX6_count_200 : decode cX6_count 200 = .ok (.ireturn, 1) := by decide +kernel
theorem dX6_count_201 : decode cX6_count 201 = .ok (.aload_n 0, 1) := by decide +kernel
theorem dX6_count_202 : decode cX6_count 202 = .ok (.getfield 10, 3) := by decide +kernel
theorem dX6_count_205 : decode cX6_count 205 = .ok (.getfield 75, 3) := by decide +kernel
theorem dX6_count_208 : decode cX6_count 208 = .ok (.ireturn, 1) := by decide +kernel
theorem dX6_count_209 : decode cX6_count 209 = .ok (.aload_n 0, 1) := by decide +kernel
theorem dX6_count_210 : decode cX6_count 210 = .ok (.getfield 10, 3) := by decide +kernel
theorem dX6_count_213 : decode cX6_count 213 = .ok (.getfield 210, 3) := by decide +kernel
theorem dX6_count_216 : decode cX6_count 216 = .ok (.ireturn, 1) := by decide +kernel
theorem dX6_count_217 : decode cX6_count 217 = .ok (.aload_n 0, 1) := by decide +kernel
theorem dX6_count_218 : decode cX6_count 218 = .ok (.getfield 32, 3) := by decide +kernel
theorem dX6_count_221 : decode cX6_count 221 = .ok (.getfield 108, 3) := by decide +kernel
theorem dX6_count_224 : decode cX6_count 224 = .ok (.ireturn, 1) := by decide +kernel
theorem dX6_count_225 : decode cX6_count 225 = .ok (.aload_n 0, 1) := by decide +kernel
theorem dX6_count_226 : decode cX6_count 226 = .ok (.getfield 25, 3) := by decide +kernel
theorem dX6_count_229 : decode cX6_count 229 = .ok (.getfield 213, 3) := by decide +kernel
theorem dX6_count_232 : decode cX6_count 232 = .ok (.ireturn, 1) := by decide +kernel
theorem dX6_count_233 : decode cX6_count 233 = .ok (.iconst (-1), 1) := by decide +kernel
theorem dX6_count_234 : decode cX6_count 234 = .ok (.ireturn, 1) := by decide +kernel
theorem dX6_lateness_0 : decode cX6_lateness 0 = .ok (.iconst 0, 1) := by decide +kernel
theorem dX6_lateness_1 : decode cX6_lateness 1 = .ok (.istore_n 1, 1) := by decide +kernel
theorem dX6_lateness_2 : decode cX6_lateness 2 = .ok (.iconst 0, 1) := by decide +kernel
theorem dX6_lateness_3 : decode cX6_lateness 3 = .ok (.istore_n 2, 1) := by decide +kernel
theorem dX6_lateness_4 : decode cX6_lateness 4 = .ok (.iconst 0, 1) := by decide +kernel
theorem dX6_lateness_5 : decode cX6_lateness 5 = .ok (.istore_n 3, 1) := by decide +kernel
theorem dX6_lateness_6 : decode cX6_lateness 6 = .ok (.iload_n 3, 1) := by decide +kernel
theorem dX6_lateness_7 : decode cX6_lateness 7 = .ok (.aload_n 0, 1) := by decide +kernel
theorem dX6_lateness_8 : decode cX6_lateness 8 = .ok (.getfield 10, 3) := by decide +kernel
theorem dX6_lateness_11 : decode cX6_lateness 11 = .ok (.getfield 82, 3) := by decide +kernel
theorem dX6_lateness_14 : decode cX6_lateness 14 = .ok (.if_icmp .ge 38, 3) := by decide +kernel
theorem dX6_lateness_17 : decode cX6_lateness 17 = .ok (.aload_n 0, 1) := by decide +kernel
theorem dX6_lateness_18 : decode cX6_lateness 18 = .ok (.aload_n 0, 1) := by decide +kernel
theorem dX6_lateness_19 : decode cX6_lateness 19 = .ok (.getfield 10, 3) := by decide +kernel
theorem dX6_lateness_22 : decode cX6_lateness 22 = .ok (.iload_n 3, 1) := by decide +kernel
theorem dX6_lateness_23 : decode cX6_lateness 23 = .ok (.invokevirtual 93, 3) := by decide +kernel
theorem dX6_lateness_26 : decode cX6_lateness 26 = .ok (.invokevirtual 214, 3) := by decide +kernel
theorem dX6_lateness_29 : decode cX6_lateness 29 = .ok (.istore 4, 2) := by decide +kernel
theorem dX6_lateness_31 : decode cX6_lateness 31 = .ok (.iload 4, 2) := by decide +kernel
theorem dX6_lateness_33 : decode cX6_lateness 33 = .ok (.ldc 217, 2) := by decide +kernel
theorem dX6_lateness_35 : decode cX6_lateness 35 = .ok (.if_icmp .eq 11, 3) := by decide +kernel
theorem dX6_lateness_38 : decode cX6_lateness 38 = .ok (.iload_n 1, 1) := by decide +kernel
theorem dX6_lateness_39 : decode cX6_lateness 39 = .ok (.iload 4, 2) := by decide +kernel
theorem dX6_lateness_41 : decode cX6_lateness 41 = .ok (.iadd, 1) := by decide +kernel
theorem dX6_lateness_42 : decode cX6_lateness 42 = .ok (.istore_n 1, 1) := by decide +kernel
theorem dX6_lateness_43 : decode cX6_lateness 43 = .ok (.iinc 2 1, 3) := by decide +kernel
theorem dX6_lateness_46 : decode cX6_lateness 46 = .ok (.iinc 3 1, 3) := by decide +kernel
theorem dX6_lateness_49 : decode cX6_lateness 49 = .ok (.goto (-43), 3) := by decide +kernel
theorem dX6_lateness_52 : decode cX6_lateness 52 = .ok (.iload_n 2, 1) := by decide +kernel
theorem dX6_lateness_53 : decode cX6_lateness 53 = .ok (.ifCond .ne 7, 3) := by decide +kernel
theorem dX6_lateness_56 : decode cX6_lateness 56 = .ok (.dconst 0, 1) := by decide +kernel
theorem dX6_lateness_57 : decode cX6_lateness 57 = .ok (.goto 8, 3) := by decide +kernel
theorem dX6_lateness_60 : decode cX6_lateness 60 = .ok (.iload_n 1, 1) := by decide +kernel
theorem dX6_lateness_61 : decode cX6_lateness 61 = .ok (.i2d, 1) := by decide +kernel
theorem dX6_lateness_62 : decode cX6_lateness 62 = .ok (.iload_n 2, 1) := by decide +kernel
theorem dX6_lateness_63 : decode cX6_lateness 63 = .ok (.i2d, 1) := by decide +kernel
theorem dX6_lateness_64 : decode cX6_lateness 64 = .ok (.ddiv, 1) := by decide +kernel
theorem dX6_lateness_65 : decode cX6_lateness 65 = .ok (.dreturn, 1) := by decide +kernel
theorem dX6_ifPosted_0 : decode cX6_ifPosted 0 = .ok (.iload_n 1, 1) := by decide +kernel
theorem dX6_ifPosted_1 : decode cX6_ifPosted 1 = .ok (.iload_n 2, 1) := by decide +kernel
theorem dX6_ifPosted_2 : decode cX6_ifPosted 2 = .ok (.invokestatic 78, 3) := by decide +kernel
theorem dX6_ifPosted_5 : decode cX6_ifPosted 5 = .ok (.ifCond .eq 13, 3) := by decide +kernel
theorem dX6_ifPosted_8 : decode cX6_ifPosted 8 = .ok (.iload_n 3, 1) := by decide +kernel
theorem dX6_ifPosted_9 : decode cX6_ifPosted 9 = .ok (.ifCond .lt 9, 3) := by decide +kernel
theorem dX6_ifPosted_12 : decode cX6_ifPosted 12 = .ok (.iload_n 3, 1) := by decide +kernel
theorem dX6_ifPosted_13 : decode cX6_ifPosted 13 = .ok (.bipush 30, 2) := by decide +kernel
theorem dX6_ifPosted_15 : decode cX6_ifPosted 15 = .ok (.if_icmp .le 5, 3) := by decide +kernel
theorem dX6_ifPosted_18 : decode cX6_ifPosted 18 = .ok (.iconst (-1), 1) := by decide +kernel
theorem dX6_ifPosted_19 : decode cX6_ifPosted 19 = .ok (.ireturn, 1) := by decide +kernel
theorem dX6_ifPosted_20 : decode cX6_ifPosted 20 = .ok (.aload_n 0, 1) := by decide +kernel
theorem dX6_ifPosted_21 : decode cX6_ifPosted 21 = .ok (.getfield 39, 3) := by decide +kernel
theorem dX6_ifPosted_24 : decode cX6_ifPosted 24 = .ok (.aload_n 0, 1) := by decide +kernel
theorem dX6_ifPosted_25 : decode cX6_ifPosted 25 = .ok (.getfield 10, 3) := by decide +kernel
theorem dX6_ifPosted_28 : decode cX6_ifPosted 28 = .ok (.iload_n 1, 1) := by decide +kernel
theorem dX6_ifPosted_29 : decode cX6_ifPosted 29 = .ok (.iload_n 2, 1) := by decide +kernel
theorem dX6_ifPosted_30 : decode cX6_ifPosted 30 = .ok (.aload_n 0, 1) := by decide +kernel
theorem dX6_ifPosted_31 : decode cX6_ifPosted 31 = .ok (.getfield 10, 3) := by decide +kernel
theorem dX6_ifPosted_34 : decode cX6_ifPosted 34 = .ok (.getfield 63, 3) := by decide +kernel
theorem dX6_ifPosted_37 : decode cX6_ifPosted 37 = .ok (.iload_n 3, 1) := by decide +kernel
theorem dX6_ifPosted_38 : decode cX6_ifPosted 38 = .ok (.iadd, 1) := by decide +kernel
theorem dX6_ifPosted_39 : decode cX6_ifPosted 39 = .ok (.invokevirtual 85, 3) := by decide +kernel
theorem dX6_ifPosted_42 : decode cX6_ifPosted 42 = .ok (.ireturn, 1) := by decide +kernel
theorem dX6_bestDay_0 : decode cX6_bestDay 0 = .ok (.iload_n 1, 1) := by decide +kernel
theorem dX6_bestDay_1 : decode cX6_bestDay 1 = .ok (.iload_n 2, 1) := by decide +kernel
theorem dX6_bestDay_2 : decode cX6_bestDay 2 = .ok (.invokestatic 78, 3) := by decide +kernel
theorem dX6_bestDay_5 : decode cX6_bestDay 5 = .ok (.ifCond .ne 5, 3) := by decide +kernel
theorem dX6_bestDay_8 : decode cX6_bestDay 8 = .ok (.iconst (-1), 1) := by decide +kernel
theorem dX6_bestDay_9 : decode cX6_bestDay 9 = .ok (.ireturn, 1) := by decide +kernel
theorem dX6_bestDay_10 : decode cX6_bestDay 10 = .ok (.bipush (-4), 2) := by decide +kernel
theorem dX6_bestDay_12 : decode cX6_bestDay 12 = .ok (.istore_n 3, 1) := by decide +kernel
theorem dX6_bestDay_13 : decode cX6_bestDay 13 = .ok (.ldc 217, 2) := by decide +kernel
theorem dX6_bestDay_15 : decode cX6_bestDay 15 = .ok (.istore 4, 2) := by decide +kernel
theorem dX6_bestDay_17 : decode cX6_bestDay 17 = .ok (.iconst 0, 1) := by decide +kernel
theorem dX6_bestDay_18 : decode cX6_bestDay 18 = .ok (.istore 5, 2) := by decide +kernel
theorem dX6_bestDay_20 : decode cX6_bestDay 20 = .ok (.iload 5, 2) := by decide +kernel
theorem dX6_bestDay_22 : decode cX6_bestDay 22 = .ok (.bipush 14, 2) := by decide +kernel
theorem dX6_bestDay_24 : decode cX6_bestDay 24 = .ok (.if_icmp .ge 65, 3) := by decide +kernel
theorem dX6_bestDay_27 : decode cX6_bestDay 27 = .ok (.aload_n 0, 1) := by decide +kernel
theorem dX6_bestDay_28 : decode cX6_bestDay 28 = .ok (.getfield 10, 3) := by decide +kernel
theorem dX6_bestDay_31 : decode cX6_bestDay 31 = .ok (.getfield 63, 3) := by decide +kernel
theorem dX6_bestDay_34 : decode cX6_bestDay 34 = .ok (.iload 5, 2) := by decide +kernel
theorem dX6_bestDay_36 : decode cX6_bestDay 36 = .ok (.iadd, 1) := by decide +kernel
theorem dX6_bestDay_37 : decode cX6_bestDay 37 = .ok (.istore 6, 2) := by decide +kernel
theorem dX6_bestDay_39 : decode cX6_bestDay 39 = .ok (.aload_n 0, 1) := by decide +kernel
theorem dX6_bestDay_40 : decode cX6_bestDay 40 = .ok (.getfield 39, 3) := by decide +kernel
theorem dX6_bestDay_43 : decode cX6_bestDay 43 = .ok (.aload_n 0, 1) := by decide +kernel
theorem dX6_bestDay_44 : decode cX6_bestDay 44 = .ok (.getfield 10, 3) := by decide +kernel
theorem dX6_bestDay_47 : decode cX6_bestDay 47 = .ok (.iload_n 1, 1) := by decide +kernel
theorem dX6_bestDay_48 : decode cX6_bestDay 48 = .ok (.iload_n 2, 1) := by decide +kernel
theorem dX6_bestDay_49 : decode cX6_bestDay 49 = .ok (.iload 6, 2) := by decide +kernel
theorem dX6_bestDay_51 : decode cX6_bestDay 51 = .ok (.invokevirtual 85, 3) := by decide +kernel
theorem dX6_bestDay_54 : decode cX6_bestDay 54 = .ok (.istore 7, 2) := by decide +kernel
theorem dX6_bestDay_56 : decode cX6_bestDay 56 = .ok (.iload 7, 2) := by decide +kernel
theorem dX6_bestDay_58 : decode cX6_bestDay 58 = .ok (.bipush (-4), 2) := by decide +kernel
theorem dX6_bestDay_60 : decode cX6_bestDay 60 = .ok (.if_icmp .eq 23, 3) := by decide +kernel
theorem dX6_bestDay_63 : decode cX6_bestDay 63 = .ok (.iload 7, 2) := by decide +kernel
theorem dX6_bestDay_65 : decode cX6_bestDay 65 = .ok (.iload 6, 2) := by decide +kernel
theorem dX6_bestDay_67 : decode cX6_bestDay 67 = .ok (.isub, 1) := by decide +kernel
theorem dX6_bestDay_68 : decode cX6_bestDay 68 = .ok (.iload 4, 2) := by decide +kernel
theorem dX6_bestDay_70 : decode cX6_bestDay 70 = .ok (.if_icmp .ge 13, 3) := by decide +kernel
theorem dX6_bestDay_73 : decode cX6_bestDay 73 = .ok (.iload 7, 2) := by decide +kernel
theorem dX6_bestDay_75 : decode cX6_bestDay 75 = .ok (.iload 6, 2) := by decide +kernel
theorem dX6_bestDay_77 : decode cX6_bestDay 77 = .ok (.isub, 1) := by decide +kernel
theorem dX6_bestDay_78 : decode cX6_bestDay 78 = .ok (.istore 4, 2) := by decide +kernel
theorem dX6_bestDay_80 : decode cX6_bestDay 80 = .ok (.iload 5, 2) := by decide +kernel
theorem dX6_bestDay_82 : decode cX6_bestDay 82 = .ok (.istore_n 3, 1) := by decide +kernel
theorem dX6_bestDay_83 : decode cX6_bestDay 83 = .ok (.iinc 5 1, 3) := by decide +kernel
theorem dX6_bestDay_86 : decode cX6_bestDay 86 = .ok (.goto (-66), 3) := by decide +kernel
theorem dX6_bestDay_89 : decode cX6_bestDay 89 = .ok (.iload_n 3, 1) := by decide +kernel
theorem dX6_bestDay_90 : decode cX6_bestDay 90 = .ok (.ireturn, 1) := by decide +kernel
theorem dX6_bestTown_0 : decode cX6_bestTown 0 = .ok (.iload_n 1, 1) := by decide +kernel
theorem dX6_bestTown_1 : decode cX6_bestTown 1 = .ok (.invokestatic 43, 3) := by decide +kernel
theorem dX6_bestTown_4 : decode cX6_bestTown 4 = .ok (.ifCond .ne 5, 3) := by decide +kernel
theorem dX6_bestTown_7 : decode cX6_bestTown 7 = .ok (.iconst (-1), 1) := by decide +kernel
theorem dX6_bestTown_8 : decode cX6_bestTown 8 = .ok (.ireturn, 1) := by decide +kernel
theorem dX6_bestTown_9 : decode cX6_bestTown 9 = .ok (.aload_n 0, 1) := by decide +kernel
theorem dX6_bestTown_10 : decode cX6_bestTown 10 = .ok (.getfield 16, 3) := by decide +kernel
theorem dX6_bestTown_13 : decode cX6_bestTown 13 = .ok (.aload_n 0, 1) := by decide +kernel
theorem dX6_bestTown_14 : decode cX6_bestTown 14 = .ok (.getfield 10, 3) := by decide +kernel
theorem dX6_bestTown_17 : decode cX6_bestTown 17 = .ok (.invokevirtual 218, 3) := by decide +kernel
theorem dX6_bestTown_20 : decode cX6_bestTown 20 = .ok (.iconst 0, 1) := by decide +kernel
theorem dX6_bestTown_21 : decode cX6_bestTown 21 = .ok (.istore_n 2, 1) := by decide +kernel
theorem dX6_bestTown_22 : decode cX6_bestTown 22 = .ok (.iconst (-1), 1) := by decide +kernel
theorem dX6_bestTown_23 : decode cX6_bestTown 23 = .ok (.istore_n 3, 1) := by decide +kernel
theorem dX6_bestTown_24 : decode cX6_bestTown 24 = .ok (.iconst 0, 1) := by decide +kernel
theorem dX6_bestTown_25 : decode cX6_bestTown 25 = .ok (.istore 4, 2) := by decide +kernel
theorem dX6_bestTown_27 : decode cX6_bestTown 27 = .ok (.iconst 0, 1) := by decide +kernel
theorem dX6_bestTown_28 : decode cX6_bestTown 28 = .ok (.istore 5, 2) := by decide +kernel
theorem dX6_bestTown_30 : decode cX6_bestTown 30 = .ok (.iload 5, 2) := by decide +kernel
theorem dX6_bestTown_32 : decode cX6_bestTown 32 = .ok (.bipush 6, 2) := by decide +kernel
theorem dX6_bestTown_34 : decode cX6_bestTown 34 = .ok (.if_icmp .gt 77, 3) := by decide +kernel
theorem dX6_bestTown_37 : decode cX6_bestTown 37 = .ok (.aload_n 0, 1) := by decide +kernel
theorem dX6_bestTown_38 : decode cX6_bestTown 38 = .ok (.getfield 16, 3) := by decide +kernel
theorem dX6_bestTown_41 : decode cX6_bestTown 41 = .ok (.iload_n 1, 1) := by decide +kernel
theorem dX6_bestTown_42 : decode cX6_bestTown 42 = .ok (.iload 5, 2) := by decide +kernel
theorem dX6_bestTown_44 : decode cX6_bestTown 44 = .ok (.invokevirtual 55, 3) := by decide +kernel
theorem dX6_bestTown_47 : decode cX6_bestTown 47 = .ok (.aload_n 0, 1) := by decide +kernel
theorem dX6_bestTown_48 : decode cX6_bestTown 48 = .ok (.getfield 39, 3) := by decide +kernel
theorem dX6_bestTown_51 : decode cX6_bestTown 51 = .ok (.aload_n 0, 1) := by decide +kernel
theorem dX6_bestTown_52 : decode cX6_bestTown 52 = .ok (.getfield 16, 3) := by decide +kernel
theorem dX6_bestTown_55 : decode cX6_bestTown 55 = .ok (.invokevirtual 221, 3) := by decide +kernel
theorem dX6_bestTown_58 : decode cX6_bestTown 58 = .ok (.aload_n 0, 1) := by decide +kernel
theorem dX6_bestTown_59 : decode cX6_bestTown 59 = .ok (.getfield 39, 3) := by decide +kernel
theorem dX6_bestTown_62 : decode cX6_bestTown 62 = .ok (.getfield 224, 3) := by decide +kernel
theorem dX6_bestTown_65 : decode cX6_bestTown 65 = .ok (.istore 6, 2) := by decide +kernel
theorem dX6_bestTown_67 : decode cX6_bestTown 67 = .ok (.aload_n 0, 1) := by decide +kernel
theorem dX6_bestTown_68 : decode cX6_bestTown 68 = .ok (.getfield 39, 3) := by decide +kernel
theorem dX6_bestTown_71 : decode cX6_bestTown 71 = .ok (.getfield 227, 3) := by decide +kernel
theorem dX6_bestTown_74 : decode cX6_bestTown 74 = .ok (.istore 7, 2) := by decide +kernel
theorem dX6_bestTown_76 : decode cX6_bestTown 76 = .ok (.iload 6, 2) := by decide +kernel
theorem dX6_bestTown_78 : decode cX6_bestTown 78 = .ok (.iload_n 3, 1) := by decide +kernel
theorem dX6_bestTown_79 : decode cX6_bestTown 79 = .ok (.if_icmp .gt 16, 3) := by decide +kernel
theorem dX6_bestTown_82 : decode cX6_bestTown 82 = .ok (.iload 6, 2) := by decide +kernel
theorem dX6_bestTown_84 : decode cX6_bestTown 84 = .ok (.iload_n 3, 1) := by decide +kernel
theorem dX6_bestTown_85 : decode cX6_bestTown 85 = .ok (.if_icmp .ne 20, 3) := by decide +kernel
theorem dX6_bestTown_88 : decode cX6_bestTown 88 = .ok (.iload 7, 2) := by decide +kernel
theorem dX6_bestTown_90 : decode cX6_bestTown 90 = .ok (.iload 4, 2) := by decide +kernel
theorem dX6_bestTown_92 : decode cX6_bestTown 92 = .ok (.if_icmp .ge 13, 3) := by decide +kernel
theorem dX6_bestTown_95 : decode cX6_bestTown 95 = .ok (.iload 5, 2) := by decide +kernel
theorem dX6_bestTown_97 : decode cX6_bestTown 97 = .ok (.istore_n 2, 1) := by decide +kernel
theorem dX6_bestTown_98 : decode cX6_bestTown 98 = .ok (.iload 6, 2) := by decide +kernel
theorem dX6_bestTown_100 : decode cX6_bestTown 100 = .ok (.istore_n 3, 1) := by decide +kernel
theorem dX6_bestTown_101 : decode cX6_bestTown 101 = .ok (.iload 7, 2) := by decide +kernel
theorem dX6_bestTown_103 : decode cX6_bestTown 103 = .ok (.istore 4, 2) := by decide +kernel
theorem dX6_bestTown_105 : decode cX6_bestTown 105 = .ok (.iinc 5 1, 3) := by decide +kernel
theorem dX6_bestTown_108 : decode cX6_bestTown 108 = .ok (.goto (-78), 3) := by decide +kernel
theorem dX6_bestTown_111 : decode cX6_bestTown 111 = .ok (.iload_n 2, 1) := by decide +kernel
theorem dX6_bestTown_112 : decode cX6_bestTown 112 = .ok (.ireturn, 1) := by decide +kernel
theorem dX6_ifPassed_0 : decode cX6_ifPassed 0 = .ok (.iload_n 1, 1) := by decide +kernel
theorem dX6_ifPassed_1 : decode cX6_ifPassed 1 = .ok (.iconst 1, 1) := by decide +kernel
theorem dX6_ifPassed_2 : decode cX6_ifPassed 2 = .ok (.if_icmp .lt 18, 3) := by decide +kernel
theorem dX6_ifPassed_5 : decode cX6_ifPassed 5 = .ok (.iload_n 1, 1) := by decide +kernel
theorem dX6_ifPassed_6 : decode cX6_ifPassed 6 = .ok (.bipush 30, 2) := by decide +kernel
theorem dX6_ifPassed_8 : decode cX6_ifPassed 8 = .ok (.if_icmp .gt 12, 3) := by decide +kernel
theorem dX6_ifPassed_11 : decode cX6_ifPassed 11 = .ok (.iload_n 2, 1) := by decide +kernel
theorem dX6_ifPassed_12 : decode cX6_ifPassed 12 = .ok (.ifCond .lt 8, 3) := by decide +kernel
theorem dX6_ifPassed_15 : decode cX6_ifPassed 15 = .ok (.iload_n 2, 1) := by decide +kernel
theorem dX6_ifPassed_16 : decode cX6_ifPassed 16 = .ok (.iconst 2, 1) := by decide +kernel
theorem dX6_ifPassed_17 : decode cX6_ifPassed 17 = .ok (.if_icmp .le 5, 3) := by decide +kernel
theorem dX6_ifPassed_20 : decode cX6_ifPassed 20 = .ok (.iconst (-1), 1) := by decide +kernel
theorem dX6_ifPassed_21 : decode cX6_ifPassed 21 = .ok (.ireturn, 1) := by decide +kernel
theorem dX6_ifPassed_22 : decode cX6_ifPassed 22 = .ok (.aload_n 0, 1) := by decide +kernel
theorem dX6_ifPassed_23 : decode cX6_ifPassed 23 = .ok (.getfield 16, 3) := by decide +kernel
theorem dX6_ifPassed_26 : decode cX6_ifPassed 26 = .ok (.aload_n 0, 1) := by decide +kernel
theorem dX6_ifPassed_27 : decode cX6_ifPassed 27 = .ok (.getfield 10, 3) := by decide +kernel
theorem dX6_ifPassed_30 : decode cX6_ifPassed 30 = .ok (.invokevirtual 218, 3) := by decide +kernel
theorem dX6_ifPassed_33 : decode cX6_ifPassed 33 = .ok (.iconst 0, 1) := by decide +kernel
theorem dX6_ifPassed_34 : decode cX6_ifPassed 34 = .ok (.istore_n 3, 1) := by decide +kernel
theorem dX6_ifPassed_35 : decode cX6_ifPassed 35 = .ok (.iload_n 3, 1) := by decide +kernel
theorem dX6_ifPassed_36 : decode cX6_ifPassed 36 = .ok (.iload_n 1, 1) := by decide +kernel
theorem dX6_ifPassed_37 : decode cX6_ifPassed 37 = .ok (.if_icmp .ge 20, 3) := by decide +kernel
theorem dX6_ifPassed_40 : decode cX6_ifPassed 40 = .ok (.aload_n 0, 1) := by decide +kernel
theorem dX6_ifPassed_41 : decode cX6_ifPassed 41 = .ok (.getfield 16, 3) := by decide +kernel
theorem dX6_ifPassed_44 : decode cX6_ifPassed 44 = .ok (.aload_n 0, 1) := by decide +kernel
theorem dX6_ifPassed_45 : decode cX6_ifPassed 45 = .ok (.getfield 39, 3) := by decide +kernel
theorem dX6_ifPassed_48 : decode cX6_ifPassed 48 = .ok (.invokevirtual 104, 3) := by decide +kernel
theorem dX6_ifPassed_51 : decode cX6_ifPassed 51 = .ok (.iinc 3 1, 3) := by decide +kernel
theorem dX6_ifPassed_54 : decode cX6_ifPassed 54 = .ok (.goto (-19), 3) := by decide +kernel
theorem dX6_ifPassed_57 : decode cX6_ifPassed 57 = .ok (.iload_n 2, 1) := by decide +kernel
theorem dX6_ifPassed_58 : decode cX6_ifPassed 58 = .ok (.ifCond .ne 19, 3) := by decide +kernel
theorem dX6_ifPassed_61 : decode cX6_ifPassed 61 = .ok (.aload_n 0, 1) := by decide +kernel
theorem dX6_ifPassed_62 : decode cX6_ifPassed 62 = .ok (.getfield 16, 3) := by decide +kernel
theorem dX6_ifPassed_65 : decode cX6_ifPassed 65 = .ok (.getfield 101, 3) := by decide +kernel
theorem dX6_ifPassed_68 : decode cX6_ifPassed 68 = .ok (.aload_n 0, 1) := by decide +kernel
theorem dX6_ifPassed_69 : decode cX6_ifPassed 69 = .ok (.getfield 10, 3) := by decide +kernel
theorem dX6_ifPassed_72 : decode cX6_ifPassed 72 = .ok (.getfield 101, 3) := by decide +kernel
theorem dX6_ifPassed_75 : decode cX6_ifPassed 75 = .ok (.isub, 1) := by decide +kernel
theorem dX6_ifPassed_76 : decode cX6_ifPassed 76 = .ok (.ireturn, 1) := by decide +kernel
theorem dX6_ifPassed_77 : decode cX6_ifPassed 77 = .ok (.iload_n 2, 1) := by decide +kernel
theorem dX6_ifPassed_78 : decode cX6_ifPassed 78 = .ok (.iconst 1, 1) := by decide +kernel
theorem dX6_ifPassed_79 : decode cX6_ifPassed 79 = .ok (.if_icmp .ne 21, 3) := by decide +kernel
theorem dX6_ifPassed_82 : decode cX6_ifPassed 82 = .ok (.aload_n 0, 1) := by decide +kernel
theorem dX6_ifPassed_83 : decode cX6_ifPassed 83 = .ok (.getfield 16, 3) := by decide +kernel
theorem dX6_ifPassed_86 : decode cX6_ifPassed 86 = .ok (.getfield 209, 3) := by decide +kernel
theorem dX6_ifPassed_89 : decode cX6_ifPassed 89 = .ok (.aload_n 0, 1) := by decide +kernel
theorem dX6_ifPassed_90 : decode cX6_ifPassed 90 = .ok (.getfield 10, 3) := by decide +kernel
theorem dX6_ifPassed_93 : decode cX6_ifPassed 93 = .ok (.getfield 209, 3) := by decide +kernel
theorem dX6_ifPassed_96 : decode cX6_ifPassed 96 = .ok (.isub, 1) := by decide +kernel
theorem dX6_ifPassed_97 : decode cX6_ifPassed 97 = .ok (.goto 18, 3) := by decide +kernel
theorem dX6_ifPassed_100 : decode cX6_ifPassed 100 = .ok (.aload_n 0, 1) := by decide +kernel
theorem dX6_ifPassed_101 : decode cX6_ifPassed 101 = .ok (.getfield 16, 3) := by decide +kernel
theorem dX6_ifPassed_104 : decode cX6_ifPassed 104 = .ok (.invokevirtual 200, 3) := by decide +kernel
theorem dX6_ifPassed_107 : decode cX6_ifPassed 107 = .ok (.aload_n 0, 1) := by decide +kernel
theorem dX6_ifPassed_108 : decode cX6_ifPassed 108 = .ok (.getfield 10, 3) := by decide +kernel
theorem dX6_ifPassed_111 : decode cX6_ifPassed 111 = .ok (.invokevirtual 200, 3) := by decide +kernel
theorem dX6_ifPassed_114 : decode cX6_ifPassed 114 = .ok (.isub, 1) := by decide +kernel
theorem dX6_ifPassed_115 : decode cX6_ifPassed 115 = .ok (.ireturn, 1) := by decide +kernel
theorem dX6_undo_0 : decode cX6_undo 0 = .ok (.aload_n 0, 1) := by decide +kernel
theorem dX6_undo_1 : decode cX6_undo 1 = .ok (.getfield 25, 3) := by decide +kernel
theorem dX6_undo_4 : decode cX6_undo 4 = .ok (.getfield 213, 3) := by decide +kernel
theorem dX6_undo_7 : decode cX6_undo 7 = .ok (.ifCond .ne 6, 3) := by decide +kernel
theorem dX6_undo_10 : decode cX6_undo 10 = .ok (.bipush (-2), 2) := by decide +kernel
theorem dX6_undo_12 : decode cX6_undo 12 = .ok (.ireturn, 1) := by decide +kernel
theorem dX6_undo_13 : decode cX6_undo 13 = .ok (.aload_n 0, 1) := by decide +kernel
theorem dX6_undo_14 : decode cX6_undo 14 = .ok (.getfield 25, 3) := by decide +kernel
theorem dX6_undo_17 : decode cX6_undo 17 = .ok (.aload_n 0, 1) := by decide +kernel
theorem dX6_undo_18 : decode cX6_undo 18 = .ok (.getfield 10, 3) := by decide +kernel
theorem dX6_undo_21 : decode cX6_undo 21 = .ok (.invokevirtual 230, 3) := by decide +kernel
theorem dX6_undo_24 : decode cX6_undo 24 = .ok (.aload_n 0, 1) := by decide +kernel
theorem dX6_undo_25 : decode cX6_undo 25 = .ok (.getfield 25, 3) := by decide +kernel
theorem dX6_undo_28 : decode cX6_undo 28 = .ok (.getfield 213, 3) := by decide +kernel
theorem dX6_undo_31 : decode cX6_undo 31 = .ok (.ireturn, 1) := by decide +kernel
theorem dX6_save_0 : decode cX6_save 0 = .ok (.aload_n 0, 1) := by decide +kernel
theorem dX6_save_1 : decode cX6_save 1 = .ok (.getfield 19, 3) := by decide +kernel
theorem dX6_save_4 : decode cX6_save 4 = .ok (.aload_n 0, 1) := by decide +kernel
theorem dX6_save_5 : decode cX6_save 5 = .ok (.getfield 10, 3) := by decide +kernel
theorem dX6_save_8 : decode cX6_save 8 = .ok (.invokevirtual 218, 3) := by decide +kernel
theorem dX6_save_11 : decode cX6_save 11 = .ok (.aload_n 0, 1) := by decide +kernel
theorem dX6_save_12 : decode cX6_save 12 = .ok (.iconst 1, 1) := by decide +kernel
theorem dX6_save_13 : decode cX6_save 13 = .ok (.putfield 233, 3) := by decide +kernel
theorem dX6_save_16 : decode cX6_save 16 = .ok (.aload_n 0, 1) := by decide +kernel
theorem dX6_save_17 : decode cX6_save 17 = .ok (.getfield 10, 3) := by decide +kernel
theorem dX6_save_20 : decode cX6_save 20 = .ok (.getfield 63, 3) := by decide +kernel
theorem dX6_save_23 : decode cX6_save 23 = .ok (.ireturn, 1) := by decide +kernel
theorem dX6_restore_0 : decode cX6_restore 0 = .ok (.aload_n 0, 1) := by decide +kernel
theorem dX6_restore_1 : decode cX6_restore 1 = .ok (.getfield 233, 3) := by decide +kernel
theorem dX6_restore_4 : decode cX6_restore 4 = .ok (.ifCond .ne 6, 3) := by decide +kernel
theorem dX6_restore_7 : decode cX6_restore 7 = .ok (.bipush (-2), 2) := by decide +kernel
theorem dX6_restore_9 : decode cX6_restore 9 = .ok (.ireturn, 1) := by decide +kernel
theorem dX6_restore_10 : decode cX6_restore 10 = .ok (.aload_n 0, 1) := by decide +kernel
theorem dX6_restore_11 : decode cX6_restore 11 = .ok (.getfield 25, 3) := by decide +kernel
theorem dX6_restore_14 : decode cX6_restore 14 = .ok (.aload_n 0, 1) := by decide +kernel
theorem dX6_restore_15 : decode cX6_restore 15 = .ok (.getfield 10, 3) := by decide +kernel
theorem dX6_restore_18 : decode cX6_restore 18 = .ok (.invokevirtual 51, 3) := by decide +kernel
theorem dX6_restore_21 : decode cX6_restore 21 = .ok (.aload_n 0, 1) := by decide +kernel
theorem dX6_restore_22 : decode cX6_restore 22 = .ok (.getfield 10, 3) := by decide +kernel
theorem dX6_restore_25 : decode cX6_restore 25 = .ok (.aload_n 0, 1) := by decide +kernel
theorem dX6_restore_26 : decode cX6_restore 26 = .ok (.getfield 19, 3) := by decide +kernel
theorem dX6_restore_29 : decode cX6_restore 29 = .ok (.invokevirtual 218, 3) := by decide +kernel
theorem dX6_restore_32 : decode cX6_restore 32 = .ok (.aload_n 0, 1) := by decide +kernel
theorem dX6_restore_33 : decode cX6_restore 33 = .ok (.getfield 10, 3) := by decide +kernel
theorem dX6_restore_36 : decode cX6_restore 36 = .ok (.getfield 63, 3) := by decide +kernel
theorem dX6_restore_39 : decode cX6_restore 39 = .ok (.ireturn, 1) := by decide +kernel
theorem dX6_isWeekday_0 : decode cX6_isWeekday 0 = .ok (.iload_n 0, 1) := by decide +kernel
theorem dX6_isWeekday_1 : decode cX6_isWeekday 1 = .ok (.ifCond .lt 13, 3) := by decide +kernel
theorem dX6_isWeekday_4 : decode cX6_isWeekday 4 = .ok (.iload_n 0, 1) := by decide +kernel
theorem dX6_isWeekday_5 : decode cX6_isWeekday 5 = .ok (.bipush 7, 2) := by decide +kernel
theorem dX6_isWeekday_7 : decode cX6_isWeekday 7 = .ok (.if_icmp .ge 7, 3) := by decide +kernel
theorem dX6_isWeekday_10 : decode cX6_isWeekday 10 = .ok (.iconst 1, 1) := by decide +kernel
theorem dX6_isWeekday_11 : decode cX6_isWeekday 11 = .ok (.goto 4, 3) := by decide +kernel
theorem dX6_isWeekday_14 : decode cX6_isWeekday 14 = .ok (.iconst 0, 1) := by decide +kernel
theorem dX6_isWeekday_15 : decode cX6_isWeekday 15 = .ok (.ireturn, 1) := by decide +kernel
theorem dX6_areTwoTowns_0 : decode cX6_areTwoTowns 0 = .ok (.iload_n 0, 1) := by decide +kernel
theorem dX6_areTwoTowns_1 : decode cX6_areTwoTowns 1 = .ok (.ifCond .lt 28, 3) := by decide +kernel
theorem dX6_areTwoTowns_4 : decode cX6_areTwoTowns 4 = .ok (.iload_n 0, 1) := by decide +kernel
theorem dX6_areTwoTowns_5 : decode cX6_areTwoTowns 5 = .ok (.bipush 6, 2) := by decide +kernel
theorem dX6_areTwoTowns_7 : decode cX6_areTwoTowns 7 = .ok (.if_icmp .ge 22, 3) := by decide +kernel
theorem dX6_areTwoTowns_10 : decode cX6_areTwoTowns 10 = .ok (.iload_n 1, 1) := by decide +kernel
theorem dX6_areTwoTowns_11 : decode cX6_areTwoTowns 11 = .ok (.ifCond .lt 18, 3) := by decide +kernel
theorem dX6_areTwoTowns_14 : decode cX6_areTwoTowns 14 = .ok (.iload_n 1, 1) := by decide +kernel
theorem dX6_areTwoTowns_15 : decode cX6_areTwoTowns 15 = .ok (.bipush 6, 2) := by decide +kernel
theorem dX6_areTwoTowns_17 : decode cX6_areTwoTowns 17 = .ok (.if_icmp .ge 12, 3) := by decide +kernel
theorem dX6_areTwoTowns_20 : decode cX6_areTwoTowns 20 = .ok (.iload_n 0, 1) := by decide +kernel
theorem dX6_areTwoTowns_21 : decode cX6_areTwoTowns 21 = .ok (.iload_n 1, 1) := by decide +kernel
theorem dX6_areTwoTowns_22 : decode cX6_areTwoTowns 22 = .ok (.if_icmp .eq 7, 3) := by decide +kernel
theorem dX6_areTwoTowns_25 : decode cX6_areTwoTowns 25 = .ok (.iconst 1, 1) := by decide +kernel
theorem dX6_areTwoTowns_26 : decode cX6_areTwoTowns 26 = .ok (.goto 4, 3) := by decide +kernel
theorem dX6_areTwoTowns_29 : decode cX6_areTwoTowns 29 = .ok (.iconst 0, 1) := by decide +kernel
theorem dX6_areTwoTowns_30 : decode cX6_areTwoTowns 30 = .ok (.ireturn, 1) := by decide +kernel
theorem dX6_stallToday_0 : decode cX6_stallToday 0 = .ok (.aload_n 0, 1) := by decide +kernel
theorem dX6_stallToday_1 : decode cX6_stallToday 1 = .ok (.getfield 10, 3) := by decide +kernel
theorem dX6_stallToday_4 : decode cX6_stallToday 4 = .ok (.aload_n 0, 1) := by decide +kernel
theorem dX6_stallToday_5 : decode cX6_stallToday 5 = .ok (.getfield 10, 3) := by decide +kernel
theorem dX6_stallToday_8 : decode cX6_stallToday 8 = .ok (.getfield 63, 3) := by decide +kernel
theorem dX6_stallToday_11 : decode cX6_stallToday 11 = .ok (.invokevirtual 47, 3) := by decide +kernel
theorem dX6_stallToday_14 : decode cX6_stallToday 14 = .ok (.istore_n 1, 1) := by decide +kernel
theorem dX6_stallToday_15 : decode cX6_stallToday 15 = .ok (.iload_n 1, 1) := by decide +kernel
theorem dX6_stallToday_16 : decode cX6_stallToday 16 = .ok (.bipush 6, 2) := by decide +kernel
theorem dX6_stallToday_18 : decode cX6_stallToday 18 = .ok (.if_icmp .ne 8, 3) := by decide +kernel
theorem dX6_stallToday_21 : decode cX6_stallToday 21 = .ok (.bipush (-4), 2) := by decide +kernel
theorem dX6_stallToday_23 : decode cX6_stallToday 23 = .ok (.goto 4, 3) := by decide +kernel
theorem dX6_stallToday_26 : decode cX6_stallToday 26 = .ok (.iload_n 1, 1) := by decide +kernel
theorem dX6_stallToday_27 : decode cX6_stallToday 27 = .ok (.ireturn, 1) := by decide +kernel
theorem dX6_shiftedDelayOf_0 : decode cX6_shiftedDelayOf 0 = .ok (.aload_n 0, 1) := by decide +kernel
theorem dX6_shiftedDelayOf_1 : decode cX6_shiftedDelayOf 1 = .ok (.aload_n 1, 1) := by decide +kernel
theorem dX6_shiftedDelayOf_2 : decode cX6_shiftedDelayOf 2 = .ok (.invokevirtual 214, 3) := by decide +kernel
theorem dX6_shiftedDelayOf_5 : decode cX6_shiftedDelayOf 5 = .ok (.istore_n 2, 1) := by decide +kernel
theorem dX6_shiftedDelayOf_6 : decode cX6_shiftedDelayOf 6 = .ok (.iload_n 2, 1) := by decide +kernel
theorem dX6_shiftedDelayOf_7 : decode cX6_shiftedDelayOf 7 = .ok (.ldc 217, 2) := by decide +kernel
theorem dX6_shiftedDelayOf_9 : decode cX6_shiftedDelayOf 9 = .ok (.if_icmp .ne 8, 3) := by decide +kernel
theorem dX6_shiftedDelayOf_12 : decode cX6_shiftedDelayOf 12 = .ok (.bipush (-4), 2) := by decide +kernel
theorem dX6_shiftedDelayOf_14 : decode cX6_shiftedDelayOf 14 = .ok (.goto 8, 3) := by decide +kernel
theorem dX6_shiftedDelayOf_17 : decode cX6_shiftedDelayOf 17 = .ok (.iload_n 2, 1) := by decide +kernel
theorem dX6_shiftedDelayOf_18 : decode cX6_shiftedDelayOf 18 = .ok (.sipush 1000, 3) := by decide +kernel
theorem dX6_shiftedDelayOf_21 : decode cX6_shiftedDelayOf 21 = .ok (.iadd, 1) := by decide +kernel
theorem dX6_shiftedDelayOf_22 : decode cX6_shiftedDelayOf 22 = .ok (.ireturn, 1) := by decide +kernel
theorem dX6_delayOf_0 : decode cX6_delayOf 0 = .ok (.aload_n 1, 1) := by decide +kernel
theorem dX6_delayOf_1 : decode cX6_delayOf 1 = .ok (.ifnull 12, 3) := by decide +kernel
theorem dX6_delayOf_4 : decode cX6_delayOf 4 = .ok (.aload_n 1, 1) := by decide +kernel
theorem dX6_delayOf_5 : decode cX6_delayOf 5 = .ok (.getfield 167, 3) := by decide +kernel
theorem dX6_delayOf_8 : decode cX6_delayOf 8 = .ok (.bipush (-4), 2) := by decide +kernel
theorem dX6_delayOf_10 : decode cX6_delayOf 10 = .ok (.if_icmp .ne 6, 3) := by decide +kernel
theorem dX6_delayOf_13 : decode cX6_delayOf 13 = .ok (.ldc 217, 2) := by decide +kernel
theorem dX6_delayOf_15 : decode cX6_delayOf 15 = .ok (.ireturn, 1) := by decide +kernel
theorem dX6_delayOf_16 : decode cX6_delayOf 16 = .ok (.aload_n 0, 1) := by decide +kernel
theorem dX6_delayOf_17 : decode cX6_delayOf 17 = .ok (.getfield 39, 3) := by decide +kernel
theorem dX6_delayOf_20 : decode cX6_delayOf 20 = .ok (.aload_n 0, 1) := by decide +kernel
theorem dX6_delayOf_21 : decode cX6_delayOf 21 = .ok (.getfield 10, 3) := by decide +kernel
theorem dX6_delayOf_24 : decode cX6_delayOf 24 = .ok (.aload_n 1, 1) := by decide +kernel
theorem dX6_delayOf_25 : decode cX6_delayOf 25 = .ok (.invokevirtual 181, 3) := by decide +kernel
theorem dX6_delayOf_28 : decode cX6_delayOf 28 = .ok (.istore_n 2, 1) := by decide +kernel
theorem dX6_delayOf_29 : decode cX6_delayOf 29 = .ok (.iload_n 2, 1) := by decide +kernel
theorem dX6_delayOf_30 : decode cX6_delayOf 30 = .ok (.bipush (-4), 2) := by decide +kernel
theorem dX6_delayOf_32 : decode cX6_delayOf 32 = .ok (.if_icmp .ne 8, 3) := by decide +kernel
theorem dX6_delayOf_35 : decode cX6_delayOf 35 = .ok (.ldc 217, 2) := by decide +kernel
theorem dX6_delayOf_37 : decode cX6_delayOf 37 = .ok (.goto 9, 3) := by decide +kernel
theorem dX6_delayOf_40 : decode cX6_delayOf 40 = .ok (.iload_n 2, 1) := by decide +kernel
theorem dX6_delayOf_41 : decode cX6_delayOf 41 = .ok (.aload_n 1, 1) := by decide +kernel
theorem dX6_delayOf_42 : decode cX6_delayOf 42 = .ok (.getfield 167, 3) := by decide +kernel
theorem dX6_delayOf_45 : decode cX6_delayOf 45 = .ok (.isub, 1) := by decide +kernel
theorem dX6_delayOf_46 : decode cX6_delayOf 46 = .ok (.ireturn, 1) := by decide +kernel
theorem dX6_addCarriersOfPad_0 : decode cX6_addCarriersOfPad 0 = .ok (.aload_n 0, 1) := by decide +kernel
theorem dX6_addCarriersOfPad_1 : decode cX6_addCarriersOfPad 1 = .ok (.getfield 10, 3) := by decide +kernel
theorem dX6_addCarriersOfPad_4 : decode cX6_addCarriersOfPad 4 = .ok (.invokevirtual 236, 3) := by decide +kernel
theorem dX6_addCarriersOfPad_7 : decode cX6_addCarriersOfPad 7 = .ok (.astore_n 1, 1) := by decide +kernel
theorem dX6_addCarriersOfPad_8 : decode cX6_addCarriersOfPad 8 = .ok (.iconst 0, 1) := by decide +kernel
theorem dX6_addCarriersOfPad_9 : decode cX6_addCarriersOfPad 9 = .ok (.istore_n 2, 1) := by decide +kernel
theorem dX6_addCarriersOfPad_10 : decode cX6_addCarriersOfPad 10 = .ok (.iload_n 2, 1) := by decide +kernel
theorem dX6_addCarriersOfPad_11 : decode cX6_addCarriersOfPad 11 = .ok (.aload_n 0, 1) := by decide +kernel
theorem dX6_addCarriersOfPad_12 : decode cX6_addCarriersOfPad 12 = .ok (.getfield 32, 3) := by decide +kernel
theorem dX6_addCarriersOfPad_15 : decode cX6_addCarriersOfPad 15 = .ok (.getfield 108, 3) := by decide +kernel
theorem dX6_addCarriersOfPad_18 : decode cX6_addCarriersOfPad 18 = .ok (.if_icmp .ge 74, 3) := by decide +kernel
theorem dX6_addCarriersOfPad_21 : decode cX6_addCarriersOfPad 21 = .ok (.aload_n 1, 1) := by decide +kernel
theorem dX6_addCarriersOfPad_22 : decode cX6_addCarriersOfPad 22 = .ok (.ifnull 70, 3) := by decide +kernel
theorem dX6_addCarriersOfPad_25 : decode cX6_addCarriersOfPad 25 = .ok (.aload_n 0, 1) := by decide +kernel
theorem dX6_addCarriersOfPad_26 : decode cX6_addCarriersOfPad 26 = .ok (.getfield 32, 3) := by decide +kernel
theorem dX6_addCarriersOfPad_29 : decode cX6_addCarriersOfPad 29 = .ok (.iload_n 2, 1) := by decide +kernel
theorem dX6_addCarriersOfPad_30 : decode cX6_addCarriersOfPad 30 = .ok (.invokevirtual 130, 3) := by decide +kernel
theorem dX6_addCarriersOfPad_33 : decode cX6_addCarriersOfPad 33 = .ok (.istore_n 3, 1) := by decide +kernel
theorem dX6_addCarriersOfPad_34 : decode cX6_addCarriersOfPad 34 = .ok (.iload_n 3, 1) := by decide +kernel
theorem dX6_addCarriersOfPad_35 : decode cX6_addCarriersOfPad 35 = .ok (.bipush 59, 2) := by decide +kernel
theorem dX6_addCarriersOfPad_37 : decode cX6_addCarriersOfPad 37 = .ok (.if_icmp .ne 14, 3) := by decide +kernel
theorem dX6_addCarriersOfPad_40 : decode cX6_addCarriersOfPad 40 = .ok (.aload_n 0, 1) := by decide +kernel
theorem dX6_addCarriersOfPad_41 : decode cX6_addCarriersOfPad 41 = .ok (.getfield 10, 3) := by decide +kernel
theorem dX6_addCarriersOfPad_44 : decode cX6_addCarriersOfPad 44 = .ok (.invokevirtual 236, 3) := by decide +kernel
theorem dX6_addCarriersOfPad_47 : decode cX6_addCarriersOfPad 47 = .ok (.astore_n 1, 1) := by decide +kernel
theorem dX6_addCarriersOfPad_48 : decode cX6_addCarriersOfPad 48 = .ok (.goto 38, 3) := by decide +kernel
theorem dX6_addCarriersOfPad_51 : decode cX6_addCarriersOfPad 51 = .ok (.iload_n 3, 1) := by decide +kernel
theorem dX6_addCarriersOfPad_52 : decode cX6_addCarriersOfPad 52 = .ok (.bipush 42, 2) := by decide +kernel
theorem dX6_addCarriersOfPad_54 : decode cX6_addCarriersOfPad 54 = .ok (.if_icmp .ne 24, 3) := by decide +kernel
theorem dX6_addCarriersOfPad_57 : decode cX6_addCarriersOfPad 57 = .ok (.iinc 2 1, 3) := by decide +kernel
theorem dX6_addCarriersOfPad_60 : decode cX6_addCarriersOfPad 60 = .ok (.aload_n 1, 1) := by decide +kernel
theorem dX6_addCarriersOfPad_61 : decode cX6_addCarriersOfPad 61 = .ok (.aload_n 0, 1) := by decide +kernel
theorem dX6_addCarriersOfPad_62 : decode cX6_addCarriersOfPad 62 = .ok (.getfield 32, 3) := by decide +kernel
theorem dX6_addCarriersOfPad_65 : decode cX6_addCarriersOfPad 65 = .ok (.iload_n 2, 1) := by decide +kernel
theorem dX6_addCarriersOfPad_66 : decode cX6_addCarriersOfPad 66 = .ok (.invokevirtual 130, 3) := by decide +kernel
theorem dX6_addCarriersOfPad_69 : decode cX6_addCarriersOfPad 69 = .ok (.bipush 48, 2) := by decide +kernel
theorem dX6_addCarriersOfPad_71 : decode cX6_addCarriersOfPad 71 = .ok (.isub, 1) := by decide +kernel
theorem dX6_addCarriersOfPad_72 : decode cX6_addCarriersOfPad 72 = .ok (.putfield 72, 3) := by decide +kernel
theorem dX6_addCarriersOfPad_75 : decode cX6_addCarriersOfPad 75 = .ok (.goto 11, 3) := by decide +kernel
theorem dX6_addCarriersOfPad_78 : decode cX6_addCarriersOfPad 78 = .ok (.aload_n 1, 1) := by decide +kernel
theorem dX6_addCarriersOfPad_79 : decode cX6_addCarriersOfPad 79 = .ok (.iload_n 3, 1) := by decide +kernel
theorem dX6_addCarriersOfPad_80 : decode cX6_addCarriersOfPad 80 = .ok (.bipush 48, 2) := by decide +kernel
theorem dX6_addCarriersOfPad_82 : decode cX6_addCarriersOfPad 82 = .ok (.isub, 1) := by decide +kernel
theorem dX6_addCarriersOfPad_83 : decode cX6_addCarriersOfPad 83 = .ok (.invokevirtual 240, 3) := by decide +kernel
theorem dX6_addCarriersOfPad_86 : decode cX6_addCarriersOfPad 86 = .ok (.iinc 2 1, 3) := by decide +kernel
theorem dX6_addCarriersOfPad_89 : decode cX6_addCarriersOfPad 89 = .ok (.goto (-79), 3) := by decide +kernel
theorem dX6_addCarriersOfPad_92 : decode cX6_addCarriersOfPad 92 = .ok (.return_, 1) := by decide +kernel
theorem dX7_init_0 : decode cX7_init 0 = .ok (.aload_n 0, 1) := by decide +kernel
theorem dX7_init_1 : decode cX7_init 1 = .ok (.invokespecial 1, 3) := by decide +kernel
theorem dX7_init_4 : decode cX7_init 4 = .ok (.aload_n 0, 1) := by decide +kernel
theorem dX7_init_5 : decode cX7_init 5 = .ok (.sipush 128, 3) := by decide +kernel
theorem dX7_init_8 : decode cX7_init 8 = .ok (.newarray .int, 2) := by decide +kernel
theorem dX7_init_10 : decode cX7_init 10 = .ok (.putfield 7, 3) := by decide +kernel
theorem dX7_init_13 : decode cX7_init 13 = .ok (.aload_n 0, 1) := by decide +kernel
theorem dX7_init_14 : decode cX7_init 14 = .ok (.sipush 128, 3) := by decide +kernel
theorem dX7_init_17 : decode cX7_init 17 = .ok (.newarray .int, 2) := by decide +kernel
theorem dX7_init_19 : decode cX7_init 19 = .ok (.putfield 13, 3) := by decide +kernel
theorem dX7_init_22 : decode cX7_init 22 = .ok (.aload_n 0, 1) := by decide +kernel
theorem dX7_init_23 : decode cX7_init 23 = .ok (.sipush 512, 3) := by decide +kernel
theorem dX7_init_26 : decode cX7_init 26 = .ok (.newarray .int, 2) := by decide +kernel
theorem dX7_init_28 : decode cX7_init 28 = .ok (.putfield 16, 3) := by decide +kernel
theorem dX7_init_31 : decode cX7_init 31 = .ok (.aload_n 0, 1) := by decide +kernel
theorem dX7_init_32 : decode cX7_init 32 = .ok (.sipush 128, 3) := by decide +kernel
theorem dX7_init_35 : decode cX7_init 35 = .ok (.newarray .int, 2) := by decide +kernel
theorem dX7_init_37 : decode cX7_init 37 = .ok (.putfield 19, 3) := by decide +kernel
theorem dX7_init_40 : decode cX7_init 40 = .ok (.aload_n 0, 1) := by decide +kernel
theorem dX7_init_41 : decode cX7_init 41 = .ok (.bipush 60, 2) := by decide +kernel
theorem dX7_init_43 : decode cX7_init 43 = .ok (.newarray .int, 2) := by decide +kernel
theorem dX7_init_45 : decode cX7_init 45 = .ok (.putfield 22, 3) := by decide +kernel
theorem dX7_init_48 : decode cX7_init 48 = .ok (.aload_n 0, 1) := by decide +kernel
theorem dX7_init_49 : decode cX7_init 49 = .ok (.sipush 300, 3) := by decide +kernel
theorem dX7_init_52 : decode cX7_init 52 = .ok (.newarray .int, 2) := by decide +kernel
theorem dX7_init_54 : decode cX7_init 54 = .ok (.putfield 25, 3) := by decide +kernel
theorem dX7_init_57 : decode cX7_init 57 = .ok (.aload_n 0, 1) := by decide +kernel
theorem dX7_init_58 : decode cX7_init 58 = .ok (.getfield 7, 3) := by decide +kernel
theorem dX7_init_61 : decode cX7_init 61 = .ok (.iconst 1, 1) := by decide +kernel
theorem dX7_init_62 : decode cX7_init 62 = .ok (.iconst 3, 1) := by decide +kernel
theorem dX7_init_63 : decode cX7_init 63 = .ok (.iastore, 1) := by decide +kernel
theorem dX7_init_64 : decode cX7_init 64 = .ok (.aload_n 0, 1) := by decide +kernel
theorem dX7_init_65 : decode cX7_init 65 = .ok (.getfield 7, 3) := by decide +kernel
theorem dX7_init_68 : decode cX7_init 68 = .ok (.iconst 2, 1) := by decide +kernel
theorem dX7_init_69 : decode cX7_init 69 = .ok (.iconst 1, 1) := by decide +kernel
theorem dX7_init_70 : decode cX7_init 70 = .ok (.iastore, 1) := by decide +kernel
theorem dX7_init_71 : decode cX7_init 71 = .ok (.return_, 1) := by decide +kernel
theorem dX7_in_0 : decode cX7_in 0 = .ok (.iload_n 0, 1) := by decide +kernel
theorem dX7_in_1 : decode cX7_in 1 = .ok (.iload_n 1, 1) := by decide +kernel
theorem dX7_in_2 : decode cX7_in 2 = .ok (.if_icmp .lt 12, 3) := by decide +kernel
theorem dX7_in_5 : decode cX7_in 5 = .ok (.iload_n 0, 1) := by decide +kernel
theorem dX7_in_6 : decode cX7_in 6 = .ok (.iload_n 2, 1) := by decide +kernel
theorem dX7_in_7 : decode cX7_in 7 = .ok (.if_icmp .gt 7, 3) := by decide +kernel
theorem dX7_in_10 : decode cX7_in 10 = .ok (.iconst 1, 1) := by decide +kernel
theorem dX7_in_11 : decode cX7_in 11 = .ok (.goto 4, 3) := by decide +kernel
theorem dX7_in_14 : decode cX7_in 14 = .ok (.iconst 0, 1) := by decide +kernel
theorem dX7_in_15 : decode cX7_in 15 = .ok (.ireturn, 1) := by decide +kernel
theorem dX7_copies_0 : decode cX7_copies 0 = .ok (.iconst 0, 1) := by decide +kernel
theorem dX7_copies_1 : decode cX7_copies 1 = .ok (.istore 4, 2) := by decide +kernel
theorem dX7_copies_3 : decode cX7_copies 3 = .ok (.iload 4, 2) := by decide +kernel
theorem dX7_copies_5 : decode cX7_copies 5 = .ok (.sipush 128, 3) := by decide +kernel
theorem dX7_copies_8 : decode cX7_copies 8 = .ok (.if_icmp .ge 21, 3) := by decide +kernel
theorem dX7_copies_11 : decode cX7_copies 11 = .ok (.aload_n 2, 1) := by decide +kernel
theorem dX7_copies_12 : decode cX7_copies 12 = .ok (.iload_n 3, 1) := by decide +kernel
theorem dX7_copies_13 : decode cX7_copies 13 = .ok (.iload 4, 2) := by decide +kernel
theorem dX7_copies_15 : decode cX7_copies 15 = .ok (.iadd, 1) := by decide +kernel
theorem dX7_copies_16 : decode cX7_copies 16 = .ok (.aload_n 0, 1) := by decide +kernel
theorem dX7_copies_17 : decode cX7_copies 17 = .ok (.iload_n 1, 1) := by decide +kernel
theorem dX7_copies_18 : decode cX7_copies 18 = .ok (.iload 4, 2) := by decide +kernel
theorem dX7_copies_20 : decode cX7_copies 20 = .ok (.iadd, 1) := by decide +kernel
theorem dX7_copies_21 : decode cX7_copies 21 = .ok (.iaload, 1) := by decide +kernel
theorem dX7_copies_22 : decode cX7_copies 22 = .ok (.iastore, 1) := by decide +kernel
theorem dX7_copies_23 : decode cX7_copies 23 = .ok (.iinc 4 1, 3) := by decide +kernel
theorem dX7_copies_26 : decode cX7_copies 26 = .ok (.goto (-23), 3) := by decide +kernel
theorem dX7_copies_29 : decode cX7_copies 29 = .ok (.return_, 1) := by decide +kernel
theorem dX7_records_0 : decode cX7_records 0 = .ok (.aload_n 0, 1) := by decide +kernel
theorem dX7_records_1 : decode cX7_records 1 = .ok (.getfield 28, 3) := by decide +kernel
theorem dX7_records_4 : decode cX7_records 4 = .ok (.iconst 4, 1) := by decide +kernel
theorem dX7_records_5 : decode cX7_records 5 = .ok (.if_icmp .ne 44, 3) := by decide +kernel
theorem dX7_records_8 : decode cX7_records 8 = .ok (.iconst 0, 1) := by decide +kernel
theorem dX7_records_9 : decode cX7_records 9 = .ok (.istore_n 1, 1) := by decide +kernel
theorem dX7_records_10 : decode cX7_records 10 = .ok (.iload_n 1, 1) := by decide +kernel
theorem dX7_records_11 : decode cX7_records 11 = .ok (.sipush 384, 3) := by decide +kernel
theorem dX7_records_14 : decode cX7_records 14 = .ok (.if_icmp .ge 25, 3) := by decide +kernel
theorem dX7_records_17 : decode cX7_records 17 = .ok (.aload_n 0, 1) := by decide +kernel
theorem dX7_records_18 : decode cX7_records 18 = .ok (.getfield 16, 3) := by decide +kernel
theorem dX7_records_21 : decode cX7_records 21 = .ok (.iload_n 1, 1) := by decide +kernel
theorem dX7_records_22 : decode cX7_records 22 = .ok (.aload_n 0, 1) := by decide +kernel
theorem dX7_records_23 : decode cX7_records 23 = .ok (.getfield 16, 3) := by decide +kernel
theorem dX7_records_26 : decode cX7_records 26 = .ok (.iload_n 1, 1) := by decide +kernel
theorem dX7_records_27 : decode cX7_records 27 = .ok (.sipush 128, 3) := by decide +kernel
theorem dX7_records_30 : decode cX7_records 30 = .ok (.iadd, 1) := by decide +kernel
theorem dX7_records_31 : decode cX7_records 31 = .ok (.iaload, 1) := by decide +kernel
theorem dX7_records_32 : decode cX7_records 32 = .ok (.iastore, 1) := by decide +kernel
theorem dX7_records_33 : decode cX7_records 33 = .ok (.iinc 1 1, 3) := by decide +kernel
theorem dX7_records_36 : decode cX7_records 36 = .ok (.goto (-26), 3) := by decide +kernel
theorem dX7_records_39 : decode cX7_records 39 = .ok (.aload_n 0, 1) := by decide +kernel
theorem dX7_records_40 : decode cX7_records 40 = .ok (.dup, 1) := by decide +kernel
theorem dX7_records_41 : decode cX7_records 41 = .ok (.getfield 28, 3) := by decide +kernel
theorem dX7_records_44 : decode cX7_records 44 = .ok (.iconst 1, 1) := by decide +kernel
theorem dX7_records_45 : decode cX7_records 45 = .ok (.isub, 1) := by decide +kernel
theorem dX7_records_46 : decode cX7_records 46 = .ok (.putfield 28, 3) := by decide +kernel
theorem dX7_records_49 : decode cX7_records 49 = .ok (.aload_n 0, 1) := by decide +kernel
theorem dX7_records_50 : decode cX7_records 50 = .ok (.getfield 7, 3) := by decide +kernel
theorem dX7_records_53 : decode cX7_records 53 = .ok (.iconst 0, 1) := by decide +kernel
theorem dX7_records_54 : decode cX7_records 54 = .ok (.aload_n 0, 1) := by decide +kernel
theorem dX7_records_55 : decode cX7_records 55 = .ok (.getfield 16, 3) := by decide +kernel
theorem dX7_records_58 : decode cX7_records 58 = .ok (.sipush 128, 3) := by decide +kernel
theorem dX7_records_61 : decode cX7_records 61 = .ok (.aload_n 0, 1) := by decide +kernel
theorem dX7_records_62 : decode cX7_records 62 = .ok (.getfield 28, 3) := by decide +kernel
theorem dX7_records_65 : decode cX7_records 65 = .ok (.imul, 1) := by decide +kernel
theorem dX7_records_66 : decode cX7_records 66 = .ok (.invokestatic 32, 3) := by decide +kernel
theorem dX7_records_69 : decode cX7_records 69 = .ok (.aload_n 0, 1) := by decide +kernel
theorem dX7_records_70 : decode cX7_records 70 = .ok (.dup, 1) := by decide +kernel
theorem dX7_records_71 : decode cX7_records 71 = .ok (.getfield 28, 3) := by decide +kernel
theorem dX7_records_74 : decode cX7_records 74 = .ok (.iconst 1, 1) := by decide +kernel
theorem dX7_records_75 : decode cX7_records 75 = .ok (.iadd, 1) := by decide +kernel
theorem dX7_records_76 : decode cX7_records 76 = .ok (.putfield 28, 3) := by decide +kernel
theorem dX7_records_79 : decode cX7_records 79 = .ok (.return_, 1) := by decide +kernel
theorem dX7_isCarrier_0 : decode cX7_isCarrier 0 = .ok (.iload_n 1, 1) := by decide +kernel
theorem dX7_isCarrier_1 : decode cX7_isCarrier 1 = .ok (.iconst 0, 1) := by decide +kernel
theorem dX7_isCarrier_2 : decode cX7_isCarrier 2 = .ok (.aload_n 0, 1) := by decide +kernel
theorem dX7_isCarrier_3 : decode cX7_isCarrier 3 = .ok (.getfield 7, 3) := by decide +kernel
theorem dX7_isCarrier_6 : decode cX7_isCarrier 6 = .ok (.iconst 3, 1) := by decide +kernel
theorem dX7_isCarrier_7 : decode cX7_isCarrier 7 = .ok (.iaload, 1) := by decide +kernel
theorem dX7_isCarrier_8 : decode cX7_isCarrier 8 = .ok (.iconst 1, 1) := by decide +kernel
theorem dX7_isCarrier_9 : decode cX7_isCarrier 9 = .ok (.isub, 1) := by decide +kernel
theorem dX7_isCarrier_10 : decode cX7_isCarrier 10 = .ok (.invokestatic 36, 3) := by decide +kernel
theorem dX7_isCarrier_13 : decode cX7_isCarrier 13 = .ok (.ireturn, 1) := by decide +kernel
theorem dX7_isBundle_0 : decode cX7_isBundle 0 = .ok (.iload_n 1, 1) := by decide +kernel
theorem dX7_isBundle_1 : decode cX7_isBundle 1 = .ok (.iconst 0, 1) := by decide +kernel
theorem dX7_isBundle_2 : decode cX7_isBundle 2 = .ok (.aload_n 0, 1) := by decide +kernel
theorem dX7_isBundle_3 : decode cX7_isBundle 3 = .ok (.getfield 7, 3) := by decide +kernel
theorem dX7_isBundle_6 : decode cX7_isBundle 6 = .ok (.iconst 4, 1) := by decide +kernel
theorem dX7_isBundle_7 : decode cX7_isBundle 7 = .ok (.iaload, 1) := by decide +kernel
theorem dX7_isBundle_8 : decode cX7_isBundle 8 = .ok (.iconst 1, 1) := by decide +kernel
theorem dX7_isBundle_9 : decode cX7_isBundle 9 = .ok (.isub, 1) := by decide +kernel
theorem dX7_isBundle_10 : decode cX7_isBundle 10 = .ok (.invokestatic 36, 3) := by decide +kernel
theorem dX7_isBundle_13 : decode cX7_isBundle 13 = .ok (.ireturn, 1) := by decide +kernel
theorem dX7_isTown_0 : decode cX7_isTown 0 = .ok (.iload_n 0, 1) := by decide +kernel
theorem dX7_isTown_1 : decode cX7_isTown 1 = .ok (.iconst 0, 1) := by decide +kernel
theorem dX7_isTown_2 : decode cX7_isTown 2 = .ok (.iconst 5, 1) := by decide +kernel
theorem dX7_isTown_3 : decode cX7_isTown 3 = .ok (.invokestatic 36, 3) := by decide +kernel
theorem dX7_isTown_6 : decode cX7_isTown 6 = .ok (.ireturn, 1) := by decide +kernel
theorem dX7_ofCarrier_0 : decode cX7_ofCarrier 0 = .ok (.aload_n 0, 1) := by decide +kernel
theorem dX7_ofCarrier_1 : decode cX7_ofCarrier 1 = .ok (.getfield 7, 3) := by decide +kernel
theorem dX7_ofCarrier_4 : decode cX7_ofCarrier 4 = .ok (.bipush 16, 2) := by decide +kernel
theorem dX7_ofCarrier_6 : decode cX7_ofCarrier 6 = .ok (.bipush 12, 2) := by decide +kernel
theorem dX7_ofCarrier_8 : decode cX7_ofCarrier 8 = .ok (.iload_n 1, 1) := by decide +kernel
theorem dX7_ofCarrier_9 : decode cX7_ofCarrier 9 = .ok (.imul, 1) := by decide +kernel
theorem dX7_ofCarrier_10 : decode cX7_ofCarrier 10 = .ok (.iadd, 1) := by decide +kernel
theorem dX7_ofCarrier_11 : decode cX7_ofCarrier 11 = .ok (.iload_n 2, 1) := by decide +kernel
theorem dX7_ofCarrier_12 : decode cX7_ofCarrier 12 = .ok (.iadd, 1) := by decide +kernel
theorem dX7_ofCarrier_13 : decode cX7_ofCarrier 13 = .ok (.iaload, 1) := by decide +kernel
theorem dX7_ofCarrier_14 : decode cX7_ofCarrier 14 = .ok (.ireturn, 1) := by decide +kernel
theorem dX7_addsCarrier_0 : decode cX7_addsCarrier 0 = .ok (.aload_n 0, 1) := by decide +kernel
theorem dX7_addsCarrier_1 : decode cX7_addsCarrier 1 = .ok (.getfield 7, 3) := by decide +kernel
theorem dX7_addsCarrier_4 : decode cX7_addsCarrier 4 = .ok (.bipush 16, 2) := by decide +kernel
theorem dX7_addsCarrier_6 : decode cX7_addsCarrier 6 = .ok (.bipush 12, 2) := by decide +kernel
theorem dX7_addsCarrier_8 : decode cX7_addsCarrier 8 = .ok (.iload_n 1, 1) := by decide +kernel
theorem dX7_addsCarrier_9 : decode cX7_addsCarrier 9 = .ok (.imul, 1) := by decide +kernel
theorem dX7_addsCarrier_10 : decode cX7_addsCarrier 10 = .ok (.iadd, 1) := by decide +kernel
theorem dX7_addsCarrier_11 : decode cX7_addsCarrier 11 = .ok (.iload_n 2, 1) := by decide +kernel
theorem dX7_addsCarrier_12 : decode cX7_addsCarrier 12 = .ok (.iadd, 1) := by decide +kernel
theorem dX7_addsCarrier_13 : decode cX7_addsCarrier 13 = .ok (.dup2, 1) := by decide +kernel
theorem dX7_addsCarrier_14 : decode cX7_addsCarrier 14 = .ok (.iaload, 1) := by decide +kernel
theorem dX7_addsCarrier_15 : decode cX7_addsCarrier 15 = .ok (.iload_n 3, 1) := by decide +kernel
theorem dX7_addsCarrier_16 : decode cX7_addsCarrier 16 = .ok (.iadd, 1) := by decide +kernel
theorem dX7_addsCarrier_17 : decode cX7_addsCarrier 17 = .ok (.iastore, 1) := by decide +kernel
theorem dX7_addsCarrier_18 : decode cX7_addsCarrier 18 = .ok (.return_, 1) := by decide +kernel
theorem dX7_of_0 : decode cX7_of 0 = .ok (.aload_n 0, 1) := by decide +kernel
theorem dX7_of_1 : decode cX7_of 1 = .ok (.getfield 7, 3) := by decide +kernel
theorem dX7_of_4 : decode cX7_of 4 = .ok (.bipush 64, 2) := by decide +kernel
theorem dX7_of_6 : decode cX7_of 6 = .ok (.bipush 8, 2) := by decide +kernel
theorem dX7_of_8 : decode cX7_of 8 = .ok (.iload_n 1, 1) := by decide +kernel
theorem dX7_of_9 : decode cX7_of 9 = .ok (.imul, 1) := by decide +kernel
theorem dX7_of_10 : decode cX7_of 10 = .ok (.iadd, 1) := by decide +kernel
theorem dX7_of_11 : decode cX7_of 11 = .ok (.iload_n 2, 1) := by decide +kernel
theorem dX7_of_12 : decode cX7_of 12 = .ok (.iadd, 1) := by decide +kernel
theorem dX7_of_13 : decode cX7_of 13 = .ok (.iaload, 1) := by decide +kernel
theorem dX7_of_14 : decode cX7_of 14 = .ok (.ireturn, 1) := by decide +kernel
theorem dX7_lays_0 : decode cX7_lays 0 = .ok (.aload_n 0, 1) := by decide +kernel
theorem dX7_lays_1 : decode cX7_lays 1 = .ok (.getfield 7, 3) := by decide +kernel
theorem dX7_lays_4 : decode cX7_lays 4 = .ok (.bipush 64, 2) := by decide +kernel
theorem dX7_lays_6 : decode cX7_lays 6 = .ok (.bipush 8, 2) := by decide +kernel
theorem dX7_lays_8 : decode cX7_lays 8 = .ok (.iload_n 1, 1) := by decide +kernel
theorem dX7_lays_9 : decode cX7_lays 9 = .ok (.imul, 1) := by decide +kernel
theorem dX7_lays_10 : decode cX7_lays 10 = .ok (.iadd, 1) := by decide +kernel
theorem dX7_lays_11 : decode cX7_lays 11 = .ok (.iload_n 2, 1) := by decide +kernel
theorem dX7_lays_12 : decode cX7_lays 12 = .ok (.iadd, 1) := by decide +kernel
theorem dX7_lays_13 : decode cX7_lays 13 = .ok (.iload_n 3, 1) := by decide +kernel
theorem dX7_lays_14 : decode cX7_lays 14 = .ok (.iastore, 1) := by decide +kernel
theorem dX7_lays_15 : decode cX7_lays 15 = .ok (.return_, 1) := by decide +kernel
theorem dX7_townOf_0 : decode cX7_townOf 0 = .ok (.iload_n 2, 1) := by decide +kernel
theorem dX7_townOf_1 : decode cX7_townOf 1 = .ok (.aload_n 0, 1) := by decide +kernel
theorem dX7_townOf_2 : decode cX7_townOf 2 = .ok (.iload_n 1, 1) := by decide +kernel
theorem dX7_townOf_3 : decode cX7_townOf 3 = .ok (.bipush 9, 2) := by decide +kernel
theorem dX7_townOf_5 : decode cX7_townOf 5 = .ok (.invokevirtual 40, 3) := by decide +kernel
theorem dX7_townOf_8 : decode cX7_townOf 8 = .ok (.if_icmp .ge 8, 3) := by decide +kernel
theorem dX7_townOf_11 : decode cX7_townOf 11 = .ok (.bipush (-4), 2) := by decide +kernel
theorem dX7_townOf_13 : decode cX7_townOf 13 = .ok (.goto 18, 3) := by decide +kernel
theorem dX7_townOf_16 : decode cX7_townOf 16 = .ok (.aload_n 0, 1) := by decide +kernel
theorem dX7_townOf_17 : decode cX7_townOf 17 = .ok (.iload_n 1, 1) := by decide +kernel
theorem dX7_townOf_18 : decode cX7_townOf 18 = .ok (.iconst 1, 1) := by decide +kernel
theorem dX7_townOf_19 : decode cX7_townOf 19 = .ok (.iload_n 2, 1) := by decide +kernel
theorem dX7_townOf_20 : decode cX7_townOf 20 = .ok (.aload_n 0, 1) := by decide +kernel
theorem dX7_townOf_21 : decode cX7_townOf 21 = .ok (.iload_n 1, 1) := by decide +kernel
theorem dX7_townOf_22 : decode cX7_townOf 22 = .ok (.iconst 0, 1) := by decide +kernel
theorem dX7_townOf_23 : decode cX7_townOf 23 = .ok (.invokevirtual 40, 3) := by decide +kernel
theorem dX7_townOf_26 : decode cX7_townOf 26 = .ok (.irem, 1) := by decide +kernel
theorem dX7_townOf_27 : decode cX7_townOf 27 = .ok (.iadd, 1) := by decide +kernel
theorem dX7_townOf_28 : decode cX7_townOf 28 = .ok (.invokevirtual 40, 3) := by decide +kernel
theorem dX7_townOf_31 : decode cX7_townOf 31 = .ok (.ireturn, 1) := by decide +kernel
theorem dX7_stallOn_0 : decode cX7_stallOn 0 = .ok (.aload_n 0, 1) := by decide +kernel
theorem dX7_stallOn_1 : decode cX7_stallOn 1 = .ok (.getfield 7, 3) := by decide +kernel
theorem dX7_stallOn_4 : decode cX7_stallOn 4 = .ok (.bipush 9, 2) := by decide +kernel
theorem dX7_stallOn_6 : decode cX7_stallOn 6 = .ok (.iload_n 1, 1) := by decide +kernel
theorem dX7_stallOn_7 : decode cX7_stallOn 7 = .ok (.bipush 7, 2) := by decide +kernel
theorem dX7_stallOn_9 : decode cX7_stallOn 9 = .ok (.irem, 1) := by decide +kernel
theorem dX7_stallOn_10 : decode cX7_stallOn 10 = .ok (.iadd, 1) := by decide +kernel
theorem dX7_stallOn_11 : decode cX7_stallOn 11 = .ok (.iaload, 1) := by decide +kernel
theorem dX7_stallOn_12 : decode cX7_stallOn 12 = .ok (.ireturn, 1) := by decide +kernel
theorem dX7_has_0 : decode cX7_has 0 = .ok (.iconst 0, 1) := by decide +kernel
theorem dX7_has_1 : decode cX7_has 1 = .ok (.istore_n 2, 1) := by decide +kernel
theorem dX7_has_2 : decode cX7_has 2 = .ok (.iconst 0, 1) := by decide +kernel
theorem dX7_has_3 : decode cX7_has 3 = .ok (.istore_n 3, 1) := by decide +kernel
theorem dX7_has_4 : decode cX7_has 4 = .ok (.iload_n 3, 1) := by decide +kernel
theorem dX7_has_5 : decode cX7_has 5 = .ok (.aload_n 0, 1) := by decide +kernel
theorem dX7_has_6 : decode cX7_has 6 = .ok (.getfield 7, 3) := by decide +kernel
theorem dX7_has_9 : decode cX7_has 9 = .ok (.iconst 4, 1) := by decide +kernel
theorem dX7_has_10 : decode cX7_has 10 = .ok (.iaload, 1) := by decide +kernel
theorem dX7_has_11 : decode cX7_has 11 = .ok (.if_icmp .ge 29, 3) := by decide +kernel
theorem dX7_has_14 : decode cX7_has 14 = .ok (.iload_n 2, 1) := by decide +kernel
theorem dX7_has_15 : decode cX7_has 15 = .ok (.aload_n 0, 1) := by decide +kernel
theorem dX7_has_16 : decode cX7_has 16 = .ok (.iload_n 3, 1) := by decide +kernel
theorem dX7_has_17 : decode cX7_has 17 = .ok (.iconst 2, 1) := by decide +kernel
theorem dX7_has_18 : decode cX7_has 18 = .ok (.invokevirtual 44, 3) := by decide +kernel
theorem dX7_has_21 : decode cX7_has 21 = .ok (.iload_n 1, 1) := by decide +kernel
theorem dX7_has_22 : decode cX7_has 22 = .ok (.iconst 1, 1) := by decide +kernel
theorem dX7_has_23 : decode cX7_has 23 = .ok (.iadd, 1) := by decide +kernel
theorem dX7_has_24 : decode cX7_has 24 = .ok (.if_icmp .ne 7, 3) := by decide +kernel
theorem dX7_has_27 : decode cX7_has 27 = .ok (.iconst 1, 1) := by decide +kernel
theorem dX7_has_28 : decode cX7_has 28 = .ok (.goto 4, 3) := by decide +kernel
theorem dX7_has_31 : decode cX7_has 31 = .ok (.iconst 0, 1) := by decide +kernel
theorem dX7_has_32 : decode cX7_has 32 = .ok (.iadd, 1) := by decide +kernel
theorem dX7_has_33 : decode cX7_has 33 = .ok (.istore_n 2, 1) := by decide +kernel
theorem dX7_has_34 : decode cX7_has 34 = .ok (.iinc 3 1, 3) := by decide +kernel
theorem dX7_has_37 : decode cX7_has 37 = .ok (.goto (-33), 3) := by decide +kernel
theorem dX7_has_40 : decode cX7_has 40 = .ok (.iload_n 2, 1) := by decide +kernel
theorem dX7_has_41 : decode cX7_has 41 = .ok (.ireturn, 1) := by decide +kernel
theorem dX7_thereOn_0 : decode cX7_thereOn 0 = .ok (.iconst 0, 1) := by decide +kernel
theorem dX7_thereOn_1 : decode cX7_thereOn 1 = .ok (.istore_n 3, 1) := by decide +kernel
theorem dX7_thereOn_2 : decode cX7_thereOn 2 = .ok (.iconst 0, 1) := by decide +kernel
theorem dX7_thereOn_3 : decode cX7_thereOn 3 = .ok (.istore 4, 2) := by decide +kernel
theorem dX7_thereOn_5 : decode cX7_thereOn 5 = .ok (.iload 4, 2) := by decide +kernel
theorem dX7_thereOn_7 : decode cX7_thereOn 7 = .ok (.aload_n 0, 1) := by decide +kernel
theorem dX7_thereOn_8 : decode cX7_thereOn 8 = .ok (.getfield 7, 3) := by decide +kernel
theorem dX7_thereOn_11 : decode cX7_thereOn 11 = .ok (.iconst 3, 1) := by decide +kernel
theorem dX7_thereOn_12 : decode cX7_thereOn 12 = .ok (.iaload, 1) := by decide +kernel
theorem dX7_thereOn_13 : decode cX7_thereOn 13 = .ok (.if_icmp .ge 31, 3) := by decide +kernel
theorem dX7_thereOn_16 : decode cX7_thereOn 16 = .ok (.iload_n 3, 1) := by decide +kernel
theorem dX7_thereOn_17 : decode cX7_thereOn 17 = .ok (.aload_n 0, 1) := by decide +kernel
theorem dX7_thereOn_18 : decode cX7_thereOn 18 = .ok (.iload 4, 2) := by decide +kernel
theorem dX7_thereOn_20 : decode cX7_thereOn 20 = .ok (.iload_n 2, 1) := by decide +kernel
theorem dX7_thereOn_21 : decode cX7_thereOn 21 = .ok (.invokevirtual 47, 3) := by decide +kernel
theorem dX7_thereOn_24 : decode cX7_thereOn 24 = .ok (.iload_n 1, 1) := by decide +kernel
theorem dX7_thereOn_25 : decode cX7_thereOn 25 = .ok (.if_icmp .ne 10, 3) := by decide +kernel
theorem dX7_thereOn_28 : decode cX7_thereOn 28 = .ok (.iconst 1, 1) := by decide +kernel
theorem dX7_thereOn_29 : decode cX7_thereOn 29 = .ok (.iload 4, 2) := by decide +kernel
theorem dX7_thereOn_31 : decode cX7_thereOn 31 = .ok (.ishl, 1) := by decide +kernel
theorem dX7_thereOn_32 : decode cX7_thereOn 32 = .ok (.goto 4, 3) := by decide +kernel
theorem dX7_thereOn_35 : decode cX7_thereOn 35 = .ok (.iconst 0, 1) := by decide +kernel
theorem dX7_thereOn_36 : decode cX7_thereOn 36 = .ok (.ior, 1) := by decide +kernel
theorem dX7_thereOn_37 : decode cX7_thereOn 37 = .ok (.istore_n 3, 1) := by decide +kernel
theorem dX7_thereOn_38 : decode cX7_thereOn 38 = .ok (.iinc 4 1, 3) := by decide +kernel
theorem dX7_thereOn_41 : decode cX7_thereOn 41 = .ok (.goto (-36), 3) := by decide +kernel
theorem dX7_thereOn_44 : decode cX7_thereOn 44 = .ok (.iload_n 3, 1) := by decide +kernel
theorem dX7_thereOn_45 : decode cX7_thereOn 45 = .ok (.ireturn, 1) := by decide +kernel
theorem dX7_arrivalOf_0 : decode cX7_arrivalOf 0 = .ok (.ldc 50, 2) := by decide +kernel
theorem dX7_arrivalOf_2 : decode cX7_arrivalOf 2 = .ok (.istore 5, 2) := by decide +kernel
theorem dX7_arrivalOf_4 : decode cX7_arrivalOf 4 = .ok (.iload_n 3, 1) := by decide +kernel
theorem dX7_arrivalOf_5 : decode cX7_arrivalOf 5 = .ok (.istore 6, 2) := by decide +kernel
theorem dX7_arrivalOf_7 : decode cX7_arrivalOf 7 = .ok (.iload 4, 2) := by decide +kernel
theorem dX7_arrivalOf_9 : decode cX7_arrivalOf 9 = .ok (.iconst 1, 1) := by decide +kernel
theorem dX7_arrivalOf_10 : decode cX7_arrivalOf 10 = .ok (.iadd, 1) := by decide +kernel
theorem dX7_arrivalOf_11 : decode cX7_arrivalOf 11 = .ok (.istore 7, 2) := by decide +kernel
theorem dX7_arrivalOf_13 : decode cX7_arrivalOf 13 = .ok (.iload 7, 2) := by decide +kernel
theorem dX7_arrivalOf_15 : decode cX7_arrivalOf 15 = .ok (.iload 4, 2) := by decide +kernel
theorem dX7_arrivalOf_17 : decode cX7_arrivalOf 17 = .ok (.bipush 30, 2) := by decide +kernel
theorem dX7_arrivalOf_19 : decode cX7_arrivalOf 19 = .ok (.iadd, 1) := by decide +kernel
theorem dX7_arrivalOf_20 : decode cX7_arrivalOf 20 = .ok (.if_icmp .gt 86, 3) := by decide +kernel
theorem dX7_arrivalOf_23 : decode cX7_arrivalOf 23 = .ok (.iload 5, 2) := by decide +kernel
theorem dX7_arrivalOf_25 : decode cX7_arrivalOf 25 = .ok (.ldc 50, 2) := by decide +kernel
theorem dX7_arrivalOf_27 : decode cX7_arrivalOf 27 = .ok (.if_icmp .ne 79, 3) := by decide +kernel
theorem dX7_arrivalOf_30 : decode cX7_arrivalOf 30 = .ok (.iload 6, 2) := by decide +kernel
theorem dX7_arrivalOf_32 : decode cX7_arrivalOf 32 = .ok (.aload_n 0, 1) := by decide +kernel
theorem dX7_arrivalOf_33 : decode cX7_arrivalOf 33 = .ok (.iload_n 1, 1) := by decide +kernel
theorem dX7_arrivalOf_34 : decode cX7_arrivalOf 34 = .ok (.iload 7, 2) := by decide +kernel
theorem dX7_arrivalOf_36 : decode cX7_arrivalOf 36 = .ok (.invokevirtual 51, 3) := by decide +kernel
theorem dX7_arrivalOf_39 : decode cX7_arrivalOf 39 = .ok (.iand, 1) := by decide +kernel
theorem dX7_arrivalOf_40 : decode cX7_arrivalOf 40 = .ok (.ifCond .eq 7, 3) := by decide +kernel
theorem dX7_arrivalOf_43 : decode cX7_arrivalOf 43 = .ok (.iload 7, 2) := by decide +kernel
theorem dX7_arrivalOf_45 : decode cX7_arrivalOf 45 = .ok (.istore 5, 2) := by decide +kernel
theorem dX7_arrivalOf_47 : decode cX7_arrivalOf 47 = .ok (.aload_n 0, 1) := by decide +kernel
theorem dX7_arrivalOf_48 : decode cX7_arrivalOf 48 = .ok (.aload_n 0, 1) := by decide +kernel
theorem dX7_arrivalOf_49 : decode cX7_arrivalOf 49 = .ok (.iload 7, 2) := by decide +kernel
theorem dX7_arrivalOf_51 : decode cX7_arrivalOf 51 = .ok (.invokevirtual 54, 3) := by decide +kernel
theorem dX7_arrivalOf_54 : decode cX7_arrivalOf 54 = .ok (.iload 7, 2) := by decide +kernel
theorem dX7_arrivalOf_56 : decode cX7_arrivalOf 56 = .ok (.invokevirtual 51, 3) := by decide +kernel
theorem dX7_arrivalOf_59 : decode cX7_arrivalOf 59 = .ok (.istore 8, 2) := by decide +kernel
theorem dX7_arrivalOf_61 : decode cX7_arrivalOf 61 = .ok (.iload 6, 2) := by decide +kernel
theorem dX7_arrivalOf_63 : decode cX7_arrivalOf 63 = .ok (.iload 6, 2) := by decide +kernel
theorem dX7_arrivalOf_65 : decode cX7_arrivalOf 65 = .ok (.iload 8, 2) := by decide +kernel
theorem dX7_arrivalOf_67 : decode cX7_arrivalOf 67 = .ok (.iand, 1) := by decide +kernel
theorem dX7_arrivalOf_68 : decode cX7_arrivalOf 68 = .ok (.ifCond .eq 8, 3) := by decide +kernel
theorem dX7_arrivalOf_71 : decode cX7_arrivalOf 71 = .ok (.iload 8, 2) := by decide +kernel
theorem dX7_arrivalOf_73 : decode cX7_arrivalOf 73 = .ok (.goto 4, 3) := by decide +kernel
theorem dX7_arrivalOf_76 : decode cX7_arrivalOf 76 = .ok (.iconst 0, 1) := by decide +kernel
theorem dX7_arrivalOf_77 : decode cX7_arrivalOf 77 = .ok (.ior, 1) := by decide +kernel
theorem dX7_arrivalOf_78 : decode cX7_arrivalOf 78 = .ok (.istore 6, 2) := by decide +kernel
theorem dX7_arrivalOf_80 : decode cX7_arrivalOf 80 = .ok (.iload 6, 2) := by decide +kernel
theorem dX7_arrivalOf_82 : decode cX7_arrivalOf 82 = .ok (.iload_n 2, 1) := by decide +kernel
theorem dX7_arrivalOf_83 : decode cX7_arrivalOf 83 = .ok (.ifCond .lt 13, 3) := by decide +kernel
theorem dX7_arrivalOf_86 : decode cX7_arrivalOf 86 = .ok (.aload_n 0, 1) := by decide +kernel
theorem dX7_arrivalOf_87 : decode cX7_arrivalOf 87 = .ok (.iload_n 2, 1) := by decide +kernel
theorem dX7_arrivalOf_88 : decode cX7_arrivalOf 88 = .ok (.iload 7, 2) := by decide +kernel
theorem dX7_arrivalOf_90 : decode cX7_arrivalOf 90 = .ok (.invokevirtual 51, 3) := by decide +kernel
theorem dX7_arrivalOf_93 : decode cX7_arrivalOf 93 = .ok (.goto 4, 3) := by decide +kernel
theorem dX7_arrivalOf_96 : decode cX7_arrivalOf 96 = .ok (.iconst 0, 1) := by decide +kernel
theorem dX7_arrivalOf_97 : decode cX7_arrivalOf 97 = .ok (.ior, 1) := by decide +kernel
theorem dX7_arrivalOf_98 : decode cX7_arrivalOf 98 = .ok (.istore 6, 2) := by decide +kernel
theorem dX7_arrivalOf_100 : decode cX7_arrivalOf 100 = .ok (.iinc 7 1, 3) := by decide +kernel
theorem dX7_arrivalOf_103 : decode cX7_arrivalOf 103 = .ok (.goto (-90), 3) := by decide +kernel
theorem dX7_arrivalOf_106 : decode cX7_arrivalOf 106 = .ok (.iload 5, 2) := by decide +kernel
theorem dX7_arrivalOf_108 : decode cX7_arrivalOf 108 = .ok (.ireturn, 1) := by decide +kernel
theorem dX7_arrivalBehind_0 : decode cX7_arrivalBehind 0 = .ok (.aload_n 0, 1) := by decide +kernel
theorem dX7_arrivalBehind_1 : decode cX7_arrivalBehind 1 = .ok (.aload_n 0, 1) := by decide +kernel
theorem dX7_arrivalBehind_2 : decode cX7_arrivalBehind 2 = .ok (.iload_n 1, 1) := by decide +kernel
theorem dX7_arrivalBehind_3 : decode cX7_arrivalBehind 3 = .ok (.iconst 0, 1) := by decide +kernel
theorem dX7_arrivalBehind_4 : decode cX7_arrivalBehind 4 = .ok (.invokevirtual 44, 3) := by decide +kernel
theorem dX7_arrivalBehind_7 : decode cX7_arrivalBehind 7 = .ok (.aload_n 0, 1) := by decide +kernel
theorem dX7_arrivalBehind_8 : decode cX7_arrivalBehind 8 = .ok (.iload_n 1, 1) := by decide +kernel
theorem dX7_arrivalBehind_9 : decode cX7_arrivalBehind 9 = .ok (.iconst 1, 1) := by decide +kernel
theorem dX7_arrivalBehind_10 : decode cX7_arrivalBehind 10 = .ok (.invokevirtual 44, 3) := by decide +kernel
theorem dX7_arrivalBehind_13 : decode cX7_arrivalBehind 13 = .ok (.iconst 1, 1) := by decide +kernel
theorem dX7_arrivalBehind_14 : decode cX7_arrivalBehind 14 = .ok (.isub, 1) := by decide +kernel
theorem dX7_arrivalBehind_15 : decode cX7_arrivalBehind 15 = .ok (.aload_n 0, 1) := by decide +kernel
theorem dX7_arrivalBehind_16 : decode cX7_arrivalBehind 16 = .ok (.iload_n 1, 1) := by decide +kernel
theorem dX7_arrivalBehind_17 : decode cX7_arrivalBehind 17 = .ok (.iconst 2, 1) := by decide +kernel
theorem dX7_arrivalBehind_18 : decode cX7_arrivalBehind 18 = .ok (.invokevirtual 44, 3) := by decide +kernel
theorem dX7_arrivalBehind_21 : decode cX7_arrivalBehind 21 = .ok (.ifCond .ne 7, 3) := by decide +kernel
theorem dX7_arrivalBehind_24 : decode cX7_arrivalBehind 24 = .ok (.iconst 0, 1) := by decide +kernel
theorem dX7_arrivalBehind_25 : decode cX7_arrivalBehind 25 = .ok (.goto 13, 3) := by decide +kernel
theorem dX7_arrivalBehind_28 : decode cX7_arrivalBehind 28 = .ok (.iconst 1, 1) := by decide +kernel
theorem dX7_arrivalBehind_29 : decode cX7_arrivalBehind 29 = .ok (.aload_n 0, 1) := by decide +kernel
theorem dX7_arrivalBehind_30 : decode cX7_arrivalBehind 30 = .ok (.iload_n 1, 1) := by decide +kernel
theorem dX7_arrivalBehind_31 : decode cX7_arrivalBehind 31 = .ok (.iconst 2, 1) := by decide +kernel
theorem dX7_arrivalBehind_32 : decode cX7_arrivalBehind 32 = .ok (.invokevirtual 44, 3) := by decide +kernel
theorem dX7_arrivalBehind_35 : decode cX7_arrivalBehind 35 = .ok (.iconst 1, 1) := by decide +kernel
theorem dX7_arrivalBehind_36 : decode cX7_arrivalBehind 36 = .ok (.isub, 1) := by decide +kernel
theorem dX7_arrivalBehind_37 : decode cX7_arrivalBehind 37 = .ok (.ishl, 1) := by decide +kernel
theorem dX7_arrivalBehind_38 : decode cX7_arrivalBehind 38 = .ok (.iload_n 2, 1) := by decide +kernel
theorem dX7_arrivalBehind_39 : decode cX7_arrivalBehind 39 = .ok (.invokevirtual 58, 3) := by decide +kernel
theorem dX7_arrivalBehind_42 : decode cX7_arrivalBehind 42 = .ok (.ireturn, 1) := by decide +kernel
theorem dX7_arrivalNow_0 : decode cX7_arrivalNow 0 = .ok (.aload_n 0, 1) := by decide +kernel
theorem dX7_arrivalNow_1 : decode cX7_arrivalNow 1 = .ok (.iload_n 1, 1) := by decide +kernel
theorem dX7_arrivalNow_2 : decode cX7_arrivalNow 2 = .ok (.iconst 3, 1) := by decide +kernel
theorem dX7_arrivalNow_3 : decode cX7_arrivalNow 3 = .ok (.invokevirtual 44, 3) := by decide +kernel
theorem dX7_arrivalNow_6 : decode cX7_arrivalNow 6 = .ok (.ifCond .le 14, 3) := by decide +kernel
theorem dX7_arrivalNow_9 : decode cX7_arrivalNow 9 = .ok (.aload_n 0, 1) := by decide +kernel
theorem dX7_arrivalNow_10 : decode cX7_arrivalNow 10 = .ok (.iload_n 1, 1) := by decide +kernel
theorem dX7_arrivalNow_11 : decode cX7_arrivalNow 11 = .ok (.iconst 3, 1) := by decide +kernel
theorem dX7_arrivalNow_12 : decode cX7_arrivalNow 12 = .ok (.invokevirtual 44, 3) := by decide +kernel
theorem dX7_arrivalNow_15 : decode cX7_arrivalNow 15 = .ok (.iconst 1, 1) := by decide +kernel
theorem dX7_arrivalNow_16 : decode cX7_arrivalNow 16 = .ok (.isub, 1) := by decide +kernel
theorem dX7_arrivalNow_17 : decode cX7_arrivalNow 17 = .ok (.goto 14, 3) := by decide +kernel
theorem dX7_arrivalNow_20 : decode cX7_arrivalNow 20 = .ok (.aload_n 0, 1) := by decide +kernel
theorem dX7_arrivalNow_21 : decode cX7_arrivalNow 21 = .ok (.iload_n 1, 1) := by decide +kernel
theorem dX7_arrivalNow_22 : decode cX7_arrivalNow 22 = .ok (.aload_n 0, 1) := by decide +kernel
theorem dX7_arrivalNow_23 : decode cX7_arrivalNow 23 = .ok (.getfield 7, 3) := by decide +kernel
theorem dX7_arrivalNow_26 : decode cX7_arrivalNow 26 = .ok (.iconst 0, 1) := by decide +kernel
theorem dX7_arrivalNow_27 : decode cX7_arrivalNow 27 = .ok (.iaload, 1) := by decide +kernel
theorem dX7_arrivalNow_28 : decode cX7_arrivalNow 28 = .ok (.invokevirtual 62, 3) := by decide +kernel
theorem dX7_arrivalNow_31 : decode cX7_arrivalNow 31 = .ok (.ireturn, 1) := by decide +kernel
theorem dX7_orNone_0 : decode cX7_orNone 0 = .ok (.iload_n 0, 1) := by decide +kernel
theorem dX7_orNone_1 : decode cX7_orNone 1 = .ok (.ldc 50, 2) := by decide +kernel
theorem dX7_orNone_3 : decode cX7_orNone 3 = .ok (.if_icmp .ne 8, 3) := by decide +kernel
theorem dX7_orNone_6 : decode cX7_orNone 6 = .ok (.bipush (-4), 2) := by decide +kernel
theorem dX7_orNone_8 : decode cX7_orNone 8 = .ok (.goto 4, 3) := by decide +kernel
theorem dX7_orNone_11 : decode cX7_orNone 11 = .ok (.iload_n 0, 1) := by decide +kernel
theorem dX7_orNone_12 : decode cX7_orNone 12 = .ok (.ireturn, 1) := by decide +kernel
theorem dX7_goPost_0 : decode cX7_goPost 0 = .ok (.aload_n 0, 1) := by decide +kernel
theorem dX7_goPost_1 : decode cX7_goPost 1 = .ok (.getfield 7, 3) := by decide +kernel
theorem dX7_goPost_4 : decode cX7_goPost 4 = .ok (.iconst 4, 1) := by decide +kernel
theorem dX7_goPost_5 : decode cX7_goPost 5 = .ok (.iaload, 1) := by decide +kernel
theorem dX7_goPost_6 : decode cX7_goPost 6 = .ok (.istore_n 3, 1) := by decide +kernel
theorem dX7_goPost_7 : decode cX7_goPost 7 = .ok (.aload_n 0, 1) := by decide +kernel
theorem dX7_goPost_8 : decode cX7_goPost 8 = .ok (.iload_n 2, 1) := by decide +kernel
theorem dX7_goPost_9 : decode cX7_goPost 9 = .ok (.iload_n 1, 1) := by decide +kernel
theorem dX7_goPost_10 : decode cX7_goPost 10 = .ok (.iconst 0, 1) := by decide +kernel
theorem dX7_goPost_11 : decode cX7_goPost 11 = .ok (.aload_n 0, 1) := by decide +kernel
theorem dX7_goPost_12 : decode cX7_goPost 12 = .ok (.getfield 7, 3) := by decide +kernel
theorem dX7_goPost_15 : decode cX7_goPost 15 = .ok (.iconst 0, 1) := by decide +kernel
theorem dX7_goPost_16 : decode cX7_goPost 16 = .ok (.iaload, 1) := by decide +kernel
theorem dX7_goPost_17 : decode cX7_goPost 17 = .ok (.invokevirtual 58, 3) := by decide +kernel
theorem dX7_goPost_20 : decode cX7_goPost 20 = .ok (.invokestatic 65, 3) := by decide +kernel
theorem dX7_goPost_23 : decode cX7_goPost 23 = .ok (.istore 4, 2) := by decide +kernel
theorem dX7_goPost_25 : decode cX7_goPost 25 = .ok (.aload_n 0, 1) := by decide +kernel
theorem dX7_goPost_26 : decode cX7_goPost 26 = .ok (.iload_n 3, 1) := by decide +kernel
theorem dX7_goPost_27 : decode cX7_goPost 27 = .ok (.iconst 0, 1) := by decide +kernel
theorem dX7_goPost_28 : decode cX7_goPost 28 = .ok (.iload_n 2, 1) := by decide +kernel
theorem dX7_goPost_29 : decode cX7_goPost 29 = .ok (.invokevirtual 68, 3) := by decide +kernel
theorem dX7_goPost_32 : decode cX7_goPost 32 = .ok (.aload_n 0, 1) := by decide +kernel
theorem dX7_goPost_33 : decode cX7_goPost 33 = .ok (.iload_n 3, 1) := by decide +kernel
theorem dX7_goPost_34 : decode cX7_goPost 34 = .ok (.iconst 1, 1) := by decide +kernel
theorem dX7_goPost_35 : decode cX7_goPost 35 = .ok (.iload_n 1, 1) := by decide +kernel
theorem dX7_goPost_36 : decode cX7_goPost 36 = .ok (.iconst 1, 1) := by decide +kernel
theorem dX7_goPost_37 : decode cX7_goPost 37 = .ok (.iadd, 1) := by decide +kernel
theorem dX7_goPost_38 : decode cX7_goPost 38 = .ok (.invokevirtual 68, 3) := by decide +kernel
theorem dX7_goPost_41 : decode cX7_goPost 41 = .ok (.aload_n 0, 1) := by decide +kernel
theorem dX7_goPost_42 : decode cX7_goPost 42 = .ok (.iload_n 3, 1) := by decide +kernel
theorem dX7_goPost_43 : decode cX7_goPost 43 = .ok (.iconst 2, 1) := by decide +kernel
theorem dX7_goPost_44 : decode cX7_goPost 44 = .ok (.iconst 0, 1) := by decide +kernel
theorem dX7_goPost_45 : decode cX7_goPost 45 = .ok (.invokevirtual 68, 3) := by decide +kernel
theorem dX7_goPost_48 : decode cX7_goPost 48 = .ok (.aload_n 0, 1) := by decide +kernel
theorem dX7_goPost_49 : decode cX7_goPost 49 = .ok (.iload_n 3, 1) := by decide +kernel
theorem dX7_goPost_50 : decode cX7_goPost 50 = .ok (.iconst 3, 1) := by decide +kernel
theorem dX7_goPost_51 : decode cX7_goPost 51 = .ok (.iconst 0, 1) := by decide +kernel
theorem dX7_goPost_52 : decode cX7_goPost 52 = .ok (.invokevirtual 68, 3) := by decide +kernel
theorem dX7_goPost_55 : decode cX7_goPost 55 = .ok (.aload_n 0, 1) := by decide +kernel
theorem dX7_goPost_56 : decode cX7_goPost 56 = .ok (.iload_n 3, 1) := by decide +kernel
theorem dX7_goPost_57 : decode cX7_goPost 57 = .ok (.iconst 4, 1) := by decide +kernel
theorem dX7_goPost_58 : decode cX7_goPost 58 = .ok (.iload 4, 2) := by decide +kernel
theorem dX7_goPost_60 : decode cX7_goPost 60 = .ok (.invokevirtual 68, 3) := by decide +kernel
theorem dX7_goPost_63 : decode cX7_goPost 63 = .ok (.aload_n 0, 1) := by decide +kernel
theorem dX7_goPost_64 : decode cX7_goPost 64 = .ok (.iload_n 3, 1) := by decide +kernel
theorem dX7_goPost_65 : decode cX7_goPost 65 = .ok (.iconst 5, 1) := by decide +kernel
theorem dX7_goPost_66 : decode cX7_goPost 66 = .ok (.iconst 0, 1) := by decide +kernel
theorem dX7_goPost_67 : decode cX7_goPost 67 = .ok (.invokevirtual 68, 3) := by decide +kernel
theorem dX7_goPost_70 : decode cX7_goPost 70 = .ok (.aload_n 0, 1) := by decide +kernel
theorem dX7_goPost_71 : decode cX7_goPost 71 = .ok (.iload_n 3, 1) := by decide +kernel
theorem dX7_goPost_72 : decode cX7_goPost 72 = .ok (.bipush 6, 2) := by decide +kernel
theorem dX7_goPost_74 : decode cX7_goPost 74 = .ok (.iconst 0, 1) := by decide +kernel
theorem dX7_goPost_75 : decode cX7_goPost 75 = .ok (.invokevirtual 68, 3) := by decide +kernel
theorem dX7_goPost_78 : decode cX7_goPost 78 = .ok (.aload_n 0, 1) := by decide +kernel
theorem dX7_goPost_79 : decode cX7_goPost 79 = .ok (.iload_n 3, 1) := by decide +kernel
theorem dX7_goPost_80 : decode cX7_goPost 80 = .ok (.bipush 7, 2) := by decide +kernel
theorem dX7_goPost_82 : decode cX7_goPost 82 = .ok (.aload_n 0, 1) := by decide +kernel
theorem dX7_goPost_83 : decode cX7_goPost 83 = .ok (.getfield 7, 3) := by decide +kernel
theorem dX7_goPost_86 : decode cX7_goPost 86 = .ok (.iconst 0, 1) := by decide +kernel
theorem dX7_goPost_87 : decode cX7_goPost 87 = .ok (.iaload, 1) := by decide +kernel
theorem dX7_goPost_88 : decode cX7_goPost 88 = .ok (.invokevirtual 68, 3) := by decide +kernel
theorem dX7_goPost_91 : decode cX7_goPost 91 = .ok (.aload_n 0, 1) := by decide +kernel
theorem dX7_goPost_92 : decode cX7_goPost 92 = .ok (.getfield 7, 3) := by decide +kernel
theorem dX7_goPost_95 : decode cX7_goPost 95 = .ok (.iconst 4, 1) := by decide +kernel
theorem dX7_goPost_96 : decode cX7_goPost 96 = .ok (.dup2, 1) := by decide +kernel
theorem dX7_goPost_97 : decode cX7_goPost 97 = .ok (.iaload, 1) := by decide +kernel
theorem dX7_goPost_98 : decode cX7_goPost 98 = .ok (.iconst 1, 1) := by decide +kernel
theorem dX7_goPost_99 : decode cX7_goPost 99 = .ok (.iadd, 1) := by decide +kernel
theorem dX7_goPost_100 : decode cX7_goPost 100 = .ok (.iastore, 1) := by decide +kernel
theorem dX7_goPost_101 : decode cX7_goPost 101 = .ok (.aload_n 0, 1) := by decide +kernel
theorem dX7_goPost_102 : decode cX7_goPost 102 = .ok (.getfield 7, 3) := by decide +kernel
theorem dX7_goPost_105 : decode cX7_goPost 105 = .ok (.iconst 5, 1) := by decide +kernel
theorem dX7_goPost_106 : decode cX7_goPost 106 = .ok (.dup2, 1) := by decide +kernel
theorem dX7_goPost_107 : decode cX7_goPost 107 = .ok (.iaload, 1) := by decide +kernel
theorem dX7_goPost_108 : decode cX7_goPost 108 = .ok (.iconst 1, 1) := by decide +kernel
theorem dX7_goPost_109 : decode cX7_goPost 109 = .ok (.iadd, 1) := by decide +kernel
theorem dX7_goPost_110 : decode cX7_goPost 110 = .ok (.iastore, 1) := by decide +kernel
theorem dX7_goPost_111 : decode cX7_goPost 111 = .ok (.iload 4, 2) := by decide +kernel
theorem dX7_goPost_113 : decode cX7_goPost 113 = .ok (.ireturn, 1) := by decide +kernel
theorem dX7_changes_0 : decode cX7_changes 0 = .ok (.aload_n 0, 1) := by decide +kernel
theorem dX7_changes_1 : decode cX7_changes 1 = .ok (.iload_n 1, 1) := by decide +kernel
theorem dX7_changes_2 : decode cX7_changes 2 = .ok (.iconst 1, 1) := by decide +kernel
theorem dX7_changes_3 : decode cX7_changes 3 = .ok (.iconst 0, 1) := by decide +kernel
theorem dX7_changes_4 : decode cX7_changes 4 = .ok (.invokevirtual 68, 3) := by decide +kernel
theorem dX7_changes_7 : decode cX7_changes 7 = .ok (.aload_n 0, 1) := by decide +kernel
theorem dX7_changes_8 : decode cX7_changes 8 = .ok (.iload_n 1, 1) := by decide +kernel
theorem dX7_changes_9 : decode cX7_changes 9 = .ok (.iconst 2, 1) := by decide +kernel
theorem dX7_changes_10 : decode cX7_changes 10 = .ok (.iload_n 2, 1) := by decide +kernel
theorem dX7_changes_11 : decode cX7_changes 11 = .ok (.iconst 1, 1) := by decide +kernel
theorem dX7_changes_12 : decode cX7_changes 12 = .ok (.iadd, 1) := by decide +kernel
theorem dX7_changes_13 : decode cX7_changes 13 = .ok (.invokevirtual 68, 3) := by decide +kernel
theorem dX7_changes_16 : decode cX7_changes 16 = .ok (.aload_n 0, 1) := by decide +kernel
theorem dX7_changes_17 : decode cX7_changes 17 = .ok (.iload_n 1, 1) := by decide +kernel
theorem dX7_changes_18 : decode cX7_changes 18 = .ok (.bipush 6, 2) := by decide +kernel
theorem dX7_changes_20 : decode cX7_changes 20 = .ok (.aload_n 0, 1) := by decide +kernel
theorem dX7_changes_21 : decode cX7_changes 21 = .ok (.iload_n 1, 1) := by decide +kernel
theorem dX7_changes_22 : decode cX7_changes 22 = .ok (.bipush 6, 2) := by decide +kernel
theorem dX7_changes_24 : decode cX7_changes 24 = .ok (.invokevirtual 44, 3) := by decide +kernel
theorem dX7_changes_27 : decode cX7_changes 27 = .ok (.iconst 1, 1) := by decide +kernel
theorem dX7_changes_28 : decode cX7_changes 28 = .ok (.iadd, 1) := by decide +kernel
theorem dX7_changes_29 : decode cX7_changes 29 = .ok (.invokevirtual 68, 3) := by decide +kernel
theorem dX7_changes_32 : decode cX7_changes 32 = .ok (.aload_n 0, 1) := by decide +kernel
theorem dX7_changes_33 : decode cX7_changes 33 = .ok (.getfield 7, 3) := by decide +kernel
theorem dX7_changes_36 : decode cX7_changes 36 = .ok (.bipush 8, 2) := by decide +kernel
theorem dX7_changes_38 : decode cX7_changes 38 = .ok (.dup2, 1) := by decide +kernel
theorem dX7_changes_39 : decode cX7_changes 39 = .ok (.iaload, 1) := by decide +kernel
theorem dX7_changes_40 : decode cX7_changes 40 = .ok (.iconst 1, 1) := by decide +kernel
theorem dX7_changes_41 : decode cX7_changes 41 = .ok (.iadd, 1) := by decide +kernel
theorem dX7_changes_42 : decode cX7_changes 42 = .ok (.iastore, 1) := by decide +kernel
theorem dX7_changes_43 : decode cX7_changes 43 = .ok (.aload_n 0, 1) := by decide +kernel
theorem dX7_changes_44 : decode cX7_changes 44 = .ok (.iload_n 2, 1) := by decide +kernel
theorem dX7_changes_45 : decode cX7_changes 45 = .ok (.bipush 10, 2) := by decide +kernel
theorem dX7_changes_47 : decode cX7_changes 47 = .ok (.iconst 1, 1) := by decide +kernel
theorem dX7_changes_48 : decode cX7_changes 48 = .ok (.invokevirtual 72, 3) := by decide +kernel
theorem dX7_changes_51 : decode cX7_changes 51 = .ok (.aload_n 0, 1) := by decide +kernel
theorem dX7_changes_52 : decode cX7_changes 52 = .ok (.getfield 7, 3) := by decide +kernel
theorem dX7_changes_55 : decode cX7_changes 55 = .ok (.iconst 2, 1) := by decide +kernel
theorem dX7_changes_56 : decode cX7_changes 56 = .ok (.sipush 421, 3) := by decide +kernel
theorem dX7_changes_59 : decode cX7_changes 59 = .ok (.aload_n 0, 1) := by decide +kernel
theorem dX7_changes_60 : decode cX7_changes 60 = .ok (.getfield 7, 3) := by decide +kernel
theorem dX7_changes_63 : decode cX7_changes 63 = .ok (.iconst 2, 1) := by decide +kernel
theorem dX7_changes_64 : decode cX7_changes 64 = .ok (.iaload, 1) := by decide +kernel
theorem dX7_changes_65 : decode cX7_changes 65 = .ok (.imul, 1) := by decide +kernel
theorem dX7_changes_66 : decode cX7_changes 66 = .ok (.sipush 1663, 3) := by decide +kernel
theorem dX7_changes_69 : decode cX7_changes 69 = .ok (.iadd, 1) := by decide +kernel
theorem dX7_changes_70 : decode cX7_changes 70 = .ok (.sipush 10000, 3) := by decide +kernel
theorem dX7_changes_73 : decode cX7_changes 73 = .ok (.irem, 1) := by decide +kernel
theorem dX7_changes_74 : decode cX7_changes 74 = .ok (.iastore, 1) := by decide +kernel
theorem dX7_changes_75 : decode cX7_changes 75 = .ok (.aload_n 0, 1) := by decide +kernel
theorem dX7_changes_76 : decode cX7_changes 76 = .ok (.getfield 7, 3) := by decide +kernel
theorem dX7_changes_79 : decode cX7_changes 79 = .ok (.iconst 2, 1) := by decide +kernel
theorem dX7_changes_80 : decode cX7_changes 80 = .ok (.iaload, 1) := by decide +kernel
theorem dX7_changes_81 : decode cX7_changes 81 = .ok (.bipush 10, 2) := by decide +kernel
theorem dX7_changes_83 : decode cX7_changes 83 = .ok (.irem, 1) := by decide +kernel
theorem dX7_changes_84 : decode cX7_changes 84 = .ok (.aload_n 0, 1) := by decide +kernel
theorem dX7_changes_85 : decode cX7_changes 85 = .ok (.iload_n 2, 1) := by decide +kernel
theorem dX7_changes_86 : decode cX7_changes 86 = .ok (.bipush 8, 2) := by decide +kernel
theorem dX7_changes_88 : decode cX7_changes 88 = .ok (.invokevirtual 40, 3) := by decide +kernel
theorem dX7_changes_91 : decode cX7_changes 91 = .ok (.if_icmp .ge 27, 3) := by decide +kernel
theorem dX7_changes_94 : decode cX7_changes 94 = .ok (.aload_n 0, 1) := by decide +kernel
theorem dX7_changes_95 : decode cX7_changes 95 = .ok (.iload_n 1, 1) := by decide +kernel
theorem dX7_changes_96 : decode cX7_changes 96 = .ok (.iconst 5, 1) := by decide +kernel
theorem dX7_changes_97 : decode cX7_changes 97 = .ok (.invokevirtual 44, 3) := by decide +kernel
theorem dX7_changes_100 : decode cX7_changes 100 = .ok (.ifCond .ne 18, 3) := by decide +kernel
theorem dX7_changes_103 : decode cX7_changes 103 = .ok (.aload_n 0, 1) := by decide +kernel
theorem dX7_changes_104 : decode cX7_changes 104 = .ok (.iload_n 1, 1) := by decide +kernel
theorem dX7_changes_105 : decode cX7_changes 105 = .ok (.iconst 5, 1) := by decide +kernel
theorem dX7_changes_106 : decode cX7_changes 106 = .ok (.iconst 1, 1) := by decide +kernel
theorem dX7_changes_107 : decode cX7_changes 107 = .ok (.invokevirtual 68, 3) := by decide +kernel
theorem dX7_changes_110 : decode cX7_changes 110 = .ok (.aload_n 0, 1) := by decide +kernel
theorem dX7_changes_111 : decode cX7_changes 111 = .ok (.iload_n 2, 1) := by decide +kernel
theorem dX7_changes_112 : decode cX7_changes 112 = .ok (.bipush 11, 2) := by decide +kernel
theorem dX7_changes_114 : decode cX7_changes 114 = .ok (.iconst 1, 1) := by decide +kernel
theorem dX7_changes_115 : decode cX7_changes 115 = .ok (.invokevirtual 72, 3) := by decide +kernel
theorem dX7_changes_118 : decode cX7_changes 118 = .ok (.return_, 1) := by decide +kernel
theorem dX7_goesOn_0 : decode cX7_goesOn 0 = .ok (.aload_n 0, 1) := by decide +kernel
theorem dX7_goesOn_1 : decode cX7_goesOn 1 = .ok (.getfield 7, 3) := by decide +kernel
theorem dX7_goesOn_4 : decode cX7_goesOn 4 = .ok (.iconst 0, 1) := by decide +kernel
theorem dX7_goesOn_5 : decode cX7_goesOn 5 = .ok (.iaload, 1) := by decide +kernel
theorem dX7_goesOn_6 : decode cX7_goesOn 6 = .ok (.istore_n 2, 1) := by decide +kernel
theorem dX7_goesOn_7 : decode cX7_goesOn 7 = .ok (.aload_n 0, 1) := by decide +kernel
theorem dX7_goesOn_8 : decode cX7_goesOn 8 = .ok (.iload_n 1, 1) := by decide +kernel
theorem dX7_goesOn_9 : decode cX7_goesOn 9 = .ok (.iconst 2, 1) := by decide +kernel
theorem dX7_goesOn_10 : decode cX7_goesOn 10 = .ok (.invokevirtual 44, 3) := by decide +kernel
theorem dX7_goesOn_13 : decode cX7_goesOn 13 = .ok (.iconst 1, 1) := by decide +kernel
theorem dX7_goesOn_14 : decode cX7_goesOn 14 = .ok (.isub, 1) := by decide +kernel
theorem dX7_goesOn_15 : decode cX7_goesOn 15 = .ok (.istore_n 3, 1) := by decide +kernel
theorem dX7_goesOn_16 : decode cX7_goesOn 16 = .ok (.iload_n 3, 1) := by decide +kernel
theorem dX7_goesOn_17 : decode cX7_goesOn 17 = .ok (.ifCond .ge 14, 3) := by decide +kernel
theorem dX7_goesOn_20 : decode cX7_goesOn 20 = .ok (.aload_n 0, 1) := by decide +kernel
theorem dX7_goesOn_21 : decode cX7_goesOn 21 = .ok (.iload_n 1, 1) := by decide +kernel
theorem dX7_goesOn_22 : decode cX7_goesOn 22 = .ok (.iconst 1, 1) := by decide +kernel
theorem dX7_goesOn_23 : decode cX7_goesOn 23 = .ok (.invokevirtual 44, 3) := by decide +kernel
theorem dX7_goesOn_26 : decode cX7_goesOn 26 = .ok (.iconst 1, 1) := by decide +kernel
theorem dX7_goesOn_27 : decode cX7_goesOn 27 = .ok (.isub, 1) := by decide +kernel
theorem dX7_goesOn_28 : decode cX7_goesOn 28 = .ok (.goto 9, 3) := by decide +kernel
theorem dX7_goesOn_31 : decode cX7_goesOn 31 = .ok (.aload_n 0, 1) := by decide +kernel
theorem dX7_goesOn_32 : decode cX7_goesOn 32 = .ok (.iload_n 3, 1) := by decide +kernel
theorem dX7_goesOn_33 : decode cX7_goesOn 33 = .ok (.iload_n 2, 1) := by decide +kernel
theorem dX7_goesOn_34 : decode cX7_goesOn 34 = .ok (.invokevirtual 47, 3) := by decide +kernel
theorem dX7_goesOn_37 : decode cX7_goesOn 37 = .ok (.istore 4, 2) := by decide +kernel
theorem dX7_goesOn_39 : decode cX7_goesOn 39 = .ok (.iload_n 3, 1) := by decide +kernel
theorem dX7_goesOn_40 : decode cX7_goesOn 40 = .ok (.ifCond .lt 18, 3) := by decide +kernel
theorem dX7_goesOn_43 : decode cX7_goesOn 43 = .ok (.iload 4, 2) := by decide +kernel
theorem dX7_goesOn_45 : decode cX7_goesOn 45 = .ok (.ifCond .lt 17, 3) := by decide +kernel
theorem dX7_goesOn_48 : decode cX7_goesOn 48 = .ok (.iload 4, 2) := by decide +kernel
theorem dX7_goesOn_50 : decode cX7_goesOn 50 = .ok (.aload_n 0, 1) := by decide +kernel
theorem dX7_goesOn_51 : decode cX7_goesOn 51 = .ok (.iload_n 2, 1) := by decide +kernel
theorem dX7_goesOn_52 : decode cX7_goesOn 52 = .ok (.invokevirtual 54, 3) := by decide +kernel
theorem dX7_goesOn_55 : decode cX7_goesOn 55 = .ok (.if_icmp .ne 7, 3) := by decide +kernel
theorem dX7_goesOn_58 : decode cX7_goesOn 58 = .ok (.iconst 1, 1) := by decide +kernel
theorem dX7_goesOn_59 : decode cX7_goesOn 59 = .ok (.goto 4, 3) := by decide +kernel
theorem dX7_goesOn_62 : decode cX7_goesOn 62 = .ok (.iconst 0, 1) := by decide +kernel
theorem dX7_goesOn_63 : decode cX7_goesOn 63 = .ok (.istore 5, 2) := by decide +kernel
theorem dX7_goesOn_65 : decode cX7_goesOn 65 = .ok (.iload 5, 2) := by decide +kernel
theorem dX7_goesOn_67 : decode cX7_goesOn 67 = .ok (.ifCond .eq 13, 3) := by decide +kernel
theorem dX7_goesOn_70 : decode cX7_goesOn 70 = .ok (.aload_n 0, 1) := by decide +kernel
theorem dX7_goesOn_71 : decode cX7_goesOn 71 = .ok (.iload 4, 2) := by decide +kernel
theorem dX7_goesOn_73 : decode cX7_goesOn 73 = .ok (.iload_n 2, 1) := by decide +kernel
theorem dX7_goesOn_74 : decode cX7_goesOn 74 = .ok (.invokevirtual 51, 3) := by decide +kernel
theorem dX7_goesOn_77 : decode cX7_goesOn 77 = .ok (.goto 4, 3) := by decide +kernel
theorem dX7_goesOn_80 : decode cX7_goesOn 80 = .ok (.iconst 0, 1) := by decide +kernel
theorem dX7_goesOn_81 : decode cX7_goesOn 81 = .ok (.istore 6, 2) := by decide +kernel
theorem dX7_goesOn_83 : decode cX7_goesOn 83 = .ok (.bipush (-4), 2) := by decide +kernel
theorem dX7_goesOn_85 : decode cX7_goesOn 85 = .ok (.istore 7, 2) := by decide +kernel
theorem dX7_goesOn_87 : decode cX7_goesOn 87 = .ok (.aload_n 0, 1) := by decide +kernel
theorem dX7_goesOn_88 : decode cX7_goesOn 88 = .ok (.iload_n 1, 1) := by decide +kernel
theorem dX7_goesOn_89 : decode cX7_goesOn 89 = .ok (.iload_n 2, 1) := by decide +kernel
theorem dX7_goesOn_90 : decode cX7_goesOn 90 = .ok (.invokevirtual 62, 3) := by decide +kernel
theorem dX7_goesOn_93 : decode cX7_goesOn 93 = .ok (.istore 8, 2) := by decide +kernel
theorem dX7_goesOn_95 : decode cX7_goesOn 95 = .ok (.iconst 0, 1) := by decide +kernel
theorem dX7_goesOn_96 : decode cX7_goesOn 96 = .ok (.istore 9, 2) := by decide +kernel
theorem dX7_goesOn_98 : decode cX7_goesOn 98 = .ok (.iload 9, 2) := by decide +kernel
theorem dX7_goesOn_100 : decode cX7_goesOn 100 = .ok (.aload_n 0, 1) := by decide +kernel
theorem dX7_goesOn_101 : decode cX7_goesOn 101 = .ok (.getfield 7, 3) := by decide +kernel
theorem dX7_goesOn_104 : decode cX7_goesOn 104 = .ok (.iconst 3, 1) := by decide +kernel
theorem dX7_goesOn_105 : decode cX7_goesOn 105 = .ok (.iaload, 1) := by decide +kernel
theorem dX7_goesOn_106 : decode cX7_goesOn 106 = .ok (.if_icmp .ge 109, 3) := by decide +kernel
theorem dX7_goesOn_109 : decode cX7_goesOn 109 = .ok (.iload 6, 2) := by decide +kernel
theorem dX7_goesOn_111 : decode cX7_goesOn 111 = .ok (.iload 9, 2) := by decide +kernel
theorem dX7_goesOn_113 : decode cX7_goesOn 113 = .ok (.ishr, 1) := by decide +kernel
theorem dX7_goesOn_114 : decode cX7_goesOn 114 = .ok (.iconst 1, 1) := by decide +kernel
theorem dX7_goesOn_115 : decode cX7_goesOn 115 = .ok (.iand, 1) := by decide +kernel
theorem dX7_goesOn_116 : decode cX7_goesOn 116 = .ok (.iconst 1, 1) := by decide +kernel
theorem dX7_goesOn_117 : decode cX7_goesOn 117 = .ok (.if_icmp .ne 28, 3) := by decide +kernel
theorem dX7_goesOn_120 : decode cX7_goesOn 120 = .ok (.iload 9, 2) := by decide +kernel
theorem dX7_goesOn_122 : decode cX7_goesOn 122 = .ok (.iload_n 3, 1) := by decide +kernel
theorem dX7_goesOn_123 : decode cX7_goesOn 123 = .ok (.if_icmp .eq 22, 3) := by decide +kernel
theorem dX7_goesOn_126 : decode cX7_goesOn 126 = .ok (.aload_n 0, 1) := by decide +kernel
theorem dX7_goesOn_127 : decode cX7_goesOn 127 = .ok (.iload 9, 2) := by decide +kernel
theorem dX7_goesOn_129 : decode cX7_goesOn 129 = .ok (.invokevirtual 75, 3) := by decide +kernel
theorem dX7_goesOn_132 : decode cX7_goesOn 132 = .ok (.aload_n 0, 1) := by decide +kernel
theorem dX7_goesOn_133 : decode cX7_goesOn 133 = .ok (.getfield 7, 3) := by decide +kernel
theorem dX7_goesOn_136 : decode cX7_goesOn 136 = .ok (.iconst 1, 1) := by decide +kernel
theorem dX7_goesOn_137 : decode cX7_goesOn 137 = .ok (.iaload, 1) := by decide +kernel
theorem dX7_goesOn_138 : decode cX7_goesOn 138 = .ok (.if_icmp .ge 7, 3) := by decide +kernel
theorem dX7_goesOn_141 : decode cX7_goesOn 141 = .ok (.iconst 1, 1) := by decide +kernel
theorem dX7_goesOn_142 : decode cX7_goesOn 142 = .ok (.goto 4, 3) := by decide +kernel
theorem dX7_goesOn_145 : decode cX7_goesOn 145 = .ok (.iconst 0, 1) := by decide +kernel
theorem dX7_goesOn_146 : decode cX7_goesOn 146 = .ok (.istore 10, 2) := by decide +kernel
theorem dX7_goesOn_148 : decode cX7_goesOn 148 = .ok (.iload 10, 2) := by decide +kernel
theorem dX7_goesOn_150 : decode cX7_goesOn 150 = .ok (.ifCond .eq 23, 3) := by decide +kernel
theorem dX7_goesOn_153 : decode cX7_goesOn 153 = .ok (.aload_n 0, 1) := by decide +kernel
theorem dX7_goesOn_154 : decode cX7_goesOn 154 = .ok (.aload_n 0, 1) := by decide +kernel
theorem dX7_goesOn_155 : decode cX7_goesOn 155 = .ok (.iload_n 1, 1) := by decide +kernel
theorem dX7_goesOn_156 : decode cX7_goesOn 156 = .ok (.iconst 0, 1) := by decide +kernel
theorem dX7_goesOn_157 : decode cX7_goesOn 157 = .ok (.invokevirtual 44, 3) := by decide +kernel
theorem dX7_goesOn_160 : decode cX7_goesOn 160 = .ok (.bipush (-4), 2) := by decide +kernel
theorem dX7_goesOn_162 : decode cX7_goesOn 162 = .ok (.iconst 1, 1) := by decide +kernel
theorem dX7_goesOn_163 : decode cX7_goesOn 163 = .ok (.iload 9, 2) := by decide +kernel
theorem dX7_goesOn_165 : decode cX7_goesOn 165 = .ok (.ishl, 1) := by decide +kernel
theorem dX7_goesOn_166 : decode cX7_goesOn 166 = .ok (.iload_n 2, 1) := by decide +kernel
theorem dX7_goesOn_167 : decode cX7_goesOn 167 = .ok (.invokevirtual 58, 3) := by decide +kernel
theorem dX7_goesOn_170 : decode cX7_goesOn 170 = .ok (.goto 5, 3) := by decide +kernel
theorem dX7_goesOn_173 : decode cX7_goesOn 173 = .ok (.ldc 50, 2) := by decide +kernel
theorem dX7_goesOn_175 : decode cX7_goesOn 175 = .ok (.istore 11, 2) := by decide +kernel
theorem dX7_goesOn_177 : decode cX7_goesOn 177 = .ok (.iload 11, 2) := by decide +kernel
theorem dX7_goesOn_179 : decode cX7_goesOn 179 = .ok (.iload 8, 2) := by decide +kernel
theorem dX7_goesOn_181 : decode cX7_goesOn 181 = .ok (.if_icmp .ge 8, 3) := by decide +kernel
theorem dX7_goesOn_184 : decode cX7_goesOn 184 = .ok (.iload 9, 2) := by decide +kernel
theorem dX7_goesOn_186 : decode cX7_goesOn 186 = .ok (.goto 5, 3) := by decide +kernel
theorem dX7_goesOn_189 : decode cX7_goesOn 189 = .ok (.iload 7, 2) := by decide +kernel
theorem dX7_goesOn_191 : decode cX7_goesOn 191 = .ok (.istore 7, 2) := by decide +kernel
theorem dX7_goesOn_193 : decode cX7_goesOn 193 = .ok (.iload 11, 2) := by decide +kernel
theorem dX7_goesOn_195 : decode cX7_goesOn 195 = .ok (.iload 8, 2) := by decide +kernel
theorem dX7_goesOn_197 : decode cX7_goesOn 197 = .ok (.if_icmp .ge 8, 3) := by decide +kernel
theorem dX7_goesOn_200 : decode cX7_goesOn 200 = .ok (.iload 11, 2) := by decide +kernel
theorem dX7_goesOn_202 : decode cX7_goesOn 202 = .ok (.goto 5, 3) := by decide +kernel
theorem dX7_goesOn_205 : decode cX7_goesOn 205 = .ok (.iload 8, 2) := by decide +kernel
theorem dX7_goesOn_207 : decode cX7_goesOn 207 = .ok (.istore 8, 2) := by decide +kernel
theorem dX7_goesOn_209 : decode cX7_goesOn 209 = .ok (.iinc 9 1, 3) := by decide +kernel
theorem dX7_goesOn_212 : decode cX7_goesOn 212 = .ok (.goto (-114), 3) := by decide +kernel
theorem dX7_goesOn_215 : decode cX7_goesOn 215 = .ok (.iload 7, 2) := by decide +kernel
theorem dX7_goesOn_217 : decode cX7_goesOn 217 = .ok (.ifCond .lt 10, 3) := by decide +kernel
theorem dX7_goesOn_220 : decode cX7_goesOn 220 = .ok (.aload_n 0, 1) := by decide +kernel
theorem dX7_goesOn_221 : decode cX7_goesOn 221 = .ok (.iload_n 1, 1) := by decide +kernel
theorem dX7_goesOn_222 : decode cX7_goesOn 222 = .ok (.iload 7, 2) := by decide +kernel
theorem dX7_goesOn_224 : decode cX7_goesOn 224 = .ok (.invokevirtual 78, 3) := by decide +kernel
theorem dX7_goesOn_227 : decode cX7_goesOn 227 = .ok (.return_, 1) := by decide +kernel
theorem dX7_goDay_0 : decode cX7_goDay 0 = .ok (.aload_n 0, 1) := by decide +kernel
theorem dX7_goDay_1 : decode cX7_goDay 1 = .ok (.getfield 7, 3) := by decide +kernel
theorem dX7_goDay_4 : decode cX7_goDay 4 = .ok (.iconst 0, 1) := by decide +kernel
theorem dX7_goDay_5 : decode cX7_goDay 5 = .ok (.dup2, 1) := by decide +kernel
theorem dX7_goDay_6 : decode cX7_goDay 6 = .ok (.iaload, 1) := by decide +kernel
theorem dX7_goDay_7 : decode cX7_goDay 7 = .ok (.iconst 1, 1) := by decide +kernel
theorem dX7_goDay_8 : decode cX7_goDay 8 = .ok (.iadd, 1) := by decide +kernel
theorem dX7_goDay_9 : decode cX7_goDay 9 = .ok (.iastore, 1) := by decide +kernel
theorem dX7_goDay_10 : decode cX7_goDay 10 = .ok (.iconst 0, 1) := by decide +kernel
theorem dX7_goDay_11 : decode cX7_goDay 11 = .ok (.istore_n 1, 1) := by decide +kernel
theorem dX7_goDay_12 : decode cX7_goDay 12 = .ok (.iconst 0, 1) := by decide +kernel
theorem dX7_goDay_13 : decode cX7_goDay 13 = .ok (.istore_n 2, 1) := by decide +kernel
theorem dX7_goDay_14 : decode cX7_goDay 14 = .ok (.iload_n 2, 1) := by decide +kernel
theorem dX7_goDay_15 : decode cX7_goDay 15 = .ok (.aload_n 0, 1) := by decide +kernel
theorem dX7_goDay_16 : decode cX7_goDay 16 = .ok (.getfield 7, 3) := by decide +kernel
theorem dX7_goDay_19 : decode cX7_goDay 19 = .ok (.iconst 4, 1) := by decide +kernel
theorem dX7_goDay_20 : decode cX7_goDay 20 = .ok (.iaload, 1) := by decide +kernel
theorem dX7_goDay_21 : decode cX7_goDay 21 = .ok (.if_icmp .ge 83, 3) := by decide +kernel
theorem dX7_goDay_24 : decode cX7_goDay 24 = .ok (.aload_n 0, 1) := by decide +kernel
theorem dX7_goDay_25 : decode cX7_goDay 25 = .ok (.iload_n 2, 1) := by decide +kernel
theorem dX7_goDay_26 : decode cX7_goDay 26 = .ok (.iconst 2, 1) := by decide +kernel
theorem dX7_goDay_27 : decode cX7_goDay 27 = .ok (.invokevirtual 44, 3) := by decide +kernel
theorem dX7_goDay_30 : decode cX7_goDay 30 = .ok (.iconst 1, 1) := by decide +kernel
theorem dX7_goDay_31 : decode cX7_goDay 31 = .ok (.isub, 1) := by decide +kernel
theorem dX7_goDay_32 : decode cX7_goDay 32 = .ok (.istore_n 3, 1) := by decide +kernel
theorem dX7_goDay_33 : decode cX7_goDay 33 = .ok (.iload_n 3, 1) := by decide +kernel
theorem dX7_goDay_34 : decode cX7_goDay 34 = .ok (.ifCond .lt 50, 3) := by decide +kernel
theorem dX7_goDay_37 : decode cX7_goDay 37 = .ok (.aload_n 0, 1) := by decide +kernel
theorem dX7_goDay_38 : decode cX7_goDay 38 = .ok (.iload_n 3, 1) := by decide +kernel
theorem dX7_goDay_39 : decode cX7_goDay 39 = .ok (.aload_n 0, 1) := by decide +kernel
theorem dX7_goDay_40 : decode cX7_goDay 40 = .ok (.getfield 7, 3) := by decide +kernel
theorem dX7_goDay_43 : decode cX7_goDay 43 = .ok (.iconst 0, 1) := by decide +kernel
theorem dX7_goDay_44 : decode cX7_goDay 44 = .ok (.iaload, 1) := by decide +kernel
theorem dX7_goDay_45 : decode cX7_goDay 45 = .ok (.invokevirtual 47, 3) := by decide +kernel
theorem dX7_goDay_48 : decode cX7_goDay 48 = .ok (.aload_n 0, 1) := by decide +kernel
theorem dX7_goDay_49 : decode cX7_goDay 49 = .ok (.iload_n 2, 1) := by decide +kernel
theorem dX7_goDay_50 : decode cX7_goDay 50 = .ok (.iconst 0, 1) := by decide +kernel
theorem dX7_goDay_51 : decode cX7_goDay 51 = .ok (.invokevirtual 44, 3) := by decide +kernel
theorem dX7_goDay_54 : decode cX7_goDay 54 = .ok (.if_icmp .ne 30, 3) := by decide +kernel
theorem dX7_goDay_57 : decode cX7_goDay 57 = .ok (.aload_n 0, 1) := by decide +kernel
theorem dX7_goDay_58 : decode cX7_goDay 58 = .ok (.iload_n 2, 1) := by decide +kernel
theorem dX7_goDay_59 : decode cX7_goDay 59 = .ok (.iconst 2, 1) := by decide +kernel
theorem dX7_goDay_60 : decode cX7_goDay 60 = .ok (.iconst 0, 1) := by decide +kernel
theorem dX7_goDay_61 : decode cX7_goDay 61 = .ok (.invokevirtual 68, 3) := by decide +kernel
theorem dX7_goDay_64 : decode cX7_goDay 64 = .ok (.aload_n 0, 1) := by decide +kernel
theorem dX7_goDay_65 : decode cX7_goDay 65 = .ok (.iload_n 2, 1) := by decide +kernel
theorem dX7_goDay_66 : decode cX7_goDay 66 = .ok (.iconst 3, 1) := by decide +kernel
theorem dX7_goDay_67 : decode cX7_goDay 67 = .ok (.aload_n 0, 1) := by decide +kernel
theorem dX7_goDay_68 : decode cX7_goDay 68 = .ok (.getfield 7, 3) := by decide +kernel
theorem dX7_goDay_71 : decode cX7_goDay 71 = .ok (.iconst 0, 1) := by decide +kernel
theorem dX7_goDay_72 : decode cX7_goDay 72 = .ok (.iaload, 1) := by decide +kernel
theorem dX7_goDay_73 : decode cX7_goDay 73 = .ok (.iconst 1, 1) := by decide +kernel
theorem dX7_goDay_74 : decode cX7_goDay 74 = .ok (.iadd, 1) := by decide +kernel
theorem dX7_goDay_75 : decode cX7_goDay 75 = .ok (.invokevirtual 68, 3) := by decide +kernel
theorem dX7_goDay_78 : decode cX7_goDay 78 = .ok (.iinc 1 1, 3) := by decide +kernel
theorem dX7_goDay_81 : decode cX7_goDay 81 = .ok (.goto 17, 3) := by decide +kernel
theorem dX7_goDay_84 : decode cX7_goDay 84 = .ok (.aload_n 0, 1) := by decide +kernel
theorem dX7_goDay_85 : decode cX7_goDay 85 = .ok (.iload_n 2, 1) := by decide +kernel
theorem dX7_goDay_86 : decode cX7_goDay 86 = .ok (.iconst 3, 1) := by decide +kernel
theorem dX7_goDay_87 : decode cX7_goDay 87 = .ok (.invokevirtual 44, 3) := by decide +kernel
theorem dX7_goDay_90 : decode cX7_goDay 90 = .ok (.ifCond .ne 8, 3) := by decide +kernel
theorem dX7_goDay_93 : decode cX7_goDay 93 = .ok (.aload_n 0, 1) := by decide +kernel
theorem dX7_goDay_94 : decode cX7_goDay 94 = .ok (.iload_n 2, 1) := by decide +kernel
theorem dX7_goDay_95 : decode cX7_goDay 95 = .ok (.invokevirtual 82, 3) := by decide +kernel
theorem dX7_goDay_98 : decode cX7_goDay 98 = .ok (.iinc 2 1, 3) := by decide +kernel
theorem dX7_goDay_101 : decode cX7_goDay 101 = .ok (.goto (-87), 3) := by decide +kernel
theorem dX7_goDay_104 : decode cX7_goDay 104 = .ok (.aload_n 0, 1) := by decide +kernel
theorem dX7_goDay_105 : decode cX7_goDay 105 = .ok (.getfield 7, 3) := by decide +kernel
theorem dX7_goDay_108 : decode cX7_goDay 108 = .ok (.bipush 6, 2) := by decide +kernel
theorem dX7_goDay_110 : decode cX7_goDay 110 = .ok (.dup2, 1) := by decide +kernel
theorem dX7_goDay_111 : decode cX7_goDay 111 = .ok (.iaload, 1) := by decide +kernel
theorem dX7_goDay_112 : decode cX7_goDay 112 = .ok (.iload_n 1, 1) := by decide +kernel
theorem dX7_goDay_113 : decode cX7_goDay 113 = .ok (.iadd, 1) := by decide +kernel
theorem dX7_goDay_114 : decode cX7_goDay 114 = .ok (.iastore, 1) := by decide +kernel
theorem dX7_goDay_115 : decode cX7_goDay 115 = .ok (.iload_n 1, 1) := by decide +kernel
theorem dX7_goDay_116 : decode cX7_goDay 116 = .ok (.ireturn, 1) := by decide +kernel
theorem dX7_goPass_0 : decode cX7_goPass 0 = .ok (.iconst 0, 1) := by decide +kernel
theorem dX7_goPass_1 : decode cX7_goPass 1 = .ok (.istore_n 2, 1) := by decide +kernel
theorem dX7_goPass_2 : decode cX7_goPass 2 = .ok (.iconst 0, 1) := by decide +kernel
theorem dX7_goPass_3 : decode cX7_goPass 3 = .ok (.istore_n 3, 1) := by decide +kernel
theorem dX7_goPass_4 : decode cX7_goPass 4 = .ok (.iload_n 3, 1) := by decide +kernel
theorem dX7_goPass_5 : decode cX7_goPass 5 = .ok (.iload_n 1, 1) := by decide +kernel
theorem dX7_goPass_6 : decode cX7_goPass 6 = .ok (.if_icmp .ge 16, 3) := by decide +kernel
theorem dX7_goPass_9 : decode cX7_goPass 9 = .ok (.iload_n 2, 1) := by decide +kernel
theorem dX7_goPass_10 : decode cX7_goPass 10 = .ok (.aload_n 0, 1) := by decide +kernel
theorem dX7_goPass_11 : decode cX7_goPass 11 = .ok (.invokevirtual 86, 3) := by decide +kernel
theorem dX7_goPass_14 : decode cX7_goPass 14 = .ok (.iadd, 1) := by decide +kernel
theorem dX7_goPass_15 : decode cX7_goPass 15 = .ok (.istore_n 2, 1) := by decide +kernel
theorem dX7_goPass_16 : decode cX7_goPass 16 = .ok (.iinc 3 1, 3) := by decide +kernel
theorem dX7_goPass_19 : decode cX7_goPass 19 = .ok (.goto (-15), 3) := by decide +kernel
theorem dX7_goPass_22 : decode cX7_goPass 22 = .ok (.iload_n 2, 1) := by decide +kernel
theorem dX7_goPass_23 : decode cX7_goPass 23 = .ok (.ireturn, 1) := by decide +kernel
theorem dX7_stall_0 : decode cX7_stall 0 = .ok (.iload_n 1, 1) := by decide +kernel
theorem dX7_stall_1 : decode cX7_stall 1 = .ok (.iconst 0, 1) := by decide +kernel
theorem dX7_stall_2 : decode cX7_stall 2 = .ok (.bipush 6, 2) := by decide +kernel
theorem dX7_stall_4 : decode cX7_stall 4 = .ok (.invokestatic 36, 3) := by decide +kernel
theorem dX7_stall_7 : decode cX7_stall 7 = .ok (.ifCond .eq 13, 3) := by decide +kernel
theorem dX7_stall_10 : decode cX7_stall 10 = .ok (.iload_n 2, 1) := by decide +kernel
theorem dX7_stall_11 : decode cX7_stall 11 = .ok (.iconst 0, 1) := by decide +kernel
theorem dX7_stall_12 : decode cX7_stall 12 = .ok (.bipush 6, 2) := by decide +kernel
theorem dX7_stall_14 : decode cX7_stall 14 = .ok (.invokestatic 36, 3) := by decide +kernel
theorem dX7_stall_17 : decode cX7_stall 17 = .ok (.ifCond .ne 5, 3) := by decide +kernel
theorem dX7_stall_20 : decode cX7_stall 20 = .ok (.iconst (-1), 1) := by decide +kernel
theorem dX7_stall_21 : decode cX7_stall 21 = .ok (.ireturn, 1) := by decide +kernel
theorem dX7_stall_22 : decode cX7_stall 22 = .ok (.aload_n 0, 1) := by decide +kernel
theorem dX7_stall_23 : decode cX7_stall 23 = .ok (.invokevirtual 90, 3) := by decide +kernel
theorem dX7_stall_26 : decode cX7_stall 26 = .ok (.aload_n 0, 1) := by decide +kernel
theorem dX7_stall_27 : decode cX7_stall 27 = .ok (.getfield 7, 3) := by decide +kernel
theorem dX7_stall_30 : decode cX7_stall 30 = .ok (.bipush 9, 2) := by decide +kernel
theorem dX7_stall_32 : decode cX7_stall 32 = .ok (.iload_n 1, 1) := by decide +kernel
theorem dX7_stall_33 : decode cX7_stall 33 = .ok (.iadd, 1) := by decide +kernel
theorem dX7_stall_34 : decode cX7_stall 34 = .ok (.iaload, 1) := by decide +kernel
theorem dX7_stall_35 : decode cX7_stall 35 = .ok (.istore_n 3, 1) := by decide +kernel
theorem dX7_stall_36 : decode cX7_stall 36 = .ok (.aload_n 0, 1) := by decide +kernel
theorem dX7_stall_37 : decode cX7_stall 37 = .ok (.getfield 7, 3) := by decide +kernel
theorem dX7_stall_40 : decode cX7_stall 40 = .ok (.bipush 9, 2) := by decide +kernel
theorem dX7_stall_42 : decode cX7_stall 42 = .ok (.iload_n 1, 1) := by decide +kernel
theorem dX7_stall_43 : decode cX7_stall 43 = .ok (.iadd, 1) := by decide +kernel
theorem dX7_stall_44 : decode cX7_stall 44 = .ok (.iload_n 2, 1) := by decide +kernel
theorem dX7_stall_45 : decode cX7_stall 45 = .ok (.iastore, 1) := by decide +kernel
theorem dX7_stall_46 : decode cX7_stall 46 = .ok (.iload_n 3, 1) := by decide +kernel
theorem dX7_stall_47 : decode cX7_stall 47 = .ok (.ireturn, 1) := by decide +kernel
theorem dX7_ill_0 : decode cX7_ill 0 = .ok (.aload_n 0, 1) := by decide +kernel
theorem dX7_ill_1 : decode cX7_ill 1 = .ok (.iload_n 1, 1) := by decide +kernel
theorem dX7_ill_2 : decode cX7_ill 2 = .ok (.invokevirtual 93, 3) := by decide +kernel
theorem dX7_ill_5 : decode cX7_ill 5 = .ok (.ifCond .eq 13, 3) := by decide +kernel
theorem dX7_ill_8 : decode cX7_ill 8 = .ok (.iload_n 2, 1) := by decide +kernel
theorem dX7_ill_9 : decode cX7_ill 9 = .ok (.iconst 0, 1) := by decide +kernel
theorem dX7_ill_10 : decode cX7_ill 10 = .ok (.bipush 30, 2) := by decide +kernel
theorem dX7_ill_12 : decode cX7_ill 12 = .ok (.invokestatic 36, 3) := by decide +kernel
theorem dX7_ill_15 : decode cX7_ill 15 = .ok (.ifCond .ne 5, 3) := by decide +kernel
theorem dX7_ill_18 : decode cX7_ill 18 = .ok (.iconst (-1), 1) := by decide +kernel
theorem dX7_ill_19 : decode cX7_ill 19 = .ok (.ireturn, 1) := by decide +kernel
theorem dX7_ill_20 : decode cX7_ill 20 = .ok (.aload_n 0, 1) := by decide +kernel
theorem dX7_ill_21 : decode cX7_ill 21 = .ok (.invokevirtual 90, 3) := by decide +kernel
theorem dX7_ill_24 : decode cX7_ill 24 = .ok (.aload_n 0, 1) := by decide +kernel
theorem dX7_ill_25 : decode cX7_ill 25 = .ok (.getfield 7, 3) := by decide +kernel
theorem dX7_ill_28 : decode cX7_ill 28 = .ok (.bipush 16, 2) := by decide +kernel
theorem dX7_ill_30 : decode cX7_ill 30 = .ok (.bipush 12, 2) := by decide +kernel
theorem dX7_ill_32 : decode cX7_ill 32 = .ok (.iload_n 1, 1) := by decide +kernel
theorem dX7_ill_33 : decode cX7_ill 33 = .ok (.imul, 1) := by decide +kernel
theorem dX7_ill_34 : decode cX7_ill 34 = .ok (.iadd, 1) := by decide +kernel
theorem dX7_ill_35 : decode cX7_ill 35 = .ok (.bipush 9, 2) := by decide +kernel
theorem dX7_ill_37 : decode cX7_ill 37 = .ok (.iadd, 1) := by decide +kernel
theorem dX7_ill_38 : decode cX7_ill 38 = .ok (.iload_n 2, 1) := by decide +kernel
theorem dX7_ill_39 : decode cX7_ill 39 = .ok (.ifCond .ne 7, 3) := by decide +kernel
theorem dX7_ill_42 : decode cX7_ill 42 = .ok (.iconst 0, 1) := by decide +kernel
theorem dX7_ill_43 : decode cX7_ill 43 = .ok (.goto 13, 3) := by decide +kernel
theorem dX7_ill_46 : decode cX7_ill 46 = .ok (.aload_n 0, 1) := by decide +kernel
theorem dX7_ill_47 : decode cX7_ill 47 = .ok (.getfield 7, 3) := by decide +kernel
theorem dX7_ill_50 : decode cX7_ill 50 = .ok (.iconst 0, 1) := by decide +kernel
theorem dX7_ill_51 : decode cX7_ill 51 = .ok (.iaload, 1) := by decide +kernel
theorem dX7_ill_52 : decode cX7_ill 52 = .ok (.iconst 1, 1) := by decide +kernel
theorem dX7_ill_53 : decode cX7_ill 53 = .ok (.iadd, 1) := by decide +kernel
theorem dX7_ill_54 : decode cX7_ill 54 = .ok (.iload_n 2, 1) := by decide +kernel
theorem dX7_ill_55 : decode cX7_ill 55 = .ok (.iadd, 1) := by decide +kernel
theorem dX7_ill_56 : decode cX7_ill 56 = .ok (.iastore, 1) := by decide +kernel
theorem dX7_ill_57 : decode cX7_ill 57 = .ok (.aload_n 0, 1) := by decide +kernel
theorem dX7_ill_58 : decode cX7_ill 58 = .ok (.iload_n 1, 1) := by decide +kernel
theorem dX7_ill_59 : decode cX7_ill 59 = .ok (.bipush 9, 2) := by decide +kernel
theorem dX7_ill_61 : decode cX7_ill 61 = .ok (.invokevirtual 40, 3) := by decide +kernel
theorem dX7_ill_64 : decode cX7_ill 64 = .ok (.ireturn, 1) := by decide +kernel
theorem dX7_rough_0 : decode cX7_rough 0 = .ok (.aload_n 0, 1) := by decide +kernel
theorem dX7_rough_1 : decode cX7_rough 1 = .ok (.iload_n 1, 1) := by decide +kernel
theorem dX7_rough_2 : decode cX7_rough 2 = .ok (.invokevirtual 93, 3) := by decide +kernel
theorem dX7_rough_5 : decode cX7_rough 5 = .ok (.ifCond .eq 13, 3) := by decide +kernel
theorem dX7_rough_8 : decode cX7_rough 8 = .ok (.iload_n 2, 1) := by decide +kernel
theorem dX7_rough_9 : decode cX7_rough 9 = .ok (.iconst 0, 1) := by decide +kernel
theorem dX7_rough_10 : decode cX7_rough 10 = .ok (.bipush 9, 2) := by decide +kernel
theorem dX7_rough_12 : decode cX7_rough 12 = .ok (.invokestatic 36, 3) := by decide +kernel
theorem dX7_rough_15 : decode cX7_rough 15 = .ok (.ifCond .ne 5, 3) := by decide +kernel
theorem dX7_rough_18 : decode cX7_rough 18 = .ok (.iconst (-1), 1) := by decide +kernel
theorem dX7_rough_19 : decode cX7_rough 19 = .ok (.ireturn, 1) := by decide +kernel
theorem dX7_rough_20 : decode cX7_rough 20 = .ok (.aload_n 0, 1) := by decide +kernel
theorem dX7_rough_21 : decode cX7_rough 21 = .ok (.invokevirtual 90, 3) := by decide +kernel
theorem dX7_rough_24 : decode cX7_rough 24 = .ok (.aload_n 0, 1) := by decide +kernel
theorem dX7_rough_25 : decode cX7_rough 25 = .ok (.iload_n 1, 1) := by decide +kernel
theorem dX7_rough_26 : decode cX7_rough 26 = .ok (.bipush 8, 2) := by decide +kernel
theorem dX7_rough_28 : decode cX7_rough 28 = .ok (.invokevirtual 40, 3) := by decide +kernel
theorem dX7_rough_31 : decode cX7_rough 31 = .ok (.istore_n 3, 1) := by decide +kernel
theorem dX7_rough_32 : decode cX7_rough 32 = .ok (.aload_n 0, 1) := by decide +kernel
theorem dX7_rough_33 : decode cX7_rough 33 = .ok (.getfield 7, 3) := by decide +kernel
theorem dX7_rough_36 : decode cX7_rough 36 = .ok (.bipush 16, 2) := by decide +kernel
theorem dX7_rough_38 : decode cX7_rough 38 = .ok (.bipush 12, 2) := by decide +kernel
theorem dX7_rough_40 : decode cX7_rough 40 = .ok (.iload_n 1, 1) := by decide +kernel
theorem dX7_rough_41 : decode cX7_rough 41 = .ok (.imul, 1) := by decide +kernel
theorem dX7_rough_42 : decode cX7_rough 42 = .ok (.iadd, 1) := by decide +kernel
theorem dX7_rough_43 : decode cX7_rough 43 = .ok (.bipush 8, 2) := by decide +kernel
theorem dX7_rough_45 : decode cX7_rough 45 = .ok (.iadd, 1) := by decide +kernel
theorem dX7_rough_46 : decode cX7_rough 46 = .ok (.iload_n 2, 1) := by decide +kernel
theorem dX7_rough_47 : decode cX7_rough 47 = .ok (.iastore, 1) := by decide +kernel
theorem dX7_rough_48 : decode cX7_rough 48 = .ok (.iload_n 3, 1) := by decide +kernel
theorem dX7_rough_49 : decode cX7_rough 49 = .ok (.ireturn, 1) := by decide +kernel
theorem dX7_load_0 : decode cX7_load 0 = .ok (.iload_n 1, 1) := by decide +kernel
theorem dX7_load_1 : decode cX7_load 1 = .ok (.iconst 1, 1) := by decide +kernel
theorem dX7_load_2 : decode cX7_load 2 = .ok (.bipush 8, 2) := by decide +kernel
theorem dX7_load_4 : decode cX7_load 4 = .ok (.invokestatic 36, 3) := by decide +kernel
theorem dX7_load_7 : decode cX7_load 7 = .ok (.ifCond .ne 5, 3) := by decide +kernel
theorem dX7_load_10 : decode cX7_load 10 = .ok (.iconst (-1), 1) := by decide +kernel
theorem dX7_load_11 : decode cX7_load 11 = .ok (.ireturn, 1) := by decide +kernel
theorem dX7_load_12 : decode cX7_load 12 = .ok (.aload_n 0, 1) := by decide +kernel
theorem dX7_load_13 : decode cX7_load 13 = .ok (.invokevirtual 90, 3) := by decide +kernel
theorem dX7_load_16 : decode cX7_load 16 = .ok (.aload_n 0, 1) := by decide +kernel
theorem dX7_load_17 : decode cX7_load 17 = .ok (.getfield 7, 3) := by decide +kernel
theorem dX7_load_20 : decode cX7_load 20 = .ok (.iconst 1, 1) := by decide +kernel
theorem dX7_load_21 : decode cX7_load 21 = .ok (.iaload, 1) := by decide +kernel
theorem dX7_load_22 : decode cX7_load 22 = .ok (.istore_n 2, 1) := by decide +kernel
theorem dX7_load_23 : decode cX7_load 23 = .ok (.aload_n 0, 1) := by decide +kernel
theorem dX7_load_24 : decode cX7_load 24 = .ok (.getfield 7, 3) := by decide +kernel
theorem dX7_load_27 : decode cX7_load 27 = .ok (.iconst 1, 1) := by decide +kernel
theorem dX7_load_28 : decode cX7_load 28 = .ok (.iload_n 1, 1) := by decide +kernel
theorem dX7_load_29 : decode cX7_load 29 = .ok (.iastore, 1) := by decide +kernel
theorem dX7_load_30 : decode cX7_load 30 = .ok (.iload_n 2, 1) := by decide +kernel
theorem dX7_load_31 : decode cX7_load 31 = .ok (.ireturn, 1) := by decide +kernel
theorem dX7_isWay_0 : decode cX7_isWay 0 = .ok (.iload_n 0, 1) := by decide +kernel
theorem dX7_isWay_1 : decode cX7_isWay 1 = .ok (.invokestatic 97, 3) := by decide +kernel
theorem dX7_isWay_4 : decode cX7_isWay 4 = .ok (.ifCond .eq 19, 3) := by decide +kernel
theorem dX7_isWay_7 : decode cX7_isWay 7 = .ok (.iload_n 1, 1) := by decide +kernel
theorem dX7_isWay_8 : decode cX7_isWay 8 = .ok (.invokestatic 97, 3) := by decide +kernel
theorem dX7_isWay_11 : decode cX7_isWay 11 = .ok (.ifCond .eq 12, 3) := by decide +kernel
theorem dX7_isWay_14 : decode cX7_isWay 14 = .ok (.iload_n 0, 1) := by decide +kernel
theorem dX7_isWay_15 : decode cX7_isWay 15 = .ok (.iload_n 1, 1) := by decide +kernel
theorem dX7_isWay_16 : decode cX7_isWay 16 = .ok (.if_icmp .eq 7, 3) := by decide +kernel
theorem dX7_isWay_19 : decode cX7_isWay 19 = .ok (.iconst 1, 1) := by decide +kernel
theorem dX7_isWay_20 : decode cX7_isWay 20 = .ok (.goto 4, 3) := by decide +kernel
theorem dX7_isWay_23 : decode cX7_isWay 23 = .ok (.iconst 0, 1) := by decide +kernel
theorem dX7_isWay_24 : decode cX7_isWay 24 = .ok (.ireturn, 1) := by decide +kernel
theorem dX7_post_0 : decode cX7_post 0 = .ok (.iload_n 1, 1) := by decide +kernel
theorem dX7_post_1 : decode cX7_post 1 = .ok (.iload_n 2, 1) := by decide +kernel
theorem dX7_post_2 : decode cX7_post 2 = .ok (.invokestatic 100, 3) := by decide +kernel
theorem dX7_post_5 : decode cX7_post 5 = .ok (.ifCond .ne 5, 3) := by decide +kernel
theorem dX7_post_8 : decode cX7_post 8 = .ok (.iconst (-1), 1) := by decide +kernel
theorem dX7_post_9 : decode cX7_post 9 = .ok (.ireturn, 1) := by decide +kernel
theorem dX7_post_10 : decode cX7_post 10 = .ok (.aload_n 0, 1) := by decide +kernel
theorem dX7_post_11 : decode cX7_post 11 = .ok (.getfield 7, 3) := by decide +kernel
theorem dX7_post_14 : decode cX7_post 14 = .ok (.iconst 4, 1) := by decide +kernel
theorem dX7_post_15 : decode cX7_post 15 = .ok (.iaload, 1) := by decide +kernel
theorem dX7_post_16 : decode cX7_post 16 = .ok (.bipush 8, 2) := by decide +kernel
theorem dX7_post_18 : decode cX7_post 18 = .ok (.if_icmp .ne 6, 3) := by decide +kernel
theorem dX7_post_21 : decode cX7_post 21 = .ok (.bipush (-3), 2) := by decide +kernel
theorem dX7_post_23 : decode cX7_post 23 = .ok (.ireturn, 1) := by decide +kernel
theorem dX7_post_24 : decode cX7_post 24 = .ok (.aload_n 0, 1) := by decide +kernel
theorem dX7_post_25 : decode cX7_post 25 = .ok (.invokevirtual 90, 3) := by decide +kernel
theorem dX7_post_28 : decode cX7_post 28 = .ok (.aload_n 0, 1) := by decide +kernel
theorem dX7_post_29 : decode cX7_post 29 = .ok (.iload_n 1, 1) := by decide +kernel
theorem dX7_post_30 : decode cX7_post 30 = .ok (.iload_n 2, 1) := by decide +kernel
theorem dX7_post_31 : decode cX7_post 31 = .ok (.invokevirtual 104, 3) := by decide +kernel
theorem dX7_post_34 : decode cX7_post 34 = .ok (.ireturn, 1) := by decide +kernel
theorem dX7_forget_0 : decode cX7_forget 0 = .ok (.aload_n 0, 1) := by decide +kernel
theorem dX7_forget_1 : decode cX7_forget 1 = .ok (.iload_n 1, 1) := by decide +kernel
theorem dX7_forget_2 : decode cX7_forget 2 = .ok (.invokevirtual 107, 3) := by decide +kernel
theorem dX7_forget_5 : decode cX7_forget 5 = .ok (.ifCond .ne 5, 3) := by decide +kernel
theorem dX7_forget_8 : decode cX7_forget 8 = .ok (.iconst (-1), 1) := by decide +kernel
theorem dX7_forget_9 : decode cX7_forget 9 = .ok (.ireturn, 1) := by decide +kernel
theorem dX7_forget_10 : decode cX7_forget 10 = .ok (.aload_n 0, 1) := by decide +kernel
theorem dX7_forget_11 : decode cX7_forget 11 = .ok (.invokevirtual 90, 3) := by decide +kernel
theorem dX7_forget_14 : decode cX7_forget 14 = .ok (.aload_n 0, 1) := by decide +kernel
theorem dX7_forget_15 : decode cX7_forget 15 = .ok (.getfield 7, 3) := by decide +kernel
theorem dX7_forget_18 : decode cX7_forget 18 = .ok (.iconst 4, 1) := by decide +kernel
theorem dX7_forget_19 : decode cX7_forget 19 = .ok (.dup2, 1) := by decide +kernel
theorem dX7_forget_20 : decode cX7_forget 20 = .ok (.iaload, 1) := by decide +kernel
theorem dX7_forget_21 : decode cX7_forget 21 = .ok (.iconst 1, 1) := by decide +kernel
theorem dX7_forget_22 : decode cX7_forget 22 = .ok (.isub, 1) := by decide +kernel
theorem dX7_forget_23 : decode cX7_forget 23 = .ok (.iastore, 1) := by decide +kernel
theorem dX7_forget_24 : decode cX7_forget 24 = .ok (.aload_n 0, 1) := by decide +kernel
theorem dX7_forget_25 : decode cX7_forget 25 = .ok (.getfield 7, 3) := by decide +kernel
theorem dX7_forget_28 : decode cX7_forget 28 = .ok (.bipush 7, 2) := by decide +kernel
theorem dX7_forget_30 : decode cX7_forget 30 = .ok (.dup2, 1) := by decide +kernel
theorem dX7_forget_31 : decode cX7_forget 31 = .ok (.iaload, 1) := by decide +kernel
theorem dX7_forget_32 : decode cX7_forget 32 = .ok (.iconst 1, 1) := by decide +kernel
theorem dX7_forget_33 : decode cX7_forget 33 = .ok (.iadd, 1) := by decide +kernel
theorem dX7_forget_34 : decode cX7_forget 34 = .ok (.iastore, 1) := by decide +kernel
theorem dX7_forget_35 : decode cX7_forget 35 = .ok (.bipush 64, 2) := by decide +kernel
theorem dX7_forget_37 : decode cX7_forget 37 = .ok (.bipush 8, 2) := by decide +kernel
theorem dX7_forget_39 : decode cX7_forget 39 = .ok (.iload_n 1, 1) := by decide +kernel
theorem dX7_forget_40 : decode cX7_forget 40 = .ok (.imul, 1) := by decide +kernel
theorem dX7_forget_41 : decode cX7_forget 41 = .ok (.iadd, 1) := by decide +kernel
theorem dX7_forget_42 : decode cX7_forget 42 = .ok (.istore_n 2, 1) := by decide +kernel
theorem dX7_forget_43 : decode cX7_forget 43 = .ok (.iload_n 2, 1) := by decide +kernel
theorem dX7_forget_44 : decode cX7_forget 44 = .ok (.sipush 128, 3) := by decide +kernel
theorem dX7_forget_47 : decode cX7_forget 47 = .ok (.if_icmp .ge 38, 3) := by decide +kernel
theorem dX7_forget_50 : decode cX7_forget 50 = .ok (.aload_n 0, 1) := by decide +kernel
theorem dX7_forget_51 : decode cX7_forget 51 = .ok (.getfield 7, 3) := by decide +kernel
theorem dX7_forget_54 : decode cX7_forget 54 = .ok (.iload_n 2, 1) := by decide +kernel
theorem dX7_forget_55 : decode cX7_forget 55 = .ok (.iload_n 2, 1) := by decide +kernel
theorem dX7_forget_56 : decode cX7_forget 56 = .ok (.bipush 8, 2) := by decide +kernel
theorem dX7_forget_58 : decode cX7_forget 58 = .ok (.iadd, 1) := by decide +kernel
theorem dX7_forget_59 : decode cX7_forget 59 = .ok (.sipush 128, 3) := by decide +kernel
theorem dX7_forget_62 : decode cX7_forget 62 = .ok (.if_icmp .ge 15, 3) := by decide +kernel
theorem dX7_forget_65 : decode cX7_forget 65 = .ok (.aload_n 0, 1) := by decide +kernel
theorem dX7_forget_66 : decode cX7_forget 66 = .ok (.getfield 7, 3) := by decide +kernel
theorem dX7_forget_69 : decode cX7_forget 69 = .ok (.iload_n 2, 1) := by decide +kernel
theorem dX7_forget_70 : decode cX7_forget 70 = .ok (.bipush 8, 2) := by decide +kernel
theorem dX7_forget_72 : decode cX7_forget 72 = .ok (.iadd, 1) := by decide +kernel
theorem dX7_forget_73 : decode cX7_forget 73 = .ok (.iaload, 1) := by decide +kernel
theorem dX7_forget_74 : decode cX7_forget 74 = .ok (.goto 4, 3) := by decide +kernel
theorem dX7_forget_77 : decode cX7_forget 77 = .ok (.iconst 0, 1) := by decide +kernel
theorem dX7_forget_78 : decode cX7_forget 78 = .ok (.iastore, 1) := by decide +kernel
theorem dX7_forget_79 : decode cX7_forget 79 = .ok (.iinc 2 1, 3) := by decide +kernel
theorem dX7_forget_82 : decode cX7_forget 82 = .ok (.goto (-39), 3) := by decide +kernel
theorem dX7_forget_85 : decode cX7_forget 85 = .ok (.aload_n 0, 1) := by decide +kernel
theorem dX7_forget_86 : decode cX7_forget 86 = .ok (.getfield 7, 3) := by decide +kernel
theorem dX7_forget_89 : decode cX7_forget 89 = .ok (.iconst 4, 1) := by decide +kernel
theorem dX7_forget_90 : decode cX7_forget 90 = .ok (.iaload, 1) := by decide +kernel
theorem dX7_forget_91 : decode cX7_forget 91 = .ok (.ireturn, 1) := by decide +kernel
theorem dX7_pass_0 : decode cX7_pass 0 = .ok (.iload_n 1, 1) := by decide +kernel
theorem dX7_pass_1 : decode cX7_pass 1 = .ok (.iconst 1, 1) := by decide +kernel
theorem dX7_pass_2 : decode cX7_pass 2 = .ok (.bipush 30, 2) := by decide +kernel
theorem dX7_pass_4 : decode cX7_pass 4 = .ok (.invokestatic 36, 3) := by decide +kernel
theorem dX7_pass_7 : decode cX7_pass 7 = .ok (.ifCond .ne 5, 3) := by decide +kernel
theorem dX7_pass_10 : decode cX7_pass 10 = .ok (.iconst (-1), 1) := by decide +kernel
theorem dX7_pass_11 : decode cX7_pass 11 = .ok (.ireturn, 1) := by decide +kernel
theorem dX7_pass_12 : decode cX7_pass 12 = .ok (.aload_n 0, 1) := by decide +kernel
theorem dX7_pass_13 : decode cX7_pass 13 = .ok (.invokevirtual 90, 3) := by decide +kernel
theorem dX7_pass_16 : decode cX7_pass 16 = .ok (.aload_n 0, 1) := by decide +kernel
theorem dX7_pass_17 : decode cX7_pass 17 = .ok (.iload_n 1, 1) := by decide +kernel
theorem dX7_pass_18 : decode cX7_pass 18 = .ok (.invokevirtual 110, 3) := by decide +kernel
theorem dX7_pass_21 : decode cX7_pass 21 = .ok (.ireturn, 1) := by decide +kernel
theorem dX7_append_0 : decode cX7_append 0 = .ok (.iload_n 1, 1) := by decide +kernel
theorem dX7_append_1 : decode cX7_append 1 = .ok (.bipush 33, 2) := by decide +kernel
theorem dX7_append_3 : decode cX7_append 3 = .ok (.bipush 126, 2) := by decide +kernel
theorem dX7_append_5 : decode cX7_append 5 = .ok (.invokestatic 36, 3) := by decide +kernel
theorem dX7_append_8 : decode cX7_append 8 = .ok (.ifCond .ne 5, 3) := by decide +kernel
theorem dX7_append_11 : decode cX7_append 11 = .ok (.iconst (-1), 1) := by decide +kernel
theorem dX7_append_12 : decode cX7_append 12 = .ok (.ireturn, 1) := by decide +kernel
theorem dX7_append_13 : decode cX7_append 13 = .ok (.aload_n 0, 1) := by decide +kernel
theorem dX7_append_14 : decode cX7_append 14 = .ok (.getfield 113, 3) := by decide +kernel
theorem dX7_append_17 : decode cX7_append 17 = .ok (.bipush 60, 2) := by decide +kernel
theorem dX7_append_19 : decode cX7_append 19 = .ok (.if_icmp .ne 6, 3) := by decide +kernel
theorem dX7_append_22 : decode cX7_append 22 = .ok (.bipush (-3), 2) := by decide +kernel
theorem dX7_append_24 : decode cX7_append 24 = .ok (.ireturn, 1) := by decide +kernel
theorem dX7_append_25 : decode cX7_append 25 = .ok (.aload_n 0, 1) := by decide +kernel
theorem dX7_append_26 : decode cX7_append 26 = .ok (.getfield 22, 3) := by decide +kernel
theorem dX7_append_29 : decode cX7_append 29 = .ok (.aload_n 0, 1) := by decide +kernel
theorem dX7_append_30 : decode cX7_append 30 = .ok (.getfield 113, 3) := by decide +kernel
theorem dX7_append_33 : decode cX7_append 33 = .ok (.iload_n 1, 1) := by decide +kernel
theorem dX7_append_34 : decode cX7_append 34 = .ok (.iastore, 1) := by decide +kernel
theorem dX7_append_35 : decode cX7_append 35 = .ok (.aload_n 0, 1) := by decide +kernel
theorem dX7_append_36 : decode cX7_append 36 = .ok (.dup, 1) := by decide +kernel
theorem dX7_append_37 : decode cX7_append 37 = .ok (.getfield 113, 3) := by decide +kernel
theorem dX7_append_40 : decode cX7_append 40 = .ok (.iconst 1, 1) := by decide +kernel
theorem dX7_append_41 : decode cX7_append 41 = .ok (.iadd, 1) := by decide +kernel
theorem dX7_append_42 : decode cX7_append 42 = .ok (.putfield 113, 3) := by decide +kernel
theorem dX7_append_45 : decode cX7_append 45 = .ok (.aload_n 0, 1) := by decide +kernel
theorem dX7_append_46 : decode cX7_append 46 = .ok (.getfield 113, 3) := by decide +kernel
theorem dX7_append_49 : decode cX7_append 49 = .ok (.ireturn, 1) := by decide +kernel
theorem dX7_clear_0 : decode cX7_clear 0 = .ok (.aload_n 0, 1) := by decide +kernel
theorem dX7_clear_1 : decode cX7_clear 1 = .ok (.getfield 113, 3) := by decide +kernel
theorem dX7_clear_4 : decode cX7_clear 4 = .ok (.istore_n 1, 1) := by decide +kernel
theorem dX7_clear_5 : decode cX7_clear 5 = .ok (.aload_n 0, 1) := by decide +kernel
theorem dX7_clear_6 : decode cX7_clear 6 = .ok (.iconst 0, 1) := by decide +kernel
theorem dX7_clear_7 : decode cX7_clear 7 = .ok (.putfield 113, 3) := by decide +kernel
theorem dX7_clear_10 : decode cX7_clear 10 = .ok (.iload_n 1, 1) := by decide +kernel
theorem dX7_clear_11 : decode cX7_clear 11 = .ok (.ireturn, 1) := by decide +kernel
theorem dX7_here_0 : decode cX7_here 0 = .ok (.aload_n 0, 1) := by decide +kernel
theorem dX7_here_1 : decode cX7_here 1 = .ok (.getfield 116, 3) := by decide +kernel
theorem dX7_here_4 : decode cX7_here 4 = .ok (.aload_n 0, 1) := by decide +kernel
theorem dX7_here_5 : decode cX7_here 5 = .ok (.getfield 113, 3) := by decide +kernel
theorem dX7_here_8 : decode cX7_here 8 = .ok (.if_icmp .ge 15, 3) := by decide +kernel
theorem dX7_here_11 : decode cX7_here 11 = .ok (.aload_n 0, 1) := by decide +kernel
theorem dX7_here_12 : decode cX7_here 12 = .ok (.getfield 22, 3) := by decide +kernel
theorem dX7_here_15 : decode cX7_here 15 = .ok (.aload_n 0, 1) := by decide +kernel
theorem dX7_here_16 : decode cX7_here 16 = .ok (.getfield 116, 3) := by decide +kernel
theorem dX7_here_19 : decode cX7_here 19 = .ok (.iaload, 1) := by decide +kernel
theorem dX7_here_20 : decode cX7_here 20 = .ok (.goto 4, 3) := by decide +kernel
theorem dX7_here_23 : decode cX7_here 23 = .ok (.iconst 0, 1) := by decide +kernel
theorem dX7_here_24 : decode cX7_here 24 = .ok (.ireturn, 1) := by decide +kernel
theorem dX7_takes_0 : decode cX7_takes 0 = .ok (.aload_n 0, 1) := by decide +kernel
theorem dX7_takes_1 : decode cX7_takes 1 = .ok (.aload_n 0, 1) := by decide +kernel
theorem dX7_takes_2 : decode cX7_takes 2 = .ok (.getfield 119, 3) := by decide +kernel
theorem dX7_takes_5 : decode cX7_takes 5 = .ok (.ifCond .eq 11, 3) := by decide +kernel
theorem dX7_takes_8 : decode cX7_takes 8 = .ok (.iload_n 1, 1) := by decide +kernel
theorem dX7_takes_9 : decode cX7_takes 9 = .ok (.ifCond .eq 7, 3) := by decide +kernel
theorem dX7_takes_12 : decode cX7_takes 12 = .ok (.iconst 1, 1) := by decide +kernel
theorem dX7_takes_13 : decode cX7_takes 13 = .ok (.goto 4, 3) := by decide +kernel
theorem dX7_takes_16 : decode cX7_takes 16 = .ok (.iconst 0, 1) := by decide +kernel
theorem dX7_takes_17 : decode cX7_takes 17 = .ok (.putfield 119, 3) := by decide +kernel
theorem dX7_takes_20 : decode cX7_takes 20 = .ok (.aload_n 0, 1) := by decide +kernel
theorem dX7_takes_21 : decode cX7_takes 21 = .ok (.dup, 1) := by decide +kernel
theorem dX7_takes_22 : decode cX7_takes 22 = .ok (.getfield 116, 3) := by decide +kernel
theorem dX7_takes_25 : decode cX7_takes 25 = .ok (.aload_n 0, 1) := by decide +kernel
theorem dX7_takes_26 : decode cX7_takes 26 = .ok (.getfield 119, 3) := by decide +kernel
theorem dX7_takes_29 : decode cX7_takes 29 = .ok (.ifCond .eq 7, 3) := by decide +kernel
theorem dX7_takes_32 : decode cX7_takes 32 = .ok (.iconst 1, 1) := by decide +kernel
theorem dX7_takes_33 : decode cX7_takes 33 = .ok (.goto 4, 3) := by decide +kernel
theorem dX7_takes_36 : decode cX7_takes 36 = .ok (.iconst 0, 1) := by decide +kernel
theorem dX7_takes_37 : decode cX7_takes 37 = .ok (.iadd, 1) := by decide +kernel
theorem dX7_takes_38 : decode cX7_takes 38 = .ok (.putfield 116, 3) := by decide +kernel
theorem dX7_takes_41 : decode cX7_takes 41 = .ok (.return_, 1) := by decide +kernel
theorem dX7_takesDigit_0 : decode cX7_takesDigit 0 = .ok (.aload_n 0, 1) := by decide +kernel
theorem dX7_takesDigit_1 : decode cX7_takesDigit 1 = .ok (.invokevirtual 123, 3) := by decide +kernel
theorem dX7_takesDigit_4 : decode cX7_takesDigit 4 = .ok (.bipush 48, 2) := by decide +kernel
theorem dX7_takesDigit_6 : decode cX7_takesDigit 6 = .ok (.isub, 1) := by decide +kernel
theorem dX7_takesDigit_7 : decode cX7_takesDigit 7 = .ok (.istore_n 2, 1) := by decide +kernel
theorem dX7_takesDigit_8 : decode cX7_takesDigit 8 = .ok (.aload_n 0, 1) := by decide +kernel
theorem dX7_takesDigit_9 : decode cX7_takesDigit 9 = .ok (.iload_n 2, 1) := by decide +kernel
theorem dX7_takesDigit_10 : decode cX7_takesDigit 10 = .ok (.iconst 0, 1) := by decide +kernel
theorem dX7_takesDigit_11 : decode cX7_takesDigit 11 = .ok (.iload_n 1, 1) := by decide +kernel
theorem dX7_takesDigit_12 : decode cX7_takesDigit 12 = .ok (.invokestatic 36, 3) := by decide +kernel
theorem dX7_takesDigit_15 : decode cX7_takesDigit 15 = .ok (.invokevirtual 126, 3) := by decide +kernel
theorem dX7_takesDigit_18 : decode cX7_takesDigit 18 = .ok (.iload_n 2, 1) := by decide +kernel
theorem dX7_takesDigit_19 : decode cX7_takesDigit 19 = .ok (.ireturn, 1) := by decide +kernel
theorem dX7_takesTour_0 : decode cX7_takesTour 0 = .ok (.bipush 9, 2) := by decide +kernel
theorem dX7_takesTour_2 : decode cX7_takesTour 2 = .ok (.aload_n 0, 1) := by decide +kernel
theorem dX7_takesTour_3 : decode cX7_takesTour 3 = .ok (.getfield 130, 3) := by decide +kernel
theorem dX7_takesTour_6 : decode cX7_takesTour 6 = .ok (.imul, 1) := by decide +kernel
theorem dX7_takesTour_7 : decode cX7_takesTour 7 = .ok (.istore_n 1, 1) := by decide +kernel
theorem dX7_takesTour_8 : decode cX7_takesTour 8 = .ok (.iconst 1, 1) := by decide +kernel
theorem dX7_takesTour_9 : decode cX7_takesTour 9 = .ok (.istore_n 2, 1) := by decide +kernel
theorem dX7_takesTour_10 : decode cX7_takesTour 10 = .ok (.aload_n 0, 1) := by decide +kernel
theorem dX7_takesTour_11 : decode cX7_takesTour 11 = .ok (.getfield 25, 3) := by decide +kernel
theorem dX7_takesTour_14 : decode cX7_takesTour 14 = .ok (.iload_n 1, 1) := by decide +kernel
theorem dX7_takesTour_15 : decode cX7_takesTour 15 = .ok (.iconst 1, 1) := by decide +kernel
theorem dX7_takesTour_16 : decode cX7_takesTour 16 = .ok (.iadd, 1) := by decide +kernel
theorem dX7_takesTour_17 : decode cX7_takesTour 17 = .ok (.aload_n 0, 1) := by decide +kernel
theorem dX7_takesTour_18 : decode cX7_takesTour 18 = .ok (.iconst 5, 1) := by decide +kernel
theorem dX7_takesTour_19 : decode cX7_takesTour 19 = .ok (.invokevirtual 133, 3) := by decide +kernel
theorem dX7_takesTour_22 : decode cX7_takesTour 22 = .ok (.iastore, 1) := by decide +kernel
theorem dX7_takesTour_23 : decode cX7_takesTour 23 = .ok (.aload_n 0, 1) := by decide +kernel
theorem dX7_takesTour_24 : decode cX7_takesTour 24 = .ok (.getfield 119, 3) := by decide +kernel
theorem dX7_takesTour_27 : decode cX7_takesTour 27 = .ok (.ifCond .eq 42, 3) := by decide +kernel
theorem dX7_takesTour_30 : decode cX7_takesTour 30 = .ok (.iload_n 2, 1) := by decide +kernel
theorem dX7_takesTour_31 : decode cX7_takesTour 31 = .ok (.bipush 7, 2) := by decide +kernel
theorem dX7_takesTour_33 : decode cX7_takesTour 33 = .ok (.if_icmp .ge 36, 3) := by decide +kernel
theorem dX7_takesTour_36 : decode cX7_takesTour 36 = .ok (.aload_n 0, 1) := by decide +kernel
theorem dX7_takesTour_37 : decode cX7_takesTour 37 = .ok (.invokevirtual 123, 3) := by decide +kernel
theorem dX7_takesTour_40 : decode cX7_takesTour 40 = .ok (.bipush 48, 2) := by decide +kernel
theorem dX7_takesTour_42 : decode cX7_takesTour 42 = .ok (.bipush 53, 2) := by decide +kernel
theorem dX7_takesTour_44 : decode cX7_takesTour 44 = .ok (.invokestatic 36, 3) := by decide +kernel
theorem dX7_takesTour_47 : decode cX7_takesTour 47 = .ok (.ifCond .eq 22, 3) := by decide +kernel
theorem dX7_takesTour_50 : decode cX7_takesTour 50 = .ok (.iinc 2 1, 3) := by decide +kernel
theorem dX7_takesTour_53 : decode cX7_takesTour 53 = .ok (.aload_n 0, 1) := by decide +kernel
theorem dX7_takesTour_54 : decode cX7_takesTour 54 = .ok (.getfield 25, 3) := by decide +kernel
theorem dX7_takesTour_57 : decode cX7_takesTour 57 = .ok (.iload_n 1, 1) := by decide +kernel
theorem dX7_takesTour_58 : decode cX7_takesTour 58 = .ok (.iload_n 2, 1) := by decide +kernel
theorem dX7_takesTour_59 : decode cX7_takesTour 59 = .ok (.iadd, 1) := by decide +kernel
theorem dX7_takesTour_60 : decode cX7_takesTour 60 = .ok (.aload_n 0, 1) := by decide +kernel
theorem dX7_takesTour_61 : decode cX7_takesTour 61 = .ok (.iconst 5, 1) := by decide +kernel
theorem dX7_takesTour_62 : decode cX7_takesTour 62 = .ok (.invokevirtual 133, 3) := by decide +kernel
theorem dX7_takesTour_65 : decode cX7_takesTour 65 = .ok (.iastore, 1) := by decide +kernel
theorem dX7_takesTour_66 : decode cX7_takesTour 66 = .ok (.goto (-43), 3) := by decide +kernel
theorem dX7_takesTour_69 : decode cX7_takesTour 69 = .ok (.aload_n 0, 1) := by decide +kernel
theorem dX7_takesTour_70 : decode cX7_takesTour 70 = .ok (.getfield 25, 3) := by decide +kernel
theorem dX7_takesTour_73 : decode cX7_takesTour 73 = .ok (.iload_n 1, 1) := by decide +kernel
theorem dX7_takesTour_74 : decode cX7_takesTour 74 = .ok (.iload_n 2, 1) := by decide +kernel
theorem dX7_takesTour_75 : decode cX7_takesTour 75 = .ok (.iastore, 1) := by decide +kernel
theorem dX7_takesTour_76 : decode cX7_takesTour 76 = .ok (.aload_n 0, 1) := by decide +kernel
theorem dX7_takesTour_77 : decode cX7_takesTour 77 = .ok (.getfield 25, 3) := by decide +kernel
theorem dX7_takesTour_80 : decode cX7_takesTour 80 = .ok (.iload_n 1, 1) := by decide +kernel
theorem dX7_takesTour_81 : decode cX7_takesTour 81 = .ok (.bipush 8, 2) := by decide +kernel
theorem dX7_takesTour_83 : decode cX7_takesTour 83 = .ok (.iadd, 1) := by decide +kernel
theorem dX7_takesTour_84 : decode cX7_takesTour 84 = .ok (.iconst 0, 1) := by decide +kernel
theorem dX7_takesTour_85 : decode cX7_takesTour 85 = .ok (.iastore, 1) := by decide +kernel
theorem dX7_takesTour_86 : decode cX7_takesTour 86 = .ok (.aload_n 0, 1) := by decide +kernel
theorem dX7_takesTour_87 : decode cX7_takesTour 87 = .ok (.getfield 119, 3) := by decide +kernel
theorem dX7_takesTour_90 : decode cX7_takesTour 90 = .ok (.ifCond .eq 37, 3) := by decide +kernel
theorem dX7_takesTour_93 : decode cX7_takesTour 93 = .ok (.aload_n 0, 1) := by decide +kernel
theorem dX7_takesTour_94 : decode cX7_takesTour 94 = .ok (.invokevirtual 123, 3) := by decide +kernel
theorem dX7_takesTour_97 : decode cX7_takesTour 97 = .ok (.bipush 42, 2) := by decide +kernel
theorem dX7_takesTour_99 : decode cX7_takesTour 99 = .ok (.if_icmp .ne 28, 3) := by decide +kernel
theorem dX7_takesTour_102 : decode cX7_takesTour 102 = .ok (.aload_n 0, 1) := by decide +kernel
theorem dX7_takesTour_103 : decode cX7_takesTour 103 = .ok (.dup, 1) := by decide +kernel
theorem dX7_takesTour_104 : decode cX7_takesTour 104 = .ok (.getfield 116, 3) := by decide +kernel
theorem dX7_takesTour_107 : decode cX7_takesTour 107 = .ok (.iconst 1, 1) := by decide +kernel
theorem dX7_takesTour_108 : decode cX7_takesTour 108 = .ok (.iadd, 1) := by decide +kernel
theorem dX7_takesTour_109 : decode cX7_takesTour 109 = .ok (.putfield 116, 3) := by decide +kernel
theorem dX7_takesTour_112 : decode cX7_takesTour 112 = .ok (.aload_n 0, 1) := by decide +kernel
theorem dX7_takesTour_113 : decode cX7_takesTour 113 = .ok (.getfield 25, 3) := by decide +kernel
theorem dX7_takesTour_116 : decode cX7_takesTour 116 = .ok (.iload_n 1, 1) := by decide +kernel
theorem dX7_takesTour_117 : decode cX7_takesTour 117 = .ok (.bipush 8, 2) := by decide +kernel
theorem dX7_takesTour_119 : decode cX7_takesTour 119 = .ok (.iadd, 1) := by decide +kernel
theorem dX7_takesTour_120 : decode cX7_takesTour 120 = .ok (.aload_n 0, 1) := by decide +kernel
theorem dX7_takesTour_121 : decode cX7_takesTour 121 = .ok (.bipush 9, 2) := by decide +kernel
theorem dX7_takesTour_123 : decode cX7_takesTour 123 = .ok (.invokevirtual 133, 3) := by decide +kernel
theorem dX7_takesTour_126 : decode cX7_takesTour 126 = .ok (.iastore, 1) := by decide +kernel
theorem dX7_takesTour_127 : decode cX7_takesTour 127 = .ok (.aload_n 0, 1) := by decide +kernel
theorem dX7_takesTour_128 : decode cX7_takesTour 128 = .ok (.dup, 1) := by decide +kernel
theorem dX7_takesTour_129 : decode cX7_takesTour 129 = .ok (.getfield 130, 3) := by decide +kernel
theorem dX7_takesTour_132 : decode cX7_takesTour 132 = .ok (.iconst 1, 1) := by decide +kernel
theorem dX7_takesTour_133 : decode cX7_takesTour 133 = .ok (.iadd, 1) := by decide +kernel
theorem dX7_takesTour_134 : decode cX7_takesTour 134 = .ok (.putfield 130, 3) := by decide +kernel
theorem dX7_takesTour_137 : decode cX7_takesTour 137 = .ok (.return_, 1) := by decide +kernel
theorem dX7_takesLetter_0 : decode cX7_takesLetter 0 = .ok (.iconst 2, 1) := by decide +kernel
theorem dX7_takesLetter_1 : decode cX7_takesLetter 1 = .ok (.aload_n 0, 1) := by decide +kernel
theorem dX7_takesLetter_2 : decode cX7_takesLetter 2 = .ok (.getfield 130, 3) := by decide +kernel
theorem dX7_takesLetter_5 : decode cX7_takesLetter 5 = .ok (.imul, 1) := by decide +kernel
theorem dX7_takesLetter_6 : decode cX7_takesLetter 6 = .ok (.istore_n 1, 1) := by decide +kernel
theorem dX7_takesLetter_7 : decode cX7_takesLetter 7 = .ok (.aload_n 0, 1) := by decide +kernel
theorem dX7_takesLetter_8 : decode cX7_takesLetter 8 = .ok (.getfield 25, 3) := by decide +kernel
theorem dX7_takesLetter_11 : decode cX7_takesLetter 11 = .ok (.iload_n 1, 1) := by decide +kernel
theorem dX7_takesLetter_12 : decode cX7_takesLetter 12 = .ok (.aload_n 0, 1) := by decide +kernel
theorem dX7_takesLetter_13 : decode cX7_takesLetter 13 = .ok (.iconst 5, 1) := by decide +kernel
theorem dX7_takesLetter_14 : decode cX7_takesLetter 14 = .ok (.invokevirtual 133, 3) := by decide +kernel
theorem dX7_takesLetter_17 : decode cX7_takesLetter 17 = .ok (.iastore, 1) := by decide +kernel
theorem dX7_takesLetter_18 : decode cX7_takesLetter 18 = .ok (.aload_n 0, 1) := by decide +kernel
theorem dX7_takesLetter_19 : decode cX7_takesLetter 19 = .ok (.aload_n 0, 1) := by decide +kernel
theorem dX7_takesLetter_20 : decode cX7_takesLetter 20 = .ok (.invokevirtual 123, 3) := by decide +kernel
theorem dX7_takesLetter_23 : decode cX7_takesLetter 23 = .ok (.bipush 62, 2) := by decide +kernel
theorem dX7_takesLetter_25 : decode cX7_takesLetter 25 = .ok (.if_icmp .ne 7, 3) := by decide +kernel
theorem dX7_takesLetter_28 : decode cX7_takesLetter 28 = .ok (.iconst 1, 1) := by decide +kernel
theorem dX7_takesLetter_29 : decode cX7_takesLetter 29 = .ok (.goto 4, 3) := by decide +kernel
theorem dX7_takesLetter_32 : decode cX7_takesLetter 32 = .ok (.iconst 0, 1) := by decide +kernel
theorem dX7_takesLetter_33 : decode cX7_takesLetter 33 = .ok (.invokevirtual 126, 3) := by decide +kernel
theorem dX7_takesLetter_36 : decode cX7_takesLetter 36 = .ok (.aload_n 0, 1) := by decide +kernel
theorem dX7_takesLetter_37 : decode cX7_takesLetter 37 = .ok (.getfield 25, 3) := by decide +kernel
theorem dX7_takesLetter_40 : decode cX7_takesLetter 40 = .ok (.iload_n 1, 1) := by decide +kernel
theorem dX7_takesLetter_41 : decode cX7_takesLetter 41 = .ok (.iconst 1, 1) := by decide +kernel
theorem dX7_takesLetter_42 : decode cX7_takesLetter 42 = .ok (.iadd, 1) := by decide +kernel
theorem dX7_takesLetter_43 : decode cX7_takesLetter 43 = .ok (.aload_n 0, 1) := by decide +kernel
theorem dX7_takesLetter_44 : decode cX7_takesLetter 44 = .ok (.invokevirtual 123, 3) := by decide +kernel
theorem dX7_takesLetter_47 : decode cX7_takesLetter 47 = .ok (.bipush 48, 2) := by decide +kernel
theorem dX7_takesLetter_49 : decode cX7_takesLetter 49 = .ok (.isub, 1) := by decide +kernel
theorem dX7_takesLetter_50 : decode cX7_takesLetter 50 = .ok (.iastore, 1) := by decide +kernel
theorem dX7_takesLetter_51 : decode cX7_takesLetter 51 = .ok (.aload_n 0, 1) := by decide +kernel
theorem dX7_takesLetter_52 : decode cX7_takesLetter 52 = .ok (.aload_n 0, 1) := by decide +kernel
theorem dX7_takesLetter_53 : decode cX7_takesLetter 53 = .ok (.getfield 25, 3) := by decide +kernel
theorem dX7_takesLetter_56 : decode cX7_takesLetter 56 = .ok (.iload_n 1, 1) := by decide +kernel
theorem dX7_takesLetter_57 : decode cX7_takesLetter 57 = .ok (.iconst 1, 1) := by decide +kernel
theorem dX7_takesLetter_58 : decode cX7_takesLetter 58 = .ok (.iadd, 1) := by decide +kernel
theorem dX7_takesLetter_59 : decode cX7_takesLetter 59 = .ok (.iaload, 1) := by decide +kernel
theorem dX7_takesLetter_60 : decode cX7_takesLetter 60 = .ok (.invokestatic 97, 3) := by decide +kernel
theorem dX7_takesLetter_63 : decode cX7_takesLetter 63 = .ok (.ifCond .eq 24, 3) := by decide +kernel
theorem dX7_takesLetter_66 : decode cX7_takesLetter 66 = .ok (.aload_n 0, 1) := by decide +kernel
theorem dX7_takesLetter_67 : decode cX7_takesLetter 67 = .ok (.getfield 25, 3) := by decide +kernel
theorem dX7_takesLetter_70 : decode cX7_takesLetter 70 = .ok (.iload_n 1, 1) := by decide +kernel
theorem dX7_takesLetter_71 : decode cX7_takesLetter 71 = .ok (.iconst 1, 1) := by decide +kernel
theorem dX7_takesLetter_72 : decode cX7_takesLetter 72 = .ok (.iadd, 1) := by decide +kernel
theorem dX7_takesLetter_73 : decode cX7_takesLetter 73 = .ok (.iaload, 1) := by decide +kernel
theorem dX7_takesLetter_74 : decode cX7_takesLetter 74 = .ok (.aload_n 0, 1) := by decide +kernel
theorem dX7_takesLetter_75 : decode cX7_takesLetter 75 = .ok (.getfield 25, 3) := by decide +kernel
theorem dX7_takesLetter_78 : decode cX7_takesLetter 78 = .ok (.iload_n 1, 1) := by decide +kernel
theorem dX7_takesLetter_79 : decode cX7_takesLetter 79 = .ok (.iaload, 1) := by decide +kernel
theorem dX7_takesLetter_80 : decode cX7_takesLetter 80 = .ok (.if_icmp .eq 7, 3) := by decide +kernel
theorem dX7_takesLetter_83 : decode cX7_takesLetter 83 = .ok (.iconst 1, 1) := by decide +kernel
theorem dX7_takesLetter_84 : decode cX7_takesLetter 84 = .ok (.goto 4, 3) := by decide +kernel
theorem dX7_takesLetter_87 : decode cX7_takesLetter 87 = .ok (.iconst 0, 1) := by decide +kernel
theorem dX7_takesLetter_88 : decode cX7_takesLetter 88 = .ok (.invokevirtual 126, 3) := by decide +kernel
theorem dX7_takesLetter_91 : decode cX7_takesLetter 91 = .ok (.aload_n 0, 1) := by decide +kernel
theorem dX7_takesLetter_92 : decode cX7_takesLetter 92 = .ok (.dup, 1) := by decide +kernel
theorem dX7_takesLetter_93 : decode cX7_takesLetter 93 = .ok (.getfield 130, 3) := by decide +kernel
theorem dX7_takesLetter_96 : decode cX7_takesLetter 96 = .ok (.iconst 1, 1) := by decide +kernel
theorem dX7_takesLetter_97 : decode cX7_takesLetter 97 = .ok (.iadd, 1) := by decide +kernel
theorem dX7_takesLetter_98 : decode cX7_takesLetter 98 = .ok (.putfield 130, 3) := by decide +kernel
theorem dX7_takesLetter_101 : decode cX7_takesLetter 101 = .ok (.return_, 1) := by decide +kernel
theorem dX7_isText_0 : decode cX7_isText 0 = .ok (.aload_n 0, 1) := by decide +kernel
theorem dX7_isText_1 : decode cX7_isText 1 = .ok (.iconst 0, 1) := by decide +kernel
theorem dX7_isText_2 : decode cX7_isText 2 = .ok (.putfield 116, 3) := by decide +kernel
theorem dX7_isText_5 : decode cX7_isText 5 = .ok (.aload_n 0, 1) := by decide +kernel
theorem dX7_isText_6 : decode cX7_isText 6 = .ok (.iconst 1, 1) := by decide +kernel
theorem dX7_isText_7 : decode cX7_isText 7 = .ok (.putfield 119, 3) := by decide +kernel
theorem dX7_isText_10 : decode cX7_isText 10 = .ok (.aload_n 0, 1) := by decide +kernel
theorem dX7_isText_11 : decode cX7_isText 11 = .ok (.iconst 0, 1) := by decide +kernel
theorem dX7_isText_12 : decode cX7_isText 12 = .ok (.putfield 130, 3) := by decide +kernel
theorem dX7_isText_15 : decode cX7_isText 15 = .ok (.iconst 1, 1) := by decide +kernel
theorem dX7_isText_16 : decode cX7_isText 16 = .ok (.istore_n 2, 1) := by decide +kernel
theorem dX7_isText_17 : decode cX7_isText 17 = .ok (.iload_n 2, 1) := by decide +kernel
theorem dX7_isText_18 : decode cX7_isText 18 = .ok (.ifCond .eq 81, 3) := by decide +kernel
theorem dX7_isText_21 : decode cX7_isText 21 = .ok (.iload_n 1, 1) := by decide +kernel
theorem dX7_isText_22 : decode cX7_isText 22 = .ok (.ifCond .eq 10, 3) := by decide +kernel
theorem dX7_isText_25 : decode cX7_isText 25 = .ok (.aload_n 0, 1) := by decide +kernel
theorem dX7_isText_26 : decode cX7_isText 26 = .ok (.invokevirtual 136, 3) := by decide +kernel
theorem dX7_isText_29 : decode cX7_isText 29 = .ok (.goto 7, 3) := by decide +kernel
theorem dX7_isText_32 : decode cX7_isText 32 = .ok (.aload_n 0, 1) := by decide +kernel
theorem dX7_isText_33 : decode cX7_isText 33 = .ok (.invokevirtual 139, 3) := by decide +kernel
theorem dX7_isText_36 : decode cX7_isText 36 = .ok (.aload_n 0, 1) := by decide +kernel
theorem dX7_isText_37 : decode cX7_isText 37 = .ok (.getfield 119, 3) := by decide +kernel
theorem dX7_isText_40 : decode cX7_isText 40 = .ok (.ifCond .eq 18, 3) := by decide +kernel
theorem dX7_isText_43 : decode cX7_isText 43 = .ok (.aload_n 0, 1) := by decide +kernel
theorem dX7_isText_44 : decode cX7_isText 44 = .ok (.getfield 116, 3) := by decide +kernel
theorem dX7_isText_47 : decode cX7_isText 47 = .ok (.aload_n 0, 1) := by decide +kernel
theorem dX7_isText_48 : decode cX7_isText 48 = .ok (.getfield 113, 3) := by decide +kernel
theorem dX7_isText_51 : decode cX7_isText 51 = .ok (.if_icmp .ge 7, 3) := by decide +kernel
theorem dX7_isText_54 : decode cX7_isText 54 = .ok (.iconst 1, 1) := by decide +kernel
theorem dX7_isText_55 : decode cX7_isText 55 = .ok (.goto 4, 3) := by decide +kernel
theorem dX7_isText_58 : decode cX7_isText 58 = .ok (.iconst 0, 1) := by decide +kernel
theorem dX7_isText_59 : decode cX7_isText 59 = .ok (.istore_n 2, 1) := by decide +kernel
theorem dX7_isText_60 : decode cX7_isText 60 = .ok (.iload_n 2, 1) := by decide +kernel
theorem dX7_isText_61 : decode cX7_isText 61 = .ok (.ifCond .eq (-44), 3) := by decide +kernel
theorem dX7_isText_64 : decode cX7_isText 64 = .ok (.aload_n 0, 1) := by decide +kernel
theorem dX7_isText_65 : decode cX7_isText 65 = .ok (.aload_n 0, 1) := by decide +kernel
theorem dX7_isText_66 : decode cX7_isText 66 = .ok (.invokevirtual 123, 3) := by decide +kernel
theorem dX7_isText_69 : decode cX7_isText 69 = .ok (.iload_n 1, 1) := by decide +kernel
theorem dX7_isText_70 : decode cX7_isText 70 = .ok (.ifCond .eq 8, 3) := by decide +kernel
theorem dX7_isText_73 : decode cX7_isText 73 = .ok (.bipush 59, 2) := by decide +kernel
theorem dX7_isText_75 : decode cX7_isText 75 = .ok (.goto 5, 3) := by decide +kernel
theorem dX7_isText_78 : decode cX7_isText 78 = .ok (.bipush 44, 2) := by decide +kernel
theorem dX7_isText_80 : decode cX7_isText 80 = .ok (.if_icmp .ne 7, 3) := by decide +kernel
theorem dX7_isText_83 : decode cX7_isText 83 = .ok (.iconst 1, 1) := by decide +kernel
theorem dX7_isText_84 : decode cX7_isText 84 = .ok (.goto 4, 3) := by decide +kernel
theorem dX7_isText_87 : decode cX7_isText 87 = .ok (.iconst 0, 1) := by decide +kernel
theorem dX7_isText_88 : decode cX7_isText 88 = .ok (.invokevirtual 126, 3) := by decide +kernel
theorem dX7_isText_91 : decode cX7_isText 91 = .ok (.aload_n 0, 1) := by decide +kernel
theorem dX7_isText_92 : decode cX7_isText 92 = .ok (.getfield 119, 3) := by decide +kernel
theorem dX7_isText_95 : decode cX7_isText 95 = .ok (.istore_n 2, 1) := by decide +kernel
theorem dX7_isText_96 : decode cX7_isText 96 = .ok (.goto (-79), 3) := by decide +kernel
theorem dX7_isText_99 : decode cX7_isText 99 = .ok (.aload_n 0, 1) := by decide +kernel
theorem dX7_isText_100 : decode cX7_isText 100 = .ok (.getfield 119, 3) := by decide +kernel
theorem dX7_isText_103 : decode cX7_isText 103 = .ok (.ireturn, 1) := by decide +kernel
theorem dX7_fault_0 : decode cX7_fault 0 = .ok (.iload_n 1, 1) := by decide +kernel
theorem dX7_fault_1 : decode cX7_fault 1 = .ok (.iconst 0, 1) := by decide +kernel
theorem dX7_fault_2 : decode cX7_fault 2 = .ok (.iconst 1, 1) := by decide +kernel
theorem dX7_fault_3 : decode cX7_fault 3 = .ok (.invokestatic 36, 3) := by decide +kernel
theorem dX7_fault_6 : decode cX7_fault 6 = .ok (.ifCond .ne 5, 3) := by decide +kernel
theorem dX7_fault_9 : decode cX7_fault 9 = .ok (.iconst (-1), 1) := by decide +kernel
theorem dX7_fault_10 : decode cX7_fault 10 = .ok (.ireturn, 1) := by decide +kernel
theorem dX7_fault_11 : decode cX7_fault 11 = .ok (.aload_n 0, 1) := by decide +kernel
theorem dX7_fault_12 : decode cX7_fault 12 = .ok (.iload_n 1, 1) := by decide +kernel
theorem dX7_fault_13 : decode cX7_fault 13 = .ok (.ifCond .ne 7, 3) := by decide +kernel
theorem dX7_fault_16 : decode cX7_fault 16 = .ok (.iconst 1, 1) := by decide +kernel
theorem dX7_fault_17 : decode cX7_fault 17 = .ok (.goto 4, 3) := by decide +kernel
theorem dX7_fault_20 : decode cX7_fault 20 = .ok (.iconst 0, 1) := by decide +kernel
theorem dX7_fault_21 : decode cX7_fault 21 = .ok (.invokevirtual 142, 3) := by decide +kernel
theorem dX7_fault_24 : decode cX7_fault 24 = .ok (.ifCond .eq 8, 3) := by decide +kernel
theorem dX7_fault_27 : decode cX7_fault 27 = .ok (.bipush (-4), 2) := by decide +kernel
theorem dX7_fault_29 : decode cX7_fault 29 = .ok (.goto 7, 3) := by decide +kernel
theorem dX7_fault_32 : decode cX7_fault 32 = .ok (.aload_n 0, 1) := by decide +kernel
theorem dX7_fault_33 : decode cX7_fault 33 = .ok (.getfield 116, 3) := by decide +kernel
theorem dX7_fault_36 : decode cX7_fault 36 = .ok (.ireturn, 1) := by decide +kernel
theorem dX7_tours_0 : decode cX7_tours 0 = .ok (.aload_n 0, 1) := by decide +kernel
theorem dX7_tours_1 : decode cX7_tours 1 = .ok (.iconst 1, 1) := by decide +kernel
theorem dX7_tours_2 : decode cX7_tours 2 = .ok (.invokevirtual 142, 3) := by decide +kernel
theorem dX7_tours_5 : decode cX7_tours 5 = .ok (.ifCond .ne 6, 3) := by decide +kernel
theorem dX7_tours_8 : decode cX7_tours 8 = .ok (.bipush (-2), 2) := by decide +kernel
theorem dX7_tours_10 : decode cX7_tours 10 = .ok (.ireturn, 1) := by decide +kernel
theorem dX7_tours_11 : decode cX7_tours 11 = .ok (.aload_n 0, 1) := by decide +kernel
theorem dX7_tours_12 : decode cX7_tours 12 = .ok (.getfield 7, 3) := by decide +kernel
theorem dX7_tours_15 : decode cX7_tours 15 = .ok (.iconst 3, 1) := by decide +kernel
theorem dX7_tours_16 : decode cX7_tours 16 = .ok (.iaload, 1) := by decide +kernel
theorem dX7_tours_17 : decode cX7_tours 17 = .ok (.aload_n 0, 1) := by decide +kernel
theorem dX7_tours_18 : decode cX7_tours 18 = .ok (.getfield 130, 3) := by decide +kernel
theorem dX7_tours_21 : decode cX7_tours 21 = .ok (.iadd, 1) := by decide +kernel
theorem dX7_tours_22 : decode cX7_tours 22 = .ok (.iconst 4, 1) := by decide +kernel
theorem dX7_tours_23 : decode cX7_tours 23 = .ok (.if_icmp .le 6, 3) := by decide +kernel
theorem dX7_tours_26 : decode cX7_tours 26 = .ok (.bipush (-3), 2) := by decide +kernel
theorem dX7_tours_28 : decode cX7_tours 28 = .ok (.ireturn, 1) := by decide +kernel
theorem dX7_tours_29 : decode cX7_tours 29 = .ok (.aload_n 0, 1) := by decide +kernel
theorem dX7_tours_30 : decode cX7_tours 30 = .ok (.invokevirtual 90, 3) := by decide +kernel
theorem dX7_tours_33 : decode cX7_tours 33 = .ok (.iconst 0, 1) := by decide +kernel
theorem dX7_tours_34 : decode cX7_tours 34 = .ok (.istore_n 1, 1) := by decide +kernel
theorem dX7_tours_35 : decode cX7_tours 35 = .ok (.iload_n 1, 1) := by decide +kernel
theorem dX7_tours_36 : decode cX7_tours 36 = .ok (.aload_n 0, 1) := by decide +kernel
theorem dX7_tours_37 : decode cX7_tours 37 = .ok (.getfield 130, 3) := by decide +kernel
theorem dX7_tours_40 : decode cX7_tours 40 = .ok (.if_icmp .ge 122, 3) := by decide +kernel
theorem dX7_tours_43 : decode cX7_tours 43 = .ok (.bipush 16, 2) := by decide +kernel
theorem dX7_tours_45 : decode cX7_tours 45 = .ok (.bipush 12, 2) := by decide +kernel
theorem dX7_tours_47 : decode cX7_tours 47 = .ok (.aload_n 0, 1) := by decide +kernel
theorem dX7_tours_48 : decode cX7_tours 48 = .ok (.getfield 7, 3) := by decide +kernel
theorem dX7_tours_51 : decode cX7_tours 51 = .ok (.iconst 3, 1) := by decide +kernel
theorem dX7_tours_52 : decode cX7_tours 52 = .ok (.iaload, 1) := by decide +kernel
theorem dX7_tours_53 : decode cX7_tours 53 = .ok (.imul, 1) := by decide +kernel
theorem dX7_tours_54 : decode cX7_tours 54 = .ok (.iadd, 1) := by decide +kernel
theorem dX7_tours_55 : decode cX7_tours 55 = .ok (.istore_n 2, 1) := by decide +kernel
theorem dX7_tours_56 : decode cX7_tours 56 = .ok (.iconst 0, 1) := by decide +kernel
theorem dX7_tours_57 : decode cX7_tours 57 = .ok (.istore_n 3, 1) := by decide +kernel
theorem dX7_tours_58 : decode cX7_tours 58 = .ok (.iload_n 3, 1) := by decide +kernel
theorem dX7_tours_59 : decode cX7_tours 59 = .ok (.bipush 9, 2) := by decide +kernel
theorem dX7_tours_61 : decode cX7_tours 61 = .ok (.if_icmp .ge 55, 3) := by decide +kernel
theorem dX7_tours_64 : decode cX7_tours 64 = .ok (.aload_n 0, 1) := by decide +kernel
theorem dX7_tours_65 : decode cX7_tours 65 = .ok (.getfield 7, 3) := by decide +kernel
theorem dX7_tours_68 : decode cX7_tours 68 = .ok (.iload_n 2, 1) := by decide +kernel
theorem dX7_tours_69 : decode cX7_tours 69 = .ok (.iload_n 3, 1) := by decide +kernel
theorem dX7_tours_70 : decode cX7_tours 70 = .ok (.iadd, 1) := by decide +kernel
theorem dX7_tours_71 : decode cX7_tours 71 = .ok (.iload_n 3, 1) := by decide +kernel
theorem dX7_tours_72 : decode cX7_tours 72 = .ok (.ifCond .eq 22, 3) := by decide +kernel
theorem dX7_tours_75 : decode cX7_tours 75 = .ok (.iload_n 3, 1) := by decide +kernel
theorem dX7_tours_76 : decode cX7_tours 76 = .ok (.bipush 8, 2) := by decide +kernel
theorem dX7_tours_78 : decode cX7_tours 78 = .ok (.if_icmp .eq 16, 3) := by decide +kernel
theorem dX7_tours_81 : decode cX7_tours 81 = .ok (.iload_n 3, 1) := by decide +kernel
theorem dX7_tours_82 : decode cX7_tours 82 = .ok (.aload_n 0, 1) := by decide +kernel
theorem dX7_tours_83 : decode cX7_tours 83 = .ok (.getfield 25, 3) := by decide +kernel
theorem dX7_tours_86 : decode cX7_tours 86 = .ok (.bipush 9, 2) := by decide +kernel
theorem dX7_tours_88 : decode cX7_tours 88 = .ok (.iload_n 1, 1) := by decide +kernel
theorem dX7_tours_89 : decode cX7_tours 89 = .ok (.imul, 1) := by decide +kernel
theorem dX7_tours_90 : decode cX7_tours 90 = .ok (.iaload, 1) := by decide +kernel
theorem dX7_tours_91 : decode cX7_tours 91 = .ok (.if_icmp .gt 17, 3) := by decide +kernel
theorem dX7_tours_94 : decode cX7_tours 94 = .ok (.aload_n 0, 1) := by decide +kernel
theorem dX7_tours_95 : decode cX7_tours 95 = .ok (.getfield 25, 3) := by decide +kernel
theorem dX7_tours_98 : decode cX7_tours 98 = .ok (.bipush 9, 2) := by decide +kernel
theorem dX7_tours_100 : decode cX7_tours 100 = .ok (.iload_n 1, 1) := by decide +kernel
theorem dX7_tours_101 : decode cX7_tours 101 = .ok (.imul, 1) := by decide +kernel
theorem dX7_tours_102 : decode cX7_tours 102 = .ok (.iload_n 3, 1) := by decide +kernel
theorem dX7_tours_103 : decode cX7_tours 103 = .ok (.iadd, 1) := by decide +kernel
theorem dX7_tours_104 : decode cX7_tours 104 = .ok (.iaload, 1) := by decide +kernel
theorem dX7_tours_105 : decode cX7_tours 105 = .ok (.goto 4, 3) := by decide +kernel
theorem dX7_tours_108 : decode cX7_tours 108 = .ok (.iconst 0, 1) := by decide +kernel
theorem dX7_tours_109 : decode cX7_tours 109 = .ok (.iastore, 1) := by decide +kernel
theorem dX7_tours_110 : decode cX7_tours 110 = .ok (.iinc 3 1, 3) := by decide +kernel
theorem dX7_tours_113 : decode cX7_tours 113 = .ok (.goto (-55), 3) := by decide +kernel
theorem dX7_tours_116 : decode cX7_tours 116 = .ok (.aload_n 0, 1) := by decide +kernel
theorem dX7_tours_117 : decode cX7_tours 117 = .ok (.getfield 7, 3) := by decide +kernel
theorem dX7_tours_120 : decode cX7_tours 120 = .ok (.iload_n 2, 1) := by decide +kernel
theorem dX7_tours_121 : decode cX7_tours 121 = .ok (.bipush 9, 2) := by decide +kernel
theorem dX7_tours_123 : decode cX7_tours 123 = .ok (.iadd, 1) := by decide +kernel
theorem dX7_tours_124 : decode cX7_tours 124 = .ok (.iconst 0, 1) := by decide +kernel
theorem dX7_tours_125 : decode cX7_tours 125 = .ok (.iastore, 1) := by decide +kernel
theorem dX7_tours_126 : decode cX7_tours 126 = .ok (.aload_n 0, 1) := by decide +kernel
theorem dX7_tours_127 : decode cX7_tours 127 = .ok (.getfield 7, 3) := by decide +kernel
theorem dX7_tours_130 : decode cX7_tours 130 = .ok (.iload_n 2, 1) := by decide +kernel
theorem dX7_tours_131 : decode cX7_tours 131 = .ok (.bipush 10, 2) := by decide +kernel
theorem dX7_tours_133 : decode cX7_tours 133 = .ok (.iadd, 1) := by decide +kernel
theorem dX7_tours_134 : decode cX7_tours 134 = .ok (.iconst 0, 1) := by decide +kernel
theorem dX7_tours_135 : decode cX7_tours 135 = .ok (.iastore, 1) := by decide +kernel
theorem dX7_tours_136 : decode cX7_tours 136 = .ok (.aload_n 0, 1) := by decide +kernel
theorem dX7_tours_137 : decode cX7_tours 137 = .ok (.getfield 7, 3) := by decide +kernel
theorem dX7_tours_140 : decode cX7_tours 140 = .ok (.iload_n 2, 1) := by decide +kernel
theorem dX7_tours_141 : decode cX7_tours 141 = .ok (.bipush 11, 2) := by decide +kernel
theorem dX7_tours_143 : decode cX7_tours 143 = .ok (.iadd, 1) := by decide +kernel
theorem dX7_tours_144 : decode cX7_tours 144 = .ok (.iconst 0, 1) := by decide +kernel
theorem dX7_tours_145 : decode cX7_tours 145 = .ok (.iastore, 1) := by decide +kernel
theorem dX7_tours_146 : decode cX7_tours 146 = .ok (.aload_n 0, 1) := by decide +kernel
theorem dX7_tours_147 : decode cX7_tours 147 = .ok (.getfield 7, 3) := by decide +kernel
theorem dX7_tours_150 : decode cX7_tours 150 = .ok (.iconst 3, 1) := by decide +kernel
theorem dX7_tours_151 : decode cX7_tours 151 = .ok (.dup2, 1) := by decide +kernel
theorem dX7_tours_152 : decode cX7_tours 152 = .ok (.iaload, 1) := by decide +kernel
theorem dX7_tours_153 : decode cX7_tours 153 = .ok (.iconst 1, 1) := by decide +kernel
theorem dX7_tours_154 : decode cX7_tours 154 = .ok (.iadd, 1) := by decide +kernel
theorem dX7_tours_155 : decode cX7_tours 155 = .ok (.iastore, 1) := by decide +kernel
theorem dX7_tours_156 : decode cX7_tours 156 = .ok (.iinc 1 1, 3) := by decide +kernel
theorem dX7_tours_159 : decode cX7_tours 159 = .ok (.goto (-124), 3) := by decide +kernel
theorem dX7_tours_162 : decode cX7_tours 162 = .ok (.aload_n 0, 1) := by decide +kernel
theorem dX7_tours_163 : decode cX7_tours 163 = .ok (.iconst 0, 1) := by decide +kernel
theorem dX7_tours_164 : decode cX7_tours 164 = .ok (.putfield 113, 3) := by decide +kernel
theorem dX7_tours_167 : decode cX7_tours 167 = .ok (.aload_n 0, 1) := by decide +kernel
theorem dX7_tours_168 : decode cX7_tours 168 = .ok (.getfield 7, 3) := by decide +kernel
theorem dX7_tours_171 : decode cX7_tours 171 = .ok (.iconst 3, 1) := by decide +kernel
theorem dX7_tours_172 : decode cX7_tours 172 = .ok (.iaload, 1) := by decide +kernel
theorem dX7_tours_173 : decode cX7_tours 173 = .ok (.ireturn, 1) := by decide +kernel
theorem dX7_letters_0 : decode cX7_letters 0 = .ok (.aload_n 0, 1) := by decide +kernel
theorem dX7_letters_1 : decode cX7_letters 1 = .ok (.iconst 0, 1) := by decide +kernel
theorem dX7_letters_2 : decode cX7_letters 2 = .ok (.invokevirtual 142, 3) := by decide +kernel
theorem dX7_letters_5 : decode cX7_letters 5 = .ok (.ifCond .ne 6, 3) := by decide +kernel
theorem dX7_letters_8 : decode cX7_letters 8 = .ok (.bipush (-2), 2) := by decide +kernel
theorem dX7_letters_10 : decode cX7_letters 10 = .ok (.ireturn, 1) := by decide +kernel
theorem dX7_letters_11 : decode cX7_letters 11 = .ok (.aload_n 0, 1) := by decide +kernel
theorem dX7_letters_12 : decode cX7_letters 12 = .ok (.getfield 7, 3) := by decide +kernel
theorem dX7_letters_15 : decode cX7_letters 15 = .ok (.iconst 4, 1) := by decide +kernel
theorem dX7_letters_16 : decode cX7_letters 16 = .ok (.iaload, 1) := by decide +kernel
theorem dX7_letters_17 : decode cX7_letters 17 = .ok (.aload_n 0, 1) := by decide +kernel
theorem dX7_letters_18 : decode cX7_letters 18 = .ok (.getfield 130, 3) := by decide +kernel
theorem dX7_letters_21 : decode cX7_letters 21 = .ok (.iadd, 1) := by decide +kernel
theorem dX7_letters_22 : decode cX7_letters 22 = .ok (.bipush 8, 2) := by decide +kernel
theorem dX7_letters_24 : decode cX7_letters 24 = .ok (.if_icmp .le 6, 3) := by decide +kernel
theorem dX7_letters_27 : decode cX7_letters 27 = .ok (.bipush (-3), 2) := by decide +kernel
theorem dX7_letters_29 : decode cX7_letters 29 = .ok (.ireturn, 1) := by decide +kernel
theorem dX7_letters_30 : decode cX7_letters 30 = .ok (.aload_n 0, 1) := by decide +kernel
theorem dX7_letters_31 : decode cX7_letters 31 = .ok (.invokevirtual 90, 3) := by decide +kernel
theorem dX7_letters_34 : decode cX7_letters 34 = .ok (.iconst 0, 1) := by decide +kernel
theorem dX7_letters_35 : decode cX7_letters 35 = .ok (.istore_n 1, 1) := by decide +kernel
theorem dX7_letters_36 : decode cX7_letters 36 = .ok (.iload_n 1, 1) := by decide +kernel
theorem dX7_letters_37 : decode cX7_letters 37 = .ok (.aload_n 0, 1) := by decide +kernel
theorem dX7_letters_38 : decode cX7_letters 38 = .ok (.getfield 130, 3) := by decide +kernel
theorem dX7_letters_41 : decode cX7_letters 41 = .ok (.if_icmp .ge 32, 3) := by decide +kernel
theorem dX7_letters_44 : decode cX7_letters 44 = .ok (.aload_n 0, 1) := by decide +kernel
theorem dX7_letters_45 : decode cX7_letters 45 = .ok (.aload_n 0, 1) := by decide +kernel
theorem dX7_letters_46 : decode cX7_letters 46 = .ok (.getfield 25, 3) := by decide +kernel
theorem dX7_letters_49 : decode cX7_letters 49 = .ok (.iconst 2, 1) := by decide +kernel
theorem dX7_letters_50 : decode cX7_letters 50 = .ok (.iload_n 1, 1) := by decide +kernel
theorem dX7_letters_51 : decode cX7_letters 51 = .ok (.imul, 1) := by decide +kernel
theorem dX7_letters_52 : decode cX7_letters 52 = .ok (.iaload, 1) := by decide +kernel
theorem dX7_letters_53 : decode cX7_letters 53 = .ok (.aload_n 0, 1) := by decide +kernel
theorem dX7_letters_54 : decode cX7_letters 54 = .ok (.getfield 25, 3) := by decide +kernel
theorem dX7_letters_57 : decode cX7_letters 57 = .ok (.iconst 2, 1) := by decide +kernel
theorem dX7_letters_58 : decode cX7_letters 58 = .ok (.iload_n 1, 1) := by decide +kernel
theorem dX7_letters_59 : decode cX7_letters 59 = .ok (.imul, 1) := by decide +kernel
theorem dX7_letters_60 : decode cX7_letters 60 = .ok (.iconst 1, 1) := by decide +kernel
theorem dX7_letters_61 : decode cX7_letters 61 = .ok (.iadd, 1) := by decide +kernel
theorem dX7_letters_62 : decode cX7_letters 62 = .ok (.iaload, 1) := by decide +kernel
theorem dX7_letters_63 : decode cX7_letters 63 = .ok (.invokevirtual 104, 3) := by decide +kernel
theorem dX7_letters_66 : decode cX7_letters 66 = .ok (.istore_n 2, 1) := by decide +kernel
theorem dX7_letters_67 : decode cX7_letters 67 = .ok (.iinc 1 1, 3) := by decide +kernel
theorem dX7_letters_70 : decode cX7_letters 70 = .ok (.goto (-34), 3) := by decide +kernel
theorem dX7_letters_73 : decode cX7_letters 73 = .ok (.aload_n 0, 1) := by decide +kernel
theorem dX7_letters_74 : decode cX7_letters 74 = .ok (.iconst 0, 1) := by decide +kernel
theorem dX7_letters_75 : decode cX7_letters 75 = .ok (.putfield 113, 3) := by decide +kernel
theorem dX7_letters_78 : decode cX7_letters 78 = .ok (.aload_n 0, 1) := by decide +kernel
theorem dX7_letters_79 : decode cX7_letters 79 = .ok (.getfield 7, 3) := by decide +kernel
theorem dX7_letters_82 : decode cX7_letters 82 = .ok (.iconst 4, 1) := by decide +kernel
theorem dX7_letters_83 : decode cX7_letters 83 = .ok (.iaload, 1) := by decide +kernel
theorem dX7_letters_84 : decode cX7_letters 84 = .ok (.ireturn, 1) := by decide +kernel
theorem dX7_where_0 : decode cX7_where 0 = .ok (.aload_n 0, 1) := by decide +kernel
theorem dX7_where_1 : decode cX7_where 1 = .ok (.iload_n 1, 1) := by decide +kernel
theorem dX7_where_2 : decode cX7_where 2 = .ok (.invokevirtual 93, 3) := by decide +kernel
theorem dX7_where_5 : decode cX7_where 5 = .ok (.ifCond .eq 23, 3) := by decide +kernel
theorem dX7_where_8 : decode cX7_where 8 = .ok (.iload_n 2, 1) := by decide +kernel
theorem dX7_where_9 : decode cX7_where 9 = .ok (.iconst 0, 1) := by decide +kernel
theorem dX7_where_10 : decode cX7_where 10 = .ok (.sipush 9999, 3) := by decide +kernel
theorem dX7_where_13 : decode cX7_where 13 = .ok (.invokestatic 36, 3) := by decide +kernel
theorem dX7_where_16 : decode cX7_where 16 = .ok (.ifCond .eq 12, 3) := by decide +kernel
theorem dX7_where_19 : decode cX7_where 19 = .ok (.aload_n 0, 1) := by decide +kernel
theorem dX7_where_20 : decode cX7_where 20 = .ok (.iload_n 1, 1) := by decide +kernel
theorem dX7_where_21 : decode cX7_where 21 = .ok (.iload_n 2, 1) := by decide +kernel
theorem dX7_where_22 : decode cX7_where 22 = .ok (.invokevirtual 47, 3) := by decide +kernel
theorem dX7_where_25 : decode cX7_where 25 = .ok (.goto 4, 3) := by decide +kernel
theorem dX7_where_28 : decode cX7_where 28 = .ok (.iconst (-1), 1) := by decide +kernel
theorem dX7_where_29 : decode cX7_where 29 = .ok (.ireturn, 1) := by decide +kernel
theorem dX7_carrier_0 : decode cX7_carrier 0 = .ok (.aload_n 0, 1) := by decide +kernel
theorem dX7_carrier_1 : decode cX7_carrier 1 = .ok (.iload_n 1, 1) := by decide +kernel
theorem dX7_carrier_2 : decode cX7_carrier 2 = .ok (.invokevirtual 93, 3) := by decide +kernel
theorem dX7_carrier_5 : decode cX7_carrier 5 = .ok (.ifCond .ne 5, 3) := by decide +kernel
theorem dX7_carrier_8 : decode cX7_carrier 8 = .ok (.iconst (-1), 1) := by decide +kernel
theorem dX7_carrier_9 : decode cX7_carrier 9 = .ok (.ireturn, 1) := by decide +kernel
theorem dX7_carrier_10 : decode cX7_carrier 10 = .ok (.iload_n 2, 1) := by decide +kernel
theorem dX7_carrier_11 : decode cX7_carrier 11 = .ok (.tableswitch 106 0 6 #[41, 48, 56, 62, 82, 90, 98], 41) := by decide +kernel
theorem dX7_carrier_52 : decode cX7_carrier 52 = .ok (.aload_n 0, 1) := by decide +kernel
theorem dX7_carrier_53 : decode cX7_carrier 53 = .ok (.iload_n 1, 1) := by decide +kernel
theorem dX7_carrier_54 : decode cX7_carrier 54 = .ok (.iconst 0, 1) := by decide +kernel
theorem dX7_carrier_55 : decode cX7_carrier 55 = .ok (.invokevirtual 40, 3) := by decide +kernel
theorem dX7_carrier_58 : decode cX7_carrier 58 = .ok (.ireturn, 1) := by decide +kernel
theorem dX7_carrier_59 : decode cX7_carrier 59 = .ok (.aload_n 0, 1) := by decide +kernel
theorem dX7_carrier_60 : decode cX7_carrier 60 = .ok (.iload_n 1, 1) := by decide +kernel
theorem dX7_carrier_61 : decode cX7_carrier 61 = .ok (.bipush 8, 2) := by decide +kernel
theorem dX7_carrier_63 : decode cX7_carrier 63 = .ok (.invokevirtual 40, 3) := by decide +kernel
theorem dX7_carrier_66 : decode cX7_carrier 66 = .ok (.ireturn, 1) := by decide +kernel
theorem dX7_carrier_67 : decode cX7_carrier 67 = .ok (.aload_n 0, 1) := by decide +kernel
theorem dX7_carrier_68 : decode cX7_carrier 68 = .ok (.iload_n 1, 1) := by decide +kernel
theorem dX7_carrier_69 : decode cX7_carrier 69 = .ok (.invokevirtual 75, 3) := by decide +kernel
theorem dX7_carrier_72 : decode cX7_carrier 72 = .ok (.ireturn, 1) := by decide +kernel
theorem dX7_carrier_73 : decode cX7_carrier 73 = .ok (.aload_n 0, 1) := by decide +kernel
theorem dX7_carrier_74 : decode cX7_carrier 74 = .ok (.iload_n 1, 1) := by decide +kernel
theorem dX7_carrier_75 : decode cX7_carrier 75 = .ok (.invokevirtual 75, 3) := by decide +kernel
theorem dX7_carrier_78 : decode cX7_carrier 78 = .ok (.aload_n 0, 1) := by decide +kernel
theorem dX7_carrier_79 : decode cX7_carrier 79 = .ok (.getfield 7, 3) := by decide +kernel
theorem dX7_carrier_82 : decode cX7_carrier 82 = .ok (.iconst 1, 1) := by decide +kernel
theorem dX7_carrier_83 : decode cX7_carrier 83 = .ok (.iaload, 1) := by decide +kernel
theorem dX7_carrier_84 : decode cX7_carrier 84 = .ok (.if_icmp .lt 7, 3) := by decide +kernel
theorem dX7_carrier_87 : decode cX7_carrier 87 = .ok (.iconst 1, 1) := by decide +kernel
theorem dX7_carrier_88 : decode cX7_carrier 88 = .ok (.goto 4, 3) := by decide +kernel
theorem dX7_carrier_91 : decode cX7_carrier 91 = .ok (.iconst 0, 1) := by decide +kernel
theorem dX7_carrier_92 : decode cX7_carrier 92 = .ok (.ireturn, 1) := by decide +kernel
theorem dX7_carrier_93 : decode cX7_carrier 93 = .ok (.aload_n 0, 1) := by decide +kernel
theorem dX7_carrier_94 : decode cX7_carrier 94 = .ok (.iload_n 1, 1) := by decide +kernel
theorem dX7_carrier_95 : decode cX7_carrier 95 = .ok (.bipush 9, 2) := by decide +kernel
theorem dX7_carrier_97 : decode cX7_carrier 97 = .ok (.invokevirtual 40, 3) := by decide +kernel
theorem dX7_carrier_100 : decode cX7_carrier 100 = .ok (.ireturn, 1) := by decide +kernel
theorem dX7_carrier_101 : decode cX7_carrier 101 = .ok (.aload_n 0, 1) := by decide +kernel
theorem dX7_carrier_102 : decode cX7_carrier 102 = .ok (.iload_n 1, 1) := by decide +kernel
theorem dX7_carrier_103 : decode cX7_carrier 103 = .ok (.bipush 10, 2) := by decide +kernel
theorem dX7_carrier_105 : decode cX7_carrier 105 = .ok (.invokevirtual 40, 3) := by decide +kernel
theorem dX7_carrier_108 : decode cX7_carrier 108 = .ok (.ireturn, 1) := by decide +kernel
theorem dX7_carrier_109 : decode cX7_carrier 109 = .ok (.aload_n 0, 1) := by decide +kernel
theorem dX7_carrier_110 : decode cX7_carrier 110 = .ok (.iload_n 1, 1) := by decide +kernel
theorem dX7_carrier_111 : decode cX7_carrier 111 = .ok (.bipush 11, 2) := by decide +kernel
theorem dX7_carrier_113 : decode cX7_carrier 113 = .ok (.invokevirtual 40, 3) := by decide +kernel
theorem dX7_carrier_116 : decode cX7_carrier 116 = .ok (.ireturn, 1) := by decide +kernel
theorem dX7_carrier_117 : decode cX7_carrier 117 = .ok (.iconst (-1), 1) := by decide +kernel
theorem dX7_carrier_118 : decode cX7_carrier 118 = .ok (.ireturn, 1) := by decide +kernel
theorem dX7_hasDelay_0 : decode cX7_hasDelay 0 = .ok (.aload_n 0, 1) := by decide +kernel
theorem dX7_hasDelay_1 : decode cX7_hasDelay 1 = .ok (.iload_n 1, 1) := by decide +kernel
theorem dX7_hasDelay_2 : decode cX7_hasDelay 2 = .ok (.iconst 4, 1) := by decide +kernel
theorem dX7_hasDelay_3 : decode cX7_hasDelay 3 = .ok (.invokevirtual 44, 3) := by decide +kernel
theorem dX7_hasDelay_6 : decode cX7_hasDelay 6 = .ok (.bipush (-4), 2) := by decide +kernel
theorem dX7_hasDelay_8 : decode cX7_hasDelay 8 = .ok (.if_icmp .eq 17, 3) := by decide +kernel
theorem dX7_hasDelay_11 : decode cX7_hasDelay 11 = .ok (.aload_n 0, 1) := by decide +kernel
theorem dX7_hasDelay_12 : decode cX7_hasDelay 12 = .ok (.iload_n 1, 1) := by decide +kernel
theorem dX7_hasDelay_13 : decode cX7_hasDelay 13 = .ok (.invokevirtual 146, 3) := by decide +kernel
theorem dX7_hasDelay_16 : decode cX7_hasDelay 16 = .ok (.ldc 50, 2) := by decide +kernel
theorem dX7_hasDelay_18 : decode cX7_hasDelay 18 = .ok (.if_icmp .eq 7, 3) := by decide +kernel
theorem dX7_hasDelay_21 : decode cX7_hasDelay 21 = .ok (.iconst 1, 1) := by decide +kernel
theorem dX7_hasDelay_22 : decode cX7_hasDelay 22 = .ok (.goto 4, 3) := by decide +kernel
theorem dX7_hasDelay_25 : decode cX7_hasDelay 25 = .ok (.iconst 0, 1) := by decide +kernel
theorem dX7_hasDelay_26 : decode cX7_hasDelay 26 = .ok (.ireturn, 1) := by decide +kernel
theorem dX7_delayOf_0 : decode cX7_delayOf 0 = .ok (.aload_n 0, 1) := by decide +kernel
theorem dX7_delayOf_1 : decode cX7_delayOf 1 = .ok (.iload_n 1, 1) := by decide +kernel
theorem dX7_delayOf_2 : decode cX7_delayOf 2 = .ok (.invokevirtual 146, 3) := by decide +kernel
theorem dX7_delayOf_5 : decode cX7_delayOf 5 = .ok (.aload_n 0, 1) := by decide +kernel
theorem dX7_delayOf_6 : decode cX7_delayOf 6 = .ok (.iload_n 1, 1) := by decide +kernel
theorem dX7_delayOf_7 : decode cX7_delayOf 7 = .ok (.iconst 4, 1) := by decide +kernel
theorem dX7_delayOf_8 : decode cX7_delayOf 8 = .ok (.invokevirtual 44, 3) := by decide +kernel
theorem dX7_delayOf_11 : decode cX7_delayOf 11 = .ok (.isub, 1) := by decide +kernel
theorem dX7_delayOf_12 : decode cX7_delayOf 12 = .ok (.ireturn, 1) := by decide +kernel
theorem dX7_less_0 : decode cX7_less 0 = .ok (.iload_n 0, 1) := by decide +kernel
theorem dX7_less_1 : decode cX7_less 1 = .ok (.ifCond .ne 8, 3) := by decide +kernel
theorem dX7_less_4 : decode cX7_less 4 = .ok (.bipush (-4), 2) := by decide +kernel
theorem dX7_less_6 : decode cX7_less 6 = .ok (.goto 6, 3) := by decide +kernel
theorem dX7_less_9 : decode cX7_less 9 = .ok (.iload_n 0, 1) := by decide +kernel
theorem dX7_less_10 : decode cX7_less 10 = .ok (.iconst 1, 1) := by decide +kernel
theorem dX7_less_11 : decode cX7_less 11 = .ok (.isub, 1) := by decide +kernel
theorem dX7_less_12 : decode cX7_less 12 = .ok (.ireturn, 1) := by decide +kernel
theorem dX7_bundle_0 : decode cX7_bundle 0 = .ok (.aload_n 0, 1) := by decide +kernel
theorem dX7_bundle_1 : decode cX7_bundle 1 = .ok (.iload_n 1, 1) := by decide +kernel
theorem dX7_bundle_2 : decode cX7_bundle 2 = .ok (.invokevirtual 107, 3) := by decide +kernel
theorem dX7_bundle_5 : decode cX7_bundle 5 = .ok (.ifCond .ne 5, 3) := by decide +kernel
theorem dX7_bundle_8 : decode cX7_bundle 8 = .ok (.iconst (-1), 1) := by decide +kernel
theorem dX7_bundle_9 : decode cX7_bundle 9 = .ok (.ireturn, 1) := by decide +kernel
theorem dX7_bundle_10 : decode cX7_bundle 10 = .ok (.iload_n 2, 1) := by decide +kernel
theorem dX7_bundle_11 : decode cX7_bundle 11 = .ok (.tableswitch 139 0 8 #[49, 56, 66, 76, 86, 93, 116, 123, 131], 49) := by decide +kernel
theorem dX7_bundle_60 : decode cX7_bundle 60 = .ok (.aload_n 0, 1) := by decide +kernel
theorem dX7_bundle_61 : decode cX7_bundle 61 = .ok (.iload_n 1, 1) := by decide +kernel
theorem dX7_bundle_62 : decode cX7_bundle 62 = .ok (.iconst 0, 1) := by decide +kernel
theorem dX7_bundle_63 : decode cX7_bundle 63 = .ok (.invokevirtual 44, 3) := by decide +kernel
theorem dX7_bundle_66 : decode cX7_bundle 66 = .ok (.ireturn, 1) := by decide +kernel
theorem dX7_bundle_67 : decode cX7_bundle 67 = .ok (.aload_n 0, 1) := by decide +kernel
theorem dX7_bundle_68 : decode cX7_bundle 68 = .ok (.iload_n 1, 1) := by decide +kernel
theorem dX7_bundle_69 : decode cX7_bundle 69 = .ok (.iconst 1, 1) := by decide +kernel
theorem dX7_bundle_70 : decode cX7_bundle 70 = .ok (.invokevirtual 44, 3) := by decide +kernel
theorem dX7_bundle_73 : decode cX7_bundle 73 = .ok (.invokestatic 149, 3) := by decide +kernel
theorem dX7_bundle_76 : decode cX7_bundle 76 = .ok (.ireturn, 1) := by decide +kernel
theorem dX7_bundle_77 : decode cX7_bundle 77 = .ok (.aload_n 0, 1) := by decide +kernel
theorem dX7_bundle_78 : decode cX7_bundle 78 = .ok (.iload_n 1, 1) := by decide +kernel
theorem dX7_bundle_79 : decode cX7_bundle 79 = .ok (.iconst 2, 1) := by decide +kernel
theorem dX7_bundle_80 : decode cX7_bundle 80 = .ok (.invokevirtual 44, 3) := by decide +kernel
theorem dX7_bundle_83 : decode cX7_bundle 83 = .ok (.invokestatic 149, 3) := by decide +kernel
theorem dX7_bundle_86 : decode cX7_bundle 86 = .ok (.ireturn, 1) := by decide +kernel
theorem dX7_bundle_87 : decode cX7_bundle 87 = .ok (.aload_n 0, 1) := by decide +kernel
theorem dX7_bundle_88 : decode cX7_bundle 88 = .ok (.iload_n 1, 1) := by decide +kernel
theorem dX7_bundle_89 : decode cX7_bundle 89 = .ok (.iconst 3, 1) := by decide +kernel
theorem dX7_bundle_90 : decode cX7_bundle 90 = .ok (.invokevirtual 44, 3) := by decide +kernel
theorem dX7_bundle_93 : decode cX7_bundle 93 = .ok (.invokestatic 149, 3) := by decide +kernel
theorem dX7_bundle_96 : decode cX7_bundle 96 = .ok (.ireturn, 1) := by decide +kernel
theorem dX7_bundle_97 : decode cX7_bundle 97 = .ok (.aload_n 0, 1) := by decide +kernel
theorem dX7_bundle_98 : decode cX7_bundle 98 = .ok (.iload_n 1, 1) := by decide +kernel
theorem dX7_bundle_99 : decode cX7_bundle 99 = .ok (.iconst 4, 1) := by decide +kernel
theorem dX7_bundle_100 : decode cX7_bundle 100 = .ok (.invokevirtual 44, 3) := by decide +kernel
theorem dX7_bundle_103 : decode cX7_bundle 103 = .ok (.ireturn, 1) := by decide +kernel
theorem dX7_bundle_104 : decode cX7_bundle 104 = .ok (.aload_n 0, 1) := by decide +kernel
theorem dX7_bundle_105 : decode cX7_bundle 105 = .ok (.iload_n 1, 1) := by decide +kernel
theorem dX7_bundle_106 : decode cX7_bundle 106 = .ok (.invokevirtual 152, 3) := by decide +kernel
theorem dX7_bundle_109 : decode cX7_bundle 109 = .ok (.ifCond .eq 15, 3) := by decide +kernel
theorem dX7_bundle_112 : decode cX7_bundle 112 = .ok (.sipush 1000, 3) := by decide +kernel
theorem dX7_bundle_115 : decode cX7_bundle 115 = .ok (.aload_n 0, 1) := by decide +kernel
theorem dX7_bundle_116 : decode cX7_bundle 116 = .ok (.iload_n 1, 1) := by decide +kernel
theorem dX7_bundle_117 : decode cX7_bundle 117 = .ok (.invokevirtual 155, 3) := by decide +kernel
theorem dX7_bundle_120 : decode cX7_bundle 120 = .ok (.iadd, 1) := by decide +kernel
theorem dX7_bundle_121 : decode cX7_bundle 121 = .ok (.goto 5, 3) := by decide +kernel
theorem dX7_bundle_124 : decode cX7_bundle 124 = .ok (.bipush (-4), 2) := by decide +kernel
theorem dX7_bundle_126 : decode cX7_bundle 126 = .ok (.ireturn, 1) := by decide +kernel
theorem dX7_bundle_127 : decode cX7_bundle 127 = .ok (.aload_n 0, 1) := by decide +kernel
theorem dX7_bundle_128 : decode cX7_bundle 128 = .ok (.iload_n 1, 1) := by decide +kernel
theorem dX7_bundle_129 : decode cX7_bundle 129 = .ok (.iconst 5, 1) := by decide +kernel
theorem dX7_bundle_130 : decode cX7_bundle 130 = .ok (.invokevirtual 44, 3) := by decide +kernel
theorem dX7_bundle_133 : decode cX7_bundle 133 = .ok (.ireturn, 1) := by decide +kernel
theorem dX7_bundle_134 : decode cX7_bundle 134 = .ok (.aload_n 0, 1) := by decide +kernel
theorem dX7_bundle_135 : decode cX7_bundle 135 = .ok (.iload_n 1, 1) := by decide +kernel
theorem dX7_bundle_136 : decode cX7_bundle 136 = .ok (.bipush 6, 2) := by decide +kernel
theorem dX7_bundle_138 : decode cX7_bundle 138 = .ok (.invokevirtual 44, 3) := by decide +kernel
theorem dX7_bundle_141 : decode cX7_bundle 141 = .ok (.ireturn, 1) := by decide +kernel
theorem dX7_bundle_142 : decode cX7_bundle 142 = .ok (.aload_n 0, 1) := by decide +kernel
theorem dX7_bundle_143 : decode cX7_bundle 143 = .ok (.iload_n 1, 1) := by decide +kernel
theorem dX7_bundle_144 : decode cX7_bundle 144 = .ok (.bipush 7, 2) := by decide +kernel
theorem dX7_bundle_146 : decode cX7_bundle 146 = .ok (.invokevirtual 44, 3) := by decide +kernel
theorem dX7_bundle_149 : decode cX7_bundle 149 = .ok (.ireturn, 1) := by decide +kernel
theorem dX7_bundle_150 : decode cX7_bundle 150 = .ok (.iconst (-1), 1) := by decide +kernel
theorem dX7_bundle_151 : decode cX7_bundle 151 = .ok (.ireturn, 1) := by decide +kernel
theorem dX7_arrival_0 : decode cX7_arrival 0 = .ok (.aload_n 0, 1) := by decide +kernel
theorem dX7_arrival_1 : decode cX7_arrival 1 = .ok (.iload_n 1, 1) := by decide +kernel
theorem dX7_arrival_2 : decode cX7_arrival 2 = .ok (.invokevirtual 107, 3) := by decide +kernel
theorem dX7_arrival_5 : decode cX7_arrival 5 = .ok (.ifCond .eq 23, 3) := by decide +kernel
theorem dX7_arrival_8 : decode cX7_arrival 8 = .ok (.iload_n 2, 1) := by decide +kernel
theorem dX7_arrival_9 : decode cX7_arrival 9 = .ok (.iconst 0, 1) := by decide +kernel
theorem dX7_arrival_10 : decode cX7_arrival 10 = .ok (.iconst 1, 1) := by decide +kernel
theorem dX7_arrival_11 : decode cX7_arrival 11 = .ok (.invokestatic 36, 3) := by decide +kernel
theorem dX7_arrival_14 : decode cX7_arrival 14 = .ok (.ifCond .eq 14, 3) := by decide +kernel
theorem dX7_arrival_17 : decode cX7_arrival 17 = .ok (.aload_n 0, 1) := by decide +kernel
theorem dX7_arrival_18 : decode cX7_arrival 18 = .ok (.iload_n 1, 1) := by decide +kernel
theorem dX7_arrival_19 : decode cX7_arrival 19 = .ok (.invokevirtual 146, 3) := by decide +kernel
theorem dX7_arrival_22 : decode cX7_arrival 22 = .ok (.invokestatic 65, 3) := by decide +kernel
theorem dX7_arrival_25 : decode cX7_arrival 25 = .ok (.goto 4, 3) := by decide +kernel
theorem dX7_arrival_28 : decode cX7_arrival 28 = .ok (.iconst (-1), 1) := by decide +kernel
theorem dX7_arrival_29 : decode cX7_arrival 29 = .ok (.ireturn, 1) := by decide +kernel
theorem dX7_meeting_0 : decode cX7_meeting 0 = .ok (.aload_n 0, 1) := by decide +kernel
theorem dX7_meeting_1 : decode cX7_meeting 1 = .ok (.iload_n 1, 1) := by decide +kernel
theorem dX7_meeting_2 : decode cX7_meeting 2 = .ok (.invokevirtual 93, 3) := by decide +kernel
theorem dX7_meeting_5 : decode cX7_meeting 5 = .ok (.ifCond .eq 16, 3) := by decide +kernel
theorem dX7_meeting_8 : decode cX7_meeting 8 = .ok (.aload_n 0, 1) := by decide +kernel
theorem dX7_meeting_9 : decode cX7_meeting 9 = .ok (.iload_n 2, 1) := by decide +kernel
theorem dX7_meeting_10 : decode cX7_meeting 10 = .ok (.invokevirtual 93, 3) := by decide +kernel
theorem dX7_meeting_13 : decode cX7_meeting 13 = .ok (.ifCond .eq 8, 3) := by decide +kernel
theorem dX7_meeting_16 : decode cX7_meeting 16 = .ok (.iload_n 1, 1) := by decide +kernel
theorem dX7_meeting_17 : decode cX7_meeting 17 = .ok (.iload_n 2, 1) := by decide +kernel
theorem dX7_meeting_18 : decode cX7_meeting 18 = .ok (.if_icmp .ne 5, 3) := by decide +kernel
theorem dX7_meeting_21 : decode cX7_meeting 21 = .ok (.iconst (-1), 1) := by decide +kernel
theorem dX7_meeting_22 : decode cX7_meeting 22 = .ok (.ireturn, 1) := by decide +kernel
theorem dX7_meeting_23 : decode cX7_meeting 23 = .ok (.bipush (-4), 2) := by decide +kernel
theorem dX7_meeting_25 : decode cX7_meeting 25 = .ok (.istore 4, 2) := by decide +kernel
theorem dX7_meeting_27 : decode cX7_meeting 27 = .ok (.aload_n 0, 1) := by decide +kernel
theorem dX7_meeting_28 : decode cX7_meeting 28 = .ok (.getfield 7, 3) := by decide +kernel
theorem dX7_meeting_31 : decode cX7_meeting 31 = .ok (.iconst 0, 1) := by decide +kernel
theorem dX7_meeting_32 : decode cX7_meeting 32 = .ok (.iaload, 1) := by decide +kernel
theorem dX7_meeting_33 : decode cX7_meeting 33 = .ok (.bipush 30, 2) := by decide +kernel
theorem dX7_meeting_35 : decode cX7_meeting 35 = .ok (.iadd, 1) := by decide +kernel
theorem dX7_meeting_36 : decode cX7_meeting 36 = .ok (.istore 5, 2) := by decide +kernel
theorem dX7_meeting_38 : decode cX7_meeting 38 = .ok (.iload 5, 2) := by decide +kernel
theorem dX7_meeting_40 : decode cX7_meeting 40 = .ok (.aload_n 0, 1) := by decide +kernel
theorem dX7_meeting_41 : decode cX7_meeting 41 = .ok (.getfield 7, 3) := by decide +kernel
theorem dX7_meeting_44 : decode cX7_meeting 44 = .ok (.iconst 0, 1) := by decide +kernel
theorem dX7_meeting_45 : decode cX7_meeting 45 = .ok (.iaload, 1) := by decide +kernel
theorem dX7_meeting_46 : decode cX7_meeting 46 = .ok (.if_icmp .le 71, 3) := by decide +kernel
theorem dX7_meeting_49 : decode cX7_meeting 49 = .ok (.aload_n 0, 1) := by decide +kernel
theorem dX7_meeting_50 : decode cX7_meeting 50 = .ok (.iload_n 1, 1) := by decide +kernel
theorem dX7_meeting_51 : decode cX7_meeting 51 = .ok (.iload 5, 2) := by decide +kernel
theorem dX7_meeting_53 : decode cX7_meeting 53 = .ok (.invokevirtual 47, 3) := by decide +kernel
theorem dX7_meeting_56 : decode cX7_meeting 56 = .ok (.istore 6, 2) := by decide +kernel
theorem dX7_meeting_58 : decode cX7_meeting 58 = .ok (.iload 6, 2) := by decide +kernel
theorem dX7_meeting_60 : decode cX7_meeting 60 = .ok (.ifCond .lt 34, 3) := by decide +kernel
theorem dX7_meeting_63 : decode cX7_meeting 63 = .ok (.iload 6, 2) := by decide +kernel
theorem dX7_meeting_65 : decode cX7_meeting 65 = .ok (.aload_n 0, 1) := by decide +kernel
theorem dX7_meeting_66 : decode cX7_meeting 66 = .ok (.iload_n 2, 1) := by decide +kernel
theorem dX7_meeting_67 : decode cX7_meeting 67 = .ok (.iload 5, 2) := by decide +kernel
theorem dX7_meeting_69 : decode cX7_meeting 69 = .ok (.invokevirtual 47, 3) := by decide +kernel
theorem dX7_meeting_72 : decode cX7_meeting 72 = .ok (.if_icmp .ne 22, 3) := by decide +kernel
theorem dX7_meeting_75 : decode cX7_meeting 75 = .ok (.iload_n 3, 1) := by decide +kernel
theorem dX7_meeting_76 : decode cX7_meeting 76 = .ok (.ifCond .eq 14, 3) := by decide +kernel
theorem dX7_meeting_79 : decode cX7_meeting 79 = .ok (.iload 6, 2) := by decide +kernel
theorem dX7_meeting_81 : decode cX7_meeting 81 = .ok (.aload_n 0, 1) := by decide +kernel
theorem dX7_meeting_82 : decode cX7_meeting 82 = .ok (.iload 5, 2) := by decide +kernel
theorem dX7_meeting_84 : decode cX7_meeting 84 = .ok (.invokevirtual 54, 3) := by decide +kernel
theorem dX7_meeting_87 : decode cX7_meeting 87 = .ok (.if_icmp .ne 7, 3) := by decide +kernel
theorem dX7_meeting_90 : decode cX7_meeting 90 = .ok (.iconst 1, 1) := by decide +kernel
theorem dX7_meeting_91 : decode cX7_meeting 91 = .ok (.goto 4, 3) := by decide +kernel
theorem dX7_meeting_94 : decode cX7_meeting 94 = .ok (.iconst 0, 1) := by decide +kernel
theorem dX7_meeting_95 : decode cX7_meeting 95 = .ok (.istore 7, 2) := by decide +kernel
theorem dX7_meeting_97 : decode cX7_meeting 97 = .ok (.iload 7, 2) := by decide +kernel
theorem dX7_meeting_99 : decode cX7_meeting 99 = .ok (.ifCond .eq 8, 3) := by decide +kernel
theorem dX7_meeting_102 : decode cX7_meeting 102 = .ok (.iload 5, 2) := by decide +kernel
theorem dX7_meeting_104 : decode cX7_meeting 104 = .ok (.goto 5, 3) := by decide +kernel
theorem dX7_meeting_107 : decode cX7_meeting 107 = .ok (.iload 4, 2) := by decide +kernel
theorem dX7_meeting_109 : decode cX7_meeting 109 = .ok (.istore 4, 2) := by decide +kernel
theorem dX7_meeting_111 : decode cX7_meeting 111 = .ok (.iinc 5 (-1), 3) := by decide +kernel
theorem dX7_meeting_114 : decode cX7_meeting 114 = .ok (.goto (-76), 3) := by decide +kernel
theorem dX7_meeting_117 : decode cX7_meeting 117 = .ok (.iload 4, 2) := by decide +kernel
theorem dX7_meeting_119 : decode cX7_meeting 119 = .ok (.ireturn, 1) := by decide +kernel
theorem dX7_illOnes_0 : decode cX7_illOnes 0 = .ok (.iconst 0, 1) := by decide +kernel
theorem dX7_illOnes_1 : decode cX7_illOnes 1 = .ok (.istore_n 1, 1) := by decide +kernel
theorem dX7_illOnes_2 : decode cX7_illOnes 2 = .ok (.iconst 0, 1) := by decide +kernel
theorem dX7_illOnes_3 : decode cX7_illOnes 3 = .ok (.istore_n 2, 1) := by decide +kernel
theorem dX7_illOnes_4 : decode cX7_illOnes 4 = .ok (.iload_n 2, 1) := by decide +kernel
theorem dX7_illOnes_5 : decode cX7_illOnes 5 = .ok (.aload_n 0, 1) := by decide +kernel
theorem dX7_illOnes_6 : decode cX7_illOnes 6 = .ok (.getfield 7, 3) := by decide +kernel
theorem dX7_illOnes_9 : decode cX7_illOnes 9 = .ok (.iconst 3, 1) := by decide +kernel
theorem dX7_illOnes_10 : decode cX7_illOnes 10 = .ok (.iaload, 1) := by decide +kernel
theorem dX7_illOnes_11 : decode cX7_illOnes 11 = .ok (.if_icmp .ge 33, 3) := by decide +kernel
theorem dX7_illOnes_14 : decode cX7_illOnes 14 = .ok (.iload_n 1, 1) := by decide +kernel
theorem dX7_illOnes_15 : decode cX7_illOnes 15 = .ok (.aload_n 0, 1) := by decide +kernel
theorem dX7_illOnes_16 : decode cX7_illOnes 16 = .ok (.iload_n 2, 1) := by decide +kernel
theorem dX7_illOnes_17 : decode cX7_illOnes 17 = .ok (.aload_n 0, 1) := by decide +kernel
theorem dX7_illOnes_18 : decode cX7_illOnes 18 = .ok (.getfield 7, 3) := by decide +kernel
theorem dX7_illOnes_21 : decode cX7_illOnes 21 = .ok (.iconst 0, 1) := by decide +kernel
theorem dX7_illOnes_22 : decode cX7_illOnes 22 = .ok (.iaload, 1) := by decide +kernel
theorem dX7_illOnes_23 : decode cX7_illOnes 23 = .ok (.invokevirtual 47, 3) := by decide +kernel
theorem dX7_illOnes_26 : decode cX7_illOnes 26 = .ok (.bipush (-4), 2) := by decide +kernel
theorem dX7_illOnes_28 : decode cX7_illOnes 28 = .ok (.if_icmp .ne 7, 3) := by decide +kernel
theorem dX7_illOnes_31 : decode cX7_illOnes 31 = .ok (.iconst 1, 1) := by decide +kernel
theorem dX7_illOnes_32 : decode cX7_illOnes 32 = .ok (.goto 4, 3) := by decide +kernel
theorem dX7_illOnes_35 : decode cX7_illOnes 35 = .ok (.iconst 0, 1) := by decide +kernel
theorem dX7_illOnes_36 : decode cX7_illOnes 36 = .ok (.iadd, 1) := by decide +kernel
theorem dX7_illOnes_37 : decode cX7_illOnes 37 = .ok (.istore_n 1, 1) := by decide +kernel
theorem dX7_illOnes_38 : decode cX7_illOnes 38 = .ok (.iinc 2 1, 3) := by decide +kernel
theorem dX7_illOnes_41 : decode cX7_illOnes 41 = .ok (.goto (-37), 3) := by decide +kernel
theorem dX7_illOnes_44 : decode cX7_illOnes 44 = .ok (.iload_n 1, 1) := by decide +kernel
theorem dX7_illOnes_45 : decode cX7_illOnes 45 = .ok (.ireturn, 1) := by decide +kernel
theorem dX7_bundlesBy_0 : decode cX7_bundlesBy 0 = .ok (.iconst 0, 1) := by decide +kernel
theorem dX7_bundlesBy_1 : decode cX7_bundlesBy 1 = .ok (.istore_n 2, 1) := by decide +kernel
theorem dX7_bundlesBy_2 : decode cX7_bundlesBy 2 = .ok (.iconst 0, 1) := by decide +kernel
theorem dX7_bundlesBy_3 : decode cX7_bundlesBy 3 = .ok (.istore_n 3, 1) := by decide +kernel
theorem dX7_bundlesBy_4 : decode cX7_bundlesBy 4 = .ok (.iload_n 3, 1) := by decide +kernel
theorem dX7_bundlesBy_5 : decode cX7_bundlesBy 5 = .ok (.aload_n 0, 1) := by decide +kernel
theorem dX7_bundlesBy_6 : decode cX7_bundlesBy 6 = .ok (.getfield 7, 3) := by decide +kernel
theorem dX7_bundlesBy_9 : decode cX7_bundlesBy 9 = .ok (.iconst 4, 1) := by decide +kernel
theorem dX7_bundlesBy_10 : decode cX7_bundlesBy 10 = .ok (.iaload, 1) := by decide +kernel
theorem dX7_bundlesBy_11 : decode cX7_bundlesBy 11 = .ok (.if_icmp .ge 26, 3) := by decide +kernel
theorem dX7_bundlesBy_14 : decode cX7_bundlesBy 14 = .ok (.iload_n 2, 1) := by decide +kernel
theorem dX7_bundlesBy_15 : decode cX7_bundlesBy 15 = .ok (.aload_n 0, 1) := by decide +kernel
theorem dX7_bundlesBy_16 : decode cX7_bundlesBy 16 = .ok (.iload_n 3, 1) := by decide +kernel
theorem dX7_bundlesBy_17 : decode cX7_bundlesBy 17 = .ok (.iload_n 1, 1) := by decide +kernel
theorem dX7_bundlesBy_18 : decode cX7_bundlesBy 18 = .ok (.invokevirtual 44, 3) := by decide +kernel
theorem dX7_bundlesBy_21 : decode cX7_bundlesBy 21 = .ok (.ifCond .le 7, 3) := by decide +kernel
theorem dX7_bundlesBy_24 : decode cX7_bundlesBy 24 = .ok (.iconst 1, 1) := by decide +kernel
theorem dX7_bundlesBy_25 : decode cX7_bundlesBy 25 = .ok (.goto 4, 3) := by decide +kernel
theorem dX7_bundlesBy_28 : decode cX7_bundlesBy 28 = .ok (.iconst 0, 1) := by decide +kernel
theorem dX7_bundlesBy_29 : decode cX7_bundlesBy 29 = .ok (.iadd, 1) := by decide +kernel
theorem dX7_bundlesBy_30 : decode cX7_bundlesBy 30 = .ok (.istore_n 2, 1) := by decide +kernel
theorem dX7_bundlesBy_31 : decode cX7_bundlesBy 31 = .ok (.iinc 3 1, 3) := by decide +kernel
theorem dX7_bundlesBy_34 : decode cX7_bundlesBy 34 = .ok (.goto (-30), 3) := by decide +kernel
theorem dX7_bundlesBy_37 : decode cX7_bundlesBy 37 = .ok (.iload_n 2, 1) := by decide +kernel
theorem dX7_bundlesBy_38 : decode cX7_bundlesBy 38 = .ok (.ireturn, 1) := by decide +kernel
theorem dX7_count_0 : decode cX7_count 0 = .ok (.iload_n 1, 1) := by decide +kernel
theorem dX7_count_1 : decode cX7_count 1 = .ok (.tableswitch 200 0 16 #[83, 90, 121, 128, 133, 140, 146, 152, 158, 164, 164, 164, 164, 176, 183, 190, 195], 83) := by decide +kernel
theorem dX7_count_84 : decode cX7_count 84 = .ok (.aload_n 0, 1) := by decide +kernel
theorem dX7_count_85 : decode cX7_count 85 = .ok (.getfield 7, 3) := by decide +kernel
theorem dX7_count_88 : decode cX7_count 88 = .ok (.iconst 0, 1) := by decide +kernel
theorem dX7_count_89 : decode cX7_count 89 = .ok (.iaload, 1) := by decide +kernel
theorem dX7_count_90 : decode cX7_count 90 = .ok (.ireturn, 1) := by decide +kernel
theorem dX7_count_91 : decode cX7_count 91 = .ok (.aload_n 0, 1) := by decide +kernel
theorem dX7_count_92 : decode cX7_count 92 = .ok (.aload_n 0, 1) := by decide +kernel
theorem dX7_count_93 : decode cX7_count 93 = .ok (.getfield 7, 3) := by decide +kernel
theorem dX7_count_96 : decode cX7_count 96 = .ok (.iconst 0, 1) := by decide +kernel
theorem dX7_count_97 : decode cX7_count 97 = .ok (.iaload, 1) := by decide +kernel
theorem dX7_count_98 : decode cX7_count 98 = .ok (.invokevirtual 54, 3) := by decide +kernel
theorem dX7_count_101 : decode cX7_count 101 = .ok (.bipush 6, 2) := by decide +kernel
theorem dX7_count_103 : decode cX7_count 103 = .ok (.if_icmp .ne 8, 3) := by decide +kernel
theorem dX7_count_106 : decode cX7_count 106 = .ok (.bipush (-4), 2) := by decide +kernel
theorem dX7_count_108 : decode cX7_count 108 = .ok (.goto 13, 3) := by decide +kernel
theorem dX7_count_111 : decode cX7_count 111 = .ok (.aload_n 0, 1) := by decide +kernel
theorem dX7_count_112 : decode cX7_count 112 = .ok (.aload_n 0, 1) := by decide +kernel
theorem dX7_count_113 : decode cX7_count 113 = .ok (.getfield 7, 3) := by decide +kernel
theorem dX7_count_116 : decode cX7_count 116 = .ok (.iconst 0, 1) := by decide +kernel
theorem dX7_count_117 : decode cX7_count 117 = .ok (.iaload, 1) := by decide +kernel
theorem dX7_count_118 : decode cX7_count 118 = .ok (.invokevirtual 54, 3) := by decide +kernel
theorem dX7_count_121 : decode cX7_count 121 = .ok (.ireturn, 1) := by decide +kernel
theorem dX7_count_122 : decode cX7_count 122 = .ok (.aload_n 0, 1) := by decide +kernel
theorem dX7_count_123 : decode cX7_count 123 = .ok (.getfield 7, 3) := by decide +kernel
theorem dX7_count_126 : decode cX7_count 126 = .ok (.iconst 3, 1) := by decide +kernel
theorem dX7_count_127 : decode cX7_count 127 = .ok (.iaload, 1) := by decide +kernel
theorem dX7_count_128 : decode cX7_count 128 = .ok (.ireturn, 1) := by decide +kernel
theorem dX7_count_129 : decode cX7_count 129 = .ok (.aload_n 0, 1) := by decide +kernel
theorem dX7_count_130 : decode cX7_count 130 = .ok (.invokevirtual 158, 3) := by decide +kernel
theorem dX7_count_133 : decode cX7_count 133 = .ok (.ireturn, 1) := by decide +kernel
theorem dX7_count_134 : decode cX7_count 134 = .ok (.aload_n 0, 1) := by decide +kernel
theorem dX7_count_135 : decode cX7_count 135 = .ok (.getfield 7, 3) := by decide +kernel
theorem dX7_count_138 : decode cX7_count 138 = .ok (.iconst 4, 1) := by decide +kernel
theorem dX7_count_139 : decode cX7_count 139 = .ok (.iaload, 1) := by decide +kernel
theorem dX7_count_140 : decode cX7_count 140 = .ok (.ireturn, 1) := by decide +kernel
theorem dX7_count_141 : decode cX7_count 141 = .ok (.aload_n 0, 1) := by decide +kernel
theorem dX7_count_142 : decode cX7_count 142 = .ok (.iconst 1, 1) := by decide +kernel
theorem dX7_count_143 : decode cX7_count 143 = .ok (.invokevirtual 161, 3) := by decide +kernel
theorem dX7_count_146 : decode cX7_count 146 = .ok (.ireturn, 1) := by decide +kernel
theorem dX7_count_147 : decode cX7_count 147 = .ok (.aload_n 0, 1) := by decide +kernel
theorem dX7_count_148 : decode cX7_count 148 = .ok (.iconst 2, 1) := by decide +kernel
theorem dX7_count_149 : decode cX7_count 149 = .ok (.invokevirtual 161, 3) := by decide +kernel
theorem dX7_count_152 : decode cX7_count 152 = .ok (.ireturn, 1) := by decide +kernel
theorem dX7_count_153 : decode cX7_count 153 = .ok (.aload_n 0, 1) := by decide +kernel
theorem dX7_count_154 : decode cX7_count 154 = .ok (.iconst 3, 1) := by decide +kernel
theorem dX7_count_155 : decode cX7_count 155 = .ok (.invokevirtual 161, 3) := by decide +kernel
theorem dX7_count_158 : decode cX7_count 158 = .ok (.ireturn, 1) := by decide +kernel
theorem dX7_count_159 : decode cX7_count 159 = .ok (.aload_n 0, 1) := by decide +kernel
theorem dX7_count_160 : decode cX7_count 160 = .ok (.iconst 5, 1) := by decide +kernel
theorem dX7_count_161 : decode cX7_count 161 = .ok (.invokevirtual 161, 3) := by decide +kernel
theorem dX7_count_164 : decode cX7_count 164 = .ok (.ireturn, 1) := by decide +kernel
theorem dX7_count_165 : decode cX7_count 165 = .ok (.aload_n 0, 1) := by decide +kernel
theorem dX7_count_166 : decode cX7_count 166 = .ok (.getfield 7, 3) := by decide +kernel
theorem dX7_count_169 : decode cX7_count 169 = .ok (.iconst 5, 1) := by decide +kernel
theorem dX7_count_170 : decode cX7_count 170 = .ok (.iload_n 1, 1) := by decide +kernel
theorem dX7_count_171 : decode cX7_count 171 = .ok (.iadd, 1) := by decide +kernel
theorem dX7_count_172 : decode cX7_count 172 = .ok (.bipush 9, 2) := by decide +kernel
theorem dX7_count_174 : decode cX7_count 174 = .ok (.isub, 1) := by decide +kernel
theorem dX7_count_175 : decode cX7_count 175 = .ok (.iaload, 1) := by decide +kernel
theorem dX7_count_176 : decode cX7_count 176 = .ok (.ireturn, 1) := by decide +kernel
theorem dX7_count_177 : decode cX7_count 177 = .ok (.aload_n 0, 1) := by decide +kernel
theorem dX7_count_178 : decode cX7_count 178 = .ok (.getfield 7, 3) := by decide +kernel
theorem dX7_count_181 : decode cX7_count 181 = .ok (.iconst 1, 1) := by decide +kernel
theorem dX7_count_182 : decode cX7_count 182 = .ok (.iaload, 1) := by decide +kernel
theorem dX7_count_183 : decode cX7_count 183 = .ok (.ireturn, 1) := by decide +kernel
theorem dX7_count_184 : decode cX7_count 184 = .ok (.aload_n 0, 1) := by decide +kernel
theorem dX7_count_185 : decode cX7_count 185 = .ok (.getfield 7, 3) := by decide +kernel
theorem dX7_count_188 : decode cX7_count 188 = .ok (.iconst 2, 1) := by decide +kernel
theorem dX7_count_189 : decode cX7_count 189 = .ok (.iaload, 1) := by decide +kernel
theorem dX7_count_190 : decode cX7_count 190 = .ok (.ireturn, 1) := by decide +kernel
theorem dX7_count_191 : decode cX7_count 191 = .ok (.aload_n 0, 1) := by decide +kernel
theorem dX7_count_192 : decode cX7_count 192 = .ok (.getfield 113, 3) := by decide +kernel
theorem dX7_count_195 : decode cX7_count 195 = .ok (.ireturn, 1) := by decide +kernel
theorem dX7_count_196 : decode cX7_count 196 = .ok (.aload_n 0, 1) := by decide +kernel
theorem dX7_count_197 : decode cX7_count 197 = .ok (.getfield 28, 3) := by decide +kernel
theorem dX7_count_200 : decode cX7_count 200 = .ok (.ireturn, 1) := by decide +kernel
theorem dX7_count_201 : decode cX7_count 201 = .ok (.iconst (-1), 1) := by decide +kernel
theorem dX7_count_202 : decode cX7_count 202 = .ok (.ireturn, 1) := by decide +kernel
theorem dX7_lateness_0 : decode cX7_lateness 0 = .ok (.iconst 0, 1) := by decide +kernel
theorem dX7_lateness_1 : decode cX7_lateness 1 = .ok (.istore_n 1, 1) := by decide +kernel
theorem dX7_lateness_2 : decode cX7_lateness 2 = .ok (.iconst 0, 1) := by decide +kernel
theorem dX7_lateness_3 : decode cX7_lateness 3 = .ok (.istore_n 2, 1) := by decide +kernel
theorem dX7_lateness_4 : decode cX7_lateness 4 = .ok (.iconst 0, 1) := by decide +kernel
theorem dX7_lateness_5 : decode cX7_lateness 5 = .ok (.istore_n 3, 1) := by decide +kernel
theorem dX7_lateness_6 : decode cX7_lateness 6 = .ok (.iload_n 3, 1) := by decide +kernel
theorem dX7_lateness_7 : decode cX7_lateness 7 = .ok (.aload_n 0, 1) := by decide +kernel
theorem dX7_lateness_8 : decode cX7_lateness 8 = .ok (.getfield 7, 3) := by decide +kernel
theorem dX7_lateness_11 : decode cX7_lateness 11 = .ok (.iconst 4, 1) := by decide +kernel
theorem dX7_lateness_12 : decode cX7_lateness 12 = .ok (.iaload, 1) := by decide +kernel
theorem dX7_lateness_13 : decode cX7_lateness 13 = .ok (.if_icmp .ge 45, 3) := by decide +kernel
theorem dX7_lateness_16 : decode cX7_lateness 16 = .ok (.iload_n 1, 1) := by decide +kernel
theorem dX7_lateness_17 : decode cX7_lateness 17 = .ok (.aload_n 0, 1) := by decide +kernel
theorem dX7_lateness_18 : decode cX7_lateness 18 = .ok (.iload_n 3, 1) := by decide +kernel
theorem dX7_lateness_19 : decode cX7_lateness 19 = .ok (.invokevirtual 152, 3) := by decide +kernel
theorem dX7_lateness_22 : decode cX7_lateness 22 = .ok (.ifCond .eq 11, 3) := by decide +kernel
theorem dX7_lateness_25 : decode cX7_lateness 25 = .ok (.aload_n 0, 1) := by decide +kernel
theorem dX7_lateness_26 : decode cX7_lateness 26 = .ok (.iload_n 3, 1) := by decide +kernel
theorem dX7_lateness_27 : decode cX7_lateness 27 = .ok (.invokevirtual 155, 3) := by decide +kernel
theorem dX7_lateness_30 : decode cX7_lateness 30 = .ok (.goto 4, 3) := by decide +kernel
theorem dX7_lateness_33 : decode cX7_lateness 33 = .ok (.iconst 0, 1) := by decide +kernel
theorem dX7_lateness_34 : decode cX7_lateness 34 = .ok (.iadd, 1) := by decide +kernel
theorem dX7_lateness_35 : decode cX7_lateness 35 = .ok (.istore_n 1, 1) := by decide +kernel
theorem dX7_lateness_36 : decode cX7_lateness 36 = .ok (.iload_n 2, 1) := by decide +kernel
theorem dX7_lateness_37 : decode cX7_lateness 37 = .ok (.aload_n 0, 1) := by decide +kernel
theorem dX7_lateness_38 : decode cX7_lateness 38 = .ok (.iload_n 3, 1) := by decide +kernel
theorem dX7_lateness_39 : decode cX7_lateness 39 = .ok (.invokevirtual 152, 3) := by decide +kernel
theorem dX7_lateness_42 : decode cX7_lateness 42 = .ok (.ifCond .eq 7, 3) := by decide +kernel
theorem dX7_lateness_45 : decode cX7_lateness 45 = .ok (.iconst 1, 1) := by decide +kernel
theorem dX7_lateness_46 : decode cX7_lateness 46 = .ok (.goto 4, 3) := by decide +kernel
theorem dX7_lateness_49 : decode cX7_lateness 49 = .ok (.iconst 0, 1) := by decide +kernel
theorem dX7_lateness_50 : decode cX7_lateness 50 = .ok (.iadd, 1) := by decide +kernel
theorem dX7_lateness_51 : decode cX7_lateness 51 = .ok (.istore_n 2, 1) := by decide +kernel
theorem dX7_lateness_52 : decode cX7_lateness 52 = .ok (.iinc 3 1, 3) := by decide +kernel
theorem dX7_lateness_55 : decode cX7_lateness 55 = .ok (.goto (-49), 3) := by decide +kernel
theorem dX7_lateness_58 : decode cX7_lateness 58 = .ok (.iload_n 2, 1) := by decide +kernel
theorem dX7_lateness_59 : decode cX7_lateness 59 = .ok (.ifCond .ne 7, 3) := by decide +kernel
theorem dX7_lateness_62 : decode cX7_lateness 62 = .ok (.dconst 0, 1) := by decide +kernel
theorem dX7_lateness_63 : decode cX7_lateness 63 = .ok (.goto 8, 3) := by decide +kernel
theorem dX7_lateness_66 : decode cX7_lateness 66 = .ok (.iload_n 1, 1) := by decide +kernel
theorem dX7_lateness_67 : decode cX7_lateness 67 = .ok (.i2d, 1) := by decide +kernel
theorem dX7_lateness_68 : decode cX7_lateness 68 = .ok (.iload_n 2, 1) := by decide +kernel
theorem dX7_lateness_69 : decode cX7_lateness 69 = .ok (.i2d, 1) := by decide +kernel
theorem dX7_lateness_70 : decode cX7_lateness 70 = .ok (.ddiv, 1) := by decide +kernel
theorem dX7_lateness_71 : decode cX7_lateness 71 = .ok (.dreturn, 1) := by decide +kernel
theorem dX7_ifPosted_0 : decode cX7_ifPosted 0 = .ok (.iload_n 1, 1) := by decide +kernel
theorem dX7_ifPosted_1 : decode cX7_ifPosted 1 = .ok (.iload_n 2, 1) := by decide +kernel
theorem dX7_ifPosted_2 : decode cX7_ifPosted 2 = .ok (.invokestatic 100, 3) := by decide +kernel
theorem dX7_ifPosted_5 : decode cX7_ifPosted 5 = .ok (.ifCond .eq 34, 3) := by decide +kernel
theorem dX7_ifPosted_8 : decode cX7_ifPosted 8 = .ok (.iload_n 3, 1) := by decide +kernel
theorem dX7_ifPosted_9 : decode cX7_ifPosted 9 = .ok (.iconst 0, 1) := by decide +kernel
theorem dX7_ifPosted_10 : decode cX7_ifPosted 10 = .ok (.bipush 30, 2) := by decide +kernel
theorem dX7_ifPosted_12 : decode cX7_ifPosted 12 = .ok (.invokestatic 36, 3) := by decide +kernel
theorem dX7_ifPosted_15 : decode cX7_ifPosted 15 = .ok (.ifCond .eq 24, 3) := by decide +kernel
theorem dX7_ifPosted_18 : decode cX7_ifPosted 18 = .ok (.aload_n 0, 1) := by decide +kernel
theorem dX7_ifPosted_19 : decode cX7_ifPosted 19 = .ok (.iload_n 2, 1) := by decide +kernel
theorem dX7_ifPosted_20 : decode cX7_ifPosted 20 = .ok (.iload_n 1, 1) := by decide +kernel
theorem dX7_ifPosted_21 : decode cX7_ifPosted 21 = .ok (.iconst 0, 1) := by decide +kernel
theorem dX7_ifPosted_22 : decode cX7_ifPosted 22 = .ok (.aload_n 0, 1) := by decide +kernel
theorem dX7_ifPosted_23 : decode cX7_ifPosted 23 = .ok (.getfield 7, 3) := by decide +kernel
theorem dX7_ifPosted_26 : decode cX7_ifPosted 26 = .ok (.iconst 0, 1) := by decide +kernel
theorem dX7_ifPosted_27 : decode cX7_ifPosted 27 = .ok (.iaload, 1) := by decide +kernel
theorem dX7_ifPosted_28 : decode cX7_ifPosted 28 = .ok (.iload_n 3, 1) := by decide +kernel
theorem dX7_ifPosted_29 : decode cX7_ifPosted 29 = .ok (.iadd, 1) := by decide +kernel
theorem dX7_ifPosted_30 : decode cX7_ifPosted 30 = .ok (.invokevirtual 58, 3) := by decide +kernel
theorem dX7_ifPosted_33 : decode cX7_ifPosted 33 = .ok (.invokestatic 65, 3) := by decide +kernel
theorem dX7_ifPosted_36 : decode cX7_ifPosted 36 = .ok (.goto 4, 3) := by decide +kernel
theorem dX7_ifPosted_39 : decode cX7_ifPosted 39 = .ok (.iconst (-1), 1) := by decide +kernel
theorem dX7_ifPosted_40 : decode cX7_ifPosted 40 = .ok (.ireturn, 1) := by decide +kernel
theorem dX7_bestDay_0 : decode cX7_bestDay 0 = .ok (.iload_n 1, 1) := by decide +kernel
theorem dX7_bestDay_1 : decode cX7_bestDay 1 = .ok (.iload_n 2, 1) := by decide +kernel
theorem dX7_bestDay_2 : decode cX7_bestDay 2 = .ok (.invokestatic 100, 3) := by decide +kernel
theorem dX7_bestDay_5 : decode cX7_bestDay 5 = .ok (.ifCond .ne 5, 3) := by decide +kernel
theorem dX7_bestDay_8 : decode cX7_bestDay 8 = .ok (.iconst (-1), 1) := by decide +kernel
theorem dX7_bestDay_9 : decode cX7_bestDay 9 = .ok (.ireturn, 1) := by decide +kernel
theorem dX7_bestDay_10 : decode cX7_bestDay 10 = .ok (.bipush (-4), 2) := by decide +kernel
theorem dX7_bestDay_12 : decode cX7_bestDay 12 = .ok (.istore_n 3, 1) := by decide +kernel
theorem dX7_bestDay_13 : decode cX7_bestDay 13 = .ok (.bipush 31, 2) := by decide +kernel
theorem dX7_bestDay_15 : decode cX7_bestDay 15 = .ok (.istore 4, 2) := by decide +kernel
theorem dX7_bestDay_17 : decode cX7_bestDay 17 = .ok (.iconst 0, 1) := by decide +kernel
theorem dX7_bestDay_18 : decode cX7_bestDay 18 = .ok (.istore 5, 2) := by decide +kernel
theorem dX7_bestDay_20 : decode cX7_bestDay 20 = .ok (.iload 5, 2) := by decide +kernel
theorem dX7_bestDay_22 : decode cX7_bestDay 22 = .ok (.bipush 14, 2) := by decide +kernel
theorem dX7_bestDay_24 : decode cX7_bestDay 24 = .ok (.if_icmp .ge 67, 3) := by decide +kernel
theorem dX7_bestDay_27 : decode cX7_bestDay 27 = .ok (.aload_n 0, 1) := by decide +kernel
theorem dX7_bestDay_28 : decode cX7_bestDay 28 = .ok (.iload_n 2, 1) := by decide +kernel
theorem dX7_bestDay_29 : decode cX7_bestDay 29 = .ok (.iload_n 1, 1) := by decide +kernel
theorem dX7_bestDay_30 : decode cX7_bestDay 30 = .ok (.iconst 0, 1) := by decide +kernel
theorem dX7_bestDay_31 : decode cX7_bestDay 31 = .ok (.aload_n 0, 1) := by decide +kernel
theorem dX7_bestDay_32 : decode cX7_bestDay 32 = .ok (.getfield 7, 3) := by decide +kernel
theorem dX7_bestDay_35 : decode cX7_bestDay 35 = .ok (.iconst 0, 1) := by decide +kernel
theorem dX7_bestDay_36 : decode cX7_bestDay 36 = .ok (.iaload, 1) := by decide +kernel
theorem dX7_bestDay_37 : decode cX7_bestDay 37 = .ok (.iload 5, 2) := by decide +kernel
theorem dX7_bestDay_39 : decode cX7_bestDay 39 = .ok (.iadd, 1) := by decide +kernel
theorem dX7_bestDay_40 : decode cX7_bestDay 40 = .ok (.invokevirtual 58, 3) := by decide +kernel
theorem dX7_bestDay_43 : decode cX7_bestDay 43 = .ok (.aload_n 0, 1) := by decide +kernel
theorem dX7_bestDay_44 : decode cX7_bestDay 44 = .ok (.getfield 7, 3) := by decide +kernel
theorem dX7_bestDay_47 : decode cX7_bestDay 47 = .ok (.iconst 0, 1) := by decide +kernel
theorem dX7_bestDay_48 : decode cX7_bestDay 48 = .ok (.iaload, 1) := by decide +kernel
theorem dX7_bestDay_49 : decode cX7_bestDay 49 = .ok (.isub, 1) := by decide +kernel
theorem dX7_bestDay_50 : decode cX7_bestDay 50 = .ok (.iload 5, 2) := by decide +kernel
theorem dX7_bestDay_52 : decode cX7_bestDay 52 = .ok (.isub, 1) := by decide +kernel
theorem dX7_bestDay_53 : decode cX7_bestDay 53 = .ok (.istore 6, 2) := by decide +kernel
theorem dX7_bestDay_55 : decode cX7_bestDay 55 = .ok (.iload 6, 2) := by decide +kernel
theorem dX7_bestDay_57 : decode cX7_bestDay 57 = .ok (.iload 4, 2) := by decide +kernel
theorem dX7_bestDay_59 : decode cX7_bestDay 59 = .ok (.if_icmp .ge 8, 3) := by decide +kernel
theorem dX7_bestDay_62 : decode cX7_bestDay 62 = .ok (.iload 5, 2) := by decide +kernel
theorem dX7_bestDay_64 : decode cX7_bestDay 64 = .ok (.goto 4, 3) := by decide +kernel
theorem dX7_bestDay_67 : decode cX7_bestDay 67 = .ok (.iload_n 3, 1) := by decide +kernel
theorem dX7_bestDay_68 : decode cX7_bestDay 68 = .ok (.istore_n 3, 1) := by decide +kernel
theorem dX7_bestDay_69 : decode cX7_bestDay 69 = .ok (.iload 6, 2) := by decide +kernel
theorem dX7_bestDay_71 : decode cX7_bestDay 71 = .ok (.iload 4, 2) := by decide +kernel
theorem dX7_bestDay_73 : decode cX7_bestDay 73 = .ok (.if_icmp .ge 8, 3) := by decide +kernel
theorem dX7_bestDay_76 : decode cX7_bestDay 76 = .ok (.iload 6, 2) := by decide +kernel
theorem dX7_bestDay_78 : decode cX7_bestDay 78 = .ok (.goto 5, 3) := by decide +kernel
theorem dX7_bestDay_81 : decode cX7_bestDay 81 = .ok (.iload 4, 2) := by decide +kernel
theorem dX7_bestDay_83 : decode cX7_bestDay 83 = .ok (.istore 4, 2) := by decide +kernel
theorem dX7_bestDay_85 : decode cX7_bestDay 85 = .ok (.iinc 5 1, 3) := by decide +kernel
theorem dX7_bestDay_88 : decode cX7_bestDay 88 = .ok (.goto (-68), 3) := by decide +kernel
theorem dX7_bestDay_91 : decode cX7_bestDay 91 = .ok (.iload_n 3, 1) := by decide +kernel
theorem dX7_bestDay_92 : decode cX7_bestDay 92 = .ok (.ireturn, 1) := by decide +kernel
theorem dX7_bestTown_0 : decode cX7_bestTown 0 = .ok (.iload_n 1, 1) := by decide +kernel
theorem dX7_bestTown_1 : decode cX7_bestTown 1 = .ok (.iconst 0, 1) := by decide +kernel
theorem dX7_bestTown_2 : decode cX7_bestTown 2 = .ok (.bipush 6, 2) := by decide +kernel
theorem dX7_bestTown_4 : decode cX7_bestTown 4 = .ok (.invokestatic 36, 3) := by decide +kernel
theorem dX7_bestTown_7 : decode cX7_bestTown 7 = .ok (.ifCond .ne 5, 3) := by decide +kernel
theorem dX7_bestTown_10 : decode cX7_bestTown 10 = .ok (.iconst (-1), 1) := by decide +kernel
theorem dX7_bestTown_11 : decode cX7_bestTown 11 = .ok (.ireturn, 1) := by decide +kernel
theorem dX7_bestTown_12 : decode cX7_bestTown 12 = .ok (.aload_n 0, 1) := by decide +kernel
theorem dX7_bestTown_13 : decode cX7_bestTown 13 = .ok (.getfield 7, 3) := by decide +kernel
theorem dX7_bestTown_16 : decode cX7_bestTown 16 = .ok (.bipush 9, 2) := by decide +kernel
theorem dX7_bestTown_18 : decode cX7_bestTown 18 = .ok (.iload_n 1, 1) := by decide +kernel
theorem dX7_bestTown_19 : decode cX7_bestTown 19 = .ok (.iadd, 1) := by decide +kernel
theorem dX7_bestTown_20 : decode cX7_bestTown 20 = .ok (.iaload, 1) := by decide +kernel
theorem dX7_bestTown_21 : decode cX7_bestTown 21 = .ok (.istore_n 2, 1) := by decide +kernel
theorem dX7_bestTown_22 : decode cX7_bestTown 22 = .ok (.iconst 0, 1) := by decide +kernel
theorem dX7_bestTown_23 : decode cX7_bestTown 23 = .ok (.istore_n 3, 1) := by decide +kernel
theorem dX7_bestTown_24 : decode cX7_bestTown 24 = .ok (.iconst (-1), 1) := by decide +kernel
theorem dX7_bestTown_25 : decode cX7_bestTown 25 = .ok (.istore 4, 2) := by decide +kernel
theorem dX7_bestTown_27 : decode cX7_bestTown 27 = .ok (.iconst 0, 1) := by decide +kernel
theorem dX7_bestTown_28 : decode cX7_bestTown 28 = .ok (.istore 5, 2) := by decide +kernel
theorem dX7_bestTown_30 : decode cX7_bestTown 30 = .ok (.iconst 0, 1) := by decide +kernel
theorem dX7_bestTown_31 : decode cX7_bestTown 31 = .ok (.istore 6, 2) := by decide +kernel
theorem dX7_bestTown_33 : decode cX7_bestTown 33 = .ok (.iload 6, 2) := by decide +kernel
theorem dX7_bestTown_35 : decode cX7_bestTown 35 = .ok (.bipush 6, 2) := by decide +kernel
theorem dX7_bestTown_37 : decode cX7_bestTown 37 = .ok (.if_icmp .gt 178, 3) := by decide +kernel
theorem dX7_bestTown_40 : decode cX7_bestTown 40 = .ok (.aload_n 0, 1) := by decide +kernel
theorem dX7_bestTown_41 : decode cX7_bestTown 41 = .ok (.getfield 7, 3) := by decide +kernel
theorem dX7_bestTown_44 : decode cX7_bestTown 44 = .ok (.bipush 9, 2) := by decide +kernel
theorem dX7_bestTown_46 : decode cX7_bestTown 46 = .ok (.iload_n 1, 1) := by decide +kernel
theorem dX7_bestTown_47 : decode cX7_bestTown 47 = .ok (.iadd, 1) := by decide +kernel
theorem dX7_bestTown_48 : decode cX7_bestTown 48 = .ok (.iload 6, 2) := by decide +kernel
theorem dX7_bestTown_50 : decode cX7_bestTown 50 = .ok (.iastore, 1) := by decide +kernel
theorem dX7_bestTown_51 : decode cX7_bestTown 51 = .ok (.iconst 0, 1) := by decide +kernel
theorem dX7_bestTown_52 : decode cX7_bestTown 52 = .ok (.istore 7, 2) := by decide +kernel
theorem dX7_bestTown_54 : decode cX7_bestTown 54 = .ok (.iconst 0, 1) := by decide +kernel
theorem dX7_bestTown_55 : decode cX7_bestTown 55 = .ok (.istore 8, 2) := by decide +kernel
theorem dX7_bestTown_57 : decode cX7_bestTown 57 = .ok (.iconst 0, 1) := by decide +kernel
theorem dX7_bestTown_58 : decode cX7_bestTown 58 = .ok (.istore 9, 2) := by decide +kernel
theorem dX7_bestTown_60 : decode cX7_bestTown 60 = .ok (.iload 9, 2) := by decide +kernel
theorem dX7_bestTown_62 : decode cX7_bestTown 62 = .ok (.aload_n 0, 1) := by decide +kernel
theorem dX7_bestTown_63 : decode cX7_bestTown 63 = .ok (.getfield 7, 3) := by decide +kernel
theorem dX7_bestTown_66 : decode cX7_bestTown 66 = .ok (.iconst 4, 1) := by decide +kernel
theorem dX7_bestTown_67 : decode cX7_bestTown 67 = .ok (.iaload, 1) := by decide +kernel
theorem dX7_bestTown_68 : decode cX7_bestTown 68 = .ok (.if_icmp .ge 73, 3) := by decide +kernel
theorem dX7_bestTown_71 : decode cX7_bestTown 71 = .ok (.aload_n 0, 1) := by decide +kernel
theorem dX7_bestTown_72 : decode cX7_bestTown 72 = .ok (.iload 9, 2) := by decide +kernel
theorem dX7_bestTown_74 : decode cX7_bestTown 74 = .ok (.iconst 3, 1) := by decide +kernel
theorem dX7_bestTown_75 : decode cX7_bestTown 75 = .ok (.invokevirtual 44, 3) := by decide +kernel
theorem dX7_bestTown_78 : decode cX7_bestTown 78 = .ok (.ifCond .le 8, 3) := by decide +kernel
theorem dX7_bestTown_81 : decode cX7_bestTown 81 = .ok (.ldc 50, 2) := by decide +kernel
theorem dX7_bestTown_83 : decode cX7_bestTown 83 = .ok (.goto 15, 3) := by decide +kernel
theorem dX7_bestTown_86 : decode cX7_bestTown 86 = .ok (.aload_n 0, 1) := by decide +kernel
theorem dX7_bestTown_87 : decode cX7_bestTown 87 = .ok (.iload 9, 2) := by decide +kernel
theorem dX7_bestTown_89 : decode cX7_bestTown 89 = .ok (.aload_n 0, 1) := by decide +kernel
theorem dX7_bestTown_90 : decode cX7_bestTown 90 = .ok (.getfield 7, 3) := by decide +kernel
theorem dX7_bestTown_93 : decode cX7_bestTown 93 = .ok (.iconst 0, 1) := by decide +kernel
theorem dX7_bestTown_94 : decode cX7_bestTown 94 = .ok (.iaload, 1) := by decide +kernel
theorem dX7_bestTown_95 : decode cX7_bestTown 95 = .ok (.invokevirtual 62, 3) := by decide +kernel
theorem dX7_bestTown_98 : decode cX7_bestTown 98 = .ok (.istore 10, 2) := by decide +kernel
theorem dX7_bestTown_100 : decode cX7_bestTown 100 = .ok (.iload 7, 2) := by decide +kernel
theorem dX7_bestTown_102 : decode cX7_bestTown 102 = .ok (.iload 10, 2) := by decide +kernel
theorem dX7_bestTown_104 : decode cX7_bestTown 104 = .ok (.ldc 50, 2) := by decide +kernel
theorem dX7_bestTown_106 : decode cX7_bestTown 106 = .ok (.if_icmp .ne 7, 3) := by decide +kernel
theorem dX7_bestTown_109 : decode cX7_bestTown 109 = .ok (.iconst 0, 1) := by decide +kernel
theorem dX7_bestTown_110 : decode cX7_bestTown 110 = .ok (.goto 4, 3) := by decide +kernel
theorem dX7_bestTown_113 : decode cX7_bestTown 113 = .ok (.iconst 1, 1) := by decide +kernel
theorem dX7_bestTown_114 : decode cX7_bestTown 114 = .ok (.iadd, 1) := by decide +kernel
theorem dX7_bestTown_115 : decode cX7_bestTown 115 = .ok (.istore 7, 2) := by decide +kernel
theorem dX7_bestTown_117 : decode cX7_bestTown 117 = .ok (.iload 8, 2) := by decide +kernel
theorem dX7_bestTown_119 : decode cX7_bestTown 119 = .ok (.iload 10, 2) := by decide +kernel
theorem dX7_bestTown_121 : decode cX7_bestTown 121 = .ok (.ldc 50, 2) := by decide +kernel
theorem dX7_bestTown_123 : decode cX7_bestTown 123 = .ok (.if_icmp .ne 7, 3) := by decide +kernel
theorem dX7_bestTown_126 : decode cX7_bestTown 126 = .ok (.iconst 0, 1) := by decide +kernel
theorem dX7_bestTown_127 : decode cX7_bestTown 127 = .ok (.goto 5, 3) := by decide +kernel
theorem dX7_bestTown_130 : decode cX7_bestTown 130 = .ok (.iload 10, 2) := by decide +kernel
theorem dX7_bestTown_132 : decode cX7_bestTown 132 = .ok (.iadd, 1) := by decide +kernel
theorem dX7_bestTown_133 : decode cX7_bestTown 133 = .ok (.istore 8, 2) := by decide +kernel
theorem dX7_bestTown_135 : decode cX7_bestTown 135 = .ok (.iinc 9 1, 3) := by decide +kernel
theorem dX7_bestTown_138 : decode cX7_bestTown 138 = .ok (.goto (-78), 3) := by decide +kernel
theorem dX7_bestTown_141 : decode cX7_bestTown 141 = .ok (.iload 7, 2) := by decide +kernel
theorem dX7_bestTown_143 : decode cX7_bestTown 143 = .ok (.iload 4, 2) := by decide +kernel
theorem dX7_bestTown_145 : decode cX7_bestTown 145 = .ok (.if_icmp .gt 17, 3) := by decide +kernel
theorem dX7_bestTown_148 : decode cX7_bestTown 148 = .ok (.iload 7, 2) := by decide +kernel
theorem dX7_bestTown_150 : decode cX7_bestTown 150 = .ok (.iload 4, 2) := by decide +kernel
theorem dX7_bestTown_152 : decode cX7_bestTown 152 = .ok (.if_icmp .ne 14, 3) := by decide +kernel
theorem dX7_bestTown_155 : decode cX7_bestTown 155 = .ok (.iload 8, 2) := by decide +kernel
theorem dX7_bestTown_157 : decode cX7_bestTown 157 = .ok (.iload 5, 2) := by decide +kernel
theorem dX7_bestTown_159 : decode cX7_bestTown 159 = .ok (.if_icmp .ge 7, 3) := by decide +kernel
theorem dX7_bestTown_162 : decode cX7_bestTown 162 = .ok (.iconst 1, 1) := by decide +kernel
theorem dX7_bestTown_163 : decode cX7_bestTown 163 = .ok (.goto 4, 3) := by decide +kernel
theorem dX7_bestTown_166 : decode cX7_bestTown 166 = .ok (.iconst 0, 1) := by decide +kernel
theorem dX7_bestTown_167 : decode cX7_bestTown 167 = .ok (.istore 9, 2) := by decide +kernel
theorem dX7_bestTown_169 : decode cX7_bestTown 169 = .ok (.iload 9, 2) := by decide +kernel
theorem dX7_bestTown_171 : decode cX7_bestTown 171 = .ok (.ifCond .eq 8, 3) := by decide +kernel
theorem dX7_bestTown_174 : decode cX7_bestTown 174 = .ok (.iload 6, 2) := by decide +kernel
theorem dX7_bestTown_176 : decode cX7_bestTown 176 = .ok (.goto 4, 3) := by decide +kernel
theorem dX7_bestTown_179 : decode cX7_bestTown 179 = .ok (.iload_n 3, 1) := by decide +kernel
theorem dX7_bestTown_180 : decode cX7_bestTown 180 = .ok (.istore_n 3, 1) := by decide +kernel
theorem dX7_bestTown_181 : decode cX7_bestTown 181 = .ok (.iload 9, 2) := by decide +kernel
theorem dX7_bestTown_183 : decode cX7_bestTown 183 = .ok (.ifCond .eq 8, 3) := by decide +kernel
theorem dX7_bestTown_186 : decode cX7_bestTown 186 = .ok (.iload 7, 2) := by decide +kernel
theorem dX7_bestTown_188 : decode cX7_bestTown 188 = .ok (.goto 5, 3) := by decide +kernel
theorem dX7_bestTown_191 : decode cX7_bestTown 191 = .ok (.iload 4, 2) := by decide +kernel
theorem dX7_bestTown_193 : decode cX7_bestTown 193 = .ok (.istore 4, 2) := by decide +kernel
theorem dX7_bestTown_195 : decode cX7_bestTown 195 = .ok (.iload 9, 2) := by decide +kernel
theorem dX7_bestTown_197 : decode cX7_bestTown 197 = .ok (.ifCond .eq 8, 3) := by decide +kernel
theorem dX7_bestTown_200 : decode cX7_bestTown 200 = .ok (.iload 8, 2) := by decide +kernel
theorem dX7_bestTown_202 : decode cX7_bestTown 202 = .ok (.goto 5, 3) := by decide +kernel
theorem dX7_bestTown_205 : decode cX7_bestTown 205 = .ok (.iload 5, 2) := by decide +kernel
theorem dX7_bestTown_207 : decode cX7_bestTown 207 = .ok (.istore 5, 2) := by decide +kernel
theorem dX7_bestTown_209 : decode cX7_bestTown 209 = .ok (.iinc 6 1, 3) := by decide +kernel
theorem dX7_bestTown_212 : decode cX7_bestTown 212 = .ok (.goto (-179), 3) := by decide +kernel
theorem dX7_bestTown_215 : decode cX7_bestTown 215 = .ok (.aload_n 0, 1) := by decide +kernel
theorem dX7_bestTown_216 : decode cX7_bestTown 216 = .ok (.getfield 7, 3) := by decide +kernel
theorem dX7_bestTown_219 : decode cX7_bestTown 219 = .ok (.bipush 9, 2) := by decide +kernel
theorem dX7_bestTown_221 : decode cX7_bestTown 221 = .ok (.iload_n 1, 1) := by decide +kernel
theorem dX7_bestTown_222 : decode cX7_bestTown 222 = .ok (.iadd, 1) := by decide +kernel
theorem dX7_bestTown_223 : decode cX7_bestTown 223 = .ok (.iload_n 2, 1) := by decide +kernel
theorem dX7_bestTown_224 : decode cX7_bestTown 224 = .ok (.iastore, 1) := by decide +kernel
theorem dX7_bestTown_225 : decode cX7_bestTown 225 = .ok (.iload_n 3, 1) := by decide +kernel
theorem dX7_bestTown_226 : decode cX7_bestTown 226 = .ok (.ireturn, 1) := by decide +kernel
theorem dX7_ifPassed_0 : decode cX7_ifPassed 0 = .ok (.iload_n 1, 1) := by decide +kernel
theorem dX7_ifPassed_1 : decode cX7_ifPassed 1 = .ok (.iconst 1, 1) := by decide +kernel
theorem dX7_ifPassed_2 : decode cX7_ifPassed 2 = .ok (.bipush 30, 2) := by decide +kernel
theorem dX7_ifPassed_4 : decode cX7_ifPassed 4 = .ok (.invokestatic 36, 3) := by decide +kernel
theorem dX7_ifPassed_7 : decode cX7_ifPassed 7 = .ok (.ifCond .eq 12, 3) := by decide +kernel
theorem dX7_ifPassed_10 : decode cX7_ifPassed 10 = .ok (.iload_n 2, 1) := by decide +kernel
theorem dX7_ifPassed_11 : decode cX7_ifPassed 11 = .ok (.iconst 0, 1) := by decide +kernel
theorem dX7_ifPassed_12 : decode cX7_ifPassed 12 = .ok (.iconst 2, 1) := by decide +kernel
theorem dX7_ifPassed_13 : decode cX7_ifPassed 13 = .ok (.invokestatic 36, 3) := by decide +kernel
theorem dX7_ifPassed_16 : decode cX7_ifPassed 16 = .ok (.ifCond .ne 5, 3) := by decide +kernel
theorem dX7_ifPassed_19 : decode cX7_ifPassed 19 = .ok (.iconst (-1), 1) := by decide +kernel
theorem dX7_ifPassed_20 : decode cX7_ifPassed 20 = .ok (.ireturn, 1) := by decide +kernel
theorem dX7_ifPassed_21 : decode cX7_ifPassed 21 = .ok (.aload_n 0, 1) := by decide +kernel
theorem dX7_ifPassed_22 : decode cX7_ifPassed 22 = .ok (.getfield 7, 3) := by decide +kernel
theorem dX7_ifPassed_25 : decode cX7_ifPassed 25 = .ok (.iconst 0, 1) := by decide +kernel
theorem dX7_ifPassed_26 : decode cX7_ifPassed 26 = .ok (.aload_n 0, 1) := by decide +kernel
theorem dX7_ifPassed_27 : decode cX7_ifPassed 27 = .ok (.getfield 13, 3) := by decide +kernel
theorem dX7_ifPassed_30 : decode cX7_ifPassed 30 = .ok (.iconst 0, 1) := by decide +kernel
theorem dX7_ifPassed_31 : decode cX7_ifPassed 31 = .ok (.invokestatic 32, 3) := by decide +kernel
theorem dX7_ifPassed_34 : decode cX7_ifPassed 34 = .ok (.aload_n 0, 1) := by decide +kernel
theorem dX7_ifPassed_35 : decode cX7_ifPassed 35 = .ok (.iconst 5, 1) := by decide +kernel
theorem dX7_ifPassed_36 : decode cX7_ifPassed 36 = .ok (.invokevirtual 161, 3) := by decide +kernel
theorem dX7_ifPassed_39 : decode cX7_ifPassed 39 = .ok (.istore_n 3, 1) := by decide +kernel
theorem dX7_ifPassed_40 : decode cX7_ifPassed 40 = .ok (.aload_n 0, 1) := by decide +kernel
theorem dX7_ifPassed_41 : decode cX7_ifPassed 41 = .ok (.iload_n 1, 1) := by decide +kernel
theorem dX7_ifPassed_42 : decode cX7_ifPassed 42 = .ok (.invokevirtual 110, 3) := by decide +kernel
theorem dX7_ifPassed_45 : decode cX7_ifPassed 45 = .ok (.istore 4, 2) := by decide +kernel
theorem dX7_ifPassed_47 : decode cX7_ifPassed 47 = .ok (.iload_n 2, 1) := by decide +kernel
theorem dX7_ifPassed_48 : decode cX7_ifPassed 48 = .ok (.ifCond .ne 8, 3) := by decide +kernel
theorem dX7_ifPassed_51 : decode cX7_ifPassed 51 = .ok (.iload 4, 2) := by decide +kernel
theorem dX7_ifPassed_53 : decode cX7_ifPassed 53 = .ok (.goto 33, 3) := by decide +kernel
theorem dX7_ifPassed_56 : decode cX7_ifPassed 56 = .ok (.iload_n 2, 1) := by decide +kernel
theorem dX7_ifPassed_57 : decode cX7_ifPassed 57 = .ok (.iconst 1, 1) := by decide +kernel
theorem dX7_ifPassed_58 : decode cX7_ifPassed 58 = .ok (.if_icmp .ne 21, 3) := by decide +kernel
theorem dX7_ifPassed_61 : decode cX7_ifPassed 61 = .ok (.aload_n 0, 1) := by decide +kernel
theorem dX7_ifPassed_62 : decode cX7_ifPassed 62 = .ok (.getfield 7, 3) := by decide +kernel
theorem dX7_ifPassed_65 : decode cX7_ifPassed 65 = .ok (.bipush 8, 2) := by decide +kernel
theorem dX7_ifPassed_67 : decode cX7_ifPassed 67 = .ok (.iaload, 1) := by decide +kernel
theorem dX7_ifPassed_68 : decode cX7_ifPassed 68 = .ok (.aload_n 0, 1) := by decide +kernel
theorem dX7_ifPassed_69 : decode cX7_ifPassed 69 = .ok (.getfield 13, 3) := by decide +kernel
theorem dX7_ifPassed_72 : decode cX7_ifPassed 72 = .ok (.bipush 8, 2) := by decide +kernel
theorem dX7_ifPassed_74 : decode cX7_ifPassed 74 = .ok (.iaload, 1) := by decide +kernel
theorem dX7_ifPassed_75 : decode cX7_ifPassed 75 = .ok (.isub, 1) := by decide +kernel
theorem dX7_ifPassed_76 : decode cX7_ifPassed 76 = .ok (.goto 10, 3) := by decide +kernel
theorem dX7_ifPassed_79 : decode cX7_ifPassed 79 = .ok (.aload_n 0, 1) := by decide +kernel
theorem dX7_ifPassed_80 : decode cX7_ifPassed 80 = .ok (.iconst 5, 1) := by decide +kernel
theorem dX7_ifPassed_81 : decode cX7_ifPassed 81 = .ok (.invokevirtual 161, 3) := by decide +kernel
theorem dX7_ifPassed_84 : decode cX7_ifPassed 84 = .ok (.iload_n 3, 1) := by decide +kernel
theorem dX7_ifPassed_85 : decode cX7_ifPassed 85 = .ok (.isub, 1) := by decide +kernel
theorem dX7_ifPassed_86 : decode cX7_ifPassed 86 = .ok (.istore 5, 2) := by decide +kernel
theorem dX7_ifPassed_88 : decode cX7_ifPassed 88 = .ok (.aload_n 0, 1) := by decide +kernel
theorem dX7_ifPassed_89 : decode cX7_ifPassed 89 = .ok (.getfield 13, 3) := by decide +kernel
theorem dX7_ifPassed_92 : decode cX7_ifPassed 92 = .ok (.iconst 0, 1) := by decide +kernel
theorem dX7_ifPassed_93 : decode cX7_ifPassed 93 = .ok (.aload_n 0, 1) := by decide +kernel
theorem dX7_ifPassed_94 : decode cX7_ifPassed 94 = .ok (.getfield 7, 3) := by decide +kernel
theorem dX7_ifPassed_97 : decode cX7_ifPassed 97 = .ok (.iconst 0, 1) := by decide +kernel
theorem dX7_ifPassed_98 : decode cX7_ifPassed 98 = .ok (.invokestatic 32, 3) := by decide +kernel
theorem dX7_ifPassed_101 : decode cX7_ifPassed 101 = .ok (.iload 5, 2) := by decide +kernel
theorem dX7_ifPassed_103 : decode cX7_ifPassed 103 = .ok (.ireturn, 1) := by decide +kernel
theorem dX7_undo_0 : decode cX7_undo 0 = .ok (.aload_n 0, 1) := by decide +kernel
theorem dX7_undo_1 : decode cX7_undo 1 = .ok (.getfield 28, 3) := by decide +kernel
theorem dX7_undo_4 : decode cX7_undo 4 = .ok (.ifCond .ne 6, 3) := by decide +kernel
theorem dX7_undo_7 : decode cX7_undo 7 = .ok (.bipush (-2), 2) := by decide +kernel
theorem dX7_undo_9 : decode cX7_undo 9 = .ok (.ireturn, 1) := by decide +kernel
theorem dX7_undo_10 : decode cX7_undo 10 = .ok (.aload_n 0, 1) := by decide +kernel
theorem dX7_undo_11 : decode cX7_undo 11 = .ok (.dup, 1) := by decide +kernel
theorem dX7_undo_12 : decode cX7_undo 12 = .ok (.getfield 28, 3) := by decide +kernel
theorem dX7_undo_15 : decode cX7_undo 15 = .ok (.iconst 1, 1) := by decide +kernel
theorem dX7_undo_16 : decode cX7_undo 16 = .ok (.isub, 1) := by decide +kernel
theorem dX7_undo_17 : decode cX7_undo 17 = .ok (.putfield 28, 3) := by decide +kernel
theorem dX7_undo_20 : decode cX7_undo 20 = .ok (.aload_n 0, 1) := by decide +kernel
theorem dX7_undo_21 : decode cX7_undo 21 = .ok (.getfield 16, 3) := by decide +kernel
theorem dX7_undo_24 : decode cX7_undo 24 = .ok (.sipush 128, 3) := by decide +kernel
theorem dX7_undo_27 : decode cX7_undo 27 = .ok (.aload_n 0, 1) := by decide +kernel
theorem dX7_undo_28 : decode cX7_undo 28 = .ok (.getfield 28, 3) := by decide +kernel
theorem dX7_undo_31 : decode cX7_undo 31 = .ok (.imul, 1) := by decide +kernel
theorem dX7_undo_32 : decode cX7_undo 32 = .ok (.aload_n 0, 1) := by decide +kernel
theorem dX7_undo_33 : decode cX7_undo 33 = .ok (.getfield 7, 3) := by decide +kernel
theorem dX7_undo_36 : decode cX7_undo 36 = .ok (.iconst 0, 1) := by decide +kernel
theorem dX7_undo_37 : decode cX7_undo 37 = .ok (.invokestatic 32, 3) := by decide +kernel
theorem dX7_undo_40 : decode cX7_undo 40 = .ok (.aload_n 0, 1) := by decide +kernel
theorem dX7_undo_41 : decode cX7_undo 41 = .ok (.getfield 28, 3) := by decide +kernel
theorem dX7_undo_44 : decode cX7_undo 44 = .ok (.ireturn, 1) := by decide +kernel
theorem dX7_save_0 : decode cX7_save 0 = .ok (.aload_n 0, 1) := by decide +kernel
theorem dX7_save_1 : decode cX7_save 1 = .ok (.getfield 7, 3) := by decide +kernel
theorem dX7_save_4 : decode cX7_save 4 = .ok (.iconst 0, 1) := by decide +kernel
theorem dX7_save_5 : decode cX7_save 5 = .ok (.aload_n 0, 1) := by decide +kernel
theorem dX7_save_6 : decode cX7_save 6 = .ok (.getfield 19, 3) := by decide +kernel
theorem dX7_save_9 : decode cX7_save 9 = .ok (.iconst 0, 1) := by decide +kernel
theorem dX7_save_10 : decode cX7_save 10 = .ok (.invokestatic 32, 3) := by decide +kernel
theorem dX7_save_13 : decode cX7_save 13 = .ok (.aload_n 0, 1) := by decide +kernel
theorem dX7_save_14 : decode cX7_save 14 = .ok (.iconst 1, 1) := by decide +kernel
theorem dX7_save_15 : decode cX7_save 15 = .ok (.putfield 164, 3) := by decide +kernel
theorem dX7_save_18 : decode cX7_save 18 = .ok (.aload_n 0, 1) := by decide +kernel
theorem dX7_save_19 : decode cX7_save 19 = .ok (.getfield 7, 3) := by decide +kernel
theorem dX7_save_22 : decode cX7_save 22 = .ok (.iconst 0, 1) := by decide +kernel
theorem dX7_save_23 : decode cX7_save 23 = .ok (.iaload, 1) := by decide +kernel
theorem dX7_save_24 : decode cX7_save 24 = .ok (.ireturn, 1) := by decide +kernel
theorem dX7_restore_0 : decode cX7_restore 0 = .ok (.aload_n 0, 1) := by decide +kernel
theorem dX7_restore_1 : decode cX7_restore 1 = .ok (.getfield 164, 3) := by decide +kernel
theorem dX7_restore_4 : decode cX7_restore 4 = .ok (.ifCond .ne 6, 3) := by decide +kernel
theorem dX7_restore_7 : decode cX7_restore 7 = .ok (.bipush (-2), 2) := by decide +kernel
theorem dX7_restore_9 : decode cX7_restore 9 = .ok (.ireturn, 1) := by decide +kernel
theorem dX7_restore_10 : decode cX7_restore 10 = .ok (.aload_n 0, 1) := by decide +kernel
theorem dX7_restore_11 : decode cX7_restore 11 = .ok (.invokevirtual 90, 3) := by decide +kernel
theorem dX7_restore_14 : decode cX7_restore 14 = .ok (.aload_n 0, 1) := by decide +kernel
theorem dX7_restore_15 : decode cX7_restore 15 = .ok (.getfield 19, 3) := by decide +kernel
theorem dX7_restore_18 : decode cX7_restore 18 = .ok (.iconst 0, 1) := by decide +kernel
theorem dX7_restore_19 : decode cX7_restore 19 = .ok (.aload_n 0, 1) := by decide +kernel
theorem dX7_restore_20 : decode cX7_restore 20 = .ok (.getfield 7, 3) := by decide +kernel
theorem dX7_restore_23 : decode cX7_restore 23 = .ok (.iconst 0, 1) := by decide +kernel
theorem dX7_restore_24 : decode cX7_restore 24 = .ok (.invokestatic 32, 3) := by decide +kernel
theorem dX7_restore_27 : decode cX7_restore 27 = .ok (.aload_n 0, 1) := by decide +kernel
theorem dX7_restore_28 : decode cX7_restore 28 = .ok (.getfield 7, 3) := by decide +kernel
theorem dX7_restore_31 : decode cX7_restore 31 = .ok (.iconst 0, 1) := by decide +kernel
theorem dX7_restore_32 : decode cX7_restore 32 = .ok (.iaload, 1) := by decide +kernel
theorem dX7_restore_33 : decode cX7_restore 33 = .ok (.ireturn, 1) := by decide +kernel
theorem dJ9_min_7cf53_0 : decode cJ9_min_7cf53 0 = .ok (.iload_n 0, 1) := by decide +kernel
theorem dJ9_min_7cf53_1 : decode cJ9_min_7cf53 1 = .ok (.iload_n 1, 1) := by decide +kernel
theorem dJ9_min_7cf53_2 : decode cJ9_min_7cf53 2 = .ok (.if_icmp .gt 7, 3) := by decide +kernel
theorem dJ9_min_7cf53_5 : decode cJ9_min_7cf53 5 = .ok (.iload_n 0, 1) := by decide +kernel
theorem dJ9_min_7cf53_6 : decode cJ9_min_7cf53 6 = .ok (.goto 4, 3) := by decide +kernel
theorem dJ9_min_7cf53_9 : decode cJ9_min_7cf53 9 = .ok (.iload_n 1, 1) := by decide +kernel
theorem dJ9_min_7cf53_10 : decode cJ9_min_7cf53 10 = .ok (.ireturn, 1) := by decide +kernel
theorem dJ7_fill_53178_0 : decode cJ7_fill_53178 0 = .ok (.iconst 0, 1) := by decide +kernel
theorem dJ7_fill_53178_1 : decode cJ7_fill_53178 1 = .ok (.istore_n 2, 1) := by decide +kernel
theorem dJ7_fill_53178_2 : decode cJ7_fill_53178 2 = .ok (.aload_n 0, 1) := by decide +kernel
theorem dJ7_fill_53178_3 : decode cJ7_fill_53178 3 = .ok (.arraylength, 1) := by decide +kernel
theorem dJ7_fill_53178_4 : decode cJ7_fill_53178 4 = .ok (.istore_n 3, 1) := by decide +kernel
theorem dJ7_fill_53178_5 : decode cJ7_fill_53178 5 = .ok (.iload_n 2, 1) := by decide +kernel
theorem dJ7_fill_53178_6 : decode cJ7_fill_53178 6 = .ok (.iload_n 3, 1) := by decide +kernel
theorem dJ7_fill_53178_7 : decode cJ7_fill_53178 7 = .ok (.if_icmp .ge 13, 3) := by decide +kernel
theorem dJ7_fill_53178_10 : decode cJ7_fill_53178 10 = .ok (.aload_n 0, 1) := by decide +kernel
theorem dJ7_fill_53178_11 : decode cJ7_fill_53178 11 = .ok (.iload_n 2, 1) := by decide +kernel
theorem dJ7_fill_53178_12 : decode cJ7_fill_53178 12 = .ok (.iload_n 1, 1) := by decide +kernel
theorem dJ7_fill_53178_13 : decode cJ7_fill_53178 13 = .ok (.iastore, 1) := by decide +kernel
theorem dJ7_fill_53178_14 : decode cJ7_fill_53178 14 = .ok (.iinc 2 1, 3) := by decide +kernel
theorem dJ7_fill_53178_17 : decode cJ7_fill_53178 17 = .ok (.goto (-12), 3) := by decide +kernel
theorem dJ7_fill_53178_20 : decode cJ7_fill_53178 20 = .ok (.return_, 1) := by decide +kernel
theorem dL_law_0 : decode cL_law 0 = .ok (.new 7, 3) := by decide +kernel
theorem dL_law_3 : decode cL_law 3 = .ok (.dup, 1) := by decide +kernel
theorem dL_law_4 : decode cL_law 4 = .ok (.invokespecial 9, 3) := by decide +kernel
theorem dL_law_7 : decode cL_law 7 = .ok (.astore_n 1, 1) := by decide +kernel
theorem dL_law_8 : decode cL_law 8 = .ok (.new 10, 3) := by decide +kernel
theorem dL_law_11 : decode cL_law 11 = .ok (.dup, 1) := by decide +kernel
theorem dL_law_12 : decode cL_law 12 = .ok (.invokespecial 12, 3) := by decide +kernel
theorem dL_law_15 : decode cL_law 15 = .ok (.astore_n 2, 1) := by decide +kernel
theorem dL_law_16 : decode cL_law 16 = .ok (.iconst 0, 1) := by decide +kernel
theorem dL_law_17 : decode cL_law 17 = .ok (.istore_n 3, 1) := by decide +kernel
theorem dL_law_18 : decode cL_law 18 = .ok (.iload_n 3, 1) := by decide +kernel
theorem dL_law_19 : decode cL_law 19 = .ok (.aload_n 0, 1) := by decide +kernel
theorem dL_law_20 : decode cL_law 20 = .ok (.arraylength, 1) := by decide +kernel
theorem dL_law_21 : decode cL_law 21 = .ok (.iconst 4, 1) := by decide +kernel
theorem dL_law_22 : decode cL_law 22 = .ok (.isub, 1) := by decide +kernel
theorem dL_law_23 : decode cL_law 23 = .ok (.if_icmp .gt 847, 3) := by decide +kernel
theorem dL_law_26 : decode cL_law 26 = .ok (.aload_n 0, 1) := by decide +kernel
theorem dL_law_27 : decode cL_law 27 = .ok (.iload_n 3, 1) := by decide +kernel
theorem dL_law_28 : decode cL_law 28 = .ok (.iaload, 1) := by decide +kernel
theorem dL_law_29 : decode cL_law 29 = .ok (.bipush 31, 2) := by decide +kernel
theorem dL_law_31 : decode cL_law 31 = .ok (.iand, 1) := by decide +kernel
theorem dL_law_32 : decode cL_law 32 = .ok (.tableswitch 832 0 25 #[120, 153, 186, 219, 242, 275, 298, 321, 344, 357, 380, 393, 406, 439, 472, 505, 538, 597, 620, 661, 704, 737, 760, 793, 806, 819], 120) := by decide +kernel
theorem dL_law_152 : decode cL_law 152 = .ok (.aload_n 1, 1) := by decide +kernel
theorem dL_law_153 : decode cL_law 153 = .ok (.aload_n 0, 1) := by decide +kernel
theorem dL_law_154 : decode cL_law 154 = .ok (.iload_n 3, 1) := by decide +kernel
theorem dL_law_155 : decode cL_law 155 = .ok (.iconst 1, 1) := by decide +kernel
theorem dL_law_156 : decode cL_law 156 = .ok (.iadd, 1) := by decide +kernel
theorem dL_law_157 : decode cL_law 157 = .ok (.iaload, 1) := by decide +kernel
theorem dL_law_158 : decode cL_law 158 = .ok (.aload_n 0, 1) := by decide +kernel
theorem dL_law_159 : decode cL_law 159 = .ok (.iload_n 3, 1) := by decide +kernel
theorem dL_law_160 : decode cL_law 160 = .ok (.iconst 2, 1) := by decide +kernel
theorem dL_law_161 : decode cL_law 161 = .ok (.iadd, 1) := by decide +kernel
theorem dL_law_162 : decode cL_law 162 = .ok (.iaload, 1) := by decide +kernel
theorem dL_law_163 : decode cL_law 163 = .ok (.invokevirtual 13, 3) := by decide +kernel
theorem dL_law_166 : decode cL_law 166 = .ok (.aload_n 2, 1) := by decide +kernel
theorem dL_law_167 : decode cL_law 167 = .ok (.aload_n 0, 1) := by decide +kernel
theorem dL_law_168 : decode cL_law 168 = .ok (.iload_n 3, 1) := by decide +kernel
theorem dL_law_169 : decode cL_law 169 = .ok (.iconst 1, 1) := by decide +kernel
theorem dL_law_170 : decode cL_law 170 = .ok (.iadd, 1) := by decide +kernel
theorem dL_law_171 : decode cL_law 171 = .ok (.iaload, 1) := by decide +kernel
theorem dL_law_172 : decode cL_law 172 = .ok (.aload_n 0, 1) := by decide +kernel
theorem dL_law_173 : decode cL_law 173 = .ok (.iload_n 3, 1) := by decide +kernel
theorem dL_law_174 : decode cL_law 174 = .ok (.iconst 2, 1) := by decide +kernel
theorem dL_law_175 : decode cL_law 175 = .ok (.iadd, 1) := by decide +kernel
theorem dL_law_176 : decode cL_law 176 = .ok (.iaload, 1) := by decide +kernel
theorem dL_law_177 : decode cL_law 177 = .ok (.invokevirtual 17, 3) := by decide +kernel
theorem dL_law_180 : decode cL_law 180 = .ok (.if_icmp .eq 684, 3) := by decide +kernel
theorem dL_law_183 : decode cL_law 183 = .ok (.iconst 0, 1) := by decide +kernel
theorem dL_law_184 : decode cL_law 184 = .ok (.ireturn, 1) := by decide +kernel
theorem dL_law_185 : decode cL_law 185 = .ok (.aload_n 1, 1) := by decide +kernel
theorem dL_law_186 : decode cL_law 186 = .ok (.aload_n 0, 1) := by decide +kernel
theorem dL_law_187 : decode cL_law 187 = .ok (.iload_n 3, 1) := by decide +kernel
theorem dL_law_188 : decode cL_law 188 = .ok (.iconst 1, 1) := by decide +kernel
theorem dL_law_189 : decode cL_law 189 = .ok (.iadd, 1) := by decide +kernel
theorem dL_law_190 : decode cL_law 190 = .ok (.iaload, 1) := by decide +kernel
theorem dL_law_191 : decode cL_law 191 = .ok (.aload_n 0, 1) := by decide +kernel
theorem dL_law_192 : decode cL_law 192 = .ok (.iload_n 3, 1) := by decide +kernel
theorem dL_law_193 : decode cL_law 193 = .ok (.iconst 2, 1) := by decide +kernel
theorem dL_law_194 : decode cL_law 194 = .ok (.iadd, 1) := by decide +kernel
theorem dL_law_195 : decode cL_law 195 = .ok (.iaload, 1) := by decide +kernel
theorem dL_law_196 : decode cL_law 196 = .ok (.invokevirtual 18, 3) := by decide +kernel
theorem dL_law_199 : decode cL_law 199 = .ok (.aload_n 2, 1) := by decide +kernel
theorem dL_law_200 : decode cL_law 200 = .ok (.aload_n 0, 1) := by decide +kernel
theorem dL_law_201 : decode cL_law 201 = .ok (.iload_n 3, 1) := by decide +kernel
theorem dL_law_202 : decode cL_law 202 = .ok (.iconst 1, 1) := by decide +kernel
theorem dL_law_203 : decode cL_law 203 = .ok (.iadd, 1) := by decide +kernel
theorem dL_law_204 : decode cL_law 204 = .ok (.iaload, 1) := by decide +kernel
theorem dL_law_205 : decode cL_law 205 = .ok (.aload_n 0, 1) := by decide +kernel
theorem dL_law_206 : decode cL_law 206 = .ok (.iload_n 3, 1) := by decide +kernel
theorem dL_law_207 : decode cL_law 207 = .ok (.iconst 2, 1) := by decide +kernel
theorem dL_law_208 : decode cL_law 208 = .ok (.iadd, 1) := by decide +kernel
theorem dL_law_209 : decode cL_law 209 = .ok (.iaload, 1) := by decide +kernel
theorem dL_law_210 : decode cL_law 210 = .ok (.invokevirtual 21, 3) := by decide +kernel
theorem dL_law_213 : decode cL_law 213 = .ok (.if_icmp .eq 651, 3) := by decide +kernel
theorem dL_law_216 : decode cL_law 216 = .ok (.iconst 0, 1) := by decide +kernel
theorem dL_law_217 : decode cL_law 217 = .ok (.ireturn, 1) := by decide +kernel
theorem dL_law_218 : decode cL_law 218 = .ok (.aload_n 1, 1) := by decide +kernel
theorem dL_law_219 : decode cL_law 219 = .ok (.aload_n 0, 1) := by decide +kernel
theorem dL_law_220 : decode cL_law 220 = .ok (.iload_n 3, 1) := by decide +kernel
theorem dL_law_221 : decode cL_law 221 = .ok (.iconst 1, 1) := by decide +kernel
theorem dL_law_222 : decode cL_law 222 = .ok (.iadd, 1) := by decide +kernel
theorem dL_law_223 : decode cL_law 223 = .ok (.iaload, 1) := by decide +kernel
theorem dL_law_224 : decode cL_law 224 = .ok (.aload_n 0, 1) := by decide +kernel
theorem dL_law_225 : decode cL_law 225 = .ok (.iload_n 3, 1) := by decide +kernel
theorem dL_law_226 : decode cL_law 226 = .ok (.iconst 2, 1) := by decide +kernel
theorem dL_law_227 : decode cL_law 227 = .ok (.iadd, 1) := by decide +kernel
theorem dL_law_228 : decode cL_law 228 = .ok (.iaload, 1) := by decide +kernel
theorem dL_law_229 : decode cL_law 229 = .ok (.invokevirtual 22, 3) := by decide +kernel
theorem dL_law_232 : decode cL_law 232 = .ok (.aload_n 2, 1) := by decide +kernel
theorem dL_law_233 : decode cL_law 233 = .ok (.aload_n 0, 1) := by decide +kernel
theorem dL_law_234 : decode cL_law 234 = .ok (.iload_n 3, 1) := by decide +kernel
theorem dL_law_235 : decode cL_law 235 = .ok (.iconst 1, 1) := by decide +kernel
theorem dL_law_236 : decode cL_law 236 = .ok (.iadd, 1) := by decide +kernel
theorem dL_law_237 : decode cL_law 237 = .ok (.iaload, 1) := by decide +kernel
theorem dL_law_238 : decode cL_law 238 = .ok (.aload_n 0, 1) := by decide +kernel
theorem dL_law_239 : decode cL_law 239 = .ok (.iload_n 3, 1) := by decide +kernel
theorem dL_law_240 : decode cL_law 240 = .ok (.iconst 2, 1) := by decide +kernel
theorem dL_law_241 : decode cL_law 241 = .ok (.iadd, 1) := by decide +kernel
theorem dL_law_242 : decode cL_law 242 = .ok (.iaload, 1) := by decide +kernel
theorem dL_law_243 : decode cL_law 243 = .ok (.invokevirtual 25, 3) := by decide +kernel
theorem dL_law_246 : decode cL_law 246 = .ok (.if_icmp .eq 618, 3) := by decide +kernel
theorem dL_law_249 : decode cL_law 249 = .ok (.iconst 0, 1) := by decide +kernel
theorem dL_law_250 : decode cL_law 250 = .ok (.ireturn, 1) := by decide +kernel
theorem dL_law_251 : decode cL_law 251 = .ok (.aload_n 1, 1) := by decide +kernel
theorem dL_law_252 : decode cL_law 252 = .ok (.aload_n 0, 1) := by decide +kernel
theorem dL_law_253 : decode cL_law 253 = .ok (.iload_n 3, 1) := by decide +kernel
theorem dL_law_254 : decode cL_law 254 = .ok (.iconst 1, 1) := by decide +kernel
theorem dL_law_255 : decode cL_law 255 = .ok (.iadd, 1) := by decide +kernel
theorem dL_law_256 : decode cL_law 256 = .ok (.iaload, 1) := by decide +kernel
theorem dL_law_257 : decode cL_law 257 = .ok (.invokevirtual 26, 3) := by decide +kernel
theorem dL_law_260 : decode cL_law 260 = .ok (.aload_n 2, 1) := by decide +kernel
theorem dL_law_261 : decode cL_law 261 = .ok (.aload_n 0, 1) := by decide +kernel
theorem dL_law_262 : decode cL_law 262 = .ok (.iload_n 3, 1) := by decide +kernel
theorem dL_law_263 : decode cL_law 263 = .ok (.iconst 1, 1) := by decide +kernel
theorem dL_law_264 : decode cL_law 264 = .ok (.iadd, 1) := by decide +kernel
theorem dL_law_265 : decode cL_law 265 = .ok (.iaload, 1) := by decide +kernel
theorem dL_law_266 : decode cL_law 266 = .ok (.invokevirtual 30, 3) := by decide +kernel
theorem dL_law_269 : decode cL_law 269 = .ok (.if_icmp .eq 595, 3) := by decide +kernel
theorem dL_law_272 : decode cL_law 272 = .ok (.iconst 0, 1) := by decide +kernel
theorem dL_law_273 : decode cL_law 273 = .ok (.ireturn, 1) := by decide +kernel
theorem dL_law_274 : decode cL_law 274 = .ok (.aload_n 1, 1) := by decide +kernel
theorem dL_law_275 : decode cL_law 275 = .ok (.aload_n 0, 1) := by decide +kernel
theorem dL_law_276 : decode cL_law 276 = .ok (.iload_n 3, 1) := by decide +kernel
theorem dL_law_277 : decode cL_law 277 = .ok (.iconst 1, 1) := by decide +kernel
theorem dL_law_278 : decode cL_law 278 = .ok (.iadd, 1) := by decide +kernel
theorem dL_law_279 : decode cL_law 279 = .ok (.iaload, 1) := by decide +kernel
theorem dL_law_280 : decode cL_law 280 = .ok (.aload_n 0, 1) := by decide +kernel
theorem dL_law_281 : decode cL_law 281 = .ok (.iload_n 3, 1) := by decide +kernel
theorem dL_law_282 : decode cL_law 282 = .ok (.iconst 2, 1) := by decide +kernel
theorem dL_law_283 : decode cL_law 283 = .ok (.iadd, 1) := by decide +kernel
theorem dL_law_284 : decode cL_law 284 = .ok (.iaload, 1) := by decide +kernel
theorem dL_law_285 : decode cL_law 285 = .ok (.invokevirtual 31, 3) := by decide +kernel
theorem dL_law_288 : decode cL_law 288 = .ok (.aload_n 2, 1) := by decide +kernel
theorem dL_law_289 : decode cL_law 289 = .ok (.aload_n 0, 1) := by decide +kernel
theorem dL_law_290 : decode cL_law 290 = .ok (.iload_n 3, 1) := by decide +kernel
theorem dL_law_291 : decode cL_law 291 = .ok (.iconst 1, 1) := by decide +kernel
theorem dL_law_292 : decode cL_law 292 = .ok (.iadd, 1) := by decide +kernel
theorem dL_law_293 : decode cL_law 293 = .ok (.iaload, 1) := by decide +kernel
theorem dL_law_294 : decode cL_law 294 = .ok (.aload_n 0, 1) := by decide +kernel
theorem dL_law_295 : decode cL_law 295 = .ok (.iload_n 3, 1) := by decide +kernel
theorem dL_law_296 : decode cL_law 296 = .ok (.iconst 2, 1) := by decide +kernel
theorem dL_law_297 : decode cL_law 297 = .ok (.iadd, 1) := by decide +kernel
theorem dL_law_298 : decode cL_law 298 = .ok (.iaload, 1) := by decide +kernel
theorem dL_law_299 : decode cL_law 299 = .ok (.invokevirtual 34, 3) := by decide +kernel
theorem dL_law_302 : decode cL_law 302 = .ok (.if_icmp .eq 562, 3) := by decide +kernel
theorem dL_law_305 : decode cL_law 305 = .ok (.iconst 0, 1) := by decide +kernel
theorem dL_law_306 : decode cL_law 306 = .ok (.ireturn, 1) := by decide +kernel
theorem dL_law_307 : decode cL_law 307 = .ok (.aload_n 1, 1) := by decide +kernel
theorem dL_law_308 : decode cL_law 308 = .ok (.aload_n 0, 1) := by decide +kernel
theorem dL_law_309 : decode cL_law 309 = .ok (.iload_n 3, 1) := by decide +kernel
theorem dL_law_310 : decode cL_law 310 = .ok (.iconst 1, 1) := by decide +kernel
theorem dL_law_311 : decode cL_law 311 = .ok (.iadd, 1) := by decide +kernel
theorem dL_law_312 : decode cL_law 312 = .ok (.iaload, 1) := by decide +kernel
theorem dL_law_313 : decode cL_law 313 = .ok (.invokevirtual 35, 3) := by decide +kernel
theorem dL_law_316 : decode cL_law 316 = .ok (.aload_n 2, 1) := by decide +kernel
theorem dL_law_317 : decode cL_law 317 = .ok (.aload_n 0, 1) := by decide +kernel
theorem dL_law_318 : decode cL_law 318 = .ok (.iload_n 3, 1) := by decide +kernel
theorem dL_law_319 : decode cL_law 319 = .ok (.iconst 1, 1) := by decide +kernel
theorem dL_law_320 : decode cL_law 320 = .ok (.iadd, 1) := by decide +kernel
theorem dL_law_321 : decode cL_law 321 = .ok (.iaload, 1) := by decide +kernel
theorem dL_law_322 : decode cL_law 322 = .ok (.invokevirtual 38, 3) := by decide +kernel
theorem dL_law_325 : decode cL_law 325 = .ok (.if_icmp .eq 539, 3) := by decide +kernel
theorem dL_law_328 : decode cL_law 328 = .ok (.iconst 0, 1) := by decide +kernel
theorem dL_law_329 : decode cL_law 329 = .ok (.ireturn, 1) := by decide +kernel
theorem dL_law_330 : decode cL_law 330 = .ok (.aload_n 1, 1) := by decide +kernel
theorem dL_law_331 : decode cL_law 331 = .ok (.aload_n 0, 1) := by decide +kernel
theorem dL_law_332 : decode cL_law 332 = .ok (.iload_n 3, 1) := by decide +kernel
theorem dL_law_333 : decode cL_law 333 = .ok (.iconst 1, 1) := by decide +kernel
theorem dL_law_334 : decode cL_law 334 = .ok (.iadd, 1) := by decide +kernel
theorem dL_law_335 : decode cL_law 335 = .ok (.iaload, 1) := by decide +kernel
theorem dL_law_336 : decode cL_law 336 = .ok (.invokevirtual 39, 3) := by decide +kernel
theorem dL_law_339 : decode cL_law 339 = .ok (.aload_n 2, 1) := by decide +kernel
theorem dL_law_340 : decode cL_law 340 = .ok (.aload_n 0, 1) := by decide +kernel
theorem dL_law_341 : decode cL_law 341 = .ok (.iload_n 3, 1) := by decide +kernel
theorem dL_law_342 : decode cL_law 342 = .ok (.iconst 1, 1) := by decide +kernel
theorem dL_law_343 : decode cL_law 343 = .ok (.iadd, 1) := by decide +kernel
theorem dL_law_344 : decode cL_law 344 = .ok (.iaload, 1) := by decide +kernel
theorem dL_law_345 : decode cL_law 345 = .ok (.invokevirtual 42, 3) := by decide +kernel
theorem dL_law_348 : decode cL_law 348 = .ok (.if_icmp .eq 516, 3) := by decide +kernel
theorem dL_law_351 : decode cL_law 351 = .ok (.iconst 0, 1) := by decide +kernel
theorem dL_law_352 : decode cL_law 352 = .ok (.ireturn, 1) := by decide +kernel
theorem dL_law_353 : decode cL_law 353 = .ok (.aload_n 1, 1) := by decide +kernel
theorem dL_law_354 : decode cL_law 354 = .ok (.aload_n 0, 1) := by decide +kernel
theorem dL_law_355 : decode cL_law 355 = .ok (.iload_n 3, 1) := by decide +kernel
theorem dL_law_356 : decode cL_law 356 = .ok (.iconst 1, 1) := by decide +kernel
theorem dL_law_357 : decode cL_law 357 = .ok (.iadd, 1) := by decide +kernel
theorem dL_law_358 : decode cL_law 358 = .ok (.iaload, 1) := by decide +kernel
theorem dL_law_359 : decode cL_law 359 = .ok (.invokevirtual 43, 3) := by decide +kernel
theorem dL_law_362 : decode cL_law 362 = .ok (.aload_n 2, 1) := by decide +kernel
theorem dL_law_363 : decode cL_law 363 = .ok (.aload_n 0, 1) := by decide +kernel
theorem dL_law_364 : decode cL_law 364 = .ok (.iload_n 3, 1) := by decide +kernel
theorem dL_law_365 : decode cL_law 365 = .ok (.iconst 1, 1) := by decide +kernel
theorem dL_law_366 : decode cL_law 366 = .ok (.iadd, 1) := by decide +kernel
theorem dL_law_367 : decode cL_law 367 = .ok (.iaload, 1) := by decide +kernel
theorem dL_law_368 : decode cL_law 368 = .ok (.invokevirtual 46, 3) := by decide +kernel
theorem dL_law_371 : decode cL_law 371 = .ok (.if_icmp .eq 493, 3) := by decide +kernel
theorem dL_law_374 : decode cL_law 374 = .ok (.iconst 0, 1) := by decide +kernel
theorem dL_law_375 : decode cL_law 375 = .ok (.ireturn, 1) := by decide +kernel
theorem dL_law_376 : decode cL_law 376 = .ok (.aload_n 1, 1) := by decide +kernel
theorem dL_law_377 : decode cL_law 377 = .ok (.invokevirtual 47, 3) := by decide +kernel
theorem dL_law_380 : decode cL_law 380 = .ok (.aload_n 2, 1) := by decide +kernel
theorem dL_law_381 : decode cL_law 381 = .ok (.invokevirtual 51, 3) := by decide +kernel
theorem dL_law_384 : decode cL_law 384 = .ok (.if_icmp .eq 480, 3) := by decide +kernel
theorem dL_law_387 : decode cL_law 387 = .ok (.iconst 0, 1) := by decide +kernel
theorem dL_law_388 : decode cL_law 388 = .ok (.ireturn, 1) := by decide +kernel
theorem dL_law_389 : decode cL_law 389 = .ok (.aload_n 1, 1) := by decide +kernel
theorem dL_law_390 : decode cL_law 390 = .ok (.aload_n 0, 1) := by decide +kernel
theorem dL_law_391 : decode cL_law 391 = .ok (.iload_n 3, 1) := by decide +kernel
theorem dL_law_392 : decode cL_law 392 = .ok (.iconst 1, 1) := by decide +kernel
theorem dL_law_393 : decode cL_law 393 = .ok (.iadd, 1) := by decide +kernel
theorem dL_law_394 : decode cL_law 394 = .ok (.iaload, 1) := by decide +kernel
theorem dL_law_395 : decode cL_law 395 = .ok (.invokevirtual 52, 3) := by decide +kernel
theorem dL_law_398 : decode cL_law 398 = .ok (.aload_n 2, 1) := by decide +kernel
theorem dL_law_399 : decode cL_law 399 = .ok (.aload_n 0, 1) := by decide +kernel
theorem dL_law_400 : decode cL_law 400 = .ok (.iload_n 3, 1) := by decide +kernel
theorem dL_law_401 : decode cL_law 401 = .ok (.iconst 1, 1) := by decide +kernel
theorem dL_law_402 : decode cL_law 402 = .ok (.iadd, 1) := by decide +kernel
theorem dL_law_403 : decode cL_law 403 = .ok (.iaload, 1) := by decide +kernel
theorem dL_law_404 : decode cL_law 404 = .ok (.invokevirtual 55, 3) := by decide +kernel
theorem dL_law_407 : decode cL_law 407 = .ok (.if_icmp .eq 457, 3) := by decide +kernel
theorem dL_law_410 : decode cL_law 410 = .ok (.iconst 0, 1) := by decide +kernel
theorem dL_law_411 : decode cL_law 411 = .ok (.ireturn, 1) := by decide +kernel
theorem dL_law_412 : decode cL_law 412 = .ok (.aload_n 1, 1) := by decide +kernel
theorem dL_law_413 : decode cL_law 413 = .ok (.invokevirtual 56, 3) := by decide +kernel
theorem dL_law_416 : decode cL_law 416 = .ok (.aload_n 2, 1) := by decide +kernel
theorem dL_law_417 : decode cL_law 417 = .ok (.invokevirtual 59, 3) := by decide +kernel
theorem dL_law_420 : decode cL_law 420 = .ok (.if_icmp .eq 444, 3) := by decide +kernel
theorem dL_law_423 : decode cL_law 423 = .ok (.iconst 0, 1) := by decide +kernel
theorem dL_law_424 : decode cL_law 424 = .ok (.ireturn, 1) := by decide +kernel
theorem dL_law_425 : decode cL_law 425 = .ok (.aload_n 1, 1) := by decide +kernel
theorem dL_law_426 : decode cL_law 426 = .ok (.invokevirtual 60, 3) := by decide +kernel
theorem dL_law_429 : decode cL_law 429 = .ok (.aload_n 2, 1) := by decide +kernel
theorem dL_law_430 : decode cL_law 430 = .ok (.invokevirtual 63, 3) := by decide +kernel
theorem dL_law_433 : decode cL_law 433 = .ok (.if_icmp .eq 431, 3) := by decide +kernel
theorem dL_law_436 : decode cL_law 436 = .ok (.iconst 0, 1) := by decide +kernel
theorem dL_law_437 : decode cL_law 437 = .ok (.ireturn, 1) := by decide +kernel
theorem dL_law_438 : decode cL_law 438 = .ok (.aload_n 1, 1) := by decide +kernel
theorem dL_law_439 : decode cL_law 439 = .ok (.aload_n 0, 1) := by decide +kernel
theorem dL_law_440 : decode cL_law 440 = .ok (.iload_n 3, 1) := by decide +kernel
theorem dL_law_441 : decode cL_law 441 = .ok (.iconst 1, 1) := by decide +kernel
theorem dL_law_442 : decode cL_law 442 = .ok (.iadd, 1) := by decide +kernel
theorem dL_law_443 : decode cL_law 443 = .ok (.iaload, 1) := by decide +kernel
theorem dL_law_444 : decode cL_law 444 = .ok (.aload_n 0, 1) := by decide +kernel
theorem dL_law_445 : decode cL_law 445 = .ok (.iload_n 3, 1) := by decide +kernel
theorem dL_law_446 : decode cL_law 446 = .ok (.iconst 2, 1) := by decide +kernel
theorem dL_law_447 : decode cL_law 447 = .ok (.iadd, 1) := by decide +kernel
theorem dL_law_448 : decode cL_law 448 = .ok (.iaload, 1) := by decide +kernel
theorem dL_law_449 : decode cL_law 449 = .ok (.invokevirtual 64, 3) := by decide +kernel
theorem dL_law_452 : decode cL_law 452 = .ok (.aload_n 2, 1) := by decide +kernel
theorem dL_law_453 : decode cL_law 453 = .ok (.aload_n 0, 1) := by decide +kernel
theorem dL_law_454 : decode cL_law 454 = .ok (.iload_n 3, 1) := by decide +kernel
theorem dL_law_455 : decode cL_law 455 = .ok (.iconst 1, 1) := by decide +kernel
theorem dL_law_456 : decode cL_law 456 = .ok (.iadd, 1) := by decide +kernel
theorem dL_law_457 : decode cL_law 457 = .ok (.iaload, 1) := by decide +kernel
theorem dL_law_458 : decode cL_law 458 = .ok (.aload_n 0, 1) := by decide +kernel
theorem dL_law_459 : decode cL_law 459 = .ok (.iload_n 3, 1) := by decide +kernel
theorem dL_law_460 : decode cL_law 460 = .ok (.iconst 2, 1) := by decide +kernel
theorem dL_law_461 : decode cL_law 461 = .ok (.iadd, 1) := by decide +kernel
theorem dL_law_462 : decode cL_law 462 = .ok (.iaload, 1) := by decide +kernel
theorem dL_law_463 : decode cL_law 463 = .ok (.invokevirtual 67, 3) := by decide +kernel
theorem dL_law_466 : decode cL_law 466 = .ok (.if_icmp .eq 398, 3) := by decide +kernel
theorem dL_law_469 : decode cL_law 469 = .ok (.iconst 0, 1) := by decide +kernel
theorem dL_law_470 : decode cL_law 470 = .ok (.ireturn, 1) := by decide +kernel
theorem dL_law_471 : decode cL_law 471 = .ok (.aload_n 1, 1) := by decide +kernel
theorem dL_law_472 : decode cL_law 472 = .ok (.aload_n 0, 1) := by decide +kernel
theorem dL_law_473 : decode cL_law 473 = .ok (.iload_n 3, 1) := by decide +kernel
theorem dL_law_474 : decode cL_law 474 = .ok (.iconst 1, 1) := by decide +kernel
theorem dL_law_475 : decode cL_law 475 = .ok (.iadd, 1) := by decide +kernel
theorem dL_law_476 : decode cL_law 476 = .ok (.iaload, 1) := by decide +kernel
theorem dL_law_477 : decode cL_law 477 = .ok (.aload_n 0, 1) := by decide +kernel
theorem dL_law_478 : decode cL_law 478 = .ok (.iload_n 3, 1) := by decide +kernel
theorem dL_law_479 : decode cL_law 479 = .ok (.iconst 2, 1) := by decide +kernel
theorem dL_law_480 : decode cL_law 480 = .ok (.iadd, 1) := by decide +kernel
theorem dL_law_481 : decode cL_law 481 = .ok (.iaload, 1) := by decide +kernel
theorem dL_law_482 : decode cL_law 482 = .ok (.invokevirtual 68, 3) := by decide +kernel
theorem dL_law_485 : decode cL_law 485 = .ok (.aload_n 2, 1) := by decide +kernel
theorem dL_law_486 : decode cL_law 486 = .ok (.aload_n 0, 1) := by decide +kernel
theorem dL_law_487 : decode cL_law 487 = .ok (.iload_n 3, 1) := by decide +kernel
theorem dL_law_488 : decode cL_law 488 = .ok (.iconst 1, 1) := by decide +kernel
theorem dL_law_489 : decode cL_law 489 = .ok (.iadd, 1) := by decide +kernel
theorem dL_law_490 : decode cL_law 490 = .ok (.iaload, 1) := by decide +kernel
theorem dL_law_491 : decode cL_law 491 = .ok (.aload_n 0, 1) := by decide +kernel
theorem dL_law_492 : decode cL_law 492 = .ok (.iload_n 3, 1) := by decide +kernel
theorem dL_law_493 : decode cL_law 493 = .ok (.iconst 2, 1) := by decide +kernel
theorem dL_law_494 : decode cL_law 494 = .ok (.iadd, 1) := by decide +kernel
theorem dL_law_495 : decode cL_law 495 = .ok (.iaload, 1) := by decide +kernel
theorem dL_law_496 : decode cL_law 496 = .ok (.invokevirtual 71, 3) := by decide +kernel
theorem dL_law_499 : decode cL_law 499 = .ok (.if_icmp .eq 365, 3) := by decide +kernel
theorem dL_law_502 : decode cL_law 502 = .ok (.iconst 0, 1) := by decide +kernel
theorem dL_law_503 : decode cL_law 503 = .ok (.ireturn, 1) := by decide +kernel
theorem dL_law_504 : decode cL_law 504 = .ok (.aload_n 1, 1) := by decide +kernel
theorem dL_law_505 : decode cL_law 505 = .ok (.aload_n 0, 1) := by decide +kernel
theorem dL_law_506 : decode cL_law 506 = .ok (.iload_n 3, 1) := by decide +kernel
theorem dL_law_507 : decode cL_law 507 = .ok (.iconst 1, 1) := by decide +kernel
theorem dL_law_508 : decode cL_law 508 = .ok (.iadd, 1) := by decide +kernel
theorem dL_law_509 : decode cL_law 509 = .ok (.iaload, 1) := by decide +kernel
theorem dL_law_510 : decode cL_law 510 = .ok (.aload_n 0, 1) := by decide +kernel
theorem dL_law_511 : decode cL_law 511 = .ok (.iload_n 3, 1) := by decide +kernel
theorem dL_law_512 : decode cL_law 512 = .ok (.iconst 2, 1) := by decide +kernel
theorem dL_law_513 : decode cL_law 513 = .ok (.iadd, 1) := by decide +kernel
theorem dL_law_514 : decode cL_law 514 = .ok (.iaload, 1) := by decide +kernel
theorem dL_law_515 : decode cL_law 515 = .ok (.invokevirtual 72, 3) := by decide +kernel
theorem dL_law_518 : decode cL_law 518 = .ok (.aload_n 2, 1) := by decide +kernel
theorem dL_law_519 : decode cL_law 519 = .ok (.aload_n 0, 1) := by decide +kernel
theorem dL_law_520 : decode cL_law 520 = .ok (.iload_n 3, 1) := by decide +kernel
theorem dL_law_521 : decode cL_law 521 = .ok (.iconst 1, 1) := by decide +kernel
theorem dL_law_522 : decode cL_law 522 = .ok (.iadd, 1) := by decide +kernel
theorem dL_law_523 : decode cL_law 523 = .ok (.iaload, 1) := by decide +kernel
theorem dL_law_524 : decode cL_law 524 = .ok (.aload_n 0, 1) := by decide +kernel
theorem dL_law_525 : decode cL_law 525 = .ok (.iload_n 3, 1) := by decide +kernel
theorem dL_law_526 : decode cL_law 526 = .ok (.iconst 2, 1) := by decide +kernel
theorem dL_law_527 : decode cL_law 527 = .ok (.iadd, 1) := by decide +kernel
theorem dL_law_528 : decode cL_law 528 = .ok (.iaload, 1) := by decide +kernel
theorem dL_law_529 : decode cL_law 529 = .ok (.invokevirtual 75, 3) := by decide +kernel
theorem dL_law_532 : decode cL_law 532 = .ok (.if_icmp .eq 332, 3) := by decide +kernel
theorem dL_law_535 : decode cL_law 535 = .ok (.iconst 0, 1) := by decide +kernel
theorem dL_law_536 : decode cL_law 536 = .ok (.ireturn, 1) := by decide +kernel
theorem dL_law_537 : decode cL_law 537 = .ok (.aload_n 1, 1) := by decide +kernel
theorem dL_law_538 : decode cL_law 538 = .ok (.aload_n 0, 1) := by decide +kernel
theorem dL_law_539 : decode cL_law 539 = .ok (.iload_n 3, 1) := by decide +kernel
theorem dL_law_540 : decode cL_law 540 = .ok (.iconst 1, 1) := by decide +kernel
theorem dL_law_541 : decode cL_law 541 = .ok (.iadd, 1) := by decide +kernel
theorem dL_law_542 : decode cL_law 542 = .ok (.iaload, 1) := by decide +kernel
theorem dL_law_543 : decode cL_law 543 = .ok (.aload_n 0, 1) := by decide +kernel
theorem dL_law_544 : decode cL_law 544 = .ok (.iload_n 3, 1) := by decide +kernel
theorem dL_law_545 : decode cL_law 545 = .ok (.iconst 2, 1) := by decide +kernel
theorem dL_law_546 : decode cL_law 546 = .ok (.iadd, 1) := by decide +kernel
theorem dL_law_547 : decode cL_law 547 = .ok (.iaload, 1) := by decide +kernel
theorem dL_law_548 : decode cL_law 548 = .ok (.invokevirtual 76, 3) := by decide +kernel
theorem dL_law_551 : decode cL_law 551 = .ok (.aload_n 2, 1) := by decide +kernel
theorem dL_law_552 : decode cL_law 552 = .ok (.aload_n 0, 1) := by decide +kernel
theorem dL_law_553 : decode cL_law 553 = .ok (.iload_n 3, 1) := by decide +kernel
theorem dL_law_554 : decode cL_law 554 = .ok (.iconst 1, 1) := by decide +kernel
theorem dL_law_555 : decode cL_law 555 = .ok (.iadd, 1) := by decide +kernel
theorem dL_law_556 : decode cL_law 556 = .ok (.iaload, 1) := by decide +kernel
theorem dL_law_557 : decode cL_law 557 = .ok (.aload_n 0, 1) := by decide +kernel
theorem dL_law_558 : decode cL_law 558 = .ok (.iload_n 3, 1) := by decide +kernel
theorem dL_law_559 : decode cL_law 559 = .ok (.iconst 2, 1) := by decide +kernel
theorem dL_law_560 : decode cL_law 560 = .ok (.iadd, 1) := by decide +kernel
theorem dL_law_561 : decode cL_law 561 = .ok (.iaload, 1) := by decide +kernel
theorem dL_law_562 : decode cL_law 562 = .ok (.invokevirtual 79, 3) := by decide +kernel
theorem dL_law_565 : decode cL_law 565 = .ok (.if_icmp .eq 299, 3) := by decide +kernel
theorem dL_law_568 : decode cL_law 568 = .ok (.iconst 0, 1) := by decide +kernel
theorem dL_law_569 : decode cL_law 569 = .ok (.ireturn, 1) := by decide +kernel
theorem dL_law_570 : decode cL_law 570 = .ok (.aload_n 1, 1) := by decide +kernel
theorem dL_law_571 : decode cL_law 571 = .ok (.aload_n 0, 1) := by decide +kernel
theorem dL_law_572 : decode cL_law 572 = .ok (.iload_n 3, 1) := by decide +kernel
theorem dL_law_573 : decode cL_law 573 = .ok (.iconst 1, 1) := by decide +kernel
theorem dL_law_574 : decode cL_law 574 = .ok (.iadd, 1) := by decide +kernel
theorem dL_law_575 : decode cL_law 575 = .ok (.iaload, 1) := by decide +kernel
theorem dL_law_576 : decode cL_law 576 = .ok (.aload_n 0, 1) := by decide +kernel
theorem dL_law_577 : decode cL_law 577 = .ok (.iload_n 3, 1) := by decide +kernel
theorem dL_law_578 : decode cL_law 578 = .ok (.iconst 2, 1) := by decide +kernel
theorem dL_law_579 : decode cL_law 579 = .ok (.iadd, 1) := by decide +kernel
theorem dL_law_580 : decode cL_law 580 = .ok (.iaload, 1) := by decide +kernel
theorem dL_law_581 : decode cL_law 581 = .ok (.aload_n 0, 1) := by decide +kernel
theorem dL_law_582 : decode cL_law 582 = .ok (.iload_n 3, 1) := by decide +kernel
theorem dL_law_583 : decode cL_law 583 = .ok (.iconst 3, 1) := by decide +kernel
theorem dL_law_584 : decode cL_law 584 = .ok (.iadd, 1) := by decide +kernel
theorem dL_law_585 : decode cL_law 585 = .ok (.iaload, 1) := by decide +kernel
theorem dL_law_586 : decode cL_law 586 = .ok (.ifCond .eq 7, 3) := by decide +kernel
theorem dL_law_589 : decode cL_law 589 = .ok (.iconst 1, 1) := by decide +kernel
theorem dL_law_590 : decode cL_law 590 = .ok (.goto 4, 3) := by decide +kernel
theorem dL_law_593 : decode cL_law 593 = .ok (.iconst 0, 1) := by decide +kernel
theorem dL_law_594 : decode cL_law 594 = .ok (.invokevirtual 80, 3) := by decide +kernel
theorem dL_law_597 : decode cL_law 597 = .ok (.aload_n 2, 1) := by decide +kernel
theorem dL_law_598 : decode cL_law 598 = .ok (.aload_n 0, 1) := by decide +kernel
theorem dL_law_599 : decode cL_law 599 = .ok (.iload_n 3, 1) := by decide +kernel
theorem dL_law_600 : decode cL_law 600 = .ok (.iconst 1, 1) := by decide +kernel
theorem dL_law_601 : decode cL_law 601 = .ok (.iadd, 1) := by decide +kernel
theorem dL_law_602 : decode cL_law 602 = .ok (.iaload, 1) := by decide +kernel
theorem dL_law_603 : decode cL_law 603 = .ok (.aload_n 0, 1) := by decide +kernel
theorem dL_law_604 : decode cL_law 604 = .ok (.iload_n 3, 1) := by decide +kernel
theorem dL_law_605 : decode cL_law 605 = .ok (.iconst 2, 1) := by decide +kernel
theorem dL_law_606 : decode cL_law 606 = .ok (.iadd, 1) := by decide +kernel
theorem dL_law_607 : decode cL_law 607 = .ok (.iaload, 1) := by decide +kernel
theorem dL_law_608 : decode cL_law 608 = .ok (.aload_n 0, 1) := by decide +kernel
theorem dL_law_609 : decode cL_law 609 = .ok (.iload_n 3, 1) := by decide +kernel
theorem dL_law_610 : decode cL_law 610 = .ok (.iconst 3, 1) := by decide +kernel
theorem dL_law_611 : decode cL_law 611 = .ok (.iadd, 1) := by decide +kernel
theorem dL_law_612 : decode cL_law 612 = .ok (.iaload, 1) := by decide +kernel
theorem dL_law_613 : decode cL_law 613 = .ok (.ifCond .eq 7, 3) := by decide +kernel
theorem dL_law_616 : decode cL_law 616 = .ok (.iconst 1, 1) := by decide +kernel
theorem dL_law_617 : decode cL_law 617 = .ok (.goto 4, 3) := by decide +kernel
theorem dL_law_620 : decode cL_law 620 = .ok (.iconst 0, 1) := by decide +kernel
theorem dL_law_621 : decode cL_law 621 = .ok (.invokevirtual 84, 3) := by decide +kernel
theorem dL_law_624 : decode cL_law 624 = .ok (.if_icmp .eq 240, 3) := by decide +kernel
theorem dL_law_627 : decode cL_law 627 = .ok (.iconst 0, 1) := by decide +kernel
theorem dL_law_628 : decode cL_law 628 = .ok (.ireturn, 1) := by decide +kernel
theorem dL_law_629 : decode cL_law 629 = .ok (.aload_n 1, 1) := by decide +kernel
theorem dL_law_630 : decode cL_law 630 = .ok (.aload_n 0, 1) := by decide +kernel
theorem dL_law_631 : decode cL_law 631 = .ok (.iload_n 3, 1) := by decide +kernel
theorem dL_law_632 : decode cL_law 632 = .ok (.iconst 1, 1) := by decide +kernel
theorem dL_law_633 : decode cL_law 633 = .ok (.iadd, 1) := by decide +kernel
theorem dL_law_634 : decode cL_law 634 = .ok (.iaload, 1) := by decide +kernel
theorem dL_law_635 : decode cL_law 635 = .ok (.invokevirtual 85, 3) := by decide +kernel
theorem dL_law_638 : decode cL_law 638 = .ok (.aload_n 2, 1) := by decide +kernel
theorem dL_law_639 : decode cL_law 639 = .ok (.aload_n 0, 1) := by decide +kernel
theorem dL_law_640 : decode cL_law 640 = .ok (.iload_n 3, 1) := by decide +kernel
theorem dL_law_641 : decode cL_law 641 = .ok (.iconst 1, 1) := by decide +kernel
theorem dL_law_642 : decode cL_law 642 = .ok (.iadd, 1) := by decide +kernel
theorem dL_law_643 : decode cL_law 643 = .ok (.iaload, 1) := by decide +kernel
theorem dL_law_644 : decode cL_law 644 = .ok (.invokevirtual 88, 3) := by decide +kernel
theorem dL_law_647 : decode cL_law 647 = .ok (.if_icmp .eq 217, 3) := by decide +kernel
theorem dL_law_650 : decode cL_law 650 = .ok (.iconst 0, 1) := by decide +kernel
theorem dL_law_651 : decode cL_law 651 = .ok (.ireturn, 1) := by decide +kernel
theorem dL_law_652 : decode cL_law 652 = .ok (.aload_n 1, 1) := by decide +kernel
theorem dL_law_653 : decode cL_law 653 = .ok (.invokevirtual 89, 3) := by decide +kernel
theorem dL_law_656 : decode cL_law 656 = .ok (.dstore 4, 2) := by decide +kernel
theorem dL_law_658 : decode cL_law 658 = .ok (.aload_n 2, 1) := by decide +kernel
theorem dL_law_659 : decode cL_law 659 = .ok (.invokevirtual 93, 3) := by decide +kernel
theorem dL_law_662 : decode cL_law 662 = .ok (.dstore 6, 2) := by decide +kernel
theorem dL_law_664 : decode cL_law 664 = .ok (.dload 4, 2) := by decide +kernel
theorem dL_law_666 : decode cL_law 666 = .ok (.dload 6, 2) := by decide +kernel
theorem dL_law_668 : decode cL_law 668 = .ok (.dcmp .l, 1) := by decide +kernel
theorem dL_law_669 : decode cL_law 669 = .ok (.ifCond .eq 21, 3) := by decide +kernel
theorem dL_law_672 : decode cL_law 672 = .ok (.dload 4, 2) := by decide +kernel
theorem dL_law_674 : decode cL_law 674 = .ok (.dload 4, 2) := by decide +kernel
theorem dL_law_676 : decode cL_law 676 = .ok (.dcmp .l, 1) := by decide +kernel
theorem dL_law_677 : decode cL_law 677 = .ok (.ifCond .eq 11, 3) := by decide +kernel
theorem dL_law_680 : decode cL_law 680 = .ok (.dload 6, 2) := by decide +kernel
theorem dL_law_682 : decode cL_law 682 = .ok (.dload 6, 2) := by decide +kernel
theorem dL_law_684 : decode cL_law 684 = .ok (.dcmp .l, 1) := by decide +kernel
theorem dL_law_685 : decode cL_law 685 = .ok (.ifCond .ne 5, 3) := by decide +kernel
theorem dL_law_688 : decode cL_law 688 = .ok (.iconst 0, 1) := by decide +kernel
theorem dL_law_689 : decode cL_law 689 = .ok (.ireturn, 1) := by decide +kernel
theorem dL_law_690 : decode cL_law 690 = .ok (.goto 174, 3) := by decide +kernel
theorem dL_law_693 : decode cL_law 693 = .ok (.aload_n 1, 1) := by decide +kernel
theorem dL_law_694 : decode cL_law 694 = .ok (.aload_n 0, 1) := by decide +kernel
theorem dL_law_695 : decode cL_law 695 = .ok (.iload_n 3, 1) := by decide +kernel
theorem dL_law_696 : decode cL_law 696 = .ok (.iconst 1, 1) := by decide +kernel
theorem dL_law_697 : decode cL_law 697 = .ok (.iadd, 1) := by decide +kernel
theorem dL_law_698 : decode cL_law 698 = .ok (.iaload, 1) := by decide +kernel
theorem dL_law_699 : decode cL_law 699 = .ok (.aload_n 0, 1) := by decide +kernel
theorem dL_law_700 : decode cL_law 700 = .ok (.iload_n 3, 1) := by decide +kernel
theorem dL_law_701 : decode cL_law 701 = .ok (.iconst 2, 1) := by decide +kernel
theorem dL_law_702 : decode cL_law 702 = .ok (.iadd, 1) := by decide +kernel
theorem dL_law_703 : decode cL_law 703 = .ok (.iaload, 1) := by decide +kernel
theorem dL_law_704 : decode cL_law 704 = .ok (.aload_n 0, 1) := by decide +kernel
theorem dL_law_705 : decode cL_law 705 = .ok (.iload_n 3, 1) := by decide +kernel
theorem dL_law_706 : decode cL_law 706 = .ok (.iconst 3, 1) := by decide +kernel
theorem dL_law_707 : decode cL_law 707 = .ok (.iadd, 1) := by decide +kernel
theorem dL_law_708 : decode cL_law 708 = .ok (.iaload, 1) := by decide +kernel
theorem dL_law_709 : decode cL_law 709 = .ok (.invokevirtual 94, 3) := by decide +kernel
theorem dL_law_712 : decode cL_law 712 = .ok (.aload_n 2, 1) := by decide +kernel
theorem dL_law_713 : decode cL_law 713 = .ok (.aload_n 0, 1) := by decide +kernel
theorem dL_law_714 : decode cL_law 714 = .ok (.iload_n 3, 1) := by decide +kernel
theorem dL_law_715 : decode cL_law 715 = .ok (.iconst 1, 1) := by decide +kernel
theorem dL_law_716 : decode cL_law 716 = .ok (.iadd, 1) := by decide +kernel
theorem dL_law_717 : decode cL_law 717 = .ok (.iaload, 1) := by decide +kernel
theorem dL_law_718 : decode cL_law 718 = .ok (.aload_n 0, 1) := by decide +kernel
theorem dL_law_719 : decode cL_law 719 = .ok (.iload_n 3, 1) := by decide +kernel
theorem dL_law_720 : decode cL_law 720 = .ok (.iconst 2, 1) := by decide +kernel
theorem dL_law_721 : decode cL_law 721 = .ok (.iadd, 1) := by decide +kernel
theorem dL_law_722 : decode cL_law 722 = .ok (.iaload, 1) := by decide +kernel
theorem dL_law_723 : decode cL_law 723 = .ok (.aload_n 0, 1) := by decide +kernel
theorem dL_law_724 : decode cL_law 724 = .ok (.iload_n 3, 1) := by decide +kernel
theorem dL_law_725 : decode cL_law 725 = .ok (.iconst 3, 1) := by decide +kernel
theorem dL_law_726 : decode cL_law 726 = .ok (.iadd, 1) := by decide +kernel
theorem dL_law_727 : decode cL_law 727 = .ok (.iaload, 1) := by decide +kernel
theorem dL_law_728 : decode cL_law 728 = .ok (.invokevirtual 98, 3) := by decide +kernel
theorem dL_law_731 : decode cL_law 731 = .ok (.if_icmp .eq 133, 3) := by decide +kernel
theorem dL_law_734 : decode cL_law 734 = .ok (.iconst 0, 1) := by decide +kernel
theorem dL_law_735 : decode cL_law 735 = .ok (.ireturn, 1) := by decide +kernel
theorem dL_law_736 : decode cL_law 736 = .ok (.aload_n 1, 1) := by decide +kernel
theorem dL_law_737 : decode cL_law 737 = .ok (.aload_n 0, 1) := by decide +kernel
theorem dL_law_738 : decode cL_law 738 = .ok (.iload_n 3, 1) := by decide +kernel
theorem dL_law_739 : decode cL_law 739 = .ok (.iconst 1, 1) := by decide +kernel
theorem dL_law_740 : decode cL_law 740 = .ok (.iadd, 1) := by decide +kernel
theorem dL_law_741 : decode cL_law 741 = .ok (.iaload, 1) := by decide +kernel
theorem dL_law_742 : decode cL_law 742 = .ok (.aload_n 0, 1) := by decide +kernel
theorem dL_law_743 : decode cL_law 743 = .ok (.iload_n 3, 1) := by decide +kernel
theorem dL_law_744 : decode cL_law 744 = .ok (.iconst 2, 1) := by decide +kernel
theorem dL_law_745 : decode cL_law 745 = .ok (.iadd, 1) := by decide +kernel
theorem dL_law_746 : decode cL_law 746 = .ok (.iaload, 1) := by decide +kernel
theorem dL_law_747 : decode cL_law 747 = .ok (.invokevirtual 99, 3) := by decide +kernel
theorem dL_law_750 : decode cL_law 750 = .ok (.aload_n 2, 1) := by decide +kernel
theorem dL_law_751 : decode cL_law 751 = .ok (.aload_n 0, 1) := by decide +kernel
theorem dL_law_752 : decode cL_law 752 = .ok (.iload_n 3, 1) := by decide +kernel
theorem dL_law_753 : decode cL_law 753 = .ok (.iconst 1, 1) := by decide +kernel
theorem dL_law_754 : decode cL_law 754 = .ok (.iadd, 1) := by decide +kernel
theorem dL_law_755 : decode cL_law 755 = .ok (.iaload, 1) := by decide +kernel
theorem dL_law_756 : decode cL_law 756 = .ok (.aload_n 0, 1) := by decide +kernel
theorem dL_law_757 : decode cL_law 757 = .ok (.iload_n 3, 1) := by decide +kernel
theorem dL_law_758 : decode cL_law 758 = .ok (.iconst 2, 1) := by decide +kernel
theorem dL_law_759 : decode cL_law 759 = .ok (.iadd, 1) := by decide +kernel
theorem dL_law_760 : decode cL_law 760 = .ok (.iaload, 1) := by decide +kernel
theorem dL_law_761 : decode cL_law 761 = .ok (.invokevirtual 102, 3) := by decide +kernel
theorem dL_law_764 : decode cL_law 764 = .ok (.if_icmp .eq 100, 3) := by decide +kernel
theorem dL_law_767 : decode cL_law 767 = .ok (.iconst 0, 1) := by decide +kernel
theorem dL_law_768 : decode cL_law 768 = .ok (.ireturn, 1) := by decide +kernel
theorem dL_law_769 : decode cL_law 769 = .ok (.aload_n 1, 1) := by decide +kernel
theorem dL_law_770 : decode cL_law 770 = .ok (.aload_n 0, 1) := by decide +kernel
theorem dL_law_771 : decode cL_law 771 = .ok (.iload_n 3, 1) := by decide +kernel
theorem dL_law_772 : decode cL_law 772 = .ok (.iconst 1, 1) := by decide +kernel
theorem dL_law_773 : decode cL_law 773 = .ok (.iadd, 1) := by decide +kernel
theorem dL_law_774 : decode cL_law 774 = .ok (.iaload, 1) := by decide +kernel
theorem dL_law_775 : decode cL_law 775 = .ok (.invokevirtual 103, 3) := by decide +kernel
theorem dL_law_778 : decode cL_law 778 = .ok (.aload_n 2, 1) := by decide +kernel
theorem dL_law_779 : decode cL_law 779 = .ok (.aload_n 0, 1) := by decide +kernel
theorem dL_law_780 : decode cL_law 780 = .ok (.iload_n 3, 1) := by decide +kernel
theorem dL_law_781 : decode cL_law 781 = .ok (.iconst 1, 1) := by decide +kernel
theorem dL_law_782 : decode cL_law 782 = .ok (.iadd, 1) := by decide +kernel
theorem dL_law_783 : decode cL_law 783 = .ok (.iaload, 1) := by decide +kernel
theorem dL_law_784 : decode cL_law 784 = .ok (.invokevirtual 106, 3) := by decide +kernel
theorem dL_law_787 : decode cL_law 787 = .ok (.if_icmp .eq 77, 3) := by decide +kernel
theorem dL_law_790 : decode cL_law 790 = .ok (.iconst 0, 1) := by decide +kernel
theorem dL_law_791 : decode cL_law 791 = .ok (.ireturn, 1) := by decide +kernel
theorem dL_law_792 : decode cL_law 792 = .ok (.aload_n 1, 1) := by decide +kernel
theorem dL_law_793 : decode cL_law 793 = .ok (.aload_n 0, 1) := by decide +kernel
theorem dL_law_794 : decode cL_law 794 = .ok (.iload_n 3, 1) := by decide +kernel
theorem dL_law_795 : decode cL_law 795 = .ok (.iconst 1, 1) := by decide +kernel
theorem dL_law_796 : decode cL_law 796 = .ok (.iadd, 1) := by decide +kernel
theorem dL_law_797 : decode cL_law 797 = .ok (.iaload, 1) := by decide +kernel
theorem dL_law_798 : decode cL_law 798 = .ok (.aload_n 0, 1) := by decide +kernel
theorem dL_law_799 : decode cL_law 799 = .ok (.iload_n 3, 1) := by decide +kernel
theorem dL_law_800 : decode cL_law 800 = .ok (.iconst 2, 1) := by decide +kernel
theorem dL_law_801 : decode cL_law 801 = .ok (.iadd, 1) := by decide +kernel
theorem dL_law_802 : decode cL_law 802 = .ok (.iaload, 1) := by decide +kernel
theorem dL_law_803 : decode cL_law 803 = .ok (.invokevirtual 107, 3) := by decide +kernel
theorem dL_law_806 : decode cL_law 806 = .ok (.aload_n 2, 1) := by decide +kernel
theorem dL_law_807 : decode cL_law 807 = .ok (.aload_n 0, 1) := by decide +kernel
theorem dL_law_808 : decode cL_law 808 = .ok (.iload_n 3, 1) := by decide +kernel
theorem dL_law_809 : decode cL_law 809 = .ok (.iconst 1, 1) := by decide +kernel
theorem dL_law_810 : decode cL_law 810 = .ok (.iadd, 1) := by decide +kernel
theorem dL_law_811 : decode cL_law 811 = .ok (.iaload, 1) := by decide +kernel
theorem dL_law_812 : decode cL_law 812 = .ok (.aload_n 0, 1) := by decide +kernel
theorem dL_law_813 : decode cL_law 813 = .ok (.iload_n 3, 1) := by decide +kernel
theorem dL_law_814 : decode cL_law 814 = .ok (.iconst 2, 1) := by decide +kernel
theorem dL_law_815 : decode cL_law 815 = .ok (.iadd, 1) := by decide +kernel
theorem dL_law_816 : decode cL_law 816 = .ok (.iaload, 1) := by decide +kernel
theorem dL_law_817 : decode cL_law 817 = .ok (.invokevirtual 110, 3) := by decide +kernel
theorem dL_law_820 : decode cL_law 820 = .ok (.if_icmp .eq 44, 3) := by decide +kernel
theorem dL_law_823 : decode cL_law 823 = .ok (.iconst 0, 1) := by decide +kernel
theorem dL_law_824 : decode cL_law 824 = .ok (.ireturn, 1) := by decide +kernel
theorem dL_law_825 : decode cL_law 825 = .ok (.aload_n 1, 1) := by decide +kernel
theorem dL_law_826 : decode cL_law 826 = .ok (.invokevirtual 111, 3) := by decide +kernel
theorem dL_law_829 : decode cL_law 829 = .ok (.aload_n 2, 1) := by decide +kernel
theorem dL_law_830 : decode cL_law 830 = .ok (.invokevirtual 114, 3) := by decide +kernel
theorem dL_law_833 : decode cL_law 833 = .ok (.if_icmp .eq 31, 3) := by decide +kernel
theorem dL_law_836 : decode cL_law 836 = .ok (.iconst 0, 1) := by decide +kernel
theorem dL_law_837 : decode cL_law 837 = .ok (.ireturn, 1) := by decide +kernel
theorem dL_law_838 : decode cL_law 838 = .ok (.aload_n 1, 1) := by decide +kernel
theorem dL_law_839 : decode cL_law 839 = .ok (.invokevirtual 115, 3) := by decide +kernel
theorem dL_law_842 : decode cL_law 842 = .ok (.aload_n 2, 1) := by decide +kernel
theorem dL_law_843 : decode cL_law 843 = .ok (.invokevirtual 118, 3) := by decide +kernel
theorem dL_law_846 : decode cL_law 846 = .ok (.if_icmp .eq 18, 3) := by decide +kernel
theorem dL_law_849 : decode cL_law 849 = .ok (.iconst 0, 1) := by decide +kernel
theorem dL_law_850 : decode cL_law 850 = .ok (.ireturn, 1) := by decide +kernel
theorem dL_law_851 : decode cL_law 851 = .ok (.aload_n 1, 1) := by decide +kernel
theorem dL_law_852 : decode cL_law 852 = .ok (.invokevirtual 119, 3) := by decide +kernel
theorem dL_law_855 : decode cL_law 855 = .ok (.aload_n 2, 1) := by decide +kernel
theorem dL_law_856 : decode cL_law 856 = .ok (.invokevirtual 122, 3) := by decide +kernel
theorem dL_law_859 : decode cL_law 859 = .ok (.if_icmp .eq 5, 3) := by decide +kernel
theorem dL_law_862 : decode cL_law 862 = .ok (.iconst 0, 1) := by decide +kernel
theorem dL_law_863 : decode cL_law 863 = .ok (.ireturn, 1) := by decide +kernel
theorem dL_law_864 : decode cL_law 864 = .ok (.iinc 3 4, 3) := by decide +kernel
theorem dL_law_867 : decode cL_law 867 = .ok (.goto (-849), 3) := by decide +kernel
theorem dL_law_870 : decode cL_law 870 = .ok (.iconst 1, 1) := by decide +kernel
theorem dL_law_871 : decode cL_law 871 = .ok (.ireturn, 1) := by decide +kernel
