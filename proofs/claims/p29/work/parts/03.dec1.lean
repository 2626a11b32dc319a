theorem dX0_init_0 : decode cX0_init 0 = .ok (.aload_n 0, 1) := by decide +kernel
theorem dX0_init_1 : decode cX0_init 1 = .ok (.invokespecial 3, 3) := by decide +kernel
theorem dX0_init_4 : decode cX0_init 4 = .ok (.aload_n 0, 1) := by decide +kernel
theorem dX0_init_5 : decode cX0_init 5 = .ok (.bipush 90, 2) := by decide +kernel
theorem dX0_init_7 : decode cX0_init 7 = .ok (.newarray .float, 2) := by decide +kernel
theorem dX0_init_9 : decode cX0_init 9 = .ok (.putfield 9, 3) := by decide +kernel
theorem dX0_init_12 : decode cX0_init 12 = .ok (.return_, 1) := by decide +kernel
theorem dX0_get_0 : decode cX0_get 0 = .ok (.iload_n 1, 1) := by decide +kernel
theorem dX0_get_1 : decode cX0_get 1 = .ok (.ifCond .lt 21, 3) := by decide +kernel
theorem dX0_get_4 : decode cX0_get 4 = .ok (.iload_n 1, 1) := by decide +kernel
theorem dX0_get_5 : decode cX0_get 5 = .ok (.aload_n 0, 1) := by decide +kernel
theorem dX0_get_6 : decode cX0_get 6 = .ok (.getfield 9, 3) := by decide +kernel
theorem dX0_get_9 : decode cX0_get 9 = .ok (.arraylength, 1) := by decide +kernel
theorem dX0_get_10 : decode cX0_get 10 = .ok (.if_icmp .ge 12, 3) := by decide +kernel
theorem dX0_get_13 : decode cX0_get 13 = .ok (.aload_n 0, 1) := by decide +kernel
theorem dX0_get_14 : decode cX0_get 14 = .ok (.getfield 9, 3) := by decide +kernel
theorem dX0_get_17 : decode cX0_get 17 = .ok (.iload_n 1, 1) := by decide +kernel
theorem dX0_get_18 : decode cX0_get 18 = .ok (.faload, 1) := by decide +kernel
theorem dX0_get_19 : decode cX0_get 19 = .ok (.goto 4, 3) := by decide +kernel
theorem dX0_get_22 : decode cX0_get 22 = .ok (.fconst 0, 1) := by decide +kernel
theorem dX0_get_23 : decode cX0_get 23 = .ok (.freturn, 1) := by decide +kernel
theorem dX0_set_0 : decode cX0_set 0 = .ok (.iload_n 1, 1) := by decide +kernel
theorem dX0_set_1 : decode cX0_set 1 = .ok (.ifCond .lt 19, 3) := by decide +kernel
theorem dX0_set_4 : decode cX0_set 4 = .ok (.iload_n 1, 1) := by decide +kernel
theorem dX0_set_5 : decode cX0_set 5 = .ok (.aload_n 0, 1) := by decide +kernel
theorem dX0_set_6 : decode cX0_set 6 = .ok (.getfield 9, 3) := by decide +kernel
theorem dX0_set_9 : decode cX0_set 9 = .ok (.arraylength, 1) := by decide +kernel
theorem dX0_set_10 : decode cX0_set 10 = .ok (.if_icmp .ge 10, 3) := by decide +kernel
theorem dX0_set_13 : decode cX0_set 13 = .ok (.aload_n 0, 1) := by decide +kernel
theorem dX0_set_14 : decode cX0_set 14 = .ok (.getfield 9, 3) := by decide +kernel
theorem dX0_set_17 : decode cX0_set 17 = .ok (.iload_n 1, 1) := by decide +kernel
theorem dX0_set_18 : decode cX0_set 18 = .ok (.fload_n 2, 1) := by decide +kernel
theorem dX0_set_19 : decode cX0_set 19 = .ok (.fastore, 1) := by decide +kernel
theorem dX0_set_20 : decode cX0_set 20 = .ok (.return_, 1) := by decide +kernel
theorem dX0_copyFrom_0 : decode cX0_copyFrom 0 = .ok (.iconst 0, 1) := by decide +kernel
theorem dX0_copyFrom_1 : decode cX0_copyFrom 1 = .ok (.istore_n 2, 1) := by decide +kernel
theorem dX0_copyFrom_2 : decode cX0_copyFrom 2 = .ok (.iload_n 2, 1) := by decide +kernel
theorem dX0_copyFrom_3 : decode cX0_copyFrom 3 = .ok (.aload_n 0, 1) := by decide +kernel
theorem dX0_copyFrom_4 : decode cX0_copyFrom 4 = .ok (.getfield 9, 3) := by decide +kernel
theorem dX0_copyFrom_7 : decode cX0_copyFrom 7 = .ok (.arraylength, 1) := by decide +kernel
theorem dX0_copyFrom_8 : decode cX0_copyFrom 8 = .ok (.if_icmp .ge 20, 3) := by decide +kernel
theorem dX0_copyFrom_11 : decode cX0_copyFrom 11 = .ok (.aload_n 0, 1) := by decide +kernel
theorem dX0_copyFrom_12 : decode cX0_copyFrom 12 = .ok (.getfield 9, 3) := by decide +kernel
theorem dX0_copyFrom_15 : decode cX0_copyFrom 15 = .ok (.iload_n 2, 1) := by decide +kernel
theorem dX0_copyFrom_16 : decode cX0_copyFrom 16 = .ok (.aload_n 1, 1) := by decide +kernel
theorem dX0_copyFrom_17 : decode cX0_copyFrom 17 = .ok (.iload_n 2, 1) := by decide +kernel
theorem dX0_copyFrom_18 : decode cX0_copyFrom 18 = .ok (.invokevirtual 15, 3) := by decide +kernel
theorem dX0_copyFrom_21 : decode cX0_copyFrom 21 = .ok (.fastore, 1) := by decide +kernel
theorem dX0_copyFrom_22 : decode cX0_copyFrom 22 = .ok (.iinc 2 1, 3) := by decide +kernel
theorem dX0_copyFrom_25 : decode cX0_copyFrom 25 = .ok (.goto (-23), 3) := by decide +kernel
theorem dX0_copyFrom_28 : decode cX0_copyFrom 28 = .ok (.return_, 1) := by decide +kernel
theorem dX1_init_0 : decode cX1_init 0 = .ok (.aload_n 0, 1) := by decide +kernel
theorem dX1_init_1 : decode cX1_init 1 = .ok (.invokespecial 3, 3) := by decide +kernel
theorem dX1_init_4 : decode cX1_init 4 = .ok (.aload_n 0, 1) := by decide +kernel
theorem dX1_init_5 : decode cX1_init 5 = .ok (.iconst 4, 1) := by decide +kernel
theorem dX1_init_6 : decode cX1_init 6 = .ok (.anewarray 9, 3) := by decide +kernel
theorem dX1_init_9 : decode cX1_init 9 = .ok (.putfield 11, 3) := by decide +kernel
theorem dX1_init_12 : decode cX1_init 12 = .ok (.iconst 0, 1) := by decide +kernel
theorem dX1_init_13 : decode cX1_init 13 = .ok (.istore_n 1, 1) := by decide +kernel
theorem dX1_init_14 : decode cX1_init 14 = .ok (.iload_n 1, 1) := by decide +kernel
theorem dX1_init_15 : decode cX1_init 15 = .ok (.aload_n 0, 1) := by decide +kernel
theorem dX1_init_16 : decode cX1_init 16 = .ok (.getfield 11, 3) := by decide +kernel
theorem dX1_init_19 : decode cX1_init 19 = .ok (.arraylength, 1) := by decide +kernel
theorem dX1_init_20 : decode cX1_init 20 = .ok (.if_icmp .ge 22, 3) := by decide +kernel
theorem dX1_init_23 : decode cX1_init 23 = .ok (.aload_n 0, 1) := by decide +kernel
theorem dX1_init_24 : decode cX1_init 24 = .ok (.getfield 11, 3) := by decide +kernel
theorem dX1_init_27 : decode cX1_init 27 = .ok (.iload_n 1, 1) := by decide +kernel
theorem dX1_init_28 : decode cX1_init 28 = .ok (.new 9, 3) := by decide +kernel
theorem dX1_init_31 : decode cX1_init 31 = .ok (.dup, 1) := by decide +kernel
theorem dX1_init_32 : decode cX1_init 32 = .ok (.invokespecial 17, 3) := by decide +kernel
theorem dX1_init_35 : decode cX1_init 35 = .ok (.aastore, 1) := by decide +kernel
theorem dX1_init_36 : decode cX1_init 36 = .ok (.iinc 1 1, 3) := by decide +kernel
theorem dX1_init_39 : decode cX1_init 39 = .ok (.goto (-25), 3) := by decide +kernel
theorem dX1_init_42 : decode cX1_init 42 = .ok (.aload_n 0, 1) := by decide +kernel
theorem dX1_init_43 : decode cX1_init 43 = .ok (.new 9, 3) := by decide +kernel
theorem dX1_init_46 : decode cX1_init 46 = .ok (.dup, 1) := by decide +kernel
theorem dX1_init_47 : decode cX1_init 47 = .ok (.invokespecial 17, 3) := by decide +kernel
theorem dX1_init_50 : decode cX1_init 50 = .ok (.putfield 18, 3) := by decide +kernel
theorem dX1_init_53 : decode cX1_init 53 = .ok (.aload_n 0, 1) := by decide +kernel
theorem dX1_init_54 : decode cX1_init 54 = .ok (.iconst 0, 1) := by decide +kernel
theorem dX1_init_55 : decode cX1_init 55 = .ok (.putfield 22, 3) := by decide +kernel
theorem dX1_init_58 : decode cX1_init 58 = .ok (.aload_n 0, 1) := by decide +kernel
theorem dX1_init_59 : decode cX1_init 59 = .ok (.iconst 0, 1) := by decide +kernel
theorem dX1_init_60 : decode cX1_init 60 = .ok (.putfield 26, 3) := by decide +kernel
theorem dX1_init_63 : decode cX1_init 63 = .ok (.return_, 1) := by decide +kernel
theorem dX1_length_0 : decode cX1_length 0 = .ok (.aload_n 0, 1) := by decide +kernel
theorem dX1_length_1 : decode cX1_length 1 = .ok (.getfield 22, 3) := by decide +kernel
theorem dX1_length_4 : decode cX1_length 4 = .ok (.ireturn, 1) := by decide +kernel
theorem dX1_hasSnapshot_0 : decode cX1_hasSnapshot 0 = .ok (.aload_n 0, 1) := by decide +kernel
theorem dX1_hasSnapshot_1 : decode cX1_hasSnapshot 1 = .ok (.getfield 26, 3) := by decide +kernel
theorem dX1_hasSnapshot_4 : decode cX1_hasSnapshot 4 = .ok (.ireturn, 1) := by decide +kernel
theorem dX1_record_0 : decode cX1_record 0 = .ok (.aload_n 0, 1) := by decide +kernel
theorem dX1_record_1 : decode cX1_record 1 = .ok (.getfield 22, 3) := by decide +kernel
theorem dX1_record_4 : decode cX1_record 4 = .ok (.aload_n 0, 1) := by decide +kernel
theorem dX1_record_5 : decode cX1_record 5 = .ok (.getfield 11, 3) := by decide +kernel
theorem dX1_record_8 : decode cX1_record 8 = .ok (.arraylength, 1) := by decide +kernel
theorem dX1_record_9 : decode cX1_record 9 = .ok (.if_icmp .lt 7, 3) := by decide +kernel
theorem dX1_record_12 : decode cX1_record 12 = .ok (.aload_n 0, 1) := by decide +kernel
theorem dX1_record_13 : decode cX1_record 13 = .ok (.invokevirtual 30, 3) := by decide +kernel
theorem dX1_record_16 : decode cX1_record 16 = .ok (.aload_n 0, 1) := by decide +kernel
theorem dX1_record_17 : decode cX1_record 17 = .ok (.aload_n 0, 1) := by decide +kernel
theorem dX1_record_18 : decode cX1_record 18 = .ok (.getfield 22, 3) := by decide +kernel
theorem dX1_record_21 : decode cX1_record 21 = .ok (.invokevirtual 33, 3) := by decide +kernel
theorem dX1_record_24 : decode cX1_record 24 = .ok (.astore_n 2, 1) := by decide +kernel
theorem dX1_record_25 : decode cX1_record 25 = .ok (.aload_n 2, 1) := by decide +kernel
theorem dX1_record_26 : decode cX1_record 26 = .ok (.ifnull 18, 3) := by decide +kernel
theorem dX1_record_29 : decode cX1_record 29 = .ok (.aload_n 2, 1) := by decide +kernel
theorem dX1_record_30 : decode cX1_record 30 = .ok (.aload_n 1, 1) := by decide +kernel
theorem dX1_record_31 : decode cX1_record 31 = .ok (.invokevirtual 37, 3) := by decide +kernel
theorem dX1_record_34 : decode cX1_record 34 = .ok (.aload_n 0, 1) := by decide +kernel
theorem dX1_record_35 : decode cX1_record 35 = .ok (.dup, 1) := by decide +kernel
theorem dX1_record_36 : decode cX1_record 36 = .ok (.getfield 22, 3) := by decide +kernel
theorem dX1_record_39 : decode cX1_record 39 = .ok (.iconst 1, 1) := by decide +kernel
theorem dX1_record_40 : decode cX1_record 40 = .ok (.iadd, 1) := by decide +kernel
theorem dX1_record_41 : decode cX1_record 41 = .ok (.putfield 22, 3) := by decide +kernel
theorem dX1_record_44 : decode cX1_record 44 = .ok (.return_, 1) := by decide +kernel
theorem dX1_takeBack_0 : decode cX1_takeBack 0 = .ok (.aload_n 0, 1) := by decide +kernel
theorem dX1_takeBack_1 : decode cX1_takeBack 1 = .ok (.aload_n 0, 1) := by decide +kernel
theorem dX1_takeBack_2 : decode cX1_takeBack 2 = .ok (.getfield 22, 3) := by decide +kernel
theorem dX1_takeBack_5 : decode cX1_takeBack 5 = .ok (.iconst 1, 1) := by decide +kernel
theorem dX1_takeBack_6 : decode cX1_takeBack 6 = .ok (.isub, 1) := by decide +kernel
theorem dX1_takeBack_7 : decode cX1_takeBack 7 = .ok (.invokevirtual 33, 3) := by decide +kernel
theorem dX1_takeBack_10 : decode cX1_takeBack 10 = .ok (.astore_n 2, 1) := by decide +kernel
theorem dX1_takeBack_11 : decode cX1_takeBack 11 = .ok (.aload_n 2, 1) := by decide +kernel
theorem dX1_takeBack_12 : decode cX1_takeBack 12 = .ok (.ifnull 18, 3) := by decide +kernel
theorem dX1_takeBack_15 : decode cX1_takeBack 15 = .ok (.aload_n 1, 1) := by decide +kernel
theorem dX1_takeBack_16 : decode cX1_takeBack 16 = .ok (.aload_n 2, 1) := by decide +kernel
theorem dX1_takeBack_17 : decode cX1_takeBack 17 = .ok (.invokevirtual 37, 3) := by decide +kernel
theorem dX1_takeBack_20 : decode cX1_takeBack 20 = .ok (.aload_n 0, 1) := by decide +kernel
theorem dX1_takeBack_21 : decode cX1_takeBack 21 = .ok (.dup, 1) := by decide +kernel
theorem dX1_takeBack_22 : decode cX1_takeBack 22 = .ok (.getfield 22, 3) := by decide +kernel
theorem dX1_takeBack_25 : decode cX1_takeBack 25 = .ok (.iconst 1, 1) := by decide +kernel
theorem dX1_takeBack_26 : decode cX1_takeBack 26 = .ok (.isub, 1) := by decide +kernel
theorem dX1_takeBack_27 : decode cX1_takeBack 27 = .ok (.putfield 22, 3) := by decide +kernel
theorem dX1_takeBack_30 : decode cX1_takeBack 30 = .ok (.return_, 1) := by decide +kernel
theorem dX1_keepSnapshot_0 : decode cX1_keepSnapshot 0 = .ok (.aload_n 0, 1) := by decide +kernel
theorem dX1_keepSnapshot_1 : decode cX1_keepSnapshot 1 = .ok (.getfield 18, 3) := by decide +kernel
theorem dX1_keepSnapshot_4 : decode cX1_keepSnapshot 4 = .ok (.aload_n 1, 1) := by decide +kernel
theorem dX1_keepSnapshot_5 : decode cX1_keepSnapshot 5 = .ok (.invokevirtual 37, 3) := by decide +kernel
theorem dX1_keepSnapshot_8 : decode cX1_keepSnapshot 8 = .ok (.aload_n 0, 1) := by decide +kernel
theorem dX1_keepSnapshot_9 : decode cX1_keepSnapshot 9 = .ok (.iconst 1, 1) := by decide +kernel
theorem dX1_keepSnapshot_10 : decode cX1_keepSnapshot 10 = .ok (.putfield 26, 3) := by decide +kernel
theorem dX1_keepSnapshot_13 : decode cX1_keepSnapshot 13 = .ok (.return_, 1) := by decide +kernel
theorem dX1_showSnapshot_0 : decode cX1_showSnapshot 0 = .ok (.aload_n 1, 1) := by decide +kernel
theorem dX1_showSnapshot_1 : decode cX1_showSnapshot 1 = .ok (.aload_n 0, 1) := by decide +kernel
theorem dX1_showSnapshot_2 : decode cX1_showSnapshot 2 = .ok (.getfield 18, 3) := by decide +kernel
theorem dX1_showSnapshot_5 : decode cX1_showSnapshot 5 = .ok (.invokevirtual 37, 3) := by decide +kernel
theorem dX1_showSnapshot_8 : decode cX1_showSnapshot 8 = .ok (.return_, 1) := by decide +kernel
theorem dX1_dropOldest_0 : decode cX1_dropOldest 0 = .ok (.aload_n 0, 1) := by decide +kernel
theorem dX1_dropOldest_1 : decode cX1_dropOldest 1 = .ok (.iconst 0, 1) := by decide +kernel
theorem dX1_dropOldest_2 : decode cX1_dropOldest 2 = .ok (.invokevirtual 33, 3) := by decide +kernel
theorem dX1_dropOldest_5 : decode cX1_dropOldest 5 = .ok (.astore_n 1, 1) := by decide +kernel
theorem dX1_dropOldest_6 : decode cX1_dropOldest 6 = .ok (.iconst 1, 1) := by decide +kernel
theorem dX1_dropOldest_7 : decode cX1_dropOldest 7 = .ok (.istore_n 2, 1) := by decide +kernel
theorem dX1_dropOldest_8 : decode cX1_dropOldest 8 = .ok (.iload_n 2, 1) := by decide +kernel
theorem dX1_dropOldest_9 : decode cX1_dropOldest 9 = .ok (.aload_n 0, 1) := by decide +kernel
theorem dX1_dropOldest_10 : decode cX1_dropOldest 10 = .ok (.getfield 11, 3) := by decide +kernel
theorem dX1_dropOldest_13 : decode cX1_dropOldest 13 = .ok (.arraylength, 1) := by decide +kernel
theorem dX1_dropOldest_14 : decode cX1_dropOldest 14 = .ok (.if_icmp .ge 23, 3) := by decide +kernel
theorem dX1_dropOldest_17 : decode cX1_dropOldest 17 = .ok (.aload_n 0, 1) := by decide +kernel
theorem dX1_dropOldest_18 : decode cX1_dropOldest 18 = .ok (.getfield 11, 3) := by decide +kernel
theorem dX1_dropOldest_21 : decode cX1_dropOldest 21 = .ok (.iload_n 2, 1) := by decide +kernel
theorem dX1_dropOldest_22 : decode cX1_dropOldest 22 = .ok (.iconst 1, 1) := by decide +kernel
theorem dX1_dropOldest_23 : decode cX1_dropOldest 23 = .ok (.isub, 1) := by decide +kernel
theorem dX1_dropOldest_24 : decode cX1_dropOldest 24 = .ok (.aload_n 0, 1) := by decide +kernel
theorem dX1_dropOldest_25 : decode cX1_dropOldest 25 = .ok (.getfield 11, 3) := by decide +kernel
theorem dX1_dropOldest_28 : decode cX1_dropOldest 28 = .ok (.iload_n 2, 1) := by decide +kernel
theorem dX1_dropOldest_29 : decode cX1_dropOldest 29 = .ok (.aaload, 1) := by decide +kernel
theorem dX1_dropOldest_30 : decode cX1_dropOldest 30 = .ok (.aastore, 1) := by decide +kernel
theorem dX1_dropOldest_31 : decode cX1_dropOldest 31 = .ok (.iinc 2 1, 3) := by decide +kernel
theorem dX1_dropOldest_34 : decode cX1_dropOldest 34 = .ok (.goto (-26), 3) := by decide +kernel
theorem dX1_dropOldest_37 : decode cX1_dropOldest 37 = .ok (.aload_n 0, 1) := by decide +kernel
theorem dX1_dropOldest_38 : decode cX1_dropOldest 38 = .ok (.getfield 11, 3) := by decide +kernel
theorem dX1_dropOldest_41 : decode cX1_dropOldest 41 = .ok (.arraylength, 1) := by decide +kernel
theorem dX1_dropOldest_42 : decode cX1_dropOldest 42 = .ok (.ifCond .le 16, 3) := by decide +kernel
theorem dX1_dropOldest_45 : decode cX1_dropOldest 45 = .ok (.aload_n 0, 1) := by decide +kernel
theorem dX1_dropOldest_46 : decode cX1_dropOldest 46 = .ok (.getfield 11, 3) := by decide +kernel
theorem dX1_dropOldest_49 : decode cX1_dropOldest 49 = .ok (.aload_n 0, 1) := by decide +kernel
theorem dX1_dropOldest_50 : decode cX1_dropOldest 50 = .ok (.getfield 11, 3) := by decide +kernel
theorem dX1_dropOldest_53 : decode cX1_dropOldest 53 = .ok (.arraylength, 1) := by decide +kernel
theorem dX1_dropOldest_54 : decode cX1_dropOldest 54 = .ok (.iconst 1, 1) := by decide +kernel
theorem dX1_dropOldest_55 : decode cX1_dropOldest 55 = .ok (.isub, 1) := by decide +kernel
theorem dX1_dropOldest_56 : decode cX1_dropOldest 56 = .ok (.aload_n 1, 1) := by decide +kernel
theorem dX1_dropOldest_57 : decode cX1_dropOldest 57 = .ok (.aastore, 1) := by decide +kernel
theorem dX1_dropOldest_58 : decode cX1_dropOldest 58 = .ok (.aload_n 0, 1) := by decide +kernel
theorem dX1_dropOldest_59 : decode cX1_dropOldest 59 = .ok (.aload_n 0, 1) := by decide +kernel
theorem dX1_dropOldest_60 : decode cX1_dropOldest 60 = .ok (.getfield 11, 3) := by decide +kernel
theorem dX1_dropOldest_63 : decode cX1_dropOldest 63 = .ok (.arraylength, 1) := by decide +kernel
theorem dX1_dropOldest_64 : decode cX1_dropOldest 64 = .ok (.iconst 1, 1) := by decide +kernel
theorem dX1_dropOldest_65 : decode cX1_dropOldest 65 = .ok (.isub, 1) := by decide +kernel
theorem dX1_dropOldest_66 : decode cX1_dropOldest 66 = .ok (.putfield 22, 3) := by decide +kernel
theorem dX1_dropOldest_69 : decode cX1_dropOldest 69 = .ok (.return_, 1) := by decide +kernel
theorem dX1_stateAt_0 : decode cX1_stateAt 0 = .ok (.iload_n 1, 1) := by decide +kernel
theorem dX1_stateAt_1 : decode cX1_stateAt 1 = .ok (.ifCond .lt 21, 3) := by decide +kernel
theorem dX1_stateAt_4 : decode cX1_stateAt 4 = .ok (.iload_n 1, 1) := by decide +kernel
theorem dX1_stateAt_5 : decode cX1_stateAt 5 = .ok (.aload_n 0, 1) := by decide +kernel
theorem dX1_stateAt_6 : decode cX1_stateAt 6 = .ok (.getfield 11, 3) := by decide +kernel
theorem dX1_stateAt_9 : decode cX1_stateAt 9 = .ok (.arraylength, 1) := by decide +kernel
theorem dX1_stateAt_10 : decode cX1_stateAt 10 = .ok (.if_icmp .ge 12, 3) := by decide +kernel
theorem dX1_stateAt_13 : decode cX1_stateAt 13 = .ok (.aload_n 0, 1) := by decide +kernel
theorem dX1_stateAt_14 : decode cX1_stateAt 14 = .ok (.getfield 11, 3) := by decide +kernel
theorem dX1_stateAt_17 : decode cX1_stateAt 17 = .ok (.iload_n 1, 1) := by decide +kernel
theorem dX1_stateAt_18 : decode cX1_stateAt 18 = .ok (.aaload, 1) := by decide +kernel
theorem dX1_stateAt_19 : decode cX1_stateAt 19 = .ok (.goto 4, 3) := by decide +kernel
theorem dX1_stateAt_22 : decode cX1_stateAt 22 = .ok (.aconst_null, 1) := by decide +kernel
theorem dX1_stateAt_23 : decode cX1_stateAt 23 = .ok (.areturn, 1) := by decide +kernel
theorem dX2_init_0 : decode cX2_init 0 = .ok (.aload_n 0, 1) := by decide +kernel
theorem dX2_init_1 : decode cX2_init 1 = .ok (.invokespecial 3, 3) := by decide +kernel
theorem dX2_init_4 : decode cX2_init 4 = .ok (.aload_n 0, 1) := by decide +kernel
theorem dX2_init_5 : decode cX2_init 5 = .ok (.bipush 90, 2) := by decide +kernel
theorem dX2_init_7 : decode cX2_init 7 = .ok (.newarray .int, 2) := by decide +kernel
theorem dX2_init_9 : decode cX2_init 9 = .ok (.putfield 9, 3) := by decide +kernel
theorem dX2_init_12 : decode cX2_init 12 = .ok (.return_, 1) := by decide +kernel
theorem dX2_get_0 : decode cX2_get 0 = .ok (.iload_n 1, 1) := by decide +kernel
theorem dX2_get_1 : decode cX2_get 1 = .ok (.ifCond .lt 21, 3) := by decide +kernel
theorem dX2_get_4 : decode cX2_get 4 = .ok (.iload_n 1, 1) := by decide +kernel
theorem dX2_get_5 : decode cX2_get 5 = .ok (.aload_n 0, 1) := by decide +kernel
theorem dX2_get_6 : decode cX2_get 6 = .ok (.getfield 9, 3) := by decide +kernel
theorem dX2_get_9 : decode cX2_get 9 = .ok (.arraylength, 1) := by decide +kernel
theorem dX2_get_10 : decode cX2_get 10 = .ok (.if_icmp .ge 12, 3) := by decide +kernel
theorem dX2_get_13 : decode cX2_get 13 = .ok (.aload_n 0, 1) := by decide +kernel
theorem dX2_get_14 : decode cX2_get 14 = .ok (.getfield 9, 3) := by decide +kernel
theorem dX2_get_17 : decode cX2_get 17 = .ok (.iload_n 1, 1) := by decide +kernel
theorem dX2_get_18 : decode cX2_get 18 = .ok (.iaload, 1) := by decide +kernel
theorem dX2_get_19 : decode cX2_get 19 = .ok (.goto 4, 3) := by decide +kernel
theorem dX2_get_22 : decode cX2_get 22 = .ok (.iconst (-1), 1) := by decide +kernel
theorem dX2_get_23 : decode cX2_get 23 = .ok (.ireturn, 1) := by decide +kernel
theorem dX2_set_0 : decode cX2_set 0 = .ok (.iload_n 1, 1) := by decide +kernel
theorem dX2_set_1 : decode cX2_set 1 = .ok (.ifCond .lt 19, 3) := by decide +kernel
theorem dX2_set_4 : decode cX2_set 4 = .ok (.iload_n 1, 1) := by decide +kernel
theorem dX2_set_5 : decode cX2_set 5 = .ok (.aload_n 0, 1) := by decide +kernel
theorem dX2_set_6 : decode cX2_set 6 = .ok (.getfield 9, 3) := by decide +kernel
theorem dX2_set_9 : decode cX2_set 9 = .ok (.arraylength, 1) := by decide +kernel
theorem dX2_set_10 : decode cX2_set 10 = .ok (.if_icmp .ge 10, 3) := by decide +kernel
theorem dX2_set_13 : decode cX2_set 13 = .ok (.aload_n 0, 1) := by decide +kernel
theorem dX2_set_14 : decode cX2_set 14 = .ok (.getfield 9, 3) := by decide +kernel
theorem dX2_set_17 : decode cX2_set 17 = .ok (.iload_n 1, 1) := by decide +kernel
theorem dX2_set_18 : decode cX2_set 18 = .ok (.iload_n 2, 1) := by decide +kernel
theorem dX2_set_19 : decode cX2_set 19 = .ok (.iastore, 1) := by decide +kernel
theorem dX2_set_20 : decode cX2_set 20 = .ok (.return_, 1) := by decide +kernel
theorem dX2_fill_0 : decode cX2_fill 0 = .ok (.iconst 0, 1) := by decide +kernel
theorem dX2_fill_1 : decode cX2_fill 1 = .ok (.istore_n 2, 1) := by decide +kernel
theorem dX2_fill_2 : decode cX2_fill 2 = .ok (.iload_n 2, 1) := by decide +kernel
theorem dX2_fill_3 : decode cX2_fill 3 = .ok (.aload_n 0, 1) := by decide +kernel
theorem dX2_fill_4 : decode cX2_fill 4 = .ok (.getfield 9, 3) := by decide +kernel
theorem dX2_fill_7 : decode cX2_fill 7 = .ok (.arraylength, 1) := by decide +kernel
theorem dX2_fill_8 : decode cX2_fill 8 = .ok (.if_icmp .ge 16, 3) := by decide +kernel
theorem dX2_fill_11 : decode cX2_fill 11 = .ok (.aload_n 0, 1) := by decide +kernel
theorem dX2_fill_12 : decode cX2_fill 12 = .ok (.getfield 9, 3) := by decide +kernel
theorem dX2_fill_15 : decode cX2_fill 15 = .ok (.iload_n 2, 1) := by decide +kernel
theorem dX2_fill_16 : decode cX2_fill 16 = .ok (.iload_n 1, 1) := by decide +kernel
theorem dX2_fill_17 : decode cX2_fill 17 = .ok (.iastore, 1) := by decide +kernel
theorem dX2_fill_18 : decode cX2_fill 18 = .ok (.iinc 2 1, 3) := by decide +kernel
theorem dX2_fill_21 : decode cX2_fill 21 = .ok (.goto (-19), 3) := by decide +kernel
theorem dX2_fill_24 : decode cX2_fill 24 = .ok (.return_, 1) := by decide +kernel
theorem dX2_copyFrom_0 : decode cX2_copyFrom 0 = .ok (.iconst 0, 1) := by decide +kernel
theorem dX2_copyFrom_1 : decode cX2_copyFrom 1 = .ok (.istore_n 2, 1) := by decide +kernel
theorem dX2_copyFrom_2 : decode cX2_copyFrom 2 = .ok (.iload_n 2, 1) := by decide +kernel
theorem dX2_copyFrom_3 : decode cX2_copyFrom 3 = .ok (.aload_n 0, 1) := by decide +kernel
theorem dX2_copyFrom_4 : decode cX2_copyFrom 4 = .ok (.getfield 9, 3) := by decide +kernel
theorem dX2_copyFrom_7 : decode cX2_copyFrom 7 = .ok (.arraylength, 1) := by decide +kernel
theorem dX2_copyFrom_8 : decode cX2_copyFrom 8 = .ok (.if_icmp .ge 20, 3) := by decide +kernel
theorem dX2_copyFrom_11 : decode cX2_copyFrom 11 = .ok (.aload_n 0, 1) := by decide +kernel
theorem dX2_copyFrom_12 : decode cX2_copyFrom 12 = .ok (.getfield 9, 3) := by decide +kernel
theorem dX2_copyFrom_15 : decode cX2_copyFrom 15 = .ok (.iload_n 2, 1) := by decide +kernel
theorem dX2_copyFrom_16 : decode cX2_copyFrom 16 = .ok (.aload_n 1, 1) := by decide +kernel
theorem dX2_copyFrom_17 : decode cX2_copyFrom 17 = .ok (.iload_n 2, 1) := by decide +kernel
theorem dX2_copyFrom_18 : decode cX2_copyFrom 18 = .ok (.invokevirtual 15, 3) := by decide +kernel
theorem dX2_copyFrom_21 : decode cX2_copyFrom 21 = .ok (.iastore, 1) := by decide +kernel
theorem dX2_copyFrom_22 : decode cX2_copyFrom 22 = .ok (.iinc 2 1, 3) := by decide +kernel
theorem dX2_copyFrom_25 : decode cX2_copyFrom 25 = .ok (.goto (-23), 3) := by decide +kernel
theorem dX2_copyFrom_28 : decode cX2_copyFrom 28 = .ok (.return_, 1) := by decide +kernel
theorem dX3_init_0 : decode cX3_init 0 = .ok (.aload_n 0, 1) := by decide +kernel
theorem dX3_init_1 : decode cX3_init 1 = .ok (.invokespecial 3, 3) := by decide +kernel
theorem dX3_init_4 : decode cX3_init 4 = .ok (.aload_n 0, 1) := by decide +kernel
theorem dX3_init_5 : decode cX3_init 5 = .ok (.aload_n 1, 1) := by decide +kernel
theorem dX3_init_6 : decode cX3_init 6 = .ok (.putfield 9, 3) := by decide +kernel
theorem dX3_init_9 : decode cX3_init 9 = .ok (.aload_n 0, 1) := by decide +kernel
theorem dX3_init_10 : decode cX3_init 10 = .ok (.aload_n 2, 1) := by decide +kernel
theorem dX3_init_11 : decode cX3_init 11 = .ok (.putfield 15, 3) := by decide +kernel
theorem dX3_init_14 : decode cX3_init 14 = .ok (.aload_n 0, 1) := by decide +kernel
theorem dX3_init_15 : decode cX3_init 15 = .ok (.new 19, 3) := by decide +kernel
theorem dX3_init_18 : decode cX3_init 18 = .ok (.dup, 1) := by decide +kernel
theorem dX3_init_19 : decode cX3_init 19 = .ok (.invokespecial 21, 3) := by decide +kernel
theorem dX3_init_22 : decode cX3_init 22 = .ok (.putfield 22, 3) := by decide +kernel
theorem dX3_init_25 : decode cX3_init 25 = .ok (.aload_n 0, 1) := by decide +kernel
theorem dX3_init_26 : decode cX3_init 26 = .ok (.new 19, 3) := by decide +kernel
theorem dX3_init_29 : decode cX3_init 29 = .ok (.dup, 1) := by decide +kernel
theorem dX3_init_30 : decode cX3_init 30 = .ok (.invokespecial 21, 3) := by decide +kernel
theorem dX3_init_33 : decode cX3_init 33 = .ok (.putfield 26, 3) := by decide +kernel
theorem dX3_init_36 : decode cX3_init 36 = .ok (.aload_n 0, 1) := by decide +kernel
theorem dX3_init_37 : decode cX3_init 37 = .ok (.iconst 0, 1) := by decide +kernel
theorem dX3_init_38 : decode cX3_init 38 = .ok (.putfield 29, 3) := by decide +kernel
theorem dX3_init_41 : decode cX3_init 41 = .ok (.return_, 1) := by decide +kernel
theorem dX3_write_0 : decode cX3_write 0 = .ok (.aload_n 0, 1) := by decide +kernel
theorem dX3_write_1 : decode cX3_write 1 = .ok (.getfield 22, 3) := by decide +kernel
theorem dX3_write_4 : decode cX3_write 4 = .ok (.iconst 0, 1) := by decide +kernel
theorem dX3_write_5 : decode cX3_write 5 = .ok (.invokevirtual 33, 3) := by decide +kernel
theorem dX3_write_8 : decode cX3_write 8 = .ok (.aload_n 0, 1) := by decide +kernel
theorem dX3_write_9 : decode cX3_write 9 = .ok (.getfield 15, 3) := by decide +kernel
theorem dX3_write_12 : decode cX3_write 12 = .ok (.invokevirtual 37, 3) := by decide +kernel
theorem dX3_write_15 : decode cX3_write 15 = .ok (.iconst 1, 1) := by decide +kernel
theorem dX3_write_16 : decode cX3_write 16 = .ok (.isub, 1) := by decide +kernel
theorem dX3_write_17 : decode cX3_write 17 = .ok (.istore_n 1, 1) := by decide +kernel
theorem dX3_write_18 : decode cX3_write 18 = .ok (.iload_n 1, 1) := by decide +kernel
theorem dX3_write_19 : decode cX3_write 19 = .ok (.ifCond .lt 44, 3) := by decide +kernel
theorem dX3_write_22 : decode cX3_write 22 = .ok (.aload_n 0, 1) := by decide +kernel
theorem dX3_write_23 : decode cX3_write 23 = .ok (.getfield 15, 3) := by decide +kernel
theorem dX3_write_26 : decode cX3_write 26 = .ok (.iload_n 1, 1) := by decide +kernel
theorem dX3_write_27 : decode cX3_write 27 = .ok (.invokevirtual 43, 3) := by decide +kernel
theorem dX3_write_30 : decode cX3_write 30 = .ok (.istore_n 2, 1) := by decide +kernel
theorem dX3_write_31 : decode cX3_write 31 = .ok (.aload_n 0, 1) := by decide +kernel
theorem dX3_write_32 : decode cX3_write 32 = .ok (.getfield 15, 3) := by decide +kernel
theorem dX3_write_35 : decode cX3_write 35 = .ok (.iload_n 2, 1) := by decide +kernel
theorem dX3_write_36 : decode cX3_write 36 = .ok (.invokevirtual 47, 3) := by decide +kernel
theorem dX3_write_39 : decode cX3_write 39 = .ok (.bipush 15, 2) := by decide +kernel
theorem dX3_write_41 : decode cX3_write 41 = .ok (.if_icmp .gt 16, 3) := by decide +kernel
theorem dX3_write_44 : decode cX3_write 44 = .ok (.aload_n 0, 1) := by decide +kernel
theorem dX3_write_45 : decode cX3_write 45 = .ok (.getfield 22, 3) := by decide +kernel
theorem dX3_write_48 : decode cX3_write 48 = .ok (.iload_n 2, 1) := by decide +kernel
theorem dX3_write_49 : decode cX3_write 49 = .ok (.aload_n 0, 1) := by decide +kernel
theorem dX3_write_50 : decode cX3_write 50 = .ok (.iload_n 2, 1) := by decide +kernel
theorem dX3_write_51 : decode cX3_write 51 = .ok (.invokevirtual 50, 3) := by decide +kernel
theorem dX3_write_54 : decode cX3_write 54 = .ok (.invokevirtual 53, 3) := by decide +kernel
theorem dX3_write_57 : decode cX3_write 57 = .ok (.iinc 1 (-1), 3) := by decide +kernel
theorem dX3_write_60 : decode cX3_write 60 = .ok (.goto (-42), 3) := by decide +kernel
theorem dX3_write_63 : decode cX3_write 63 = .ok (.return_, 1) := by decide +kernel
theorem dX3_join_0 : decode cX3_join 0 = .ok (.iconst 1, 1) := by decide +kernel
theorem dX3_join_1 : decode cX3_join 1 = .ok (.istore_n 2, 1) := by decide +kernel
theorem dX3_join_2 : decode cX3_join 2 = .ok (.aload_n 0, 1) := by decide +kernel
theorem dX3_join_3 : decode cX3_join 3 = .ok (.getfield 15, 3) := by decide +kernel
theorem dX3_join_6 : decode cX3_join 6 = .ok (.iload_n 1, 1) := by decide +kernel
theorem dX3_join_7 : decode cX3_join 7 = .ok (.invokevirtual 57, 3) := by decide +kernel
theorem dX3_join_10 : decode cX3_join 10 = .ok (.istore_n 3, 1) := by decide +kernel
theorem dX3_join_11 : decode cX3_join 11 = .ok (.iconst 0, 1) := by decide +kernel
theorem dX3_join_12 : decode cX3_join 12 = .ok (.istore 4, 2) := by decide +kernel
theorem dX3_join_14 : decode cX3_join 14 = .ok (.iload 4, 2) := by decide +kernel
theorem dX3_join_16 : decode cX3_join 16 = .ok (.bipush 15, 2) := by decide +kernel
theorem dX3_join_18 : decode cX3_join 18 = .ok (.if_icmp .ge 45, 3) := by decide +kernel
theorem dX3_join_21 : decode cX3_join 21 = .ok (.iload_n 3, 1) := by decide +kernel
theorem dX3_join_22 : decode cX3_join 22 = .ok (.iconst (-1), 1) := by decide +kernel
theorem dX3_join_23 : decode cX3_join 23 = .ok (.if_icmp .eq 40, 3) := by decide +kernel
theorem dX3_join_26 : decode cX3_join 26 = .ok (.iload_n 2, 1) := by decide +kernel
theorem dX3_join_27 : decode cX3_join 27 = .ok (.iconst 2, 1) := by decide +kernel
theorem dX3_join_28 : decode cX3_join 28 = .ok (.aload_n 0, 1) := by decide +kernel
theorem dX3_join_29 : decode cX3_join 29 = .ok (.getfield 15, 3) := by decide +kernel
theorem dX3_join_32 : decode cX3_join 32 = .ok (.iload_n 3, 1) := by decide +kernel
theorem dX3_join_33 : decode cX3_join 33 = .ok (.invokevirtual 47, 3) := by decide +kernel
theorem dX3_join_36 : decode cX3_join 36 = .ok (.imul, 1) := by decide +kernel
theorem dX3_join_37 : decode cX3_join 37 = .ok (.ishl, 1) := by decide +kernel
theorem dX3_join_38 : decode cX3_join 38 = .ok (.aload_n 0, 1) := by decide +kernel
theorem dX3_join_39 : decode cX3_join 39 = .ok (.getfield 22, 3) := by decide +kernel
theorem dX3_join_42 : decode cX3_join 42 = .ok (.iload_n 3, 1) := by decide +kernel
theorem dX3_join_43 : decode cX3_join 43 = .ok (.invokevirtual 60, 3) := by decide +kernel
theorem dX3_join_46 : decode cX3_join 46 = .ok (.ior, 1) := by decide +kernel
theorem dX3_join_47 : decode cX3_join 47 = .ok (.istore_n 2, 1) := by decide +kernel
theorem dX3_join_48 : decode cX3_join 48 = .ok (.aload_n 0, 1) := by decide +kernel
theorem dX3_join_49 : decode cX3_join 49 = .ok (.getfield 15, 3) := by decide +kernel
theorem dX3_join_52 : decode cX3_join 52 = .ok (.iload_n 3, 1) := by decide +kernel
theorem dX3_join_53 : decode cX3_join 53 = .ok (.invokevirtual 63, 3) := by decide +kernel
theorem dX3_join_56 : decode cX3_join 56 = .ok (.istore_n 3, 1) := by decide +kernel
theorem dX3_join_57 : decode cX3_join 57 = .ok (.iinc 4 1, 3) := by decide +kernel
theorem dX3_join_60 : decode cX3_join 60 = .ok (.goto (-46), 3) := by decide +kernel
theorem dX3_join_63 : decode cX3_join 63 = .ok (.iload_n 2, 1) := by decide +kernel
theorem dX3_join_64 : decode cX3_join 64 = .ok (.iconst 1, 1) := by decide +kernel
theorem dX3_join_65 : decode cX3_join 65 = .ok (.ishl, 1) := by decide +kernel
theorem dX3_join_66 : decode cX3_join 66 = .ok (.ireturn, 1) := by decide +kernel
theorem dX3_shapeOf_0 : decode cX3_shapeOf 0 = .ok (.aload_n 0, 1) := by decide +kernel
theorem dX3_shapeOf_1 : decode cX3_shapeOf 1 = .ok (.getfield 22, 3) := by decide +kernel
theorem dX3_shapeOf_4 : decode cX3_shapeOf 4 = .ok (.iload_n 1, 1) := by decide +kernel
theorem dX3_shapeOf_5 : decode cX3_shapeOf 5 = .ok (.invokevirtual 60, 3) := by decide +kernel
theorem dX3_shapeOf_8 : decode cX3_shapeOf 8 = .ok (.ireturn, 1) := by decide +kernel
theorem dX3_countLike_0 : decode cX3_countLike 0 = .ok (.iconst 0, 1) := by decide +kernel
theorem dX3_countLike_1 : decode cX3_countLike 1 = .ok (.istore_n 2, 1) := by decide +kernel
theorem dX3_countLike_2 : decode cX3_countLike 2 = .ok (.iconst 0, 1) := by decide +kernel
theorem dX3_countLike_3 : decode cX3_countLike 3 = .ok (.istore_n 3, 1) := by decide +kernel
theorem dX3_countLike_4 : decode cX3_countLike 4 = .ok (.iload_n 3, 1) := by decide +kernel
theorem dX3_countLike_5 : decode cX3_countLike 5 = .ok (.bipush 90, 2) := by decide +kernel
theorem dX3_countLike_7 : decode cX3_countLike 7 = .ok (.if_icmp .ge 31, 3) := by decide +kernel
theorem dX3_countLike_10 : decode cX3_countLike 10 = .ok (.aload_n 0, 1) := by decide +kernel
theorem dX3_countLike_11 : decode cX3_countLike 11 = .ok (.getfield 22, 3) := by decide +kernel
theorem dX3_countLike_14 : decode cX3_countLike 14 = .ok (.iload_n 3, 1) := by decide +kernel
theorem dX3_countLike_15 : decode cX3_countLike 15 = .ok (.invokevirtual 60, 3) := by decide +kernel
theorem dX3_countLike_18 : decode cX3_countLike 18 = .ok (.aload_n 0, 1) := by decide +kernel
theorem dX3_countLike_19 : decode cX3_countLike 19 = .ok (.getfield 22, 3) := by decide +kernel
theorem dX3_countLike_22 : decode cX3_countLike 22 = .ok (.iload_n 1, 1) := by decide +kernel
theorem dX3_countLike_23 : decode cX3_countLike 23 = .ok (.invokevirtual 60, 3) := by decide +kernel
theorem dX3_countLike_26 : decode cX3_countLike 26 = .ok (.if_icmp .ne 6, 3) := by decide +kernel
theorem dX3_countLike_29 : decode cX3_countLike 29 = .ok (.iinc 2 1, 3) := by decide +kernel
theorem dX3_countLike_32 : decode cX3_countLike 32 = .ok (.iinc 3 1, 3) := by decide +kernel
theorem dX3_countLike_35 : decode cX3_countLike 35 = .ok (.goto (-31), 3) := by decide +kernel
theorem dX3_countLike_38 : decode cX3_countLike 38 = .ok (.iload_n 2, 1) := by decide +kernel
theorem dX3_countLike_39 : decode cX3_countLike 39 = .ok (.ireturn, 1) := by decide +kernel
theorem dX3_sort_0 : decode cX3_sort 0 = .ok (.aload_n 0, 1) := by decide +kernel
theorem dX3_sort_1 : decode cX3_sort 1 = .ok (.iconst 0, 1) := by decide +kernel
theorem dX3_sort_2 : decode cX3_sort 2 = .ok (.putfield 29, 3) := by decide +kernel
theorem dX3_sort_5 : decode cX3_sort 5 = .ok (.iconst 0, 1) := by decide +kernel
theorem dX3_sort_6 : decode cX3_sort 6 = .ok (.istore_n 1, 1) := by decide +kernel
theorem dX3_sort_7 : decode cX3_sort 7 = .ok (.iload_n 1, 1) := by decide +kernel
theorem dX3_sort_8 : decode cX3_sort 8 = .ok (.bipush 90, 2) := by decide +kernel
theorem dX3_sort_10 : decode cX3_sort 10 = .ok (.if_icmp .ge 32, 3) := by decide +kernel
theorem dX3_sort_13 : decode cX3_sort 13 = .ok (.aload_n 0, 1) := by decide +kernel
theorem dX3_sort_14 : decode cX3_sort 14 = .ok (.getfield 22, 3) := by decide +kernel
theorem dX3_sort_17 : decode cX3_sort 17 = .ok (.iload_n 1, 1) := by decide +kernel
theorem dX3_sort_18 : decode cX3_sort 18 = .ok (.invokevirtual 60, 3) := by decide +kernel
theorem dX3_sort_21 : decode cX3_sort 21 = .ok (.ifCond .eq 15, 3) := by decide +kernel
theorem dX3_sort_24 : decode cX3_sort 24 = .ok (.aload_n 0, 1) := by decide +kernel
theorem dX3_sort_25 : decode cX3_sort 25 = .ok (.aload_n 0, 1) := by decide +kernel
theorem dX3_sort_26 : decode cX3_sort 26 = .ok (.getfield 22, 3) := by decide +kernel
theorem dX3_sort_29 : decode cX3_sort 29 = .ok (.iload_n 1, 1) := by decide +kernel
theorem dX3_sort_30 : decode cX3_sort 30 = .ok (.invokevirtual 60, 3) := by decide +kernel
theorem dX3_sort_33 : decode cX3_sort 33 = .ok (.invokevirtual 66, 3) := by decide +kernel
theorem dX3_sort_36 : decode cX3_sort 36 = .ok (.iinc 1 1, 3) := by decide +kernel
theorem dX3_sort_39 : decode cX3_sort 39 = .ok (.goto (-32), 3) := by decide +kernel
theorem dX3_sort_42 : decode cX3_sort 42 = .ok (.return_, 1) := by decide +kernel
theorem dX3_enter_0 : decode cX3_enter 0 = .ok (.iconst 0, 1) := by decide +kernel
theorem dX3_enter_1 : decode cX3_enter 1 = .ok (.istore_n 2, 1) := by decide +kernel
theorem dX3_enter_2 : decode cX3_enter 2 = .ok (.iload_n 2, 1) := by decide +kernel
theorem dX3_enter_3 : decode cX3_enter 3 = .ok (.aload_n 0, 1) := by decide +kernel
theorem dX3_enter_4 : decode cX3_enter 4 = .ok (.getfield 29, 3) := by decide +kernel
theorem dX3_enter_7 : decode cX3_enter 7 = .ok (.if_icmp .ge 21, 3) := by decide +kernel
theorem dX3_enter_10 : decode cX3_enter 10 = .ok (.aload_n 0, 1) := by decide +kernel
theorem dX3_enter_11 : decode cX3_enter 11 = .ok (.getfield 26, 3) := by decide +kernel
theorem dX3_enter_14 : decode cX3_enter 14 = .ok (.iload_n 2, 1) := by decide +kernel
theorem dX3_enter_15 : decode cX3_enter 15 = .ok (.invokevirtual 60, 3) := by decide +kernel
theorem dX3_enter_18 : decode cX3_enter 18 = .ok (.iload_n 1, 1) := by decide +kernel
theorem dX3_enter_19 : decode cX3_enter 19 = .ok (.if_icmp .ge 9, 3) := by decide +kernel
theorem dX3_enter_22 : decode cX3_enter 22 = .ok (.iinc 2 1, 3) := by decide +kernel
theorem dX3_enter_25 : decode cX3_enter 25 = .ok (.goto (-23), 3) := by decide +kernel
theorem dX3_enter_28 : decode cX3_enter 28 = .ok (.iload_n 2, 1) := by decide +kernel
theorem dX3_enter_29 : decode cX3_enter 29 = .ok (.aload_n 0, 1) := by decide +kernel
theorem dX3_enter_30 : decode cX3_enter 30 = .ok (.getfield 29, 3) := by decide +kernel
theorem dX3_enter_33 : decode cX3_enter 33 = .ok (.if_icmp .ge 16, 3) := by decide +kernel
theorem dX3_enter_36 : decode cX3_enter 36 = .ok (.aload_n 0, 1) := by decide +kernel
theorem dX3_enter_37 : decode cX3_enter 37 = .ok (.getfield 26, 3) := by decide +kernel
theorem dX3_enter_40 : decode cX3_enter 40 = .ok (.iload_n 2, 1) := by decide +kernel
theorem dX3_enter_41 : decode cX3_enter 41 = .ok (.invokevirtual 60, 3) := by decide +kernel
theorem dX3_enter_44 : decode cX3_enter 44 = .ok (.iload_n 1, 1) := by decide +kernel
theorem dX3_enter_45 : decode cX3_enter 45 = .ok (.if_icmp .ne 4, 3) := by decide +kernel
theorem dX3_enter_48 : decode cX3_enter 48 = .ok (.return_, 1) := by decide +kernel
theorem dX3_enter_49 : decode cX3_enter 49 = .ok (.aload_n 0, 1) := by decide +kernel
theorem dX3_enter_50 : decode cX3_enter 50 = .ok (.getfield 29, 3) := by decide +kernel
theorem dX3_enter_53 : decode cX3_enter 53 = .ok (.istore_n 3, 1) := by decide +kernel
theorem dX3_enter_54 : decode cX3_enter 54 = .ok (.iload_n 3, 1) := by decide +kernel
theorem dX3_enter_55 : decode cX3_enter 55 = .ok (.iload_n 2, 1) := by decide +kernel
theorem dX3_enter_56 : decode cX3_enter 56 = .ok (.if_icmp .le 27, 3) := by decide +kernel
theorem dX3_enter_59 : decode cX3_enter 59 = .ok (.aload_n 0, 1) := by decide +kernel
theorem dX3_enter_60 : decode cX3_enter 60 = .ok (.getfield 26, 3) := by decide +kernel
theorem dX3_enter_63 : decode cX3_enter 63 = .ok (.iload_n 3, 1) := by decide +kernel
theorem dX3_enter_64 : decode cX3_enter 64 = .ok (.aload_n 0, 1) := by decide +kernel
theorem dX3_enter_65 : decode cX3_enter 65 = .ok (.getfield 26, 3) := by decide +kernel
theorem dX3_enter_68 : decode cX3_enter 68 = .ok (.iload_n 3, 1) := by decide +kernel
theorem dX3_enter_69 : decode cX3_enter 69 = .ok (.iconst 1, 1) := by decide +kernel
theorem dX3_enter_70 : decode cX3_enter 70 = .ok (.isub, 1) := by decide +kernel
theorem dX3_enter_71 : decode cX3_enter 71 = .ok (.invokevirtual 60, 3) := by decide +kernel
theorem dX3_enter_74 : decode cX3_enter 74 = .ok (.invokevirtual 53, 3) := by decide +kernel
theorem dX3_enter_77 : decode cX3_enter 77 = .ok (.iinc 3 (-1), 3) := by decide +kernel
theorem dX3_enter_80 : decode cX3_enter 80 = .ok (.goto (-26), 3) := by decide +kernel
theorem dX3_enter_83 : decode cX3_enter 83 = .ok (.aload_n 0, 1) := by decide +kernel
theorem dX3_enter_84 : decode cX3_enter 84 = .ok (.getfield 26, 3) := by decide +kernel
theorem dX3_enter_87 : decode cX3_enter 87 = .ok (.iload_n 2, 1) := by decide +kernel
theorem dX3_enter_88 : decode cX3_enter 88 = .ok (.iload_n 1, 1) := by decide +kernel
theorem dX3_enter_89 : decode cX3_enter 89 = .ok (.invokevirtual 53, 3) := by decide +kernel
theorem dX3_enter_92 : decode cX3_enter 92 = .ok (.aload_n 0, 1) := by decide +kernel
theorem dX3_enter_93 : decode cX3_enter 93 = .ok (.dup, 1) := by decide +kernel
theorem dX3_enter_94 : decode cX3_enter 94 = .ok (.getfield 29, 3) := by decide +kernel
theorem dX3_enter_97 : decode cX3_enter 97 = .ok (.iconst 1, 1) := by decide +kernel
theorem dX3_enter_98 : decode cX3_enter 98 = .ok (.iadd, 1) := by decide +kernel
theorem dX3_enter_99 : decode cX3_enter 99 = .ok (.putfield 29, 3) := by decide +kernel
theorem dX3_enter_102 : decode cX3_enter 102 = .ok (.return_, 1) := by decide +kernel
theorem dX3_kinds_0 : decode cX3_kinds 0 = .ok (.aload_n 0, 1) := by decide +kernel
theorem dX3_kinds_1 : decode cX3_kinds 1 = .ok (.getfield 29, 3) := by decide +kernel
theorem dX3_kinds_4 : decode cX3_kinds 4 = .ok (.ireturn, 1) := by decide +kernel
theorem dX4_init_0 : decode cX4_init 0 = .ok (.aload_n 0, 1) := by decide +kernel
theorem dX4_init_1 : decode cX4_init 1 = .ok (.invokespecial 3, 3) := by decide +kernel
theorem dX4_init_4 : decode cX4_init 4 = .ok (.aload_n 0, 1) := by decide +kernel
theorem dX4_init_5 : decode cX4_init 5 = .ok (.aload_n 1, 1) := by decide +kernel
theorem dX4_init_6 : decode cX4_init 6 = .ok (.putfield 9, 3) := by decide +kernel
theorem dX4_init_9 : decode cX4_init 9 = .ok (.aload_n 0, 1) := by decide +kernel
theorem dX4_init_10 : decode cX4_init 10 = .ok (.new 15, 3) := by decide +kernel
theorem dX4_init_13 : decode cX4_init 13 = .ok (.dup, 1) := by decide +kernel
theorem dX4_init_14 : decode cX4_init 14 = .ok (.invokespecial 17, 3) := by decide +kernel
theorem dX4_init_17 : decode cX4_init 17 = .ok (.putfield 18, 3) := by decide +kernel
theorem dX4_init_20 : decode cX4_init 20 = .ok (.aload_n 0, 1) := by decide +kernel
theorem dX4_init_21 : decode cX4_init 21 = .ok (.new 15, 3) := by decide +kernel
theorem dX4_init_24 : decode cX4_init 24 = .ok (.dup, 1) := by decide +kernel
theorem dX4_init_25 : decode cX4_init 25 = .ok (.invokespecial 17, 3) := by decide +kernel
theorem dX4_init_28 : decode cX4_init 28 = .ok (.putfield 22, 3) := by decide +kernel
theorem dX4_init_31 : decode cX4_init 31 = .ok (.aload_n 0, 1) := by decide +kernel
theorem dX4_init_32 : decode cX4_init 32 = .ok (.new 15, 3) := by decide +kernel
theorem dX4_init_35 : decode cX4_init 35 = .ok (.dup, 1) := by decide +kernel
theorem dX4_init_36 : decode cX4_init 36 = .ok (.invokespecial 17, 3) := by decide +kernel
theorem dX4_init_39 : decode cX4_init 39 = .ok (.putfield 25, 3) := by decide +kernel
theorem dX4_init_42 : decode cX4_init 42 = .ok (.aload_n 0, 1) := by decide +kernel
theorem dX4_init_43 : decode cX4_init 43 = .ok (.new 15, 3) := by decide +kernel
theorem dX4_init_46 : decode cX4_init 46 = .ok (.dup, 1) := by decide +kernel
theorem dX4_init_47 : decode cX4_init 47 = .ok (.invokespecial 17, 3) := by decide +kernel
theorem dX4_init_50 : decode cX4_init 50 = .ok (.putfield 28, 3) := by decide +kernel
theorem dX4_init_53 : decode cX4_init 53 = .ok (.aload_n 0, 1) := by decide +kernel
theorem dX4_init_54 : decode cX4_init 54 = .ok (.new 15, 3) := by decide +kernel
theorem dX4_init_57 : decode cX4_init 57 = .ok (.dup, 1) := by decide +kernel
theorem dX4_init_58 : decode cX4_init 58 = .ok (.invokespecial 17, 3) := by decide +kernel
theorem dX4_init_61 : decode cX4_init 61 = .ok (.putfield 31, 3) := by decide +kernel
theorem dX4_init_64 : decode cX4_init 64 = .ok (.aload_n 0, 1) := by decide +kernel
theorem dX4_init_65 : decode cX4_init 65 = .ok (.new 15, 3) := by decide +kernel
theorem dX4_init_68 : decode cX4_init 68 = .ok (.dup, 1) := by decide +kernel
theorem dX4_init_69 : decode cX4_init 69 = .ok (.invokespecial 17, 3) := by decide +kernel
theorem dX4_init_72 : decode cX4_init 72 = .ok (.putfield 34, 3) := by decide +kernel
theorem dX4_init_75 : decode cX4_init 75 = .ok (.aload_n 0, 1) := by decide +kernel
theorem dX4_init_76 : decode cX4_init 76 = .ok (.new 15, 3) := by decide +kernel
theorem dX4_init_79 : decode cX4_init 79 = .ok (.dup, 1) := by decide +kernel
theorem dX4_init_80 : decode cX4_init 80 = .ok (.invokespecial 17, 3) := by decide +kernel
theorem dX4_init_83 : decode cX4_init 83 = .ok (.putfield 37, 3) := by decide +kernel
theorem dX4_init_86 : decode cX4_init 86 = .ok (.aload_n 0, 1) := by decide +kernel
theorem dX4_init_87 : decode cX4_init 87 = .ok (.new 15, 3) := by decide +kernel
theorem dX4_init_90 : decode cX4_init 90 = .ok (.dup, 1) := by decide +kernel
theorem dX4_init_91 : decode cX4_init 91 = .ok (.invokespecial 17, 3) := by decide +kernel
theorem dX4_init_94 : decode cX4_init 94 = .ok (.putfield 40, 3) := by decide +kernel
theorem dX4_init_97 : decode cX4_init 97 = .ok (.aload_n 0, 1) := by decide +kernel
theorem dX4_init_98 : decode cX4_init 98 = .ok (.new 15, 3) := by decide +kernel
theorem dX4_init_101 : decode cX4_init 101 = .ok (.dup, 1) := by decide +kernel
theorem dX4_init_102 : decode cX4_init 102 = .ok (.invokespecial 17, 3) := by decide +kernel
theorem dX4_init_105 : decode cX4_init 105 = .ok (.putfield 43, 3) := by decide +kernel
theorem dX4_init_108 : decode cX4_init 108 = .ok (.aload_n 0, 1) := by decide +kernel
theorem dX4_init_109 : decode cX4_init 109 = .ok (.new 15, 3) := by decide +kernel
theorem dX4_init_112 : decode cX4_init 112 = .ok (.dup, 1) := by decide +kernel
theorem dX4_init_113 : decode cX4_init 113 = .ok (.invokespecial 17, 3) := by decide +kernel
theorem dX4_init_116 : decode cX4_init 116 = .ok (.putfield 46, 3) := by decide +kernel
theorem dX4_init_119 : decode cX4_init 119 = .ok (.aload_n 0, 1) := by decide +kernel
theorem dX4_init_120 : decode cX4_init 120 = .ok (.iconst 0, 1) := by decide +kernel
theorem dX4_init_121 : decode cX4_init 121 = .ok (.putfield 49, 3) := by decide +kernel
theorem dX4_init_124 : decode cX4_init 124 = .ok (.return_, 1) := by decide +kernel
theorem dX4_take_0 : decode cX4_take 0 = .ok (.aload_n 0, 1) := by decide +kernel
theorem dX4_take_1 : decode cX4_take 1 = .ok (.invokevirtual 53, 3) := by decide +kernel
theorem dX4_take_4 : decode cX4_take 4 = .ok (.aload_n 0, 1) := by decide +kernel
theorem dX4_take_5 : decode cX4_take 5 = .ok (.invokevirtual 56, 3) := by decide +kernel
theorem dX4_take_8 : decode cX4_take 8 = .ok (.aload_n 0, 1) := by decide +kernel
theorem dX4_take_9 : decode cX4_take 9 = .ok (.invokevirtual 59, 3) := by decide +kernel
theorem dX4_take_12 : decode cX4_take 12 = .ok (.aload_n 0, 1) := by decide +kernel
theorem dX4_take_13 : decode cX4_take 13 = .ok (.invokevirtual 62, 3) := by decide +kernel
theorem dX4_take_16 : decode cX4_take 16 = .ok (.return_, 1) := by decide +kernel
theorem dX4_linkChildren_0 : decode cX4_linkChildren 0 = .ok (.aload_n 0, 1) := by decide +kernel
theorem dX4_linkChildren_1 : decode cX4_linkChildren 1 = .ok (.getfield 18, 3) := by decide +kernel
theorem dX4_linkChildren_4 : decode cX4_linkChildren 4 = .ok (.iconst (-1), 1) := by decide +kernel
theorem dX4_linkChildren_5 : decode cX4_linkChildren 5 = .ok (.invokevirtual 65, 3) := by decide +kernel
theorem dX4_linkChildren_8 : decode cX4_linkChildren 8 = .ok (.aload_n 0, 1) := by decide +kernel
theorem dX4_linkChildren_9 : decode cX4_linkChildren 9 = .ok (.getfield 22, 3) := by decide +kernel
theorem dX4_linkChildren_12 : decode cX4_linkChildren 12 = .ok (.iconst (-1), 1) := by decide +kernel
theorem dX4_linkChildren_13 : decode cX4_linkChildren 13 = .ok (.invokevirtual 65, 3) := by decide +kernel
theorem dX4_linkChildren_16 : decode cX4_linkChildren 16 = .ok (.aload_n 0, 1) := by decide +kernel
theorem dX4_linkChildren_17 : decode cX4_linkChildren 17 = .ok (.getfield 34, 3) := by decide +kernel
theorem dX4_linkChildren_20 : decode cX4_linkChildren 20 = .ok (.iconst 0, 1) := by decide +kernel
theorem dX4_linkChildren_21 : decode cX4_linkChildren 21 = .ok (.invokevirtual 65, 3) := by decide +kernel
theorem dX4_linkChildren_24 : decode cX4_linkChildren 24 = .ok (.bipush 89, 2) := by decide +kernel
theorem dX4_linkChildren_26 : decode cX4_linkChildren 26 = .ok (.istore_n 1, 1) := by decide +kernel
theorem dX4_linkChildren_27 : decode cX4_linkChildren 27 = .ok (.iload_n 1, 1) := by decide +kernel
theorem dX4_linkChildren_28 : decode cX4_linkChildren 28 = .ok (.ifCond .le 72, 3) := by decide +kernel
theorem dX4_linkChildren_31 : decode cX4_linkChildren 31 = .ok (.aload_n 0, 1) := by decide +kernel
theorem dX4_linkChildren_32 : decode cX4_linkChildren 32 = .ok (.getfield 9, 3) := by decide +kernel
theorem dX4_linkChildren_35 : decode cX4_linkChildren 35 = .ok (.iload_n 1, 1) := by decide +kernel
theorem dX4_linkChildren_36 : decode cX4_linkChildren 36 = .ok (.invokevirtual 69, 3) := by decide +kernel
theorem dX4_linkChildren_39 : decode cX4_linkChildren 39 = .ok (.ifCond .eq 55, 3) := by decide +kernel
theorem dX4_linkChildren_42 : decode cX4_linkChildren 42 = .ok (.aload_n 0, 1) := by decide +kernel
theorem dX4_linkChildren_43 : decode cX4_linkChildren 43 = .ok (.getfield 9, 3) := by decide +kernel
theorem dX4_linkChildren_46 : decode cX4_linkChildren 46 = .ok (.iload_n 1, 1) := by decide +kernel
theorem dX4_linkChildren_47 : decode cX4_linkChildren 47 = .ok (.invokevirtual 75, 3) := by decide +kernel
theorem dX4_linkChildren_50 : decode cX4_linkChildren 50 = .ok (.istore_n 2, 1) := by decide +kernel
theorem dX4_linkChildren_51 : decode cX4_linkChildren 51 = .ok (.aload_n 0, 1) := by decide +kernel
theorem dX4_linkChildren_52 : decode cX4_linkChildren 52 = .ok (.getfield 22, 3) := by decide +kernel
theorem dX4_linkChildren_55 : decode cX4_linkChildren 55 = .ok (.iload_n 1, 1) := by decide +kernel
theorem dX4_linkChildren_56 : decode cX4_linkChildren 56 = .ok (.aload_n 0, 1) := by decide +kernel
theorem dX4_linkChildren_57 : decode cX4_linkChildren 57 = .ok (.getfield 18, 3) := by decide +kernel
theorem dX4_linkChildren_60 : decode cX4_linkChildren 60 = .ok (.iload_n 2, 1) := by decide +kernel
theorem dX4_linkChildren_61 : decode cX4_linkChildren 61 = .ok (.invokevirtual 79, 3) := by decide +kernel
theorem dX4_linkChildren_64 : decode cX4_linkChildren 64 = .ok (.invokevirtual 82, 3) := by decide +kernel
theorem dX4_linkChildren_67 : decode cX4_linkChildren 67 = .ok (.aload_n 0, 1) := by decide +kernel
theorem dX4_linkChildren_68 : decode cX4_linkChildren 68 = .ok (.getfield 18, 3) := by decide +kernel
theorem dX4_linkChildren_71 : decode cX4_linkChildren 71 = .ok (.iload_n 2, 1) := by decide +kernel
theorem dX4_linkChildren_72 : decode cX4_linkChildren 72 = .ok (.iload_n 1, 1) := by decide +kernel
theorem dX4_linkChildren_73 : decode cX4_linkChildren 73 = .ok (.invokevirtual 82, 3) := by decide +kernel
theorem dX4_linkChildren_76 : decode cX4_linkChildren 76 = .ok (.aload_n 0, 1) := by decide +kernel
theorem dX4_linkChildren_77 : decode cX4_linkChildren 77 = .ok (.getfield 34, 3) := by decide +kernel
theorem dX4_linkChildren_80 : decode cX4_linkChildren 80 = .ok (.iload_n 2, 1) := by decide +kernel
theorem dX4_linkChildren_81 : decode cX4_linkChildren 81 = .ok (.aload_n 0, 1) := by decide +kernel
theorem dX4_linkChildren_82 : decode cX4_linkChildren 82 = .ok (.getfield 34, 3) := by decide +kernel
theorem dX4_linkChildren_85 : decode cX4_linkChildren 85 = .ok (.iload_n 2, 1) := by decide +kernel
theorem dX4_linkChildren_86 : decode cX4_linkChildren 86 = .ok (.invokevirtual 79, 3) := by decide +kernel
theorem dX4_linkChildren_89 : decode cX4_linkChildren 89 = .ok (.iconst 1, 1) := by decide +kernel
theorem dX4_linkChildren_90 : decode cX4_linkChildren 90 = .ok (.iadd, 1) := by decide +kernel
theorem dX4_linkChildren_91 : decode cX4_linkChildren 91 = .ok (.invokevirtual 82, 3) := by decide +kernel
theorem dX4_linkChildren_94 : decode cX4_linkChildren 94 = .ok (.iinc 1 (-1), 3) := by decide +kernel
theorem dX4_linkChildren_97 : decode cX4_linkChildren 97 = .ok (.goto (-70), 3) := by decide +kernel
theorem dX4_linkChildren_100 : decode cX4_linkChildren 100 = .ok (.return_, 1) := by decide +kernel
theorem dX4_goDown_0 : decode cX4_goDown 0 = .ok (.aload_n 0, 1) := by decide +kernel
theorem dX4_goDown_1 : decode cX4_goDown 1 = .ok (.getfield 25, 3) := by decide +kernel
theorem dX4_goDown_4 : decode cX4_goDown 4 = .ok (.iconst 0, 1) := by decide +kernel
theorem dX4_goDown_5 : decode cX4_goDown 5 = .ok (.iconst 0, 1) := by decide +kernel
theorem dX4_goDown_6 : decode cX4_goDown 6 = .ok (.invokevirtual 82, 3) := by decide +kernel
theorem dX4_goDown_9 : decode cX4_goDown 9 = .ok (.aload_n 0, 1) := by decide +kernel
theorem dX4_goDown_10 : decode cX4_goDown 10 = .ok (.getfield 28, 3) := by decide +kernel
theorem dX4_goDown_13 : decode cX4_goDown 13 = .ok (.iconst 0, 1) := by decide +kernel
theorem dX4_goDown_14 : decode cX4_goDown 14 = .ok (.iconst 0, 1) := by decide +kernel
theorem dX4_goDown_15 : decode cX4_goDown 15 = .ok (.invokevirtual 82, 3) := by decide +kernel
theorem dX4_goDown_18 : decode cX4_goDown 18 = .ok (.aload_n 0, 1) := by decide +kernel
theorem dX4_goDown_19 : decode cX4_goDown 19 = .ok (.iconst 1, 1) := by decide +kernel
theorem dX4_goDown_20 : decode cX4_goDown 20 = .ok (.putfield 49, 3) := by decide +kernel
theorem dX4_goDown_23 : decode cX4_goDown 23 = .ok (.iconst 0, 1) := by decide +kernel
theorem dX4_goDown_24 : decode cX4_goDown 24 = .ok (.istore_n 1, 1) := by decide +kernel
theorem dX4_goDown_25 : decode cX4_goDown 25 = .ok (.iload_n 1, 1) := by decide +kernel
theorem dX4_goDown_26 : decode cX4_goDown 26 = .ok (.aload_n 0, 1) := by decide +kernel
theorem dX4_goDown_27 : decode cX4_goDown 27 = .ok (.getfield 49, 3) := by decide +kernel
theorem dX4_goDown_30 : decode cX4_goDown 30 = .ok (.if_icmp .ge 103, 3) := by decide +kernel
theorem dX4_goDown_33 : decode cX4_goDown 33 = .ok (.iload_n 1, 1) := by decide +kernel
theorem dX4_goDown_34 : decode cX4_goDown 34 = .ok (.bipush 90, 2) := by decide +kernel
theorem dX4_goDown_36 : decode cX4_goDown 36 = .ok (.if_icmp .ge 97, 3) := by decide +kernel
theorem dX4_goDown_39 : decode cX4_goDown 39 = .ok (.aload_n 0, 1) := by decide +kernel
theorem dX4_goDown_40 : decode cX4_goDown 40 = .ok (.getfield 25, 3) := by decide +kernel
theorem dX4_goDown_43 : decode cX4_goDown 43 = .ok (.iload_n 1, 1) := by decide +kernel
theorem dX4_goDown_44 : decode cX4_goDown 44 = .ok (.invokevirtual 79, 3) := by decide +kernel
theorem dX4_goDown_47 : decode cX4_goDown 47 = .ok (.istore_n 2, 1) := by decide +kernel
theorem dX4_goDown_48 : decode cX4_goDown 48 = .ok (.aload_n 0, 1) := by decide +kernel
theorem dX4_goDown_49 : decode cX4_goDown 49 = .ok (.getfield 18, 3) := by decide +kernel
theorem dX4_goDown_52 : decode cX4_goDown 52 = .ok (.iload_n 2, 1) := by decide +kernel
theorem dX4_goDown_53 : decode cX4_goDown 53 = .ok (.invokevirtual 79, 3) := by decide +kernel
theorem dX4_goDown_56 : decode cX4_goDown 56 = .ok (.istore_n 3, 1) := by decide +kernel
theorem dX4_goDown_57 : decode cX4_goDown 57 = .ok (.iconst 0, 1) := by decide +kernel
theorem dX4_goDown_58 : decode cX4_goDown 58 = .ok (.istore 4, 2) := by decide +kernel
theorem dX4_goDown_60 : decode cX4_goDown 60 = .ok (.iload 4, 2) := by decide +kernel
theorem dX4_goDown_62 : decode cX4_goDown 62 = .ok (.bipush 90, 2) := by decide +kernel
theorem dX4_goDown_64 : decode cX4_goDown 64 = .ok (.if_icmp .ge 63, 3) := by decide +kernel
theorem dX4_goDown_67 : decode cX4_goDown 67 = .ok (.iload_n 3, 1) := by decide +kernel
theorem dX4_goDown_68 : decode cX4_goDown 68 = .ok (.iconst (-1), 1) := by decide +kernel
theorem dX4_goDown_69 : decode cX4_goDown 69 = .ok (.if_icmp .eq 58, 3) := by decide +kernel
theorem dX4_goDown_72 : decode cX4_goDown 72 = .ok (.aload_n 0, 1) := by decide +kernel
theorem dX4_goDown_73 : decode cX4_goDown 73 = .ok (.getfield 25, 3) := by decide +kernel
theorem dX4_goDown_76 : decode cX4_goDown 76 = .ok (.aload_n 0, 1) := by decide +kernel
theorem dX4_goDown_77 : decode cX4_goDown 77 = .ok (.getfield 49, 3) := by decide +kernel
theorem dX4_goDown_80 : decode cX4_goDown 80 = .ok (.iload_n 3, 1) := by decide +kernel
theorem dX4_goDown_81 : decode cX4_goDown 81 = .ok (.invokevirtual 82, 3) := by decide +kernel
theorem dX4_goDown_84 : decode cX4_goDown 84 = .ok (.aload_n 0, 1) := by decide +kernel
theorem dX4_goDown_85 : decode cX4_goDown 85 = .ok (.dup, 1) := by decide +kernel
theorem dX4_goDown_86 : decode cX4_goDown 86 = .ok (.getfield 49, 3) := by decide +kernel
theorem dX4_goDown_89 : decode cX4_goDown 89 = .ok (.iconst 1, 1) := by decide +kernel
theorem dX4_goDown_90 : decode cX4_goDown 90 = .ok (.iadd, 1) := by decide +kernel
theorem dX4_goDown_91 : decode cX4_goDown 91 = .ok (.putfield 49, 3) := by decide +kernel
theorem dX4_goDown_94 : decode cX4_goDown 94 = .ok (.aload_n 0, 1) := by decide +kernel
theorem dX4_goDown_95 : decode cX4_goDown 95 = .ok (.getfield 28, 3) := by decide +kernel
theorem dX4_goDown_98 : decode cX4_goDown 98 = .ok (.iload_n 3, 1) := by decide +kernel
theorem dX4_goDown_99 : decode cX4_goDown 99 = .ok (.aload_n 0, 1) := by decide +kernel
theorem dX4_goDown_100 : decode cX4_goDown 100 = .ok (.getfield 28, 3) := by decide +kernel
theorem dX4_goDown_103 : decode cX4_goDown 103 = .ok (.iload_n 2, 1) := by decide +kernel
theorem dX4_goDown_104 : decode cX4_goDown 104 = .ok (.invokevirtual 79, 3) := by decide +kernel
theorem dX4_goDown_107 : decode cX4_goDown 107 = .ok (.iconst 1, 1) := by decide +kernel
theorem dX4_goDown_108 : decode cX4_goDown 108 = .ok (.iadd, 1) := by decide +kernel
theorem dX4_goDown_109 : decode cX4_goDown 109 = .ok (.invokevirtual 82, 3) := by decide +kernel
theorem dX4_goDown_112 : decode cX4_goDown 112 = .ok (.aload_n 0, 1) := by decide +kernel
theorem dX4_goDown_113 : decode cX4_goDown 113 = .ok (.getfield 22, 3) := by decide +kernel
theorem dX4_goDown_116 : decode cX4_goDown 116 = .ok (.iload_n 3, 1) := by decide +kernel
theorem dX4_goDown_117 : decode cX4_goDown 117 = .ok (.invokevirtual 79, 3) := by decide +kernel
theorem dX4_goDown_120 : decode cX4_goDown 120 = .ok (.istore_n 3, 1) := by decide +kernel
theorem dX4_goDown_121 : decode cX4_goDown 121 = .ok (.iinc 4 1, 3) := by decide +kernel
theorem dX4_goDown_124 : decode cX4_goDown 124 = .ok (.goto (-64), 3) := by decide +kernel
theorem dX4_goDown_127 : decode cX4_goDown 127 = .ok (.iinc 1 1, 3) := by decide +kernel
theorem dX4_goDown_130 : decode cX4_goDown 130 = .ok (.goto (-105), 3) := by decide +kernel
theorem dX4_goDown_133 : decode cX4_goDown 133 = .ok (.return_, 1) := by decide +kernel
theorem dX4_goUp_0 : decode cX4_goUp 0 = .ok (.aload_n 0, 1) := by decide +kernel
theorem dX4_goUp_1 : decode cX4_goUp 1 = .ok (.getfield 49, 3) := by decide +kernel
theorem dX4_goUp_4 : decode cX4_goUp 4 = .ok (.iconst 1, 1) := by decide +kernel
theorem dX4_goUp_5 : decode cX4_goUp 5 = .ok (.isub, 1) := by decide +kernel
theorem dX4_goUp_6 : decode cX4_goUp 6 = .ok (.istore_n 1, 1) := by decide +kernel
theorem dX4_goUp_7 : decode cX4_goUp 7 = .ok (.iload_n 1, 1) := by decide +kernel
theorem dX4_goUp_8 : decode cX4_goUp 8 = .ok (.ifCond .lt 21, 3) := by decide +kernel
theorem dX4_goUp_11 : decode cX4_goUp 11 = .ok (.aload_n 0, 1) := by decide +kernel
theorem dX4_goUp_12 : decode cX4_goUp 12 = .ok (.aload_n 0, 1) := by decide +kernel
theorem dX4_goUp_13 : decode cX4_goUp 13 = .ok (.getfield 25, 3) := by decide +kernel
theorem dX4_goUp_16 : decode cX4_goUp 16 = .ok (.iload_n 1, 1) := by decide +kernel
theorem dX4_goUp_17 : decode cX4_goUp 17 = .ok (.invokevirtual 79, 3) := by decide +kernel
theorem dX4_goUp_20 : decode cX4_goUp 20 = .ok (.invokevirtual 86, 3) := by decide +kernel
theorem dX4_goUp_23 : decode cX4_goUp 23 = .ok (.iinc 1 (-1), 3) := by decide +kernel
theorem dX4_goUp_26 : decode cX4_goUp 26 = .ok (.goto (-19), 3) := by decide +kernel
theorem dX4_goUp_29 : decode cX4_goUp 29 = .ok (.return_, 1) := by decide +kernel
theorem dX4_measure_0 : decode cX4_measure 0 = .ok (.iconst 1, 1) := by decide +kernel
theorem dX4_measure_1 : decode cX4_measure 1 = .ok (.istore_n 2, 1) := by decide +kernel
theorem dX4_measure_2 : decode cX4_measure 2 = .ok (.iconst 0, 1) := by decide +kernel
theorem dX4_measure_3 : decode cX4_measure 3 = .ok (.istore_n 3, 1) := by decide +kernel
theorem dX4_measure_4 : decode cX4_measure 4 = .ok (.iconst (-1), 1) := by decide +kernel
theorem dX4_measure_5 : decode cX4_measure 5 = .ok (.istore 4, 2) := by decide +kernel
theorem dX4_measure_7 : decode cX4_measure 7 = .ok (.aload_n 0, 1) := by decide +kernel
theorem dX4_measure_8 : decode cX4_measure 8 = .ok (.getfield 18, 3) := by decide +kernel
theorem dX4_measure_11 : decode cX4_measure 11 = .ok (.iload_n 1, 1) := by decide +kernel
theorem dX4_measure_12 : decode cX4_measure 12 = .ok (.invokevirtual 79, 3) := by decide +kernel
theorem dX4_measure_15 : decode cX4_measure 15 = .ok (.istore 5, 2) := by decide +kernel
theorem dX4_measure_17 : decode cX4_measure 17 = .ok (.iconst 0, 1) := by decide +kernel
theorem dX4_measure_18 : decode cX4_measure 18 = .ok (.istore 6, 2) := by decide +kernel
theorem dX4_measure_20 : decode cX4_measure 20 = .ok (.iload 6, 2) := by decide +kernel
theorem dX4_measure_22 : decode cX4_measure 22 = .ok (.bipush 90, 2) := by decide +kernel
theorem dX4_measure_24 : decode cX4_measure 24 = .ok (.if_icmp .ge 69, 3) := by decide +kernel
theorem dX4_measure_27 : decode cX4_measure 27 = .ok (.iload 5, 2) := by decide +kernel
theorem dX4_measure_29 : decode cX4_measure 29 = .ok (.iconst (-1), 1) := by decide +kernel
theorem dX4_measure_30 : decode cX4_measure 30 = .ok (.if_icmp .eq 63, 3) := by decide +kernel
theorem dX4_measure_33 : decode cX4_measure 33 = .ok (.iload_n 2, 1) := by decide +kernel
theorem dX4_measure_34 : decode cX4_measure 34 = .ok (.aload_n 0, 1) := by decide +kernel
theorem dX4_measure_35 : decode cX4_measure 35 = .ok (.getfield 37, 3) := by decide +kernel
theorem dX4_measure_38 : decode cX4_measure 38 = .ok (.iload 5, 2) := by decide +kernel
theorem dX4_measure_40 : decode cX4_measure 40 = .ok (.invokevirtual 79, 3) := by decide +kernel
theorem dX4_measure_43 : decode cX4_measure 43 = .ok (.iadd, 1) := by decide +kernel
theorem dX4_measure_44 : decode cX4_measure 44 = .ok (.istore_n 2, 1) := by decide +kernel
theorem dX4_measure_45 : decode cX4_measure 45 = .ok (.aload_n 0, 1) := by decide +kernel
theorem dX4_measure_46 : decode cX4_measure 46 = .ok (.getfield 31, 3) := by decide +kernel
theorem dX4_measure_49 : decode cX4_measure 49 = .ok (.iload 5, 2) := by decide +kernel
theorem dX4_measure_51 : decode cX4_measure 51 = .ok (.invokevirtual 79, 3) := by decide +kernel
theorem dX4_measure_54 : decode cX4_measure 54 = .ok (.iconst 1, 1) := by decide +kernel
theorem dX4_measure_55 : decode cX4_measure 55 = .ok (.iadd, 1) := by decide +kernel
theorem dX4_measure_56 : decode cX4_measure 56 = .ok (.iload_n 3, 1) := by decide +kernel
theorem dX4_measure_57 : decode cX4_measure 57 = .ok (.if_icmp .le 19, 3) := by decide +kernel
theorem dX4_measure_60 : decode cX4_measure 60 = .ok (.aload_n 0, 1) := by decide +kernel
theorem dX4_measure_61 : decode cX4_measure 61 = .ok (.getfield 31, 3) := by decide +kernel
theorem dX4_measure_64 : decode cX4_measure 64 = .ok (.iload 5, 2) := by decide +kernel
theorem dX4_measure_66 : decode cX4_measure 66 = .ok (.invokevirtual 79, 3) := by decide +kernel
theorem dX4_measure_69 : decode cX4_measure 69 = .ok (.iconst 1, 1) := by decide +kernel
theorem dX4_measure_70 : decode cX4_measure 70 = .ok (.iadd, 1) := by decide +kernel
theorem dX4_measure_71 : decode cX4_measure 71 = .ok (.istore_n 3, 1) := by decide +kernel
theorem dX4_measure_72 : decode cX4_measure 72 = .ok (.iload 5, 2) := by decide +kernel
theorem dX4_measure_74 : decode cX4_measure 74 = .ok (.istore 4, 2) := by decide +kernel
theorem dX4_measure_76 : decode cX4_measure 76 = .ok (.aload_n 0, 1) := by decide +kernel
theorem dX4_measure_77 : decode cX4_measure 77 = .ok (.getfield 22, 3) := by decide +kernel
theorem dX4_measure_80 : decode cX4_measure 80 = .ok (.iload 5, 2) := by decide +kernel
theorem dX4_measure_82 : decode cX4_measure 82 = .ok (.invokevirtual 79, 3) := by decide +kernel
theorem dX4_measure_85 : decode cX4_measure 85 = .ok (.istore 5, 2) := by decide +kernel
theorem dX4_measure_87 : decode cX4_measure 87 = .ok (.iinc 6 1, 3) := by decide +kernel
theorem dX4_measure_90 : decode cX4_measure 90 = .ok (.goto (-70), 3) := by decide +kernel
theorem dX4_measure_93 : decode cX4_measure 93 = .ok (.aload_n 0, 1) := by decide +kernel
theorem dX4_measure_94 : decode cX4_measure 94 = .ok (.getfield 37, 3) := by decide +kernel
theorem dX4_measure_97 : decode cX4_measure 97 = .ok (.iload_n 1, 1) := by decide +kernel
theorem dX4_measure_98 : decode cX4_measure 98 = .ok (.iload_n 2, 1) := by decide +kernel
theorem dX4_measure_99 : decode cX4_measure 99 = .ok (.invokevirtual 82, 3) := by decide +kernel
theorem dX4_measure_102 : decode cX4_measure 102 = .ok (.aload_n 0, 1) := by decide +kernel
theorem dX4_measure_103 : decode cX4_measure 103 = .ok (.getfield 31, 3) := by decide +kernel
theorem dX4_measure_106 : decode cX4_measure 106 = .ok (.iload_n 1, 1) := by decide +kernel
theorem dX4_measure_107 : decode cX4_measure 107 = .ok (.iload_n 3, 1) := by decide +kernel
theorem dX4_measure_108 : decode cX4_measure 108 = .ok (.invokevirtual 82, 3) := by decide +kernel
theorem dX4_measure_111 : decode cX4_measure 111 = .ok (.aload_n 0, 1) := by decide +kernel
theorem dX4_measure_112 : decode cX4_measure 112 = .ok (.getfield 40, 3) := by decide +kernel
theorem dX4_measure_115 : decode cX4_measure 115 = .ok (.iload_n 1, 1) := by decide +kernel
theorem dX4_measure_116 : decode cX4_measure 116 = .ok (.iload 4, 2) := by decide +kernel
theorem dX4_measure_118 : decode cX4_measure 118 = .ok (.invokevirtual 82, 3) := by decide +kernel
theorem dX4_measure_121 : decode cX4_measure 121 = .ok (.aload_n 0, 1) := by decide +kernel
theorem dX4_measure_122 : decode cX4_measure 122 = .ok (.getfield 46, 3) := by decide +kernel
theorem dX4_measure_125 : decode cX4_measure 125 = .ok (.iload_n 1, 1) := by decide +kernel
theorem dX4_measure_126 : decode cX4_measure 126 = .ok (.iload 4, 2) := by decide +kernel
theorem dX4_measure_128 : decode cX4_measure 128 = .ok (.iconst (-1), 1) := by decide +kernel
theorem dX4_measure_129 : decode cX4_measure 129 = .ok (.if_icmp .ne 7, 3) := by decide +kernel
theorem dX4_measure_132 : decode cX4_measure 132 = .ok (.iload_n 1, 1) := by decide +kernel
theorem dX4_measure_133 : decode cX4_measure 133 = .ok (.goto 12, 3) := by decide +kernel
theorem dX4_measure_136 : decode cX4_measure 136 = .ok (.aload_n 0, 1) := by decide +kernel
theorem dX4_measure_137 : decode cX4_measure 137 = .ok (.getfield 46, 3) := by decide +kernel
theorem dX4_measure_140 : decode cX4_measure 140 = .ok (.iload 4, 2) := by decide +kernel
theorem dX4_measure_142 : decode cX4_measure 142 = .ok (.invokevirtual 79, 3) := by decide +kernel
theorem dX4_measure_145 : decode cX4_measure 145 = .ok (.invokevirtual 82, 3) := by decide +kernel
theorem dX4_measure_148 : decode cX4_measure 148 = .ok (.return_, 1) := by decide +kernel
theorem dX4_findTops_0 : decode cX4_findTops 0 = .ok (.iconst 0, 1) := by decide +kernel
theorem dX4_findTops_1 : decode cX4_findTops 1 = .ok (.istore_n 1, 1) := by decide +kernel
theorem dX4_findTops_2 : decode cX4_findTops 2 = .ok (.iload_n 1, 1) := by decide +kernel
theorem dX4_findTops_3 : decode cX4_findTops 3 = .ok (.aload_n 0, 1) := by decide +kernel
theorem dX4_findTops_4 : decode cX4_findTops 4 = .ok (.getfield 49, 3) := by decide +kernel
theorem dX4_findTops_7 : decode cX4_findTops 7 = .ok (.if_icmp .ge 81, 3) := by decide +kernel
theorem dX4_findTops_10 : decode cX4_findTops 10 = .ok (.iload_n 1, 1) := by decide +kernel
theorem dX4_findTops_11 : decode cX4_findTops 11 = .ok (.bipush 90, 2) := by decide +kernel
theorem dX4_findTops_13 : decode cX4_findTops 13 = .ok (.if_icmp .ge 75, 3) := by decide +kernel
theorem dX4_findTops_16 : decode cX4_findTops 16 = .ok (.aload_n 0, 1) := by decide +kernel
theorem dX4_findTops_17 : decode cX4_findTops 17 = .ok (.getfield 25, 3) := by decide +kernel
theorem dX4_findTops_20 : decode cX4_findTops 20 = .ok (.iload_n 1, 1) := by decide +kernel
theorem dX4_findTops_21 : decode cX4_findTops 21 = .ok (.invokevirtual 79, 3) := by decide +kernel
theorem dX4_findTops_24 : decode cX4_findTops 24 = .ok (.istore_n 2, 1) := by decide +kernel
theorem dX4_findTops_25 : decode cX4_findTops 25 = .ok (.aload_n 0, 1) := by decide +kernel
theorem dX4_findTops_26 : decode cX4_findTops 26 = .ok (.getfield 9, 3) := by decide +kernel
theorem dX4_findTops_29 : decode cX4_findTops 29 = .ok (.iload_n 2, 1) := by decide +kernel
theorem dX4_findTops_30 : decode cX4_findTops 30 = .ok (.invokevirtual 75, 3) := by decide +kernel
theorem dX4_findTops_33 : decode cX4_findTops 33 = .ok (.istore_n 3, 1) := by decide +kernel
theorem dX4_findTops_34 : decode cX4_findTops 34 = .ok (.iload_n 2, 1) := by decide +kernel
theorem dX4_findTops_35 : decode cX4_findTops 35 = .ok (.ifCond .eq 19, 3) := by decide +kernel
theorem dX4_findTops_38 : decode cX4_findTops 38 = .ok (.aload_n 0, 1) := by decide +kernel
theorem dX4_findTops_39 : decode cX4_findTops 39 = .ok (.getfield 40, 3) := by decide +kernel
theorem dX4_findTops_42 : decode cX4_findTops 42 = .ok (.iload_n 3, 1) := by decide +kernel
theorem dX4_findTops_43 : decode cX4_findTops 43 = .ok (.invokevirtual 79, 3) := by decide +kernel
theorem dX4_findTops_46 : decode cX4_findTops 46 = .ok (.iload_n 2, 1) := by decide +kernel
theorem dX4_findTops_47 : decode cX4_findTops 47 = .ok (.if_icmp .ne 7, 3) := by decide +kernel
theorem dX4_findTops_50 : decode cX4_findTops 50 = .ok (.iconst 1, 1) := by decide +kernel
theorem dX4_findTops_51 : decode cX4_findTops 51 = .ok (.goto 4, 3) := by decide +kernel
theorem dX4_findTops_54 : decode cX4_findTops 54 = .ok (.iconst 0, 1) := by decide +kernel
theorem dX4_findTops_55 : decode cX4_findTops 55 = .ok (.istore 4, 2) := by decide +kernel
theorem dX4_findTops_57 : decode cX4_findTops 57 = .ok (.aload_n 0, 1) := by decide +kernel
theorem dX4_findTops_58 : decode cX4_findTops 58 = .ok (.getfield 43, 3) := by decide +kernel
theorem dX4_findTops_61 : decode cX4_findTops 61 = .ok (.iload_n 2, 1) := by decide +kernel
theorem dX4_findTops_62 : decode cX4_findTops 62 = .ok (.iload 4, 2) := by decide +kernel
theorem dX4_findTops_64 : decode cX4_findTops 64 = .ok (.ifCond .eq 14, 3) := by decide +kernel
theorem dX4_findTops_67 : decode cX4_findTops 67 = .ok (.aload_n 0, 1) := by decide +kernel
theorem dX4_findTops_68 : decode cX4_findTops 68 = .ok (.getfield 43, 3) := by decide +kernel
theorem dX4_findTops_71 : decode cX4_findTops 71 = .ok (.iload_n 3, 1) := by decide +kernel
theorem dX4_findTops_72 : decode cX4_findTops 72 = .ok (.invokevirtual 79, 3) := by decide +kernel
theorem dX4_findTops_75 : decode cX4_findTops 75 = .ok (.goto 4, 3) := by decide +kernel
theorem dX4_findTops_78 : decode cX4_findTops 78 = .ok (.iload_n 2, 1) := by decide +kernel
theorem dX4_findTops_79 : decode cX4_findTops 79 = .ok (.invokevirtual 82, 3) := by decide +kernel
theorem dX4_findTops_82 : decode cX4_findTops 82 = .ok (.iinc 1 1, 3) := by decide +kernel
theorem dX4_findTops_85 : decode cX4_findTops 85 = .ok (.goto (-83), 3) := by decide +kernel
theorem dX4_findTops_88 : decode cX4_findTops 88 = .ok (.return_, 1) := by decide +kernel
theorem dX4_present_0 : decode cX4_present 0 = .ok (.aload_n 0, 1) := by decide +kernel
theorem dX4_present_1 : decode cX4_present 1 = .ok (.getfield 49, 3) := by decide +kernel
theorem dX4_present_4 : decode cX4_present 4 = .ok (.ireturn, 1) := by decide +kernel
theorem dX4_downwardAt_0 : decode cX4_downwardAt 0 = .ok (.aload_n 0, 1) := by decide +kernel
theorem dX4_downwardAt_1 : decode cX4_downwardAt 1 = .ok (.getfield 25, 3) := by decide +kernel
theorem dX4_downwardAt_4 : decode cX4_downwardAt 4 = .ok (.iload_n 1, 1) := by decide +kernel
theorem dX4_downwardAt_5 : decode cX4_downwardAt 5 = .ok (.invokevirtual 79, 3) := by decide +kernel
theorem dX4_downwardAt_8 : decode cX4_downwardAt 8 = .ok (.ireturn, 1) := by decide +kernel
theorem dX4_firstChildOf_0 : decode cX4_firstChildOf 0 = .ok (.aload_n 0, 1) := by decide +kernel
theorem dX4_firstChildOf_1 : decode cX4_firstChildOf 1 = .ok (.getfield 18, 3) := by decide +kernel
theorem dX4_firstChildOf_4 : decode cX4_firstChildOf 4 = .ok (.iload_n 1, 1) := by decide +kernel
theorem dX4_firstChildOf_5 : decode cX4_firstChildOf 5 = .ok (.invokevirtual 79, 3) := by decide +kernel
theorem dX4_firstChildOf_8 : decode cX4_firstChildOf 8 = .ok (.ireturn, 1) := by decide +kernel
theorem dX4_nextChildOf_0 : decode cX4_nextChildOf 0 = .ok (.aload_n 0, 1) := by decide +kernel
theorem dX4_nextChildOf_1 : decode cX4_nextChildOf 1 = .ok (.getfield 22, 3) := by decide +kernel
theorem dX4_nextChildOf_4 : decode cX4_nextChildOf 4 = .ok (.iload_n 1, 1) := by decide +kernel
theorem dX4_nextChildOf_5 : decode cX4_nextChildOf 5 = .ok (.invokevirtual 79, 3) := by decide +kernel
theorem dX4_nextChildOf_8 : decode cX4_nextChildOf 8 = .ok (.ireturn, 1) := by decide +kernel
theorem dX4_depthOf_0 : decode cX4_depthOf 0 = .ok (.aload_n 0, 1) := by decide +kernel
theorem dX4_depthOf_1 : decode cX4_depthOf 1 = .ok (.getfield 28, 3) := by decide +kernel
theorem dX4_depthOf_4 : decode cX4_depthOf 4 = .ok (.iload_n 1, 1) := by decide +kernel
theorem dX4_depthOf_5 : decode cX4_depthOf 5 = .ok (.invokevirtual 79, 3) := by decide +kernel
theorem dX4_depthOf_8 : decode cX4_depthOf 8 = .ok (.ireturn, 1) := by decide +kernel
theorem dX4_heightOf_0 : decode cX4_heightOf 0 = .ok (.aload_n 0, 1) := by decide +kernel
theorem dX4_heightOf_1 : decode cX4_heightOf 1 = .ok (.getfield 31, 3) := by decide +kernel
theorem dX4_heightOf_4 : decode cX4_heightOf 4 = .ok (.iload_n 1, 1) := by decide +kernel
theorem dX4_heightOf_5 : decode cX4_heightOf 5 = .ok (.invokevirtual 79, 3) := by decide +kernel
theorem dX4_heightOf_8 : decode cX4_heightOf 8 = .ok (.ireturn, 1) := by decide +kernel
theorem dX4_childrenOf_0 : decode cX4_childrenOf 0 = .ok (.aload_n 0, 1) := by decide +kernel
theorem dX4_childrenOf_1 : decode cX4_childrenOf 1 = .ok (.getfield 34, 3) := by decide +kernel
theorem dX4_childrenOf_4 : decode cX4_childrenOf 4 = .ok (.iload_n 1, 1) := by decide +kernel
theorem dX4_childrenOf_5 : decode cX4_childrenOf 5 = .ok (.invokevirtual 79, 3) := by decide +kernel
theorem dX4_childrenOf_8 : decode cX4_childrenOf 8 = .ok (.ireturn, 1) := by decide +kernel
theorem dX4_sizeOf_0 : decode cX4_sizeOf 0 = .ok (.aload_n 0, 1) := by decide +kernel
theorem dX4_sizeOf_1 : decode cX4_sizeOf 1 = .ok (.getfield 37, 3) := by decide +kernel
theorem dX4_sizeOf_4 : decode cX4_sizeOf 4 = .ok (.iload_n 1, 1) := by decide +kernel
theorem dX4_sizeOf_5 : decode cX4_sizeOf 5 = .ok (.invokevirtual 79, 3) := by decide +kernel
theorem dX4_sizeOf_8 : decode cX4_sizeOf 8 = .ok (.ireturn, 1) := by decide +kernel
theorem dX4_longChildOf_0 : decode cX4_longChildOf 0 = .ok (.aload_n 0, 1) := by decide +kernel
theorem dX4_longChildOf_1 : decode cX4_longChildOf 1 = .ok (.getfield 40, 3) := by decide +kernel
theorem dX4_longChildOf_4 : decode cX4_longChildOf 4 = .ok (.iload_n 1, 1) := by decide +kernel
theorem dX4_longChildOf_5 : decode cX4_longChildOf 5 = .ok (.invokevirtual 79, 3) := by decide +kernel
theorem dX4_longChildOf_8 : decode cX4_longChildOf 8 = .ok (.ireturn, 1) := by decide +kernel
theorem dX4_topOf_0 : decode cX4_topOf 0 = .ok (.aload_n 0, 1) := by decide +kernel
theorem dX4_topOf_1 : decode cX4_topOf 1 = .ok (.getfield 43, 3) := by decide +kernel
theorem dX4_topOf_4 : decode cX4_topOf 4 = .ok (.iload_n 1, 1) := by decide +kernel
theorem dX4_topOf_5 : decode cX4_topOf 5 = .ok (.invokevirtual 79, 3) := by decide +kernel
theorem dX4_topOf_8 : decode cX4_topOf 8 = .ok (.ireturn, 1) := by decide +kernel
theorem dX4_footOf_0 : decode cX4_footOf 0 = .ok (.aload_n 0, 1) := by decide +kernel
theorem dX4_footOf_1 : decode cX4_footOf 1 = .ok (.getfield 46, 3) := by decide +kernel
theorem dX4_footOf_4 : decode cX4_footOf 4 = .ok (.iload_n 1, 1) := by decide +kernel
theorem dX4_footOf_5 : decode cX4_footOf 5 = .ok (.invokevirtual 79, 3) := by decide +kernel
theorem dX4_footOf_8 : decode cX4_footOf 8 = .ok (.ireturn, 1) := by decide +kernel
theorem dX4_isLeaf_0 : decode cX4_isLeaf 0 = .ok (.aload_n 0, 1) := by decide +kernel
theorem dX4_isLeaf_1 : decode cX4_isLeaf 1 = .ok (.getfield 34, 3) := by decide +kernel
theorem dX4_isLeaf_4 : decode cX4_isLeaf 4 = .ok (.iload_n 1, 1) := by decide +kernel
theorem dX4_isLeaf_5 : decode cX4_isLeaf 5 = .ok (.invokevirtual 79, 3) := by decide +kernel
theorem dX4_isLeaf_8 : decode cX4_isLeaf 8 = .ok (.ifCond .ne 7, 3) := by decide +kernel
theorem dX4_isLeaf_11 : decode cX4_isLeaf 11 = .ok (.iconst 1, 1) := by decide +kernel
theorem dX4_isLeaf_12 : decode cX4_isLeaf 12 = .ok (.goto 4, 3) := by decide +kernel
theorem dX4_isLeaf_15 : decode cX4_isLeaf 15 = .ok (.iconst 0, 1) := by decide +kernel
theorem dX4_isLeaf_16 : decode cX4_isLeaf 16 = .ok (.ireturn, 1) := by decide +kernel
theorem dX4_longWayOf_0 : decode cX4_longWayOf 0 = .ok (.aload_n 0, 1) := by decide +kernel
theorem dX4_longWayOf_1 : decode cX4_longWayOf 1 = .ok (.getfield 31, 3) := by decide +kernel
theorem dX4_longWayOf_4 : decode cX4_longWayOf 4 = .ok (.aload_n 0, 1) := by decide +kernel
theorem dX4_longWayOf_5 : decode cX4_longWayOf 5 = .ok (.getfield 43, 3) := by decide +kernel
theorem dX4_longWayOf_8 : decode cX4_longWayOf 8 = .ok (.iload_n 1, 1) := by decide +kernel
theorem dX4_longWayOf_9 : decode cX4_longWayOf 9 = .ok (.invokevirtual 79, 3) := by decide +kernel
theorem dX4_longWayOf_12 : decode cX4_longWayOf 12 = .ok (.invokevirtual 79, 3) := by decide +kernel
theorem dX4_longWayOf_15 : decode cX4_longWayOf 15 = .ok (.iconst 1, 1) := by decide +kernel
theorem dX4_longWayOf_16 : decode cX4_longWayOf 16 = .ok (.iadd, 1) := by decide +kernel
theorem dX4_longWayOf_17 : decode cX4_longWayOf 17 = .ok (.ireturn, 1) := by decide +kernel
theorem dX4_ladderOf_0 : decode cX4_ladderOf 0 = .ok (.aload_n 0, 1) := by decide +kernel
theorem dX4_ladderOf_1 : decode cX4_ladderOf 1 = .ok (.iload_n 1, 1) := by decide +kernel
theorem dX4_ladderOf_2 : decode cX4_ladderOf 2 = .ok (.invokevirtual 89, 3) := by decide +kernel
theorem dX4_ladderOf_5 : decode cX4_ladderOf 5 = .ok (.aload_n 0, 1) := by decide +kernel
theorem dX4_ladderOf_6 : decode cX4_ladderOf 6 = .ok (.iload_n 1, 1) := by decide +kernel
theorem dX4_ladderOf_7 : decode cX4_ladderOf 7 = .ok (.invokevirtual 89, 3) := by decide +kernel
theorem dX4_ladderOf_10 : decode cX4_ladderOf 10 = .ok (.aload_n 0, 1) := by decide +kernel
theorem dX4_ladderOf_11 : decode cX4_ladderOf 11 = .ok (.getfield 28, 3) := by decide +kernel
theorem dX4_ladderOf_14 : decode cX4_ladderOf 14 = .ok (.aload_n 0, 1) := by decide +kernel
theorem dX4_ladderOf_15 : decode cX4_ladderOf 15 = .ok (.getfield 43, 3) := by decide +kernel
theorem dX4_ladderOf_18 : decode cX4_ladderOf 18 = .ok (.iload_n 1, 1) := by decide +kernel
theorem dX4_ladderOf_19 : decode cX4_ladderOf 19 = .ok (.invokevirtual 79, 3) := by decide +kernel
theorem dX4_ladderOf_22 : decode cX4_ladderOf 22 = .ok (.invokevirtual 79, 3) := by decide +kernel
theorem dX4_ladderOf_25 : decode cX4_ladderOf 25 = .ok (.invokestatic 92, 3) := by decide +kernel
theorem dX4_ladderOf_28 : decode cX4_ladderOf 28 = .ok (.iadd, 1) := by decide +kernel
theorem dX4_ladderOf_29 : decode cX4_ladderOf 29 = .ok (.ireturn, 1) := by decide +kernel
theorem dX4_climb_0 : decode cX4_climb 0 = .ok (.iload_n 1, 1) := by decide +kernel
theorem dX4_climb_1 : decode cX4_climb 1 = .ok (.istore_n 3, 1) := by decide +kernel
theorem dX4_climb_2 : decode cX4_climb 2 = .ok (.iconst 0, 1) := by decide +kernel
theorem dX4_climb_3 : decode cX4_climb 3 = .ok (.istore 4, 2) := by decide +kernel
theorem dX4_climb_5 : decode cX4_climb 5 = .ok (.iload 4, 2) := by decide +kernel
theorem dX4_climb_7 : decode cX4_climb 7 = .ok (.iload_n 2, 1) := by decide +kernel
theorem dX4_climb_8 : decode cX4_climb 8 = .ok (.if_icmp .ge 23, 3) := by decide +kernel
theorem dX4_climb_11 : decode cX4_climb 11 = .ok (.iload_n 3, 1) := by decide +kernel
theorem dX4_climb_12 : decode cX4_climb 12 = .ok (.iconst (-1), 1) := by decide +kernel
theorem dX4_climb_13 : decode cX4_climb 13 = .ok (.if_icmp .eq 18, 3) := by decide +kernel
theorem dX4_climb_16 : decode cX4_climb 16 = .ok (.aload_n 0, 1) := by decide +kernel
theorem dX4_climb_17 : decode cX4_climb 17 = .ok (.getfield 9, 3) := by decide +kernel
theorem dX4_climb_20 : decode cX4_climb 20 = .ok (.iload_n 3, 1) := by decide +kernel
theorem dX4_climb_21 : decode cX4_climb 21 = .ok (.invokevirtual 75, 3) := by decide +kernel
theorem dX4_climb_24 : decode cX4_climb 24 = .ok (.istore_n 3, 1) := by decide +kernel
theorem dX4_climb_25 : decode cX4_climb 25 = .ok (.iinc 4 1, 3) := by decide +kernel
theorem dX4_climb_28 : decode cX4_climb 28 = .ok (.goto (-23), 3) := by decide +kernel
theorem dX4_climb_31 : decode cX4_climb 31 = .ok (.iload_n 3, 1) := by decide +kernel
theorem dX4_climb_32 : decode cX4_climb 32 = .ok (.ireturn, 1) := by decide +kernel
theorem dX4_isInBranch_0 : decode cX4_isInBranch 0 = .ok (.aload_n 0, 1) := by decide +kernel
theorem dX4_isInBranch_1 : decode cX4_isInBranch 1 = .ok (.getfield 28, 3) := by decide +kernel
theorem dX4_isInBranch_4 : decode cX4_isInBranch 4 = .ok (.iload_n 1, 1) := by decide +kernel
theorem dX4_isInBranch_5 : decode cX4_isInBranch 5 = .ok (.invokevirtual 79, 3) := by decide +kernel
theorem dX4_isInBranch_8 : decode cX4_isInBranch 8 = .ok (.aload_n 0, 1) := by decide +kernel
theorem dX4_isInBranch_9 : decode cX4_isInBranch 9 = .ok (.getfield 28, 3) := by decide +kernel
theorem dX4_isInBranch_12 : decode cX4_isInBranch 12 = .ok (.iload_n 2, 1) := by decide +kernel
theorem dX4_isInBranch_13 : decode cX4_isInBranch 13 = .ok (.invokevirtual 79, 3) := by decide +kernel
theorem dX4_isInBranch_16 : decode cX4_isInBranch 16 = .ok (.isub, 1) := by decide +kernel
theorem dX4_isInBranch_17 : decode cX4_isInBranch 17 = .ok (.istore_n 3, 1) := by decide +kernel
theorem dX4_isInBranch_18 : decode cX4_isInBranch 18 = .ok (.iload_n 3, 1) := by decide +kernel
theorem dX4_isInBranch_19 : decode cX4_isInBranch 19 = .ok (.ifCond .lt 17, 3) := by decide +kernel
theorem dX4_isInBranch_22 : decode cX4_isInBranch 22 = .ok (.aload_n 0, 1) := by decide +kernel
theorem dX4_isInBranch_23 : decode cX4_isInBranch 23 = .ok (.iload_n 1, 1) := by decide +kernel
theorem dX4_isInBranch_24 : decode cX4_isInBranch 24 = .ok (.iload_n 3, 1) := by decide +kernel
theorem dX4_isInBranch_25 : decode cX4_isInBranch 25 = .ok (.invokevirtual 98, 3) := by decide +kernel
theorem dX4_isInBranch_28 : decode cX4_isInBranch 28 = .ok (.iload_n 2, 1) := by decide +kernel
theorem dX4_isInBranch_29 : decode cX4_isInBranch 29 = .ok (.if_icmp .ne 7, 3) := by decide +kernel
theorem dX4_isInBranch_32 : decode cX4_isInBranch 32 = .ok (.iconst 1, 1) := by decide +kernel
theorem dX4_isInBranch_33 : decode cX4_isInBranch 33 = .ok (.goto 4, 3) := by decide +kernel
theorem dX4_isInBranch_36 : decode cX4_isInBranch 36 = .ok (.iconst 0, 1) := by decide +kernel
theorem dX4_isInBranch_37 : decode cX4_isInBranch 37 = .ok (.ireturn, 1) := by decide +kernel
theorem dX4_meetingOf_0 : decode cX4_meetingOf 0 = .ok (.aload_n 0, 1) := by decide +kernel
theorem dX4_meetingOf_1 : decode cX4_meetingOf 1 = .ok (.iload_n 1, 1) := by decide +kernel
theorem dX4_meetingOf_2 : decode cX4_meetingOf 2 = .ok (.aload_n 0, 1) := by decide +kernel
theorem dX4_meetingOf_3 : decode cX4_meetingOf 3 = .ok (.getfield 28, 3) := by decide +kernel
theorem dX4_meetingOf_6 : decode cX4_meetingOf 6 = .ok (.iload_n 1, 1) := by decide +kernel
theorem dX4_meetingOf_7 : decode cX4_meetingOf 7 = .ok (.invokevirtual 79, 3) := by decide +kernel
theorem dX4_meetingOf_10 : decode cX4_meetingOf 10 = .ok (.aload_n 0, 1) := by decide +kernel
theorem dX4_meetingOf_11 : decode cX4_meetingOf 11 = .ok (.getfield 28, 3) := by decide +kernel
theorem dX4_meetingOf_14 : decode cX4_meetingOf 14 = .ok (.iload_n 2, 1) := by decide +kernel
theorem dX4_meetingOf_15 : decode cX4_meetingOf 15 = .ok (.invokevirtual 79, 3) := by decide +kernel
theorem dX4_meetingOf_18 : decode cX4_meetingOf 18 = .ok (.isub, 1) := by decide +kernel
theorem dX4_meetingOf_19 : decode cX4_meetingOf 19 = .ok (.invokevirtual 98, 3) := by decide +kernel
theorem dX4_meetingOf_22 : decode cX4_meetingOf 22 = .ok (.istore_n 3, 1) := by decide +kernel
theorem dX4_meetingOf_23 : decode cX4_meetingOf 23 = .ok (.aload_n 0, 1) := by decide +kernel
theorem dX4_meetingOf_24 : decode cX4_meetingOf 24 = .ok (.iload_n 2, 1) := by decide +kernel
theorem dX4_meetingOf_25 : decode cX4_meetingOf 25 = .ok (.aload_n 0, 1) := by decide +kernel
theorem dX4_meetingOf_26 : decode cX4_meetingOf 26 = .ok (.getfield 28, 3) := by decide +kernel
theorem dX4_meetingOf_29 : decode cX4_meetingOf 29 = .ok (.iload_n 2, 1) := by decide +kernel
theorem dX4_meetingOf_30 : decode cX4_meetingOf 30 = .ok (.invokevirtual 79, 3) := by decide +kernel
theorem dX4_meetingOf_33 : decode cX4_meetingOf 33 = .ok (.aload_n 0, 1) := by decide +kernel
theorem dX4_meetingOf_34 : decode cX4_meetingOf 34 = .ok (.getfield 28, 3) := by decide +kernel
theorem dX4_meetingOf_37 : decode cX4_meetingOf 37 = .ok (.iload_n 1, 1) := by decide +kernel
theorem dX4_meetingOf_38 : decode cX4_meetingOf 38 = .ok (.invokevirtual 79, 3) := by decide +kernel
theorem dX4_meetingOf_41 : decode cX4_meetingOf 41 = .ok (.isub, 1) := by decide +kernel
theorem dX4_meetingOf_42 : decode cX4_meetingOf 42 = .ok (.invokevirtual 98, 3) := by decide +kernel
theorem dX4_meetingOf_45 : decode cX4_meetingOf 45 = .ok (.istore 4, 2) := by decide +kernel
theorem dX4_meetingOf_47 : decode cX4_meetingOf 47 = .ok (.iconst 0, 1) := by decide +kernel
theorem dX4_meetingOf_48 : decode cX4_meetingOf 48 = .ok (.istore 5, 2) := by decide +kernel
theorem dX4_meetingOf_50 : decode cX4_meetingOf 50 = .ok (.iload 5, 2) := by decide +kernel
theorem dX4_meetingOf_52 : decode cX4_meetingOf 52 = .ok (.bipush 90, 2) := by decide +kernel
theorem dX4_meetingOf_54 : decode cX4_meetingOf 54 = .ok (.if_icmp .ge 35, 3) := by decide +kernel
theorem dX4_meetingOf_57 : decode cX4_meetingOf 57 = .ok (.iload_n 3, 1) := by decide +kernel
theorem dX4_meetingOf_58 : decode cX4_meetingOf 58 = .ok (.iload 4, 2) := by decide +kernel
theorem dX4_meetingOf_60 : decode cX4_meetingOf 60 = .ok (.if_icmp .eq 29, 3) := by decide +kernel
theorem dX4_meetingOf_63 : decode cX4_meetingOf 63 = .ok (.aload_n 0, 1) := by decide +kernel
theorem dX4_meetingOf_64 : decode cX4_meetingOf 64 = .ok (.getfield 9, 3) := by decide +kernel
theorem dX4_meetingOf_67 : decode cX4_meetingOf 67 = .ok (.iload_n 3, 1) := by decide +kernel
theorem dX4_meetingOf_68 : decode cX4_meetingOf 68 = .ok (.invokevirtual 75, 3) := by decide +kernel
theorem dX4_meetingOf_71 : decode cX4_meetingOf 71 = .ok (.istore_n 3, 1) := by decide +kernel
theorem dX4_meetingOf_72 : decode cX4_meetingOf 72 = .ok (.aload_n 0, 1) := by decide +kernel
theorem dX4_meetingOf_73 : decode cX4_meetingOf 73 = .ok (.getfield 9, 3) := by decide +kernel
theorem dX4_meetingOf_76 : decode cX4_meetingOf 76 = .ok (.iload 4, 2) := by decide +kernel
theorem dX4_meetingOf_78 : decode cX4_meetingOf 78 = .ok (.invokevirtual 75, 3) := by decide +kernel
theorem dX4_meetingOf_81 : decode cX4_meetingOf 81 = .ok (.istore 4, 2) := by decide +kernel
theorem dX4_meetingOf_83 : decode cX4_meetingOf 83 = .ok (.iinc 5 1, 3) := by decide +kernel
theorem dX4_meetingOf_86 : decode cX4_meetingOf 86 = .ok (.goto (-36), 3) := by decide +kernel
theorem dX4_meetingOf_89 : decode cX4_meetingOf 89 = .ok (.iload_n 3, 1) := by decide +kernel
theorem dX4_meetingOf_90 : decode cX4_meetingOf 90 = .ok (.ireturn, 1) := by decide +kernel
theorem dX4_looksFor_0 : decode cX4_looksFor 0 = .ok (.iload_n 2, 1) := by decide +kernel
theorem dX4_looksFor_1 : decode cX4_looksFor 1 = .ok (.ifCond .ne 5, 3) := by decide +kernel
theorem dX4_looksFor_4 : decode cX4_looksFor 4 = .ok (.iconst 0, 1) := by decide +kernel
theorem dX4_looksFor_5 : decode cX4_looksFor 5 = .ok (.ireturn, 1) := by decide +kernel
theorem dX4_looksFor_6 : decode cX4_looksFor 6 = .ok (.aload_n 0, 1) := by decide +kernel
theorem dX4_looksFor_7 : decode cX4_looksFor 7 = .ok (.getfield 31, 3) := by decide +kernel
theorem dX4_looksFor_10 : decode cX4_looksFor 10 = .ok (.iload_n 1, 1) := by decide +kernel
theorem dX4_looksFor_11 : decode cX4_looksFor 11 = .ok (.invokevirtual 79, 3) := by decide +kernel
theorem dX4_looksFor_14 : decode cX4_looksFor 14 = .ok (.iload_n 2, 1) := by decide +kernel
theorem dX4_looksFor_15 : decode cX4_looksFor 15 = .ok (.iadd, 1) := by decide +kernel
theorem dX4_looksFor_16 : decode cX4_looksFor 16 = .ok (.istore_n 3, 1) := by decide +kernel
theorem dX4_looksFor_17 : decode cX4_looksFor 17 = .ok (.iload_n 3, 1) := by decide +kernel
theorem dX4_looksFor_18 : decode cX4_looksFor 18 = .ok (.aload_n 0, 1) := by decide +kernel
theorem dX4_looksFor_19 : decode cX4_looksFor 19 = .ok (.iload_n 1, 1) := by decide +kernel
theorem dX4_looksFor_20 : decode cX4_looksFor 20 = .ok (.invokevirtual 101, 3) := by decide +kernel
theorem dX4_looksFor_23 : decode cX4_looksFor 23 = .ok (.if_icmp .ge 5, 3) := by decide +kernel
theorem dX4_looksFor_26 : decode cX4_looksFor 26 = .ok (.iconst 1, 1) := by decide +kernel
theorem dX4_looksFor_27 : decode cX4_looksFor 27 = .ok (.ireturn, 1) := by decide +kernel
theorem dX4_looksFor_28 : decode cX4_looksFor 28 = .ok (.iload_n 3, 1) := by decide +kernel
theorem dX4_looksFor_29 : decode cX4_looksFor 29 = .ok (.invokestatic 104, 3) := by decide +kernel
theorem dX4_looksFor_32 : decode cX4_looksFor 32 = .ok (.iconst 1, 1) := by decide +kernel
theorem dX4_looksFor_33 : decode cX4_looksFor 33 = .ok (.if_icmp .ne 7, 3) := by decide +kernel
theorem dX4_looksFor_36 : decode cX4_looksFor 36 = .ok (.iconst 2, 1) := by decide +kernel
theorem dX4_looksFor_37 : decode cX4_looksFor 37 = .ok (.goto 4, 3) := by decide +kernel
theorem dX4_looksFor_40 : decode cX4_looksFor 40 = .ok (.iconst 3, 1) := by decide +kernel
theorem dX4_looksFor_41 : decode cX4_looksFor 41 = .ok (.ireturn, 1) := by decide +kernel
theorem dX4_countLeaves_0 : decode cX4_countLeaves 0 = .ok (.iconst 0, 1) := by decide +kernel
theorem dX4_countLeaves_1 : decode cX4_countLeaves 1 = .ok (.istore_n 1, 1) := by decide +kernel
theorem dX4_countLeaves_2 : decode cX4_countLeaves 2 = .ok (.iconst 0, 1) := by decide +kernel
theorem dX4_countLeaves_3 : decode cX4_countLeaves 3 = .ok (.istore_n 2, 1) := by decide +kernel
theorem dX4_countLeaves_4 : decode cX4_countLeaves 4 = .ok (.iload_n 2, 1) := by decide +kernel
theorem dX4_countLeaves_5 : decode cX4_countLeaves 5 = .ok (.aload_n 0, 1) := by decide +kernel
theorem dX4_countLeaves_6 : decode cX4_countLeaves 6 = .ok (.getfield 49, 3) := by decide +kernel
theorem dX4_countLeaves_9 : decode cX4_countLeaves 9 = .ok (.if_icmp .ge 33, 3) := by decide +kernel
theorem dX4_countLeaves_12 : decode cX4_countLeaves 12 = .ok (.iload_n 2, 1) := by decide +kernel
theorem dX4_countLeaves_13 : decode cX4_countLeaves 13 = .ok (.bipush 90, 2) := by decide +kernel
theorem dX4_countLeaves_15 : decode cX4_countLeaves 15 = .ok (.if_icmp .ge 27, 3) := by decide +kernel
theorem dX4_countLeaves_18 : decode cX4_countLeaves 18 = .ok (.aload_n 0, 1) := by decide +kernel
theorem dX4_countLeaves_19 : decode cX4_countLeaves 19 = .ok (.aload_n 0, 1) := by decide +kernel
theorem dX4_countLeaves_20 : decode cX4_countLeaves 20 = .ok (.getfield 25, 3) := by decide +kernel
theorem dX4_countLeaves_23 : decode cX4_countLeaves 23 = .ok (.iload_n 2, 1) := by decide +kernel
theorem dX4_countLeaves_24 : decode cX4_countLeaves 24 = .ok (.invokevirtual 79, 3) := by decide +kernel
theorem dX4_countLeaves_27 : decode cX4_countLeaves 27 = .ok (.invokevirtual 109, 3) := by decide +kernel
theorem dX4_countLeaves_30 : decode cX4_countLeaves 30 = .ok (.ifCond .eq 6, 3) := by decide +kernel
theorem dX4_countLeaves_33 : decode cX4_countLeaves 33 = .ok (.iinc 1 1, 3) := by decide +kernel
theorem dX4_countLeaves_36 : decode cX4_countLeaves 36 = .ok (.iinc 2 1, 3) := by decide +kernel
theorem dX4_countLeaves_39 : decode cX4_countLeaves 39 = .ok (.goto (-35), 3) := by decide +kernel
theorem dX4_countLeaves_42 : decode cX4_countLeaves 42 = .ok (.iload_n 1, 1) := by decide +kernel
theorem dX4_countLeaves_43 : decode cX4_countLeaves 43 = .ok (.ireturn, 1) := by decide +kernel
theorem dX4_countLadders_0 : decode cX4_countLadders 0 = .ok (.iconst 0, 1) := by decide +kernel
theorem dX4_countLadders_1 : decode cX4_countLadders 1 = .ok (.istore_n 1, 1) := by decide +kernel
theorem dX4_countLadders_2 : decode cX4_countLadders 2 = .ok (.iconst 0, 1) := by decide +kernel
theorem dX4_countLadders_3 : decode cX4_countLadders 3 = .ok (.istore_n 2, 1) := by decide +kernel
theorem dX4_countLadders_4 : decode cX4_countLadders 4 = .ok (.iload_n 2, 1) := by decide +kernel
theorem dX4_countLadders_5 : decode cX4_countLadders 5 = .ok (.aload_n 0, 1) := by decide +kernel
theorem dX4_countLadders_6 : decode cX4_countLadders 6 = .ok (.getfield 49, 3) := by decide +kernel
theorem dX4_countLadders_9 : decode cX4_countLadders 9 = .ok (.if_icmp .ge 40, 3) := by decide +kernel
theorem dX4_countLadders_12 : decode cX4_countLadders 12 = .ok (.iload_n 2, 1) := by decide +kernel
theorem dX4_countLadders_13 : decode cX4_countLadders 13 = .ok (.bipush 90, 2) := by decide +kernel
theorem dX4_countLadders_15 : decode cX4_countLadders 15 = .ok (.if_icmp .ge 34, 3) := by decide +kernel
theorem dX4_countLadders_18 : decode cX4_countLadders 18 = .ok (.aload_n 0, 1) := by decide +kernel
theorem dX4_countLadders_19 : decode cX4_countLadders 19 = .ok (.getfield 25, 3) := by decide +kernel
theorem dX4_countLadders_22 : decode cX4_countLadders 22 = .ok (.iload_n 2, 1) := by decide +kernel
theorem dX4_countLadders_23 : decode cX4_countLadders 23 = .ok (.invokevirtual 79, 3) := by decide +kernel
theorem dX4_countLadders_26 : decode cX4_countLadders 26 = .ok (.istore_n 3, 1) := by decide +kernel
theorem dX4_countLadders_27 : decode cX4_countLadders 27 = .ok (.aload_n 0, 1) := by decide +kernel
theorem dX4_countLadders_28 : decode cX4_countLadders 28 = .ok (.iload_n 3, 1) := by decide +kernel
theorem dX4_countLadders_29 : decode cX4_countLadders 29 = .ok (.invokevirtual 109, 3) := by decide +kernel
theorem dX4_countLadders_32 : decode cX4_countLadders 32 = .ok (.ifCond .eq 11, 3) := by decide +kernel
theorem dX4_countLadders_35 : decode cX4_countLadders 35 = .ok (.iload_n 1, 1) := by decide +kernel
theorem dX4_countLadders_36 : decode cX4_countLadders 36 = .ok (.aload_n 0, 1) := by decide +kernel
theorem dX4_countLadders_37 : decode cX4_countLadders 37 = .ok (.iload_n 3, 1) := by decide +kernel
theorem dX4_countLadders_38 : decode cX4_countLadders 38 = .ok (.invokevirtual 101, 3) := by decide +kernel
theorem dX4_countLadders_41 : decode cX4_countLadders 41 = .ok (.iadd, 1) := by decide +kernel
theorem dX4_countLadders_42 : decode cX4_countLadders 42 = .ok (.istore_n 1, 1) := by decide +kernel
theorem dX4_countLadders_43 : decode cX4_countLadders 43 = .ok (.iinc 2 1, 3) := by decide +kernel
theorem dX4_countLadders_46 : decode cX4_countLadders 46 = .ok (.goto (-42), 3) := by decide +kernel
theorem dX4_countLadders_49 : decode cX4_countLadders 49 = .ok (.iload_n 1, 1) := by decide +kernel
theorem dX4_countLadders_50 : decode cX4_countLadders 50 = .ok (.ireturn, 1) := by decide +kernel
theorem dX4_countJumps_0 : decode cX4_countJumps 0 = .ok (.iconst 0, 1) := by decide +kernel
theorem dX4_countJumps_1 : decode cX4_countJumps 1 = .ok (.istore_n 1, 1) := by decide +kernel
theorem dX4_countJumps_2 : decode cX4_countJumps 2 = .ok (.iconst 0, 1) := by decide +kernel
theorem dX4_countJumps_3 : decode cX4_countJumps 3 = .ok (.istore_n 2, 1) := by decide +kernel
theorem dX4_countJumps_4 : decode cX4_countJumps 4 = .ok (.iload_n 2, 1) := by decide +kernel
theorem dX4_countJumps_5 : decode cX4_countJumps 5 = .ok (.aload_n 0, 1) := by decide +kernel
theorem dX4_countJumps_6 : decode cX4_countJumps 6 = .ok (.getfield 49, 3) := by decide +kernel
theorem dX4_countJumps_9 : decode cX4_countJumps 9 = .ok (.if_icmp .ge 46, 3) := by decide +kernel
theorem dX4_countJumps_12 : decode cX4_countJumps 12 = .ok (.iload_n 2, 1) := by decide +kernel
theorem dX4_countJumps_13 : decode cX4_countJumps 13 = .ok (.bipush 90, 2) := by decide +kernel
theorem dX4_countJumps_15 : decode cX4_countJumps 15 = .ok (.if_icmp .ge 40, 3) := by decide +kernel
theorem dX4_countJumps_18 : decode cX4_countJumps 18 = .ok (.aload_n 0, 1) := by decide +kernel
theorem dX4_countJumps_19 : decode cX4_countJumps 19 = .ok (.getfield 25, 3) := by decide +kernel
theorem dX4_countJumps_22 : decode cX4_countJumps 22 = .ok (.iload_n 2, 1) := by decide +kernel
theorem dX4_countJumps_23 : decode cX4_countJumps 23 = .ok (.invokevirtual 79, 3) := by decide +kernel
theorem dX4_countJumps_26 : decode cX4_countJumps 26 = .ok (.istore_n 3, 1) := by decide +kernel
theorem dX4_countJumps_27 : decode cX4_countJumps 27 = .ok (.aload_n 0, 1) := by decide +kernel
theorem dX4_countJumps_28 : decode cX4_countJumps 28 = .ok (.iload_n 3, 1) := by decide +kernel
theorem dX4_countJumps_29 : decode cX4_countJumps 29 = .ok (.invokevirtual 109, 3) := by decide +kernel
theorem dX4_countJumps_32 : decode cX4_countJumps 32 = .ok (.ifCond .eq 17, 3) := by decide +kernel
theorem dX4_countJumps_35 : decode cX4_countJumps 35 = .ok (.iload_n 1, 1) := by decide +kernel
theorem dX4_countJumps_36 : decode cX4_countJumps 36 = .ok (.aload_n 0, 1) := by decide +kernel
theorem dX4_countJumps_37 : decode cX4_countJumps 37 = .ok (.getfield 28, 3) := by decide +kernel
theorem dX4_countJumps_40 : decode cX4_countJumps 40 = .ok (.iload_n 3, 1) := by decide +kernel
theorem dX4_countJumps_41 : decode cX4_countJumps 41 = .ok (.invokevirtual 79, 3) := by decide +kernel
theorem dX4_countJumps_44 : decode cX4_countJumps 44 = .ok (.invokestatic 112, 3) := by decide +kernel
theorem dX4_countJumps_47 : decode cX4_countJumps 47 = .ok (.iadd, 1) := by decide +kernel
theorem dX4_countJumps_48 : decode cX4_countJumps 48 = .ok (.istore_n 1, 1) := by decide +kernel
theorem dX4_countJumps_49 : decode cX4_countJumps 49 = .ok (.iinc 2 1, 3) := by decide +kernel
theorem dX4_countJumps_52 : decode cX4_countJumps 52 = .ok (.goto (-48), 3) := by decide +kernel
theorem dX4_countJumps_55 : decode cX4_countJumps 55 = .ok (.iload_n 1, 1) := by decide +kernel
theorem dX4_countJumps_56 : decode cX4_countJumps 56 = .ok (.ireturn, 1) := by decide +kernel
theorem dX4_jumpsFrom_0 : decode cX4_jumpsFrom 0 = .ok (.iconst 0, 1) := by decide +kernel
theorem dX4_jumpsFrom_1 : decode cX4_jumpsFrom 1 = .ok (.istore_n 1, 1) := by decide +kernel
theorem dX4_jumpsFrom_2 : decode cX4_jumpsFrom 2 = .ok (.iconst 0, 1) := by decide +kernel
theorem dX4_jumpsFrom_3 : decode cX4_jumpsFrom 3 = .ok (.istore_n 2, 1) := by decide +kernel
theorem dX4_jumpsFrom_4 : decode cX4_jumpsFrom 4 = .ok (.iload_n 2, 1) := by decide +kernel
theorem dX4_jumpsFrom_5 : decode cX4_jumpsFrom 5 = .ok (.bipush 6, 2) := by decide +kernel
theorem dX4_jumpsFrom_7 : decode cX4_jumpsFrom 7 = .ok (.if_icmp .gt 19, 3) := by decide +kernel
theorem dX4_jumpsFrom_10 : decode cX4_jumpsFrom 10 = .ok (.iconst 1, 1) := by decide +kernel
theorem dX4_jumpsFrom_11 : decode cX4_jumpsFrom 11 = .ok (.iload_n 2, 1) := by decide +kernel
theorem dX4_jumpsFrom_12 : decode cX4_jumpsFrom 12 = .ok (.ishl, 1) := by decide +kernel
theorem dX4_jumpsFrom_13 : decode cX4_jumpsFrom 13 = .ok (.iload_n 0, 1) := by decide +kernel
theorem dX4_jumpsFrom_14 : decode cX4_jumpsFrom 14 = .ok (.if_icmp .gt 12, 3) := by decide +kernel
theorem dX4_jumpsFrom_17 : decode cX4_jumpsFrom 17 = .ok (.iinc 1 1, 3) := by decide +kernel
theorem dX4_jumpsFrom_20 : decode cX4_jumpsFrom 20 = .ok (.iinc 2 1, 3) := by decide +kernel
theorem dX4_jumpsFrom_23 : decode cX4_jumpsFrom 23 = .ok (.goto (-19), 3) := by decide +kernel
theorem dX4_jumpsFrom_26 : decode cX4_jumpsFrom 26 = .ok (.iload_n 1, 1) := by decide +kernel
theorem dX4_jumpsFrom_27 : decode cX4_jumpsFrom 27 = .ok (.ireturn, 1) := by decide +kernel
