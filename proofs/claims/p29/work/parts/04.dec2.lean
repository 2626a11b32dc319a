theorem dX5_init_0 : decode cX5_init 0 = .ok (.aload_n 0, 1) := by decide +kernel
theorem dX5_init_1 : decode cX5_init 1 = .ok (.invokespecial 3, 3) := by decide +kernel
theorem dX5_init_4 : decode cX5_init 4 = .ok (.aload_n 0, 1) := by decide +kernel
theorem dX5_init_5 : decode cX5_init 5 = .ok (.bipush 60, 2) := by decide +kernel
theorem dX5_init_7 : decode cX5_init 7 = .ok (.newarray .char, 2) := by decide +kernel
theorem dX5_init_9 : decode cX5_init 9 = .ok (.putfield 9, 3) := by decide +kernel
theorem dX5_init_12 : decode cX5_init 12 = .ok (.aload_n 0, 1) := by decide +kernel
theorem dX5_init_13 : decode cX5_init 13 = .ok (.iconst 0, 1) := by decide +kernel
theorem dX5_init_14 : decode cX5_init 14 = .ok (.putfield 15, 3) := by decide +kernel
theorem dX5_init_17 : decode cX5_init 17 = .ok (.return_, 1) := by decide +kernel
theorem dX5_length_0 : decode cX5_length 0 = .ok (.aload_n 0, 1) := by decide +kernel
theorem dX5_length_1 : decode cX5_length 1 = .ok (.getfield 15, 3) := by decide +kernel
theorem dX5_length_4 : decode cX5_length 4 = .ok (.ireturn, 1) := by decide +kernel
theorem dX5_put_0 : decode cX5_put 0 = .ok (.aload_n 0, 1) := by decide +kernel
theorem dX5_put_1 : decode cX5_put 1 = .ok (.getfield 15, 3) := by decide +kernel
theorem dX5_put_4 : decode cX5_put 4 = .ok (.ifCond .lt 15, 3) := by decide +kernel
theorem dX5_put_7 : decode cX5_put 7 = .ok (.aload_n 0, 1) := by decide +kernel
theorem dX5_put_8 : decode cX5_put 8 = .ok (.getfield 15, 3) := by decide +kernel
theorem dX5_put_11 : decode cX5_put 11 = .ok (.aload_n 0, 1) := by decide +kernel
theorem dX5_put_12 : decode cX5_put 12 = .ok (.getfield 9, 3) := by decide +kernel
theorem dX5_put_15 : decode cX5_put 15 = .ok (.arraylength, 1) := by decide +kernel
theorem dX5_put_16 : decode cX5_put 16 = .ok (.if_icmp .lt 5, 3) := by decide +kernel
theorem dX5_put_19 : decode cX5_put 19 = .ok (.iconst 0, 1) := by decide +kernel
theorem dX5_put_20 : decode cX5_put 20 = .ok (.ireturn, 1) := by decide +kernel
theorem dX5_put_21 : decode cX5_put 21 = .ok (.aload_n 0, 1) := by decide +kernel
theorem dX5_put_22 : decode cX5_put 22 = .ok (.getfield 9, 3) := by decide +kernel
theorem dX5_put_25 : decode cX5_put 25 = .ok (.aload_n 0, 1) := by decide +kernel
theorem dX5_put_26 : decode cX5_put 26 = .ok (.getfield 15, 3) := by decide +kernel
theorem dX5_put_29 : decode cX5_put 29 = .ok (.iload_n 1, 1) := by decide +kernel
theorem dX5_put_30 : decode cX5_put 30 = .ok (.castore, 1) := by decide +kernel
theorem dX5_put_31 : decode cX5_put 31 = .ok (.aload_n 0, 1) := by decide +kernel
theorem dX5_put_32 : decode cX5_put 32 = .ok (.dup, 1) := by decide +kernel
theorem dX5_put_33 : decode cX5_put 33 = .ok (.getfield 15, 3) := by decide +kernel
theorem dX5_put_36 : decode cX5_put 36 = .ok (.iconst 1, 1) := by decide +kernel
theorem dX5_put_37 : decode cX5_put 37 = .ok (.iadd, 1) := by decide +kernel
theorem dX5_put_38 : decode cX5_put 38 = .ok (.putfield 15, 3) := by decide +kernel
theorem dX5_put_41 : decode cX5_put 41 = .ok (.iconst 1, 1) := by decide +kernel
theorem dX5_put_42 : decode cX5_put 42 = .ok (.ireturn, 1) := by decide +kernel
theorem dX5_fault_0 : decode cX5_fault 0 = .ok (.iconst 0, 1) := by decide +kernel
theorem dX5_fault_1 : decode cX5_fault 1 = .ok (.istore_n 1, 1) := by decide +kernel
theorem dX5_fault_2 : decode cX5_fault 2 = .ok (.iconst 0, 1) := by decide +kernel
theorem dX5_fault_3 : decode cX5_fault 3 = .ok (.istore_n 2, 1) := by decide +kernel
theorem dX5_fault_4 : decode cX5_fault 4 = .ok (.iload_n 2, 1) := by decide +kernel
theorem dX5_fault_5 : decode cX5_fault 5 = .ok (.aload_n 0, 1) := by decide +kernel
theorem dX5_fault_6 : decode cX5_fault 6 = .ok (.getfield 15, 3) := by decide +kernel
theorem dX5_fault_9 : decode cX5_fault 9 = .ok (.if_icmp .ge 58, 3) := by decide +kernel
theorem dX5_fault_12 : decode cX5_fault 12 = .ok (.iload_n 2, 1) := by decide +kernel
theorem dX5_fault_13 : decode cX5_fault 13 = .ok (.aload_n 0, 1) := by decide +kernel
theorem dX5_fault_14 : decode cX5_fault 14 = .ok (.getfield 9, 3) := by decide +kernel
theorem dX5_fault_17 : decode cX5_fault 17 = .ok (.arraylength, 1) := by decide +kernel
theorem dX5_fault_18 : decode cX5_fault 18 = .ok (.if_icmp .ge 49, 3) := by decide +kernel
theorem dX5_fault_21 : decode cX5_fault 21 = .ok (.aload_n 0, 1) := by decide +kernel
theorem dX5_fault_22 : decode cX5_fault 22 = .ok (.getfield 9, 3) := by decide +kernel
theorem dX5_fault_25 : decode cX5_fault 25 = .ok (.iload_n 2, 1) := by decide +kernel
theorem dX5_fault_26 : decode cX5_fault 26 = .ok (.caload, 1) := by decide +kernel
theorem dX5_fault_27 : decode cX5_fault 27 = .ok (.bipush 40, 2) := by decide +kernel
theorem dX5_fault_29 : decode cX5_fault 29 = .ok (.if_icmp .ne 9, 3) := by decide +kernel
theorem dX5_fault_32 : decode cX5_fault 32 = .ok (.iinc 1 1, 3) := by decide +kernel
theorem dX5_fault_35 : decode cX5_fault 35 = .ok (.goto 26, 3) := by decide +kernel
theorem dX5_fault_38 : decode cX5_fault 38 = .ok (.aload_n 0, 1) := by decide +kernel
theorem dX5_fault_39 : decode cX5_fault 39 = .ok (.getfield 9, 3) := by decide +kernel
theorem dX5_fault_42 : decode cX5_fault 42 = .ok (.iload_n 2, 1) := by decide +kernel
theorem dX5_fault_43 : decode cX5_fault 43 = .ok (.caload, 1) := by decide +kernel
theorem dX5_fault_44 : decode cX5_fault 44 = .ok (.bipush 41, 2) := by decide +kernel
theorem dX5_fault_46 : decode cX5_fault 46 = .ok (.if_icmp .ne 13, 3) := by decide +kernel
theorem dX5_fault_49 : decode cX5_fault 49 = .ok (.iload_n 1, 1) := by decide +kernel
theorem dX5_fault_50 : decode cX5_fault 50 = .ok (.ifCond .le 9, 3) := by decide +kernel
theorem dX5_fault_53 : decode cX5_fault 53 = .ok (.iinc 1 (-1), 3) := by decide +kernel
theorem dX5_fault_56 : decode cX5_fault 56 = .ok (.goto 5, 3) := by decide +kernel
theorem dX5_fault_59 : decode cX5_fault 59 = .ok (.iload_n 2, 1) := by decide +kernel
theorem dX5_fault_60 : decode cX5_fault 60 = .ok (.ireturn, 1) := by decide +kernel
theorem dX5_fault_61 : decode cX5_fault 61 = .ok (.iinc 2 1, 3) := by decide +kernel
theorem dX5_fault_64 : decode cX5_fault 64 = .ok (.goto (-60), 3) := by decide +kernel
theorem dX5_fault_67 : decode cX5_fault 67 = .ok (.aload_n 0, 1) := by decide +kernel
theorem dX5_fault_68 : decode cX5_fault 68 = .ok (.getfield 15, 3) := by decide +kernel
theorem dX5_fault_71 : decode cX5_fault 71 = .ok (.ifCond .eq 7, 3) := by decide +kernel
theorem dX5_fault_74 : decode cX5_fault 74 = .ok (.iload_n 1, 1) := by decide +kernel
theorem dX5_fault_75 : decode cX5_fault 75 = .ok (.ifCond .le 10, 3) := by decide +kernel
theorem dX5_fault_78 : decode cX5_fault 78 = .ok (.aload_n 0, 1) := by decide +kernel
theorem dX5_fault_79 : decode cX5_fault 79 = .ok (.getfield 15, 3) := by decide +kernel
theorem dX5_fault_82 : decode cX5_fault 82 = .ok (.goto 4, 3) := by decide +kernel
theorem dX5_fault_85 : decode cX5_fault 85 = .ok (.iconst (-1), 1) := by decide +kernel
theorem dX5_fault_86 : decode cX5_fault 86 = .ok (.ireturn, 1) := by decide +kernel
theorem dX5_branches_0 : decode cX5_branches 0 = .ok (.aload_n 0, 1) := by decide +kernel
theorem dX5_branches_1 : decode cX5_branches 1 = .ok (.getfield 15, 3) := by decide +kernel
theorem dX5_branches_4 : decode cX5_branches 4 = .ok (.iconst 2, 1) := by decide +kernel
theorem dX5_branches_5 : decode cX5_branches 5 = .ok (.idiv, 1) := by decide +kernel
theorem dX5_branches_6 : decode cX5_branches 6 = .ok (.ireturn, 1) := by decide +kernel
theorem dX5_plant_0 : decode cX5_plant 0 = .ok (.iload_n 2, 1) := by decide +kernel
theorem dX5_plant_1 : decode cX5_plant 1 = .ok (.istore_n 3, 1) := by decide +kernel
theorem dX5_plant_2 : decode cX5_plant 2 = .ok (.iconst 0, 1) := by decide +kernel
theorem dX5_plant_3 : decode cX5_plant 3 = .ok (.istore 4, 2) := by decide +kernel
theorem dX5_plant_5 : decode cX5_plant 5 = .ok (.iload 4, 2) := by decide +kernel
theorem dX5_plant_7 : decode cX5_plant 7 = .ok (.aload_n 0, 1) := by decide +kernel
theorem dX5_plant_8 : decode cX5_plant 8 = .ok (.getfield 15, 3) := by decide +kernel
theorem dX5_plant_11 : decode cX5_plant 11 = .ok (.if_icmp .ge 48, 3) := by decide +kernel
theorem dX5_plant_14 : decode cX5_plant 14 = .ok (.iload 4, 2) := by decide +kernel
theorem dX5_plant_16 : decode cX5_plant 16 = .ok (.aload_n 0, 1) := by decide +kernel
theorem dX5_plant_17 : decode cX5_plant 17 = .ok (.getfield 9, 3) := by decide +kernel
theorem dX5_plant_20 : decode cX5_plant 20 = .ok (.arraylength, 1) := by decide +kernel
theorem dX5_plant_21 : decode cX5_plant 21 = .ok (.if_icmp .ge 38, 3) := by decide +kernel
theorem dX5_plant_24 : decode cX5_plant 24 = .ok (.aload_n 0, 1) := by decide +kernel
theorem dX5_plant_25 : decode cX5_plant 25 = .ok (.getfield 9, 3) := by decide +kernel
theorem dX5_plant_28 : decode cX5_plant 28 = .ok (.iload 4, 2) := by decide +kernel
theorem dX5_plant_30 : decode cX5_plant 30 = .ok (.caload, 1) := by decide +kernel
theorem dX5_plant_31 : decode cX5_plant 31 = .ok (.bipush 40, 2) := by decide +kernel
theorem dX5_plant_33 : decode cX5_plant 33 = .ok (.if_icmp .ne 14, 3) := by decide +kernel
theorem dX5_plant_36 : decode cX5_plant 36 = .ok (.aload_n 1, 1) := by decide +kernel
theorem dX5_plant_37 : decode cX5_plant 37 = .ok (.iload_n 3, 1) := by decide +kernel
theorem dX5_plant_38 : decode cX5_plant 38 = .ok (.ldc 19, 2) := by decide +kernel
theorem dX5_plant_40 : decode cX5_plant 40 = .ok (.fconst 1, 1) := by decide +kernel
theorem dX5_plant_41 : decode cX5_plant 41 = .ok (.invokevirtual 20, 3) := by decide +kernel
theorem dX5_plant_44 : decode cX5_plant 44 = .ok (.goto 8, 3) := by decide +kernel
theorem dX5_plant_47 : decode cX5_plant 47 = .ok (.aload_n 1, 1) := by decide +kernel
theorem dX5_plant_48 : decode cX5_plant 48 = .ok (.iload_n 3, 1) := by decide +kernel
theorem dX5_plant_49 : decode cX5_plant 49 = .ok (.invokevirtual 26, 3) := by decide +kernel
theorem dX5_plant_52 : decode cX5_plant 52 = .ok (.istore_n 3, 1) := by decide +kernel
theorem dX5_plant_53 : decode cX5_plant 53 = .ok (.iinc 4 1, 3) := by decide +kernel
theorem dX5_plant_56 : decode cX5_plant 56 = .ok (.goto (-51), 3) := by decide +kernel
theorem dX5_plant_59 : decode cX5_plant 59 = .ok (.return_, 1) := by decide +kernel
theorem dX6_init_0 : decode cX6_init 0 = .ok (.aload_n 0, 1) := by decide +kernel
theorem dX6_init_1 : decode cX6_init 1 = .ok (.invokespecial 3, 3) := by decide +kernel
theorem dX6_init_4 : decode cX6_init 4 = .ok (.aload_n 0, 1) := by decide +kernel
theorem dX6_init_5 : decode cX6_init 5 = .ok (.new 9, 3) := by decide +kernel
theorem dX6_init_8 : decode cX6_init 8 = .ok (.dup, 1) := by decide +kernel
theorem dX6_init_9 : decode cX6_init 9 = .ok (.invokespecial 11, 3) := by decide +kernel
theorem dX6_init_12 : decode cX6_init 12 = .ok (.putfield 12, 3) := by decide +kernel
theorem dX6_init_15 : decode cX6_init 15 = .ok (.aload_n 0, 1) := by decide +kernel
theorem dX6_init_16 : decode cX6_init 16 = .ok (.new 9, 3) := by decide +kernel
theorem dX6_init_19 : decode cX6_init 19 = .ok (.dup, 1) := by decide +kernel
theorem dX6_init_20 : decode cX6_init 20 = .ok (.invokespecial 11, 3) := by decide +kernel
theorem dX6_init_23 : decode cX6_init 23 = .ok (.putfield 18, 3) := by decide +kernel
theorem dX6_init_26 : decode cX6_init 26 = .ok (.aload_n 0, 1) := by decide +kernel
theorem dX6_init_27 : decode cX6_init 27 = .ok (.new 21, 3) := by decide +kernel
theorem dX6_init_30 : decode cX6_init 30 = .ok (.dup, 1) := by decide +kernel
theorem dX6_init_31 : decode cX6_init 31 = .ok (.invokespecial 23, 3) := by decide +kernel
theorem dX6_init_34 : decode cX6_init 34 = .ok (.putfield 24, 3) := by decide +kernel
theorem dX6_init_37 : decode cX6_init 37 = .ok (.aload_n 0, 1) := by decide +kernel
theorem dX6_init_38 : decode cX6_init 38 = .ok (.getfield 12, 3) := by decide +kernel
theorem dX6_init_41 : decode cX6_init 41 = .ok (.iconst 0, 1) := by decide +kernel
theorem dX6_init_42 : decode cX6_init 42 = .ok (.iconst (-1), 1) := by decide +kernel
theorem dX6_init_43 : decode cX6_init 43 = .ok (.invokevirtual 28, 3) := by decide +kernel
theorem dX6_init_46 : decode cX6_init 46 = .ok (.aload_n 0, 1) := by decide +kernel
theorem dX6_init_47 : decode cX6_init 47 = .ok (.iconst 1, 1) := by decide +kernel
theorem dX6_init_48 : decode cX6_init 48 = .ok (.putfield 32, 3) := by decide +kernel
theorem dX6_init_51 : decode cX6_init 51 = .ok (.return_, 1) := by decide +kernel
theorem dX6_ever_0 : decode cX6_ever 0 = .ok (.aload_n 0, 1) := by decide +kernel
theorem dX6_ever_1 : decode cX6_ever 1 = .ok (.getfield 32, 3) := by decide +kernel
theorem dX6_ever_4 : decode cX6_ever 4 = .ok (.ireturn, 1) := by decide +kernel
theorem dX6_isNode_0 : decode cX6_isNode 0 = .ok (.iload_n 1, 1) := by decide +kernel
theorem dX6_isNode_1 : decode cX6_isNode 1 = .ok (.ifCond .lt 28, 3) := by decide +kernel
theorem dX6_isNode_4 : decode cX6_isNode 4 = .ok (.iload_n 1, 1) := by decide +kernel
theorem dX6_isNode_5 : decode cX6_isNode 5 = .ok (.aload_n 0, 1) := by decide +kernel
theorem dX6_isNode_6 : decode cX6_isNode 6 = .ok (.getfield 32, 3) := by decide +kernel
theorem dX6_isNode_9 : decode cX6_isNode 9 = .ok (.if_icmp .ge 20, 3) := by decide +kernel
theorem dX6_isNode_12 : decode cX6_isNode 12 = .ok (.aload_n 0, 1) := by decide +kernel
theorem dX6_isNode_13 : decode cX6_isNode 13 = .ok (.getfield 12, 3) := by decide +kernel
theorem dX6_isNode_16 : decode cX6_isNode 16 = .ok (.iload_n 1, 1) := by decide +kernel
theorem dX6_isNode_17 : decode cX6_isNode 17 = .ok (.invokevirtual 36, 3) := by decide +kernel
theorem dX6_isNode_20 : decode cX6_isNode 20 = .ok (.bipush (-2), 2) := by decide +kernel
theorem dX6_isNode_22 : decode cX6_isNode 22 = .ok (.if_icmp .eq 7, 3) := by decide +kernel
theorem dX6_isNode_25 : decode cX6_isNode 25 = .ok (.iconst 1, 1) := by decide +kernel
theorem dX6_isNode_26 : decode cX6_isNode 26 = .ok (.goto 4, 3) := by decide +kernel
theorem dX6_isNode_29 : decode cX6_isNode 29 = .ok (.iconst 0, 1) := by decide +kernel
theorem dX6_isNode_30 : decode cX6_isNode 30 = .ok (.ireturn, 1) := by decide +kernel
theorem dX6_hasRoomFor_0 : decode cX6_hasRoomFor 0 = .ok (.aload_n 0, 1) := by decide +kernel
theorem dX6_hasRoomFor_1 : decode cX6_hasRoomFor 1 = .ok (.getfield 32, 3) := by decide +kernel
theorem dX6_hasRoomFor_4 : decode cX6_hasRoomFor 4 = .ok (.iload_n 1, 1) := by decide +kernel
theorem dX6_hasRoomFor_5 : decode cX6_hasRoomFor 5 = .ok (.iadd, 1) := by decide +kernel
theorem dX6_hasRoomFor_6 : decode cX6_hasRoomFor 6 = .ok (.bipush 90, 2) := by decide +kernel
theorem dX6_hasRoomFor_8 : decode cX6_hasRoomFor 8 = .ok (.if_icmp .gt 7, 3) := by decide +kernel
theorem dX6_hasRoomFor_11 : decode cX6_hasRoomFor 11 = .ok (.iconst 1, 1) := by decide +kernel
theorem dX6_hasRoomFor_12 : decode cX6_hasRoomFor 12 = .ok (.goto 4, 3) := by decide +kernel
theorem dX6_hasRoomFor_15 : decode cX6_hasRoomFor 15 = .ok (.iconst 0, 1) := by decide +kernel
theorem dX6_hasRoomFor_16 : decode cX6_hasRoomFor 16 = .ok (.ireturn, 1) := by decide +kernel
theorem dX6_parentOf_0 : decode cX6_parentOf 0 = .ok (.aload_n 0, 1) := by decide +kernel
theorem dX6_parentOf_1 : decode cX6_parentOf 1 = .ok (.getfield 12, 3) := by decide +kernel
theorem dX6_parentOf_4 : decode cX6_parentOf 4 = .ok (.iload_n 1, 1) := by decide +kernel
theorem dX6_parentOf_5 : decode cX6_parentOf 5 = .ok (.invokevirtual 36, 3) := by decide +kernel
theorem dX6_parentOf_8 : decode cX6_parentOf 8 = .ok (.ireturn, 1) := by decide +kernel
theorem dX6_bitsOf_0 : decode cX6_bitsOf 0 = .ok (.aload_n 0, 1) := by decide +kernel
theorem dX6_bitsOf_1 : decode cX6_bitsOf 1 = .ok (.getfield 18, 3) := by decide +kernel
theorem dX6_bitsOf_4 : decode cX6_bitsOf 4 = .ok (.iload_n 1, 1) := by decide +kernel
theorem dX6_bitsOf_5 : decode cX6_bitsOf 5 = .ok (.invokevirtual 36, 3) := by decide +kernel
theorem dX6_bitsOf_8 : decode cX6_bitsOf 8 = .ok (.ireturn, 1) := by decide +kernel
theorem dX6_lengthOf_0 : decode cX6_lengthOf 0 = .ok (.aload_n 0, 1) := by decide +kernel
theorem dX6_lengthOf_1 : decode cX6_lengthOf 1 = .ok (.getfield 24, 3) := by decide +kernel
theorem dX6_lengthOf_4 : decode cX6_lengthOf 4 = .ok (.iload_n 1, 1) := by decide +kernel
theorem dX6_lengthOf_5 : decode cX6_lengthOf 5 = .ok (.invokevirtual 40, 3) := by decide +kernel
theorem dX6_lengthOf_8 : decode cX6_lengthOf 8 = .ok (.freturn, 1) := by decide +kernel
theorem dX6_append_0 : decode cX6_append 0 = .ok (.aload_n 0, 1) := by decide +kernel
theorem dX6_append_1 : decode cX6_append 1 = .ok (.getfield 32, 3) := by decide +kernel
theorem dX6_append_4 : decode cX6_append 4 = .ok (.istore 4, 2) := by decide +kernel
theorem dX6_append_6 : decode cX6_append 6 = .ok (.aload_n 0, 1) := by decide +kernel
theorem dX6_append_7 : decode cX6_append 7 = .ok (.dup, 1) := by decide +kernel
theorem dX6_append_8 : decode cX6_append 8 = .ok (.getfield 32, 3) := by decide +kernel
theorem dX6_append_11 : decode cX6_append 11 = .ok (.iconst 1, 1) := by decide +kernel
theorem dX6_append_12 : decode cX6_append 12 = .ok (.iadd, 1) := by decide +kernel
theorem dX6_append_13 : decode cX6_append 13 = .ok (.putfield 32, 3) := by decide +kernel
theorem dX6_append_16 : decode cX6_append 16 = .ok (.aload_n 0, 1) := by decide +kernel
theorem dX6_append_17 : decode cX6_append 17 = .ok (.getfield 12, 3) := by decide +kernel
theorem dX6_append_20 : decode cX6_append 20 = .ok (.iload 4, 2) := by decide +kernel
theorem dX6_append_22 : decode cX6_append 22 = .ok (.iload_n 1, 1) := by decide +kernel
theorem dX6_append_23 : decode cX6_append 23 = .ok (.invokevirtual 28, 3) := by decide +kernel
theorem dX6_append_26 : decode cX6_append 26 = .ok (.aload_n 0, 1) := by decide +kernel
theorem dX6_append_27 : decode cX6_append 27 = .ok (.iload 4, 2) := by decide +kernel
theorem dX6_append_29 : decode cX6_append 29 = .ok (.iload_n 2, 1) := by decide +kernel
theorem dX6_append_30 : decode cX6_append 30 = .ok (.fload_n 3, 1) := by decide +kernel
theorem dX6_append_31 : decode cX6_append 31 = .ok (.invokevirtual 43, 3) := by decide +kernel
theorem dX6_append_34 : decode cX6_append 34 = .ok (.iload 4, 2) := by decide +kernel
theorem dX6_append_36 : decode cX6_append 36 = .ok (.ireturn, 1) := by decide +kernel
theorem dX6_remove_0 : decode cX6_remove 0 = .ok (.aload_n 0, 1) := by decide +kernel
theorem dX6_remove_1 : decode cX6_remove 1 = .ok (.getfield 12, 3) := by decide +kernel
theorem dX6_remove_4 : decode cX6_remove 4 = .ok (.iload_n 1, 1) := by decide +kernel
theorem dX6_remove_5 : decode cX6_remove 5 = .ok (.bipush (-2), 2) := by decide +kernel
theorem dX6_remove_7 : decode cX6_remove 7 = .ok (.invokevirtual 28, 3) := by decide +kernel
theorem dX6_remove_10 : decode cX6_remove 10 = .ok (.return_, 1) := by decide +kernel
theorem dX6_hang_0 : decode cX6_hang 0 = .ok (.aload_n 0, 1) := by decide +kernel
theorem dX6_hang_1 : decode cX6_hang 1 = .ok (.getfield 12, 3) := by decide +kernel
theorem dX6_hang_4 : decode cX6_hang 4 = .ok (.iload_n 1, 1) := by decide +kernel
theorem dX6_hang_5 : decode cX6_hang 5 = .ok (.iload_n 2, 1) := by decide +kernel
theorem dX6_hang_6 : decode cX6_hang 6 = .ok (.invokevirtual 28, 3) := by decide +kernel
theorem dX6_hang_9 : decode cX6_hang 9 = .ok (.return_, 1) := by decide +kernel
theorem dX6_stretch_0 : decode cX6_stretch 0 = .ok (.aload_n 0, 1) := by decide +kernel
theorem dX6_stretch_1 : decode cX6_stretch 1 = .ok (.getfield 18, 3) := by decide +kernel
theorem dX6_stretch_4 : decode cX6_stretch 4 = .ok (.iload_n 1, 1) := by decide +kernel
theorem dX6_stretch_5 : decode cX6_stretch 5 = .ok (.iload_n 2, 1) := by decide +kernel
theorem dX6_stretch_6 : decode cX6_stretch 6 = .ok (.invokevirtual 28, 3) := by decide +kernel
theorem dX6_stretch_9 : decode cX6_stretch 9 = .ok (.aload_n 0, 1) := by decide +kernel
theorem dX6_stretch_10 : decode cX6_stretch 10 = .ok (.getfield 24, 3) := by decide +kernel
theorem dX6_stretch_13 : decode cX6_stretch 13 = .ok (.iload_n 1, 1) := by decide +kernel
theorem dX6_stretch_14 : decode cX6_stretch 14 = .ok (.fload_n 3, 1) := by decide +kernel
theorem dX6_stretch_15 : decode cX6_stretch 15 = .ok (.invokevirtual 47, 3) := by decide +kernel
theorem dX6_stretch_18 : decode cX6_stretch 18 = .ok (.return_, 1) := by decide +kernel
theorem dX6_copyFrom_0 : decode cX6_copyFrom 0 = .ok (.aload_n 0, 1) := by decide +kernel
theorem dX6_copyFrom_1 : decode cX6_copyFrom 1 = .ok (.getfield 12, 3) := by decide +kernel
theorem dX6_copyFrom_4 : decode cX6_copyFrom 4 = .ok (.aload_n 1, 1) := by decide +kernel
theorem dX6_copyFrom_5 : decode cX6_copyFrom 5 = .ok (.getfield 12, 3) := by decide +kernel
theorem dX6_copyFrom_8 : decode cX6_copyFrom 8 = .ok (.invokevirtual 50, 3) := by decide +kernel
theorem dX6_copyFrom_11 : decode cX6_copyFrom 11 = .ok (.aload_n 0, 1) := by decide +kernel
theorem dX6_copyFrom_12 : decode cX6_copyFrom 12 = .ok (.getfield 18, 3) := by decide +kernel
theorem dX6_copyFrom_15 : decode cX6_copyFrom 15 = .ok (.aload_n 1, 1) := by decide +kernel
theorem dX6_copyFrom_16 : decode cX6_copyFrom 16 = .ok (.getfield 18, 3) := by decide +kernel
theorem dX6_copyFrom_19 : decode cX6_copyFrom 19 = .ok (.invokevirtual 50, 3) := by decide +kernel
theorem dX6_copyFrom_22 : decode cX6_copyFrom 22 = .ok (.aload_n 0, 1) := by decide +kernel
theorem dX6_copyFrom_23 : decode cX6_copyFrom 23 = .ok (.getfield 24, 3) := by decide +kernel
theorem dX6_copyFrom_26 : decode cX6_copyFrom 26 = .ok (.aload_n 1, 1) := by decide +kernel
theorem dX6_copyFrom_27 : decode cX6_copyFrom 27 = .ok (.getfield 24, 3) := by decide +kernel
theorem dX6_copyFrom_30 : decode cX6_copyFrom 30 = .ok (.invokevirtual 54, 3) := by decide +kernel
theorem dX6_copyFrom_33 : decode cX6_copyFrom 33 = .ok (.aload_n 0, 1) := by decide +kernel
theorem dX6_copyFrom_34 : decode cX6_copyFrom 34 = .ok (.aload_n 1, 1) := by decide +kernel
theorem dX6_copyFrom_35 : decode cX6_copyFrom 35 = .ok (.getfield 32, 3) := by decide +kernel
theorem dX6_copyFrom_38 : decode cX6_copyFrom 38 = .ok (.putfield 32, 3) := by decide +kernel
theorem dX6_copyFrom_41 : decode cX6_copyFrom 41 = .ok (.return_, 1) := by decide +kernel
theorem dX7_init_0 : decode cX7_init 0 = .ok (.aload_n 0, 1) := by decide +kernel
theorem dX7_init_1 : decode cX7_init 1 = .ok (.invokespecial 3, 3) := by decide +kernel
theorem dX7_init_4 : decode cX7_init 4 = .ok (.aload_n 0, 1) := by decide +kernel
theorem dX7_init_5 : decode cX7_init 5 = .ok (.aload_n 1, 1) := by decide +kernel
theorem dX7_init_6 : decode cX7_init 6 = .ok (.putfield 9, 3) := by decide +kernel
theorem dX7_init_9 : decode cX7_init 9 = .ok (.aload_n 0, 1) := by decide +kernel
theorem dX7_init_10 : decode cX7_init 10 = .ok (.aload_n 2, 1) := by decide +kernel
theorem dX7_init_11 : decode cX7_init 11 = .ok (.putfield 15, 3) := by decide +kernel
theorem dX7_init_14 : decode cX7_init 14 = .ok (.aload_n 0, 1) := by decide +kernel
theorem dX7_init_15 : decode cX7_init 15 = .ok (.new 19, 3) := by decide +kernel
theorem dX7_init_18 : decode cX7_init 18 = .ok (.dup, 1) := by decide +kernel
theorem dX7_init_19 : decode cX7_init 19 = .ok (.invokespecial 21, 3) := by decide +kernel
theorem dX7_init_22 : decode cX7_init 22 = .ok (.putfield 22, 3) := by decide +kernel
theorem dX7_init_25 : decode cX7_init 25 = .ok (.aload_n 0, 1) := by decide +kernel
theorem dX7_init_26 : decode cX7_init 26 = .ok (.new 19, 3) := by decide +kernel
theorem dX7_init_29 : decode cX7_init 29 = .ok (.dup, 1) := by decide +kernel
theorem dX7_init_30 : decode cX7_init 30 = .ok (.invokespecial 21, 3) := by decide +kernel
theorem dX7_init_33 : decode cX7_init 33 = .ok (.putfield 26, 3) := by decide +kernel
theorem dX7_init_36 : decode cX7_init 36 = .ok (.aload_n 0, 1) := by decide +kernel
theorem dX7_init_37 : decode cX7_init 37 = .ok (.new 29, 3) := by decide +kernel
theorem dX7_init_40 : decode cX7_init 40 = .ok (.dup, 1) := by decide +kernel
theorem dX7_init_41 : decode cX7_init 41 = .ok (.invokespecial 31, 3) := by decide +kernel
theorem dX7_init_44 : decode cX7_init 44 = .ok (.putfield 32, 3) := by decide +kernel
theorem dX7_init_47 : decode cX7_init 47 = .ok (.aload_n 0, 1) := by decide +kernel
theorem dX7_init_48 : decode cX7_init 48 = .ok (.iconst 0, 1) := by decide +kernel
theorem dX7_init_49 : decode cX7_init 49 = .ok (.putfield 36, 3) := by decide +kernel
theorem dX7_init_52 : decode cX7_init 52 = .ok (.aload_n 0, 1) := by decide +kernel
theorem dX7_init_53 : decode cX7_init 53 = .ok (.iconst 0, 1) := by decide +kernel
theorem dX7_init_54 : decode cX7_init 54 = .ok (.putfield 40, 3) := by decide +kernel
theorem dX7_init_57 : decode cX7_init 57 = .ok (.return_, 1) := by decide +kernel
theorem dX7_take_0 : decode cX7_take 0 = .ok (.aload_n 0, 1) := by decide +kernel
theorem dX7_take_1 : decode cX7_take 1 = .ok (.getfield 22, 3) := by decide +kernel
theorem dX7_take_4 : decode cX7_take 4 = .ok (.iconst 0, 1) := by decide +kernel
theorem dX7_take_5 : decode cX7_take 5 = .ok (.fconst 0, 1) := by decide +kernel
theorem dX7_take_6 : decode cX7_take 6 = .ok (.invokevirtual 43, 3) := by decide +kernel
theorem dX7_take_9 : decode cX7_take 9 = .ok (.iconst 1, 1) := by decide +kernel
theorem dX7_take_10 : decode cX7_take 10 = .ok (.istore_n 1, 1) := by decide +kernel
theorem dX7_take_11 : decode cX7_take 11 = .ok (.iload_n 1, 1) := by decide +kernel
theorem dX7_take_12 : decode cX7_take 12 = .ok (.aload_n 0, 1) := by decide +kernel
theorem dX7_take_13 : decode cX7_take 13 = .ok (.getfield 15, 3) := by decide +kernel
theorem dX7_take_16 : decode cX7_take 16 = .ok (.invokevirtual 47, 3) := by decide +kernel
theorem dX7_take_19 : decode cX7_take 19 = .ok (.if_icmp .ge 56, 3) := by decide +kernel
theorem dX7_take_22 : decode cX7_take 22 = .ok (.iload_n 1, 1) := by decide +kernel
theorem dX7_take_23 : decode cX7_take 23 = .ok (.bipush 90, 2) := by decide +kernel
theorem dX7_take_25 : decode cX7_take 25 = .ok (.if_icmp .ge 50, 3) := by decide +kernel
theorem dX7_take_28 : decode cX7_take 28 = .ok (.aload_n 0, 1) := by decide +kernel
theorem dX7_take_29 : decode cX7_take 29 = .ok (.getfield 15, 3) := by decide +kernel
theorem dX7_take_32 : decode cX7_take 32 = .ok (.iload_n 1, 1) := by decide +kernel
theorem dX7_take_33 : decode cX7_take 33 = .ok (.invokevirtual 53, 3) := by decide +kernel
theorem dX7_take_36 : decode cX7_take 36 = .ok (.istore_n 2, 1) := by decide +kernel
theorem dX7_take_37 : decode cX7_take 37 = .ok (.aload_n 0, 1) := by decide +kernel
theorem dX7_take_38 : decode cX7_take 38 = .ok (.getfield 22, 3) := by decide +kernel
theorem dX7_take_41 : decode cX7_take 41 = .ok (.iload_n 2, 1) := by decide +kernel
theorem dX7_take_42 : decode cX7_take 42 = .ok (.aload_n 0, 1) := by decide +kernel
theorem dX7_take_43 : decode cX7_take 43 = .ok (.getfield 22, 3) := by decide +kernel
theorem dX7_take_46 : decode cX7_take 46 = .ok (.aload_n 0, 1) := by decide +kernel
theorem dX7_take_47 : decode cX7_take 47 = .ok (.getfield 9, 3) := by decide +kernel
theorem dX7_take_50 : decode cX7_take 50 = .ok (.iload_n 2, 1) := by decide +kernel
theorem dX7_take_51 : decode cX7_take 51 = .ok (.invokevirtual 57, 3) := by decide +kernel
theorem dX7_take_54 : decode cX7_take 54 = .ok (.invokevirtual 62, 3) := by decide +kernel
theorem dX7_take_57 : decode cX7_take 57 = .ok (.aload_n 0, 1) := by decide +kernel
theorem dX7_take_58 : decode cX7_take 58 = .ok (.getfield 9, 3) := by decide +kernel
theorem dX7_take_61 : decode cX7_take 61 = .ok (.iload_n 2, 1) := by decide +kernel
theorem dX7_take_62 : decode cX7_take 62 = .ok (.invokevirtual 66, 3) := by decide +kernel
theorem dX7_take_65 : decode cX7_take 65 = .ok (.fadd, 1) := by decide +kernel
theorem dX7_take_66 : decode cX7_take 66 = .ok (.invokevirtual 43, 3) := by decide +kernel
theorem dX7_take_69 : decode cX7_take 69 = .ok (.iinc 1 1, 3) := by decide +kernel
theorem dX7_take_72 : decode cX7_take 72 = .ok (.goto (-61), 3) := by decide +kernel
theorem dX7_take_75 : decode cX7_take 75 = .ok (.return_, 1) := by decide +kernel
theorem dX7_pathOf_0 : decode cX7_pathOf 0 = .ok (.aload_n 0, 1) := by decide +kernel
theorem dX7_pathOf_1 : decode cX7_pathOf 1 = .ok (.getfield 22, 3) := by decide +kernel
theorem dX7_pathOf_4 : decode cX7_pathOf 4 = .ok (.iload_n 1, 1) := by decide +kernel
theorem dX7_pathOf_5 : decode cX7_pathOf 5 = .ok (.invokevirtual 62, 3) := by decide +kernel
theorem dX7_pathOf_8 : decode cX7_pathOf 8 = .ok (.freturn, 1) := by decide +kernel
theorem dX7_between_0 : decode cX7_between 0 = .ok (.aload_n 0, 1) := by decide +kernel
theorem dX7_between_1 : decode cX7_between 1 = .ok (.getfield 22, 3) := by decide +kernel
theorem dX7_between_4 : decode cX7_between 4 = .ok (.iload_n 1, 1) := by decide +kernel
theorem dX7_between_5 : decode cX7_between 5 = .ok (.invokevirtual 62, 3) := by decide +kernel
theorem dX7_between_8 : decode cX7_between 8 = .ok (.aload_n 0, 1) := by decide +kernel
theorem dX7_between_9 : decode cX7_between 9 = .ok (.getfield 22, 3) := by decide +kernel
theorem dX7_between_12 : decode cX7_between 12 = .ok (.iload_n 2, 1) := by decide +kernel
theorem dX7_between_13 : decode cX7_between 13 = .ok (.invokevirtual 62, 3) := by decide +kernel
theorem dX7_between_16 : decode cX7_between 16 = .ok (.aload_n 0, 1) := by decide +kernel
theorem dX7_between_17 : decode cX7_between 17 = .ok (.getfield 22, 3) := by decide +kernel
theorem dX7_between_20 : decode cX7_between 20 = .ok (.aload_n 0, 1) := by decide +kernel
theorem dX7_between_21 : decode cX7_between 21 = .ok (.getfield 15, 3) := by decide +kernel
theorem dX7_between_24 : decode cX7_between 24 = .ok (.iload_n 1, 1) := by decide +kernel
theorem dX7_between_25 : decode cX7_between 25 = .ok (.iload_n 2, 1) := by decide +kernel
theorem dX7_between_26 : decode cX7_between 26 = .ok (.invokevirtual 69, 3) := by decide +kernel
theorem dX7_between_29 : decode cX7_between 29 = .ok (.invokevirtual 62, 3) := by decide +kernel
theorem dX7_between_32 : decode cX7_between 32 = .ok (.invokestatic 73, 3) := by decide +kernel
theorem dX7_between_35 : decode cX7_between 35 = .ok (.freturn, 1) := by decide +kernel
theorem dX7_sum_0 : decode cX7_sum 0 = .ok (.fload_n 0, 1) := by decide +kernel
theorem dX7_sum_1 : decode cX7_sum 1 = .ok (.fload_n 2, 1) := by decide +kernel
theorem dX7_sum_2 : decode cX7_sum 2 = .ok (.fsub, 1) := by decide +kernel
theorem dX7_sum_3 : decode cX7_sum 3 = .ok (.fload_n 1, 1) := by decide +kernel
theorem dX7_sum_4 : decode cX7_sum 4 = .ok (.fload_n 2, 1) := by decide +kernel
theorem dX7_sum_5 : decode cX7_sum 5 = .ok (.fsub, 1) := by decide +kernel
theorem dX7_sum_6 : decode cX7_sum 6 = .ok (.fadd, 1) := by decide +kernel
theorem dX7_sum_7 : decode cX7_sum 7 = .ok (.freturn, 1) := by decide +kernel
theorem dX7_onWay_0 : decode cX7_onWay 0 = .ok (.aload_n 0, 1) := by decide +kernel
theorem dX7_onWay_1 : decode cX7_onWay 1 = .ok (.getfield 15, 3) := by decide +kernel
theorem dX7_onWay_4 : decode cX7_onWay 4 = .ok (.aload_n 0, 1) := by decide +kernel
theorem dX7_onWay_5 : decode cX7_onWay 5 = .ok (.getfield 15, 3) := by decide +kernel
theorem dX7_onWay_8 : decode cX7_onWay 8 = .ok (.iload_n 1, 1) := by decide +kernel
theorem dX7_onWay_9 : decode cX7_onWay 9 = .ok (.iload_n 2, 1) := by decide +kernel
theorem dX7_onWay_10 : decode cX7_onWay 10 = .ok (.invokevirtual 69, 3) := by decide +kernel
theorem dX7_onWay_13 : decode cX7_onWay 13 = .ok (.invokevirtual 77, 3) := by decide +kernel
theorem dX7_onWay_16 : decode cX7_onWay 16 = .ok (.istore 4, 2) := by decide +kernel
theorem dX7_onWay_18 : decode cX7_onWay 18 = .ok (.aload_n 0, 1) := by decide +kernel
theorem dX7_onWay_19 : decode cX7_onWay 19 = .ok (.getfield 15, 3) := by decide +kernel
theorem dX7_onWay_22 : decode cX7_onWay 22 = .ok (.iload_n 1, 1) := by decide +kernel
theorem dX7_onWay_23 : decode cX7_onWay 23 = .ok (.invokevirtual 77, 3) := by decide +kernel
theorem dX7_onWay_26 : decode cX7_onWay 26 = .ok (.iload 4, 2) := by decide +kernel
theorem dX7_onWay_28 : decode cX7_onWay 28 = .ok (.isub, 1) := by decide +kernel
theorem dX7_onWay_29 : decode cX7_onWay 29 = .ok (.istore 5, 2) := by decide +kernel
theorem dX7_onWay_31 : decode cX7_onWay 31 = .ok (.aload_n 0, 1) := by decide +kernel
theorem dX7_onWay_32 : decode cX7_onWay 32 = .ok (.getfield 15, 3) := by decide +kernel
theorem dX7_onWay_35 : decode cX7_onWay 35 = .ok (.iload_n 2, 1) := by decide +kernel
theorem dX7_onWay_36 : decode cX7_onWay 36 = .ok (.invokevirtual 77, 3) := by decide +kernel
theorem dX7_onWay_39 : decode cX7_onWay 39 = .ok (.iload 4, 2) := by decide +kernel
theorem dX7_onWay_41 : decode cX7_onWay 41 = .ok (.isub, 1) := by decide +kernel
theorem dX7_onWay_42 : decode cX7_onWay 42 = .ok (.istore 6, 2) := by decide +kernel
theorem dX7_onWay_44 : decode cX7_onWay 44 = .ok (.iload_n 3, 1) := by decide +kernel
theorem dX7_onWay_45 : decode cX7_onWay 45 = .ok (.iload 5, 2) := by decide +kernel
theorem dX7_onWay_47 : decode cX7_onWay 47 = .ok (.iload 6, 2) := by decide +kernel
theorem dX7_onWay_49 : decode cX7_onWay 49 = .ok (.iadd, 1) := by decide +kernel
theorem dX7_onWay_50 : decode cX7_onWay 50 = .ok (.if_icmp .le 5, 3) := by decide +kernel
theorem dX7_onWay_53 : decode cX7_onWay 53 = .ok (.iconst (-1), 1) := by decide +kernel
theorem dX7_onWay_54 : decode cX7_onWay 54 = .ok (.ireturn, 1) := by decide +kernel
theorem dX7_onWay_55 : decode cX7_onWay 55 = .ok (.iload_n 3, 1) := by decide +kernel
theorem dX7_onWay_56 : decode cX7_onWay 56 = .ok (.iload 5, 2) := by decide +kernel
theorem dX7_onWay_58 : decode cX7_onWay 58 = .ok (.if_icmp .gt 15, 3) := by decide +kernel
theorem dX7_onWay_61 : decode cX7_onWay 61 = .ok (.aload_n 0, 1) := by decide +kernel
theorem dX7_onWay_62 : decode cX7_onWay 62 = .ok (.getfield 15, 3) := by decide +kernel
theorem dX7_onWay_65 : decode cX7_onWay 65 = .ok (.iload_n 1, 1) := by decide +kernel
theorem dX7_onWay_66 : decode cX7_onWay 66 = .ok (.iload_n 3, 1) := by decide +kernel
theorem dX7_onWay_67 : decode cX7_onWay 67 = .ok (.invokevirtual 80, 3) := by decide +kernel
theorem dX7_onWay_70 : decode cX7_onWay 70 = .ok (.goto 18, 3) := by decide +kernel
theorem dX7_onWay_73 : decode cX7_onWay 73 = .ok (.aload_n 0, 1) := by decide +kernel
theorem dX7_onWay_74 : decode cX7_onWay 74 = .ok (.getfield 15, 3) := by decide +kernel
theorem dX7_onWay_77 : decode cX7_onWay 77 = .ok (.iload_n 2, 1) := by decide +kernel
theorem dX7_onWay_78 : decode cX7_onWay 78 = .ok (.iload 5, 2) := by decide +kernel
theorem dX7_onWay_80 : decode cX7_onWay 80 = .ok (.iload 6, 2) := by decide +kernel
theorem dX7_onWay_82 : decode cX7_onWay 82 = .ok (.iadd, 1) := by decide +kernel
theorem dX7_onWay_83 : decode cX7_onWay 83 = .ok (.iload_n 3, 1) := by decide +kernel
theorem dX7_onWay_84 : decode cX7_onWay 84 = .ok (.isub, 1) := by decide +kernel
theorem dX7_onWay_85 : decode cX7_onWay 85 = .ok (.invokevirtual 80, 3) := by decide +kernel
theorem dX7_onWay_88 : decode cX7_onWay 88 = .ok (.ireturn, 1) := by decide +kernel
theorem dX7_highestWithin_0 : decode cX7_highestWithin 0 = .ok (.aload_n 0, 1) := by decide +kernel
theorem dX7_highestWithin_1 : decode cX7_highestWithin 1 = .ok (.getfield 22, 3) := by decide +kernel
theorem dX7_highestWithin_4 : decode cX7_highestWithin 4 = .ok (.iload_n 1, 1) := by decide +kernel
theorem dX7_highestWithin_5 : decode cX7_highestWithin 5 = .ok (.invokevirtual 62, 3) := by decide +kernel
theorem dX7_highestWithin_8 : decode cX7_highestWithin 8 = .ok (.fstore_n 3, 1) := by decide +kernel
theorem dX7_highestWithin_9 : decode cX7_highestWithin 9 = .ok (.iload_n 1, 1) := by decide +kernel
theorem dX7_highestWithin_10 : decode cX7_highestWithin 10 = .ok (.istore 4, 2) := by decide +kernel
theorem dX7_highestWithin_12 : decode cX7_highestWithin 12 = .ok (.iconst 0, 1) := by decide +kernel
theorem dX7_highestWithin_13 : decode cX7_highestWithin 13 = .ok (.istore 5, 2) := by decide +kernel
theorem dX7_highestWithin_15 : decode cX7_highestWithin 15 = .ok (.iload 5, 2) := by decide +kernel
theorem dX7_highestWithin_17 : decode cX7_highestWithin 17 = .ok (.bipush 90, 2) := by decide +kernel
theorem dX7_highestWithin_19 : decode cX7_highestWithin 19 = .ok (.if_icmp .ge 49, 3) := by decide +kernel
theorem dX7_highestWithin_22 : decode cX7_highestWithin 22 = .ok (.aload_n 0, 1) := by decide +kernel
theorem dX7_highestWithin_23 : decode cX7_highestWithin 23 = .ok (.getfield 9, 3) := by decide +kernel
theorem dX7_highestWithin_26 : decode cX7_highestWithin 26 = .ok (.iload 4, 2) := by decide +kernel
theorem dX7_highestWithin_28 : decode cX7_highestWithin 28 = .ok (.invokevirtual 57, 3) := by decide +kernel
theorem dX7_highestWithin_31 : decode cX7_highestWithin 31 = .ok (.istore 6, 2) := by decide +kernel
theorem dX7_highestWithin_33 : decode cX7_highestWithin 33 = .ok (.iload 6, 2) := by decide +kernel
theorem dX7_highestWithin_35 : decode cX7_highestWithin 35 = .ok (.iconst (-1), 1) := by decide +kernel
theorem dX7_highestWithin_36 : decode cX7_highestWithin 36 = .ok (.if_icmp .eq 19, 3) := by decide +kernel
theorem dX7_highestWithin_39 : decode cX7_highestWithin 39 = .ok (.fload_n 3, 1) := by decide +kernel
theorem dX7_highestWithin_40 : decode cX7_highestWithin 40 = .ok (.aload_n 0, 1) := by decide +kernel
theorem dX7_highestWithin_41 : decode cX7_highestWithin 41 = .ok (.getfield 22, 3) := by decide +kernel
theorem dX7_highestWithin_44 : decode cX7_highestWithin 44 = .ok (.iload 6, 2) := by decide +kernel
theorem dX7_highestWithin_46 : decode cX7_highestWithin 46 = .ok (.invokevirtual 62, 3) := by decide +kernel
theorem dX7_highestWithin_49 : decode cX7_highestWithin 49 = .ok (.fsub, 1) := by decide +kernel
theorem dX7_highestWithin_50 : decode cX7_highestWithin 50 = .ok (.fload_n 2, 1) := by decide +kernel
theorem dX7_highestWithin_51 : decode cX7_highestWithin 51 = .ok (.fcmp .l, 1) := by decide +kernel
theorem dX7_highestWithin_52 : decode cX7_highestWithin 52 = .ok (.ifCond .le 6, 3) := by decide +kernel
theorem dX7_highestWithin_55 : decode cX7_highestWithin 55 = .ok (.iload 4, 2) := by decide +kernel
theorem dX7_highestWithin_57 : decode cX7_highestWithin 57 = .ok (.ireturn, 1) := by decide +kernel
theorem dX7_highestWithin_58 : decode cX7_highestWithin 58 = .ok (.iload 6, 2) := by decide +kernel
theorem dX7_highestWithin_60 : decode cX7_highestWithin 60 = .ok (.istore 4, 2) := by decide +kernel
theorem dX7_highestWithin_62 : decode cX7_highestWithin 62 = .ok (.iinc 5 1, 3) := by decide +kernel
theorem dX7_highestWithin_65 : decode cX7_highestWithin 65 = .ok (.goto (-50), 3) := by decide +kernel
theorem dX7_highestWithin_68 : decode cX7_highestWithin 68 = .ok (.iload 4, 2) := by decide +kernel
theorem dX7_highestWithin_70 : decode cX7_highestWithin 70 = .ok (.ireturn, 1) := by decide +kernel
theorem dX7_farthestFrom_0 : decode cX7_farthestFrom 0 = .ok (.aload_n 0, 1) := by decide +kernel
theorem dX7_farthestFrom_1 : decode cX7_farthestFrom 1 = .ok (.iload_n 1, 1) := by decide +kernel
theorem dX7_farthestFrom_2 : decode cX7_farthestFrom 2 = .ok (.invokevirtual 83, 3) := by decide +kernel
theorem dX7_farthestFrom_5 : decode cX7_farthestFrom 5 = .ok (.aload_n 0, 1) := by decide +kernel
theorem dX7_farthestFrom_6 : decode cX7_farthestFrom 6 = .ok (.iload_n 1, 1) := by decide +kernel
theorem dX7_farthestFrom_7 : decode cX7_farthestFrom 7 = .ok (.iconst 0, 1) := by decide +kernel
theorem dX7_farthestFrom_8 : decode cX7_farthestFrom 8 = .ok (.invokevirtual 87, 3) := by decide +kernel
theorem dX7_farthestFrom_11 : decode cX7_farthestFrom 11 = .ok (.ireturn, 1) := by decide +kernel
theorem dX7_findPair_0 : decode cX7_findPair 0 = .ok (.ldc 90, 2) := by decide +kernel
theorem dX7_findPair_2 : decode cX7_findPair 2 = .ok (.fstore_n 1, 1) := by decide +kernel
theorem dX7_findPair_3 : decode cX7_findPair 3 = .ok (.iconst 0, 1) := by decide +kernel
theorem dX7_findPair_4 : decode cX7_findPair 4 = .ok (.istore_n 2, 1) := by decide +kernel
theorem dX7_findPair_5 : decode cX7_findPair 5 = .ok (.iload_n 2, 1) := by decide +kernel
theorem dX7_findPair_6 : decode cX7_findPair 6 = .ok (.bipush 90, 2) := by decide +kernel
theorem dX7_findPair_8 : decode cX7_findPair 8 = .ok (.if_icmp .ge 60, 3) := by decide +kernel
theorem dX7_findPair_11 : decode cX7_findPair 11 = .ok (.aload_n 0, 1) := by decide +kernel
theorem dX7_findPair_12 : decode cX7_findPair 12 = .ok (.getfield 9, 3) := by decide +kernel
theorem dX7_findPair_15 : decode cX7_findPair 15 = .ok (.iload_n 2, 1) := by decide +kernel
theorem dX7_findPair_16 : decode cX7_findPair 16 = .ok (.invokevirtual 91, 3) := by decide +kernel
theorem dX7_findPair_19 : decode cX7_findPair 19 = .ok (.ifCond .eq 43, 3) := by decide +kernel
theorem dX7_findPair_22 : decode cX7_findPair 22 = .ok (.aload_n 0, 1) := by decide +kernel
theorem dX7_findPair_23 : decode cX7_findPair 23 = .ok (.iload_n 2, 1) := by decide +kernel
theorem dX7_findPair_24 : decode cX7_findPair 24 = .ok (.invokevirtual 83, 3) := by decide +kernel
theorem dX7_findPair_27 : decode cX7_findPair 27 = .ok (.aload_n 0, 1) := by decide +kernel
theorem dX7_findPair_28 : decode cX7_findPair 28 = .ok (.iload_n 2, 1) := by decide +kernel
theorem dX7_findPair_29 : decode cX7_findPair 29 = .ok (.iload_n 2, 1) := by decide +kernel
theorem dX7_findPair_30 : decode cX7_findPair 30 = .ok (.invokevirtual 87, 3) := by decide +kernel
theorem dX7_findPair_33 : decode cX7_findPair 33 = .ok (.istore_n 3, 1) := by decide +kernel
theorem dX7_findPair_34 : decode cX7_findPair 34 = .ok (.aload_n 0, 1) := by decide +kernel
theorem dX7_findPair_35 : decode cX7_findPair 35 = .ok (.iload_n 2, 1) := by decide +kernel
theorem dX7_findPair_36 : decode cX7_findPair 36 = .ok (.iload_n 3, 1) := by decide +kernel
theorem dX7_findPair_37 : decode cX7_findPair 37 = .ok (.invokevirtual 95, 3) := by decide +kernel
theorem dX7_findPair_40 : decode cX7_findPair 40 = .ok (.fload_n 1, 1) := by decide +kernel
theorem dX7_findPair_41 : decode cX7_findPair 41 = .ok (.fcmp .l, 1) := by decide +kernel
theorem dX7_findPair_42 : decode cX7_findPair 42 = .ok (.ifCond .le 20, 3) := by decide +kernel
theorem dX7_findPair_45 : decode cX7_findPair 45 = .ok (.aload_n 0, 1) := by decide +kernel
theorem dX7_findPair_46 : decode cX7_findPair 46 = .ok (.iload_n 2, 1) := by decide +kernel
theorem dX7_findPair_47 : decode cX7_findPair 47 = .ok (.iload_n 3, 1) := by decide +kernel
theorem dX7_findPair_48 : decode cX7_findPair 48 = .ok (.invokevirtual 95, 3) := by decide +kernel
theorem dX7_findPair_51 : decode cX7_findPair 51 = .ok (.fstore_n 1, 1) := by decide +kernel
theorem dX7_findPair_52 : decode cX7_findPair 52 = .ok (.aload_n 0, 1) := by decide +kernel
theorem dX7_findPair_53 : decode cX7_findPair 53 = .ok (.iload_n 2, 1) := by decide +kernel
theorem dX7_findPair_54 : decode cX7_findPair 54 = .ok (.putfield 36, 3) := by decide +kernel
theorem dX7_findPair_57 : decode cX7_findPair 57 = .ok (.aload_n 0, 1) := by decide +kernel
theorem dX7_findPair_58 : decode cX7_findPair 58 = .ok (.iload_n 3, 1) := by decide +kernel
theorem dX7_findPair_59 : decode cX7_findPair 59 = .ok (.putfield 40, 3) := by decide +kernel
theorem dX7_findPair_62 : decode cX7_findPair 62 = .ok (.iinc 2 1, 3) := by decide +kernel
theorem dX7_findPair_65 : decode cX7_findPair 65 = .ok (.goto (-60), 3) := by decide +kernel
theorem dX7_findPair_68 : decode cX7_findPair 68 = .ok (.return_, 1) := by decide +kernel
theorem dX7_pairFirst_0 : decode cX7_pairFirst 0 = .ok (.aload_n 0, 1) := by decide +kernel
theorem dX7_pairFirst_1 : decode cX7_pairFirst 1 = .ok (.getfield 36, 3) := by decide +kernel
theorem dX7_pairFirst_4 : decode cX7_pairFirst 4 = .ok (.ireturn, 1) := by decide +kernel
theorem dX7_pairSecond_0 : decode cX7_pairSecond 0 = .ok (.aload_n 0, 1) := by decide +kernel
theorem dX7_pairSecond_1 : decode cX7_pairSecond 1 = .ok (.getfield 40, 3) := by decide +kernel
theorem dX7_pairSecond_4 : decode cX7_pairSecond 4 = .ok (.ireturn, 1) := by decide +kernel
theorem dX7_findMeetings_0 : decode cX7_findMeetings 0 = .ok (.aload_n 0, 1) := by decide +kernel
theorem dX7_findMeetings_1 : decode cX7_findMeetings 1 = .ok (.getfield 32, 3) := by decide +kernel
theorem dX7_findMeetings_4 : decode cX7_findMeetings 4 = .ok (.iconst 0, 1) := by decide +kernel
theorem dX7_findMeetings_5 : decode cX7_findMeetings 5 = .ok (.invokevirtual 99, 3) := by decide +kernel
theorem dX7_findMeetings_8 : decode cX7_findMeetings 8 = .ok (.iload_n 1, 1) := by decide +kernel
theorem dX7_findMeetings_9 : decode cX7_findMeetings 9 = .ok (.istore_n 2, 1) := by decide +kernel
theorem dX7_findMeetings_10 : decode cX7_findMeetings 10 = .ok (.iconst 0, 1) := by decide +kernel
theorem dX7_findMeetings_11 : decode cX7_findMeetings 11 = .ok (.istore_n 3, 1) := by decide +kernel
theorem dX7_findMeetings_12 : decode cX7_findMeetings 12 = .ok (.iload_n 3, 1) := by decide +kernel
theorem dX7_findMeetings_13 : decode cX7_findMeetings 13 = .ok (.bipush 90, 2) := by decide +kernel
theorem dX7_findMeetings_15 : decode cX7_findMeetings 15 = .ok (.if_icmp .ge 32, 3) := by decide +kernel
theorem dX7_findMeetings_18 : decode cX7_findMeetings 18 = .ok (.iload_n 2, 1) := by decide +kernel
theorem dX7_findMeetings_19 : decode cX7_findMeetings 19 = .ok (.iconst (-1), 1) := by decide +kernel
theorem dX7_findMeetings_20 : decode cX7_findMeetings 20 = .ok (.if_icmp .eq 27, 3) := by decide +kernel
theorem dX7_findMeetings_23 : decode cX7_findMeetings 23 = .ok (.aload_n 0, 1) := by decide +kernel
theorem dX7_findMeetings_24 : decode cX7_findMeetings 24 = .ok (.getfield 32, 3) := by decide +kernel
theorem dX7_findMeetings_27 : decode cX7_findMeetings 27 = .ok (.iload_n 2, 1) := by decide +kernel
theorem dX7_findMeetings_28 : decode cX7_findMeetings 28 = .ok (.iconst 1, 1) := by decide +kernel
theorem dX7_findMeetings_29 : decode cX7_findMeetings 29 = .ok (.invokevirtual 102, 3) := by decide +kernel
theorem dX7_findMeetings_32 : decode cX7_findMeetings 32 = .ok (.aload_n 0, 1) := by decide +kernel
theorem dX7_findMeetings_33 : decode cX7_findMeetings 33 = .ok (.getfield 9, 3) := by decide +kernel
theorem dX7_findMeetings_36 : decode cX7_findMeetings 36 = .ok (.iload_n 2, 1) := by decide +kernel
theorem dX7_findMeetings_37 : decode cX7_findMeetings 37 = .ok (.invokevirtual 57, 3) := by decide +kernel
theorem dX7_findMeetings_40 : decode cX7_findMeetings 40 = .ok (.istore_n 2, 1) := by decide +kernel
theorem dX7_findMeetings_41 : decode cX7_findMeetings 41 = .ok (.iinc 3 1, 3) := by decide +kernel
theorem dX7_findMeetings_44 : decode cX7_findMeetings 44 = .ok (.goto (-32), 3) := by decide +kernel
theorem dX7_findMeetings_47 : decode cX7_findMeetings 47 = .ok (.iconst 0, 1) := by decide +kernel
theorem dX7_findMeetings_48 : decode cX7_findMeetings 48 = .ok (.istore_n 3, 1) := by decide +kernel
theorem dX7_findMeetings_49 : decode cX7_findMeetings 49 = .ok (.iload_n 3, 1) := by decide +kernel
theorem dX7_findMeetings_50 : decode cX7_findMeetings 50 = .ok (.aload_n 0, 1) := by decide +kernel
theorem dX7_findMeetings_51 : decode cX7_findMeetings 51 = .ok (.getfield 15, 3) := by decide +kernel
theorem dX7_findMeetings_54 : decode cX7_findMeetings 54 = .ok (.invokevirtual 47, 3) := by decide +kernel
theorem dX7_findMeetings_57 : decode cX7_findMeetings 57 = .ok (.if_icmp .ge 87, 3) := by decide +kernel
theorem dX7_findMeetings_60 : decode cX7_findMeetings 60 = .ok (.iload_n 3, 1) := by decide +kernel
theorem dX7_findMeetings_61 : decode cX7_findMeetings 61 = .ok (.bipush 90, 2) := by decide +kernel
theorem dX7_findMeetings_63 : decode cX7_findMeetings 63 = .ok (.if_icmp .ge 81, 3) := by decide +kernel
theorem dX7_findMeetings_66 : decode cX7_findMeetings 66 = .ok (.aload_n 0, 1) := by decide +kernel
theorem dX7_findMeetings_67 : decode cX7_findMeetings 67 = .ok (.getfield 15, 3) := by decide +kernel
theorem dX7_findMeetings_70 : decode cX7_findMeetings 70 = .ok (.iload_n 3, 1) := by decide +kernel
theorem dX7_findMeetings_71 : decode cX7_findMeetings 71 = .ok (.invokevirtual 53, 3) := by decide +kernel
theorem dX7_findMeetings_74 : decode cX7_findMeetings 74 = .ok (.istore 4, 2) := by decide +kernel
theorem dX7_findMeetings_76 : decode cX7_findMeetings 76 = .ok (.aload_n 0, 1) := by decide +kernel
theorem dX7_findMeetings_77 : decode cX7_findMeetings 77 = .ok (.getfield 32, 3) := by decide +kernel
theorem dX7_findMeetings_80 : decode cX7_findMeetings 80 = .ok (.iload 4, 2) := by decide +kernel
theorem dX7_findMeetings_82 : decode cX7_findMeetings 82 = .ok (.invokevirtual 105, 3) := by decide +kernel
theorem dX7_findMeetings_85 : decode cX7_findMeetings 85 = .ok (.iconst 1, 1) := by decide +kernel
theorem dX7_findMeetings_86 : decode cX7_findMeetings 86 = .ok (.if_icmp .ne 7, 3) := by decide +kernel
theorem dX7_findMeetings_89 : decode cX7_findMeetings 89 = .ok (.iconst 1, 1) := by decide +kernel
theorem dX7_findMeetings_90 : decode cX7_findMeetings 90 = .ok (.goto 4, 3) := by decide +kernel
theorem dX7_findMeetings_93 : decode cX7_findMeetings 93 = .ok (.iconst 0, 1) := by decide +kernel
theorem dX7_findMeetings_94 : decode cX7_findMeetings 94 = .ok (.istore 5, 2) := by decide +kernel
theorem dX7_findMeetings_96 : decode cX7_findMeetings 96 = .ok (.aload_n 0, 1) := by decide +kernel
theorem dX7_findMeetings_97 : decode cX7_findMeetings 97 = .ok (.getfield 26, 3) := by decide +kernel
theorem dX7_findMeetings_100 : decode cX7_findMeetings 100 = .ok (.iload 4, 2) := by decide +kernel
theorem dX7_findMeetings_102 : decode cX7_findMeetings 102 = .ok (.iload 5, 2) := by decide +kernel
theorem dX7_findMeetings_104 : decode cX7_findMeetings 104 = .ok (.ifCond .eq 15, 3) := by decide +kernel
theorem dX7_findMeetings_107 : decode cX7_findMeetings 107 = .ok (.aload_n 0, 1) := by decide +kernel
theorem dX7_findMeetings_108 : decode cX7_findMeetings 108 = .ok (.getfield 22, 3) := by decide +kernel
theorem dX7_findMeetings_111 : decode cX7_findMeetings 111 = .ok (.iload 4, 2) := by decide +kernel
theorem dX7_findMeetings_113 : decode cX7_findMeetings 113 = .ok (.invokevirtual 62, 3) := by decide +kernel
theorem dX7_findMeetings_116 : decode cX7_findMeetings 116 = .ok (.goto 19, 3) := by decide +kernel
theorem dX7_findMeetings_119 : decode cX7_findMeetings 119 = .ok (.aload_n 0, 1) := by decide +kernel
theorem dX7_findMeetings_120 : decode cX7_findMeetings 120 = .ok (.getfield 26, 3) := by decide +kernel
theorem dX7_findMeetings_123 : decode cX7_findMeetings 123 = .ok (.aload_n 0, 1) := by decide +kernel
theorem dX7_findMeetings_124 : decode cX7_findMeetings 124 = .ok (.getfield 9, 3) := by decide +kernel
theorem dX7_findMeetings_127 : decode cX7_findMeetings 127 = .ok (.iload 4, 2) := by decide +kernel
theorem dX7_findMeetings_129 : decode cX7_findMeetings 129 = .ok (.invokevirtual 57, 3) := by decide +kernel
theorem dX7_findMeetings_132 : decode cX7_findMeetings 132 = .ok (.invokevirtual 62, 3) := by decide +kernel
theorem dX7_findMeetings_135 : decode cX7_findMeetings 135 = .ok (.invokevirtual 43, 3) := by decide +kernel
theorem dX7_findMeetings_138 : decode cX7_findMeetings 138 = .ok (.iinc 3 1, 3) := by decide +kernel
theorem dX7_findMeetings_141 : decode cX7_findMeetings 141 = .ok (.goto (-92), 3) := by decide +kernel
theorem dX7_findMeetings_144 : decode cX7_findMeetings 144 = .ok (.return_, 1) := by decide +kernel
theorem dX7_measured_0 : decode cX7_measured 0 = .ok (.aload_n 0, 1) := by decide +kernel
theorem dX7_measured_1 : decode cX7_measured 1 = .ok (.getfield 22, 3) := by decide +kernel
theorem dX7_measured_4 : decode cX7_measured 4 = .ok (.iload_n 1, 1) := by decide +kernel
theorem dX7_measured_5 : decode cX7_measured 5 = .ok (.invokevirtual 62, 3) := by decide +kernel
theorem dX7_measured_8 : decode cX7_measured 8 = .ok (.aload_n 0, 1) := by decide +kernel
theorem dX7_measured_9 : decode cX7_measured 9 = .ok (.getfield 22, 3) := by decide +kernel
theorem dX7_measured_12 : decode cX7_measured 12 = .ok (.iload_n 2, 1) := by decide +kernel
theorem dX7_measured_13 : decode cX7_measured 13 = .ok (.invokevirtual 62, 3) := by decide +kernel
theorem dX7_measured_16 : decode cX7_measured 16 = .ok (.aload_n 0, 1) := by decide +kernel
theorem dX7_measured_17 : decode cX7_measured 17 = .ok (.getfield 26, 3) := by decide +kernel
theorem dX7_measured_20 : decode cX7_measured 20 = .ok (.iload_n 2, 1) := by decide +kernel
theorem dX7_measured_21 : decode cX7_measured 21 = .ok (.invokevirtual 62, 3) := by decide +kernel
theorem dX7_measured_24 : decode cX7_measured 24 = .ok (.invokestatic 73, 3) := by decide +kernel
theorem dX7_measured_27 : decode cX7_measured 27 = .ok (.freturn, 1) := by decide +kernel
theorem dX7_farthestFromOn_0 : decode cX7_farthestFromOn 0 = .ok (.iload_n 1, 1) := by decide +kernel
theorem dX7_farthestFromOn_1 : decode cX7_farthestFromOn 1 = .ok (.istore_n 3, 1) := by decide +kernel
theorem dX7_farthestFromOn_2 : decode cX7_farthestFromOn 2 = .ok (.ldc 90, 2) := by decide +kernel
theorem dX7_farthestFromOn_4 : decode cX7_farthestFromOn 4 = .ok (.fstore 4, 2) := by decide +kernel
theorem dX7_farthestFromOn_6 : decode cX7_farthestFromOn 6 = .ok (.iload_n 2, 1) := by decide +kernel
theorem dX7_farthestFromOn_7 : decode cX7_farthestFromOn 7 = .ok (.istore 5, 2) := by decide +kernel
theorem dX7_farthestFromOn_9 : decode cX7_farthestFromOn 9 = .ok (.iload 5, 2) := by decide +kernel
theorem dX7_farthestFromOn_11 : decode cX7_farthestFromOn 11 = .ok (.bipush 90, 2) := by decide +kernel
theorem dX7_farthestFromOn_13 : decode cX7_farthestFromOn 13 = .ok (.if_icmp .ge 46, 3) := by decide +kernel
theorem dX7_farthestFromOn_16 : decode cX7_farthestFromOn 16 = .ok (.aload_n 0, 1) := by decide +kernel
theorem dX7_farthestFromOn_17 : decode cX7_farthestFromOn 17 = .ok (.getfield 9, 3) := by decide +kernel
theorem dX7_farthestFromOn_20 : decode cX7_farthestFromOn 20 = .ok (.iload 5, 2) := by decide +kernel
theorem dX7_farthestFromOn_22 : decode cX7_farthestFromOn 22 = .ok (.invokevirtual 91, 3) := by decide +kernel
theorem dX7_farthestFromOn_25 : decode cX7_farthestFromOn 25 = .ok (.ifCond .eq 28, 3) := by decide +kernel
theorem dX7_farthestFromOn_28 : decode cX7_farthestFromOn 28 = .ok (.aload_n 0, 1) := by decide +kernel
theorem dX7_farthestFromOn_29 : decode cX7_farthestFromOn 29 = .ok (.iload_n 1, 1) := by decide +kernel
theorem dX7_farthestFromOn_30 : decode cX7_farthestFromOn 30 = .ok (.iload 5, 2) := by decide +kernel
theorem dX7_farthestFromOn_32 : decode cX7_farthestFromOn 32 = .ok (.invokevirtual 95, 3) := by decide +kernel
theorem dX7_farthestFromOn_35 : decode cX7_farthestFromOn 35 = .ok (.fload 4, 2) := by decide +kernel
theorem dX7_farthestFromOn_37 : decode cX7_farthestFromOn 37 = .ok (.fcmp .l, 1) := by decide +kernel
theorem dX7_farthestFromOn_38 : decode cX7_farthestFromOn 38 = .ok (.ifCond .le 15, 3) := by decide +kernel
theorem dX7_farthestFromOn_41 : decode cX7_farthestFromOn 41 = .ok (.aload_n 0, 1) := by decide +kernel
theorem dX7_farthestFromOn_42 : decode cX7_farthestFromOn 42 = .ok (.iload_n 1, 1) := by decide +kernel
theorem dX7_farthestFromOn_43 : decode cX7_farthestFromOn 43 = .ok (.iload 5, 2) := by decide +kernel
theorem dX7_farthestFromOn_45 : decode cX7_farthestFromOn 45 = .ok (.invokevirtual 95, 3) := by decide +kernel
theorem dX7_farthestFromOn_48 : decode cX7_farthestFromOn 48 = .ok (.fstore 4, 2) := by decide +kernel
theorem dX7_farthestFromOn_50 : decode cX7_farthestFromOn 50 = .ok (.iload 5, 2) := by decide +kernel
theorem dX7_farthestFromOn_52 : decode cX7_farthestFromOn 52 = .ok (.istore_n 3, 1) := by decide +kernel
theorem dX7_farthestFromOn_53 : decode cX7_farthestFromOn 53 = .ok (.iinc 5 1, 3) := by decide +kernel
theorem dX7_farthestFromOn_56 : decode cX7_farthestFromOn 56 = .ok (.goto (-47), 3) := by decide +kernel
theorem dX7_farthestFromOn_59 : decode cX7_farthestFromOn 59 = .ok (.iload_n 3, 1) := by decide +kernel
theorem dX7_farthestFromOn_60 : decode cX7_farthestFromOn 60 = .ok (.ireturn, 1) := by decide +kernel
theorem dX8_init_0 : decode cX8_init 0 = .ok (.aload_n 0, 1) := by decide +kernel
theorem dX8_init_1 : decode cX8_init 1 = .ok (.invokespecial 1, 3) := by decide +kernel
theorem dX8_init_4 : decode cX8_init 4 = .ok (.aload_n 0, 1) := by decide +kernel
theorem dX8_init_5 : decode cX8_init 5 = .ok (.new 7, 3) := by decide +kernel
theorem dX8_init_8 : decode cX8_init 8 = .ok (.dup, 1) := by decide +kernel
theorem dX8_init_9 : decode cX8_init 9 = .ok (.invokespecial 9, 3) := by decide +kernel
theorem dX8_init_12 : decode cX8_init 12 = .ok (.putfield 10, 3) := by decide +kernel
theorem dX8_init_15 : decode cX8_init 15 = .ok (.aload_n 0, 1) := by decide +kernel
theorem dX8_init_16 : decode cX8_init 16 = .ok (.new 16, 3) := by decide +kernel
theorem dX8_init_19 : decode cX8_init 19 = .ok (.dup, 1) := by decide +kernel
theorem dX8_init_20 : decode cX8_init 20 = .ok (.invokespecial 18, 3) := by decide +kernel
theorem dX8_init_23 : decode cX8_init 23 = .ok (.putfield 19, 3) := by decide +kernel
theorem dX8_init_26 : decode cX8_init 26 = .ok (.aload_n 0, 1) := by decide +kernel
theorem dX8_init_27 : decode cX8_init 27 = .ok (.new 23, 3) := by decide +kernel
theorem dX8_init_30 : decode cX8_init 30 = .ok (.dup, 1) := by decide +kernel
theorem dX8_init_31 : decode cX8_init 31 = .ok (.invokespecial 25, 3) := by decide +kernel
theorem dX8_init_34 : decode cX8_init 34 = .ok (.putfield 26, 3) := by decide +kernel
theorem dX8_init_37 : decode cX8_init 37 = .ok (.aload_n 0, 1) := by decide +kernel
theorem dX8_init_38 : decode cX8_init 38 = .ok (.new 30, 3) := by decide +kernel
theorem dX8_init_41 : decode cX8_init 41 = .ok (.dup, 1) := by decide +kernel
theorem dX8_init_42 : decode cX8_init 42 = .ok (.aload_n 0, 1) := by decide +kernel
theorem dX8_init_43 : decode cX8_init 43 = .ok (.getfield 10, 3) := by decide +kernel
theorem dX8_init_46 : decode cX8_init 46 = .ok (.invokespecial 32, 3) := by decide +kernel
theorem dX8_init_49 : decode cX8_init 49 = .ok (.putfield 35, 3) := by decide +kernel
theorem dX8_init_52 : decode cX8_init 52 = .ok (.aload_n 0, 1) := by decide +kernel
theorem dX8_init_53 : decode cX8_init 53 = .ok (.new 39, 3) := by decide +kernel
theorem dX8_init_56 : decode cX8_init 56 = .ok (.dup, 1) := by decide +kernel
theorem dX8_init_57 : decode cX8_init 57 = .ok (.aload_n 0, 1) := by decide +kernel
theorem dX8_init_58 : decode cX8_init 58 = .ok (.getfield 10, 3) := by decide +kernel
theorem dX8_init_61 : decode cX8_init 61 = .ok (.aload_n 0, 1) := by decide +kernel
theorem dX8_init_62 : decode cX8_init 62 = .ok (.getfield 35, 3) := by decide +kernel
theorem dX8_init_65 : decode cX8_init 65 = .ok (.invokespecial 41, 3) := by decide +kernel
theorem dX8_init_68 : decode cX8_init 68 = .ok (.putfield 44, 3) := by decide +kernel
theorem dX8_init_71 : decode cX8_init 71 = .ok (.aload_n 0, 1) := by decide +kernel
theorem dX8_init_72 : decode cX8_init 72 = .ok (.new 48, 3) := by decide +kernel
theorem dX8_init_75 : decode cX8_init 75 = .ok (.dup, 1) := by decide +kernel
theorem dX8_init_76 : decode cX8_init 76 = .ok (.aload_n 0, 1) := by decide +kernel
theorem dX8_init_77 : decode cX8_init 77 = .ok (.getfield 10, 3) := by decide +kernel
theorem dX8_init_80 : decode cX8_init 80 = .ok (.aload_n 0, 1) := by decide +kernel
theorem dX8_init_81 : decode cX8_init 81 = .ok (.getfield 35, 3) := by decide +kernel
theorem dX8_init_84 : decode cX8_init 84 = .ok (.invokespecial 50, 3) := by decide +kernel
theorem dX8_init_87 : decode cX8_init 87 = .ok (.putfield 51, 3) := by decide +kernel
theorem dX8_init_90 : decode cX8_init 90 = .ok (.aload_n 0, 1) := by decide +kernel
theorem dX8_init_91 : decode cX8_init 91 = .ok (.invokevirtual 55, 3) := by decide +kernel
theorem dX8_init_94 : decode cX8_init 94 = .ok (.return_, 1) := by decide +kernel
theorem dX8_addLeaf_0 : decode cX8_addLeaf 0 = .ok (.aload_n 0, 1) := by decide +kernel
theorem dX8_addLeaf_1 : decode cX8_addLeaf 1 = .ok (.getfield 10, 3) := by decide +kernel
theorem dX8_addLeaf_4 : decode cX8_addLeaf 4 = .ok (.iload_n 1, 1) := by decide +kernel
theorem dX8_addLeaf_5 : decode cX8_addLeaf 5 = .ok (.invokevirtual 58, 3) := by decide +kernel
theorem dX8_addLeaf_8 : decode cX8_addLeaf 8 = .ok (.ifCond .ne 5, 3) := by decide +kernel
theorem dX8_addLeaf_11 : decode cX8_addLeaf 11 = .ok (.iconst (-1), 1) := by decide +kernel
theorem dX8_addLeaf_12 : decode cX8_addLeaf 12 = .ok (.ireturn, 1) := by decide +kernel
theorem dX8_addLeaf_13 : decode cX8_addLeaf 13 = .ok (.iload_n 2, 1) := by decide +kernel
theorem dX8_addLeaf_14 : decode cX8_addLeaf 14 = .ok (.invokestatic 62, 3) := by decide +kernel
theorem dX8_addLeaf_17 : decode cX8_addLeaf 17 = .ok (.ifCond .ne 6, 3) := by decide +kernel
theorem dX8_addLeaf_20 : decode cX8_addLeaf 20 = .ok (.bipush (-2), 2) := by decide +kernel
theorem dX8_addLeaf_22 : decode cX8_addLeaf 22 = .ok (.ireturn, 1) := by decide +kernel
theorem dX8_addLeaf_23 : decode cX8_addLeaf 23 = .ok (.aload_n 0, 1) := by decide +kernel
theorem dX8_addLeaf_24 : decode cX8_addLeaf 24 = .ok (.getfield 10, 3) := by decide +kernel
theorem dX8_addLeaf_27 : decode cX8_addLeaf 27 = .ok (.iconst 1, 1) := by decide +kernel
theorem dX8_addLeaf_28 : decode cX8_addLeaf 28 = .ok (.invokevirtual 65, 3) := by decide +kernel
theorem dX8_addLeaf_31 : decode cX8_addLeaf 31 = .ok (.ifCond .ne 6, 3) := by decide +kernel
theorem dX8_addLeaf_34 : decode cX8_addLeaf 34 = .ok (.bipush (-3), 2) := by decide +kernel
theorem dX8_addLeaf_36 : decode cX8_addLeaf 36 = .ok (.ireturn, 1) := by decide +kernel
theorem dX8_addLeaf_37 : decode cX8_addLeaf 37 = .ok (.aload_n 0, 1) := by decide +kernel
theorem dX8_addLeaf_38 : decode cX8_addLeaf 38 = .ok (.getfield 26, 3) := by decide +kernel
theorem dX8_addLeaf_41 : decode cX8_addLeaf 41 = .ok (.aload_n 0, 1) := by decide +kernel
theorem dX8_addLeaf_42 : decode cX8_addLeaf 42 = .ok (.getfield 10, 3) := by decide +kernel
theorem dX8_addLeaf_45 : decode cX8_addLeaf 45 = .ok (.invokevirtual 68, 3) := by decide +kernel
theorem dX8_addLeaf_48 : decode cX8_addLeaf 48 = .ok (.aload_n 0, 1) := by decide +kernel
theorem dX8_addLeaf_49 : decode cX8_addLeaf 49 = .ok (.getfield 10, 3) := by decide +kernel
theorem dX8_addLeaf_52 : decode cX8_addLeaf 52 = .ok (.iload_n 1, 1) := by decide +kernel
theorem dX8_addLeaf_53 : decode cX8_addLeaf 53 = .ok (.iload_n 2, 1) := by decide +kernel
theorem dX8_addLeaf_54 : decode cX8_addLeaf 54 = .ok (.iload_n 2, 1) := by decide +kernel
theorem dX8_addLeaf_55 : decode cX8_addLeaf 55 = .ok (.invokestatic 71, 3) := by decide +kernel
theorem dX8_addLeaf_58 : decode cX8_addLeaf 58 = .ok (.invokevirtual 75, 3) := by decide +kernel
theorem dX8_addLeaf_61 : decode cX8_addLeaf 61 = .ok (.istore_n 3, 1) := by decide +kernel
theorem dX8_addLeaf_62 : decode cX8_addLeaf 62 = .ok (.aload_n 0, 1) := by decide +kernel
theorem dX8_addLeaf_63 : decode cX8_addLeaf 63 = .ok (.invokevirtual 55, 3) := by decide +kernel
theorem dX8_addLeaf_66 : decode cX8_addLeaf 66 = .ok (.iload_n 3, 1) := by decide +kernel
theorem dX8_addLeaf_67 : decode cX8_addLeaf 67 = .ok (.ireturn, 1) := by decide +kernel
theorem dX8_prune_0 : decode cX8_prune 0 = .ok (.aload_n 0, 1) := by decide +kernel
theorem dX8_prune_1 : decode cX8_prune 1 = .ok (.getfield 10, 3) := by decide +kernel
theorem dX8_prune_4 : decode cX8_prune 4 = .ok (.iload_n 1, 1) := by decide +kernel
theorem dX8_prune_5 : decode cX8_prune 5 = .ok (.invokevirtual 58, 3) := by decide +kernel
theorem dX8_prune_8 : decode cX8_prune 8 = .ok (.ifCond .ne 5, 3) := by decide +kernel
theorem dX8_prune_11 : decode cX8_prune 11 = .ok (.iconst (-1), 1) := by decide +kernel
theorem dX8_prune_12 : decode cX8_prune 12 = .ok (.ireturn, 1) := by decide +kernel
theorem dX8_prune_13 : decode cX8_prune 13 = .ok (.iload_n 1, 1) := by decide +kernel
theorem dX8_prune_14 : decode cX8_prune 14 = .ok (.ifCond .eq 14, 3) := by decide +kernel
theorem dX8_prune_17 : decode cX8_prune 17 = .ok (.aload_n 0, 1) := by decide +kernel
theorem dX8_prune_18 : decode cX8_prune 18 = .ok (.getfield 35, 3) := by decide +kernel
theorem dX8_prune_21 : decode cX8_prune 21 = .ok (.iload_n 1, 1) := by decide +kernel
theorem dX8_prune_22 : decode cX8_prune 22 = .ok (.invokevirtual 79, 3) := by decide +kernel
theorem dX8_prune_25 : decode cX8_prune 25 = .ok (.ifCond .ne 6, 3) := by decide +kernel
theorem dX8_prune_28 : decode cX8_prune 28 = .ok (.bipush (-4), 2) := by decide +kernel
theorem dX8_prune_30 : decode cX8_prune 30 = .ok (.ireturn, 1) := by decide +kernel
theorem dX8_prune_31 : decode cX8_prune 31 = .ok (.aload_n 0, 1) := by decide +kernel
theorem dX8_prune_32 : decode cX8_prune 32 = .ok (.getfield 26, 3) := by decide +kernel
theorem dX8_prune_35 : decode cX8_prune 35 = .ok (.aload_n 0, 1) := by decide +kernel
theorem dX8_prune_36 : decode cX8_prune 36 = .ok (.getfield 10, 3) := by decide +kernel
theorem dX8_prune_39 : decode cX8_prune 39 = .ok (.invokevirtual 68, 3) := by decide +kernel
theorem dX8_prune_42 : decode cX8_prune 42 = .ok (.aload_n 0, 1) := by decide +kernel
theorem dX8_prune_43 : decode cX8_prune 43 = .ok (.getfield 10, 3) := by decide +kernel
theorem dX8_prune_46 : decode cX8_prune 46 = .ok (.iload_n 1, 1) := by decide +kernel
theorem dX8_prune_47 : decode cX8_prune 47 = .ok (.invokevirtual 82, 3) := by decide +kernel
theorem dX8_prune_50 : decode cX8_prune 50 = .ok (.istore_n 2, 1) := by decide +kernel
theorem dX8_prune_51 : decode cX8_prune 51 = .ok (.aload_n 0, 1) := by decide +kernel
theorem dX8_prune_52 : decode cX8_prune 52 = .ok (.getfield 10, 3) := by decide +kernel
theorem dX8_prune_55 : decode cX8_prune 55 = .ok (.iload_n 1, 1) := by decide +kernel
theorem dX8_prune_56 : decode cX8_prune 56 = .ok (.invokevirtual 86, 3) := by decide +kernel
theorem dX8_prune_59 : decode cX8_prune 59 = .ok (.aload_n 0, 1) := by decide +kernel
theorem dX8_prune_60 : decode cX8_prune 60 = .ok (.invokevirtual 55, 3) := by decide +kernel
theorem dX8_prune_63 : decode cX8_prune 63 = .ok (.aload_n 0, 1) := by decide +kernel
theorem dX8_prune_64 : decode cX8_prune 64 = .ok (.getfield 35, 3) := by decide +kernel
theorem dX8_prune_67 : decode cX8_prune 67 = .ok (.iload_n 2, 1) := by decide +kernel
theorem dX8_prune_68 : decode cX8_prune 68 = .ok (.invokevirtual 90, 3) := by decide +kernel
theorem dX8_prune_71 : decode cX8_prune 71 = .ok (.ireturn, 1) := by decide +kernel
theorem dX8_graft_0 : decode cX8_graft 0 = .ok (.aload_n 0, 1) := by decide +kernel
theorem dX8_graft_1 : decode cX8_graft 1 = .ok (.getfield 10, 3) := by decide +kernel
theorem dX8_graft_4 : decode cX8_graft 4 = .ok (.iload_n 1, 1) := by decide +kernel
theorem dX8_graft_5 : decode cX8_graft 5 = .ok (.invokevirtual 58, 3) := by decide +kernel
theorem dX8_graft_8 : decode cX8_graft 8 = .ok (.ifCond .eq 14, 3) := by decide +kernel
theorem dX8_graft_11 : decode cX8_graft 11 = .ok (.aload_n 0, 1) := by decide +kernel
theorem dX8_graft_12 : decode cX8_graft 12 = .ok (.getfield 10, 3) := by decide +kernel
theorem dX8_graft_15 : decode cX8_graft 15 = .ok (.iload_n 2, 1) := by decide +kernel
theorem dX8_graft_16 : decode cX8_graft 16 = .ok (.invokevirtual 58, 3) := by decide +kernel
theorem dX8_graft_19 : decode cX8_graft 19 = .ok (.ifCond .ne 5, 3) := by decide +kernel
theorem dX8_graft_22 : decode cX8_graft 22 = .ok (.iconst (-1), 1) := by decide +kernel
theorem dX8_graft_23 : decode cX8_graft 23 = .ok (.ireturn, 1) := by decide +kernel
theorem dX8_graft_24 : decode cX8_graft 24 = .ok (.iload_n 1, 1) := by decide +kernel
theorem dX8_graft_25 : decode cX8_graft 25 = .ok (.ifCond .eq 15, 3) := by decide +kernel
theorem dX8_graft_28 : decode cX8_graft 28 = .ok (.aload_n 0, 1) := by decide +kernel
theorem dX8_graft_29 : decode cX8_graft 29 = .ok (.getfield 35, 3) := by decide +kernel
theorem dX8_graft_32 : decode cX8_graft 32 = .ok (.iload_n 2, 1) := by decide +kernel
theorem dX8_graft_33 : decode cX8_graft 33 = .ok (.iload_n 1, 1) := by decide +kernel
theorem dX8_graft_34 : decode cX8_graft 34 = .ok (.invokevirtual 93, 3) := by decide +kernel
theorem dX8_graft_37 : decode cX8_graft 37 = .ok (.ifCond .eq 6, 3) := by decide +kernel
theorem dX8_graft_40 : decode cX8_graft 40 = .ok (.bipush (-4), 2) := by decide +kernel
theorem dX8_graft_42 : decode cX8_graft 42 = .ok (.ireturn, 1) := by decide +kernel
theorem dX8_graft_43 : decode cX8_graft 43 = .ok (.aload_n 0, 1) := by decide +kernel
theorem dX8_graft_44 : decode cX8_graft 44 = .ok (.getfield 10, 3) := by decide +kernel
theorem dX8_graft_47 : decode cX8_graft 47 = .ok (.iload_n 1, 1) := by decide +kernel
theorem dX8_graft_48 : decode cX8_graft 48 = .ok (.invokevirtual 82, 3) := by decide +kernel
theorem dX8_graft_51 : decode cX8_graft 51 = .ok (.istore_n 3, 1) := by decide +kernel
theorem dX8_graft_52 : decode cX8_graft 52 = .ok (.iload_n 3, 1) := by decide +kernel
theorem dX8_graft_53 : decode cX8_graft 53 = .ok (.iload_n 2, 1) := by decide +kernel
theorem dX8_graft_54 : decode cX8_graft 54 = .ok (.if_icmp .ne 6, 3) := by decide +kernel
theorem dX8_graft_57 : decode cX8_graft 57 = .ok (.bipush (-5), 2) := by decide +kernel
theorem dX8_graft_59 : decode cX8_graft 59 = .ok (.ireturn, 1) := by decide +kernel
theorem dX8_graft_60 : decode cX8_graft 60 = .ok (.aload_n 0, 1) := by decide +kernel
theorem dX8_graft_61 : decode cX8_graft 61 = .ok (.getfield 26, 3) := by decide +kernel
theorem dX8_graft_64 : decode cX8_graft 64 = .ok (.aload_n 0, 1) := by decide +kernel
theorem dX8_graft_65 : decode cX8_graft 65 = .ok (.getfield 10, 3) := by decide +kernel
theorem dX8_graft_68 : decode cX8_graft 68 = .ok (.invokevirtual 68, 3) := by decide +kernel
theorem dX8_graft_71 : decode cX8_graft 71 = .ok (.aload_n 0, 1) := by decide +kernel
theorem dX8_graft_72 : decode cX8_graft 72 = .ok (.getfield 10, 3) := by decide +kernel
theorem dX8_graft_75 : decode cX8_graft 75 = .ok (.iload_n 1, 1) := by decide +kernel
theorem dX8_graft_76 : decode cX8_graft 76 = .ok (.iload_n 2, 1) := by decide +kernel
theorem dX8_graft_77 : decode cX8_graft 77 = .ok (.invokevirtual 97, 3) := by decide +kernel
theorem dX8_graft_80 : decode cX8_graft 80 = .ok (.aload_n 0, 1) := by decide +kernel
theorem dX8_graft_81 : decode cX8_graft 81 = .ok (.invokevirtual 55, 3) := by decide +kernel
theorem dX8_graft_84 : decode cX8_graft 84 = .ok (.iload_n 3, 1) := by decide +kernel
theorem dX8_graft_85 : decode cX8_graft 85 = .ok (.ireturn, 1) := by decide +kernel
theorem dX8_setLength_0 : decode cX8_setLength 0 = .ok (.aload_n 0, 1) := by decide +kernel
theorem dX8_setLength_1 : decode cX8_setLength 1 = .ok (.getfield 10, 3) := by decide +kernel
theorem dX8_setLength_4 : decode cX8_setLength 4 = .ok (.iload_n 1, 1) := by decide +kernel
theorem dX8_setLength_5 : decode cX8_setLength 5 = .ok (.invokevirtual 58, 3) := by decide +kernel
theorem dX8_setLength_8 : decode cX8_setLength 8 = .ok (.ifCond .ne 5, 3) := by decide +kernel
theorem dX8_setLength_11 : decode cX8_setLength 11 = .ok (.iconst (-1), 1) := by decide +kernel
theorem dX8_setLength_12 : decode cX8_setLength 12 = .ok (.ireturn, 1) := by decide +kernel
theorem dX8_setLength_13 : decode cX8_setLength 13 = .ok (.iload_n 2, 1) := by decide +kernel
theorem dX8_setLength_14 : decode cX8_setLength 14 = .ok (.invokestatic 62, 3) := by decide +kernel
theorem dX8_setLength_17 : decode cX8_setLength 17 = .ok (.ifCond .ne 6, 3) := by decide +kernel
theorem dX8_setLength_20 : decode cX8_setLength 20 = .ok (.bipush (-2), 2) := by decide +kernel
theorem dX8_setLength_22 : decode cX8_setLength 22 = .ok (.ireturn, 1) := by decide +kernel
theorem dX8_setLength_23 : decode cX8_setLength 23 = .ok (.iload_n 1, 1) := by decide +kernel
theorem dX8_setLength_24 : decode cX8_setLength 24 = .ok (.ifCond .ne 6, 3) := by decide +kernel
theorem dX8_setLength_27 : decode cX8_setLength 27 = .ok (.bipush (-4), 2) := by decide +kernel
theorem dX8_setLength_29 : decode cX8_setLength 29 = .ok (.ireturn, 1) := by decide +kernel
theorem dX8_setLength_30 : decode cX8_setLength 30 = .ok (.aload_n 0, 1) := by decide +kernel
theorem dX8_setLength_31 : decode cX8_setLength 31 = .ok (.getfield 10, 3) := by decide +kernel
theorem dX8_setLength_34 : decode cX8_setLength 34 = .ok (.iload_n 1, 1) := by decide +kernel
theorem dX8_setLength_35 : decode cX8_setLength 35 = .ok (.invokevirtual 101, 3) := by decide +kernel
theorem dX8_setLength_38 : decode cX8_setLength 38 = .ok (.istore_n 3, 1) := by decide +kernel
theorem dX8_setLength_39 : decode cX8_setLength 39 = .ok (.iload_n 3, 1) := by decide +kernel
theorem dX8_setLength_40 : decode cX8_setLength 40 = .ok (.iload_n 2, 1) := by decide +kernel
theorem dX8_setLength_41 : decode cX8_setLength 41 = .ok (.if_icmp .ne 6, 3) := by decide +kernel
theorem dX8_setLength_44 : decode cX8_setLength 44 = .ok (.bipush (-5), 2) := by decide +kernel
theorem dX8_setLength_46 : decode cX8_setLength 46 = .ok (.ireturn, 1) := by decide +kernel
theorem dX8_setLength_47 : decode cX8_setLength 47 = .ok (.aload_n 0, 1) := by decide +kernel
theorem dX8_setLength_48 : decode cX8_setLength 48 = .ok (.getfield 26, 3) := by decide +kernel
theorem dX8_setLength_51 : decode cX8_setLength 51 = .ok (.aload_n 0, 1) := by decide +kernel
theorem dX8_setLength_52 : decode cX8_setLength 52 = .ok (.getfield 10, 3) := by decide +kernel
theorem dX8_setLength_55 : decode cX8_setLength 55 = .ok (.invokevirtual 68, 3) := by decide +kernel
theorem dX8_setLength_58 : decode cX8_setLength 58 = .ok (.aload_n 0, 1) := by decide +kernel
theorem dX8_setLength_59 : decode cX8_setLength 59 = .ok (.getfield 10, 3) := by decide +kernel
theorem dX8_setLength_62 : decode cX8_setLength 62 = .ok (.iload_n 1, 1) := by decide +kernel
theorem dX8_setLength_63 : decode cX8_setLength 63 = .ok (.iload_n 2, 1) := by decide +kernel
theorem dX8_setLength_64 : decode cX8_setLength 64 = .ok (.iload_n 2, 1) := by decide +kernel
theorem dX8_setLength_65 : decode cX8_setLength 65 = .ok (.invokestatic 71, 3) := by decide +kernel
theorem dX8_setLength_68 : decode cX8_setLength 68 = .ok (.invokevirtual 104, 3) := by decide +kernel
theorem dX8_setLength_71 : decode cX8_setLength 71 = .ok (.aload_n 0, 1) := by decide +kernel
theorem dX8_setLength_72 : decode cX8_setLength 72 = .ok (.invokevirtual 55, 3) := by decide +kernel
theorem dX8_setLength_75 : decode cX8_setLength 75 = .ok (.iload_n 3, 1) := by decide +kernel
theorem dX8_setLength_76 : decode cX8_setLength 76 = .ok (.ireturn, 1) := by decide +kernel
theorem dX8_type_0 : decode cX8_type 0 = .ok (.aload_n 0, 1) := by decide +kernel
theorem dX8_type_1 : decode cX8_type 1 = .ok (.getfield 19, 3) := by decide +kernel
theorem dX8_type_4 : decode cX8_type 4 = .ok (.iload_n 1, 1) := by decide +kernel
theorem dX8_type_5 : decode cX8_type 5 = .ok (.invokevirtual 108, 3) := by decide +kernel
theorem dX8_type_8 : decode cX8_type 8 = .ok (.ifCond .eq 13, 3) := by decide +kernel
theorem dX8_type_11 : decode cX8_type 11 = .ok (.aload_n 0, 1) := by decide +kernel
theorem dX8_type_12 : decode cX8_type 12 = .ok (.getfield 19, 3) := by decide +kernel
theorem dX8_type_15 : decode cX8_type 15 = .ok (.invokevirtual 112, 3) := by decide +kernel
theorem dX8_type_18 : decode cX8_type 18 = .ok (.goto 5, 3) := by decide +kernel
theorem dX8_type_21 : decode cX8_type 21 = .ok (.bipush (-3), 2) := by decide +kernel
theorem dX8_type_23 : decode cX8_type 23 = .ok (.ireturn, 1) := by decide +kernel
theorem dX8_grow_0 : decode cX8_grow 0 = .ok (.aload_n 0, 1) := by decide +kernel
theorem dX8_grow_1 : decode cX8_grow 1 = .ok (.getfield 10, 3) := by decide +kernel
theorem dX8_grow_4 : decode cX8_grow 4 = .ok (.iload_n 1, 1) := by decide +kernel
theorem dX8_grow_5 : decode cX8_grow 5 = .ok (.invokevirtual 58, 3) := by decide +kernel
theorem dX8_grow_8 : decode cX8_grow 8 = .ok (.ifCond .ne 5, 3) := by decide +kernel
theorem dX8_grow_11 : decode cX8_grow 11 = .ok (.iconst (-1), 1) := by decide +kernel
theorem dX8_grow_12 : decode cX8_grow 12 = .ok (.ireturn, 1) := by decide +kernel
theorem dX8_grow_13 : decode cX8_grow 13 = .ok (.aload_n 0, 1) := by decide +kernel
theorem dX8_grow_14 : decode cX8_grow 14 = .ok (.getfield 19, 3) := by decide +kernel
theorem dX8_grow_17 : decode cX8_grow 17 = .ok (.invokevirtual 119, 3) := by decide +kernel
theorem dX8_grow_20 : decode cX8_grow 20 = .ok (.istore_n 2, 1) := by decide +kernel
theorem dX8_grow_21 : decode cX8_grow 21 = .ok (.iload_n 2, 1) := by decide +kernel
theorem dX8_grow_22 : decode cX8_grow 22 = .ok (.iconst (-1), 1) := by decide +kernel
theorem dX8_grow_23 : decode cX8_grow 23 = .ok (.if_icmp .eq 8, 3) := by decide +kernel
theorem dX8_grow_26 : decode cX8_grow 26 = .ok (.bipush (-100), 2) := by decide +kernel
theorem dX8_grow_28 : decode cX8_grow 28 = .ok (.iload_n 2, 1) := by decide +kernel
theorem dX8_grow_29 : decode cX8_grow 29 = .ok (.isub, 1) := by decide +kernel
theorem dX8_grow_30 : decode cX8_grow 30 = .ok (.ireturn, 1) := by decide +kernel
theorem dX8_grow_31 : decode cX8_grow 31 = .ok (.aload_n 0, 1) := by decide +kernel
theorem dX8_grow_32 : decode cX8_grow 32 = .ok (.getfield 19, 3) := by decide +kernel
theorem dX8_grow_35 : decode cX8_grow 35 = .ok (.invokevirtual 122, 3) := by decide +kernel
theorem dX8_grow_38 : decode cX8_grow 38 = .ok (.istore_n 3, 1) := by decide +kernel
theorem dX8_grow_39 : decode cX8_grow 39 = .ok (.aload_n 0, 1) := by decide +kernel
theorem dX8_grow_40 : decode cX8_grow 40 = .ok (.getfield 10, 3) := by decide +kernel
theorem dX8_grow_43 : decode cX8_grow 43 = .ok (.iload_n 3, 1) := by decide +kernel
theorem dX8_grow_44 : decode cX8_grow 44 = .ok (.invokevirtual 65, 3) := by decide +kernel
theorem dX8_grow_47 : decode cX8_grow 47 = .ok (.ifCond .ne 6, 3) := by decide +kernel
theorem dX8_grow_50 : decode cX8_grow 50 = .ok (.bipush (-3), 2) := by decide +kernel
theorem dX8_grow_52 : decode cX8_grow 52 = .ok (.ireturn, 1) := by decide +kernel
theorem dX8_grow_53 : decode cX8_grow 53 = .ok (.aload_n 0, 1) := by decide +kernel
theorem dX8_grow_54 : decode cX8_grow 54 = .ok (.getfield 26, 3) := by decide +kernel
theorem dX8_grow_57 : decode cX8_grow 57 = .ok (.aload_n 0, 1) := by decide +kernel
theorem dX8_grow_58 : decode cX8_grow 58 = .ok (.getfield 10, 3) := by decide +kernel
theorem dX8_grow_61 : decode cX8_grow 61 = .ok (.invokevirtual 68, 3) := by decide +kernel
theorem dX8_grow_64 : decode cX8_grow 64 = .ok (.aload_n 0, 1) := by decide +kernel
theorem dX8_grow_65 : decode cX8_grow 65 = .ok (.getfield 19, 3) := by decide +kernel
theorem dX8_grow_68 : decode cX8_grow 68 = .ok (.aload_n 0, 1) := by decide +kernel
theorem dX8_grow_69 : decode cX8_grow 69 = .ok (.getfield 10, 3) := by decide +kernel
theorem dX8_grow_72 : decode cX8_grow 72 = .ok (.iload_n 1, 1) := by decide +kernel
theorem dX8_grow_73 : decode cX8_grow 73 = .ok (.invokevirtual 125, 3) := by decide +kernel
theorem dX8_grow_76 : decode cX8_grow 76 = .ok (.aload_n 0, 1) := by decide +kernel
theorem dX8_grow_77 : decode cX8_grow 77 = .ok (.invokevirtual 55, 3) := by decide +kernel
theorem dX8_grow_80 : decode cX8_grow 80 = .ok (.iload_n 3, 1) := by decide +kernel
theorem dX8_grow_81 : decode cX8_grow 81 = .ok (.ireturn, 1) := by decide +kernel
theorem dX8_undo_0 : decode cX8_undo 0 = .ok (.aload_n 0, 1) := by decide +kernel
theorem dX8_undo_1 : decode cX8_undo 1 = .ok (.getfield 26, 3) := by decide +kernel
theorem dX8_undo_4 : decode cX8_undo 4 = .ok (.invokevirtual 129, 3) := by decide +kernel
theorem dX8_undo_7 : decode cX8_undo 7 = .ok (.ifCond .ne 6, 3) := by decide +kernel
theorem dX8_undo_10 : decode cX8_undo 10 = .ok (.bipush (-5), 2) := by decide +kernel
theorem dX8_undo_12 : decode cX8_undo 12 = .ok (.ireturn, 1) := by decide +kernel
theorem dX8_undo_13 : decode cX8_undo 13 = .ok (.aload_n 0, 1) := by decide +kernel
theorem dX8_undo_14 : decode cX8_undo 14 = .ok (.getfield 26, 3) := by decide +kernel
theorem dX8_undo_17 : decode cX8_undo 17 = .ok (.aload_n 0, 1) := by decide +kernel
theorem dX8_undo_18 : decode cX8_undo 18 = .ok (.getfield 10, 3) := by decide +kernel
theorem dX8_undo_21 : decode cX8_undo 21 = .ok (.invokevirtual 130, 3) := by decide +kernel
theorem dX8_undo_24 : decode cX8_undo 24 = .ok (.aload_n 0, 1) := by decide +kernel
theorem dX8_undo_25 : decode cX8_undo 25 = .ok (.invokevirtual 55, 3) := by decide +kernel
theorem dX8_undo_28 : decode cX8_undo 28 = .ok (.aload_n 0, 1) := by decide +kernel
theorem dX8_undo_29 : decode cX8_undo 29 = .ok (.getfield 26, 3) := by decide +kernel
theorem dX8_undo_32 : decode cX8_undo 32 = .ok (.invokevirtual 129, 3) := by decide +kernel
theorem dX8_undo_35 : decode cX8_undo 35 = .ok (.ireturn, 1) := by decide +kernel
theorem dX8_keep_0 : decode cX8_keep 0 = .ok (.aload_n 0, 1) := by decide +kernel
theorem dX8_keep_1 : decode cX8_keep 1 = .ok (.getfield 26, 3) := by decide +kernel
theorem dX8_keep_4 : decode cX8_keep 4 = .ok (.aload_n 0, 1) := by decide +kernel
theorem dX8_keep_5 : decode cX8_keep 5 = .ok (.getfield 10, 3) := by decide +kernel
theorem dX8_keep_8 : decode cX8_keep 8 = .ok (.invokevirtual 133, 3) := by decide +kernel
theorem dX8_keep_11 : decode cX8_keep 11 = .ok (.aload_n 0, 1) := by decide +kernel
theorem dX8_keep_12 : decode cX8_keep 12 = .ok (.getfield 35, 3) := by decide +kernel
theorem dX8_keep_15 : decode cX8_keep 15 = .ok (.invokevirtual 136, 3) := by decide +kernel
theorem dX8_keep_18 : decode cX8_keep 18 = .ok (.ireturn, 1) := by decide +kernel
theorem dX8_restore_0 : decode cX8_restore 0 = .ok (.aload_n 0, 1) := by decide +kernel
theorem dX8_restore_1 : decode cX8_restore 1 = .ok (.getfield 26, 3) := by decide +kernel
theorem dX8_restore_4 : decode cX8_restore 4 = .ok (.invokevirtual 139, 3) := by decide +kernel
theorem dX8_restore_7 : decode cX8_restore 7 = .ok (.ifCond .ne 6, 3) := by decide +kernel
theorem dX8_restore_10 : decode cX8_restore 10 = .ok (.bipush (-5), 2) := by decide +kernel
theorem dX8_restore_12 : decode cX8_restore 12 = .ok (.ireturn, 1) := by decide +kernel
theorem dX8_restore_13 : decode cX8_restore 13 = .ok (.aload_n 0, 1) := by decide +kernel
theorem dX8_restore_14 : decode cX8_restore 14 = .ok (.getfield 26, 3) := by decide +kernel
theorem dX8_restore_17 : decode cX8_restore 17 = .ok (.aload_n 0, 1) := by decide +kernel
theorem dX8_restore_18 : decode cX8_restore 18 = .ok (.getfield 10, 3) := by decide +kernel
theorem dX8_restore_21 : decode cX8_restore 21 = .ok (.invokevirtual 68, 3) := by decide +kernel
theorem dX8_restore_24 : decode cX8_restore 24 = .ok (.aload_n 0, 1) := by decide +kernel
theorem dX8_restore_25 : decode cX8_restore 25 = .ok (.getfield 26, 3) := by decide +kernel
theorem dX8_restore_28 : decode cX8_restore 28 = .ok (.aload_n 0, 1) := by decide +kernel
theorem dX8_restore_29 : decode cX8_restore 29 = .ok (.getfield 10, 3) := by decide +kernel
theorem dX8_restore_32 : decode cX8_restore 32 = .ok (.invokevirtual 143, 3) := by decide +kernel
theorem dX8_restore_35 : decode cX8_restore 35 = .ok (.aload_n 0, 1) := by decide +kernel
theorem dX8_restore_36 : decode cX8_restore 36 = .ok (.invokevirtual 55, 3) := by decide +kernel
theorem dX8_restore_39 : decode cX8_restore 39 = .ok (.aload_n 0, 1) := by decide +kernel
theorem dX8_restore_40 : decode cX8_restore 40 = .ok (.getfield 35, 3) := by decide +kernel
theorem dX8_restore_43 : decode cX8_restore 43 = .ok (.invokevirtual 136, 3) := by decide +kernel
theorem dX8_restore_46 : decode cX8_restore 46 = .ok (.ireturn, 1) := by decide +kernel
theorem dX8_ancestor_0 : decode cX8_ancestor 0 = .ok (.aload_n 0, 1) := by decide +kernel
theorem dX8_ancestor_1 : decode cX8_ancestor 1 = .ok (.getfield 10, 3) := by decide +kernel
theorem dX8_ancestor_4 : decode cX8_ancestor 4 = .ok (.iload_n 1, 1) := by decide +kernel
theorem dX8_ancestor_5 : decode cX8_ancestor 5 = .ok (.invokevirtual 58, 3) := by decide +kernel
theorem dX8_ancestor_8 : decode cX8_ancestor 8 = .ok (.ifCond .ne 5, 3) := by decide +kernel
theorem dX8_ancestor_11 : decode cX8_ancestor 11 = .ok (.iconst (-1), 1) := by decide +kernel
theorem dX8_ancestor_12 : decode cX8_ancestor 12 = .ok (.ireturn, 1) := by decide +kernel
theorem dX8_ancestor_13 : decode cX8_ancestor 13 = .ok (.iload_n 2, 1) := by decide +kernel
theorem dX8_ancestor_14 : decode cX8_ancestor 14 = .ok (.ifCond .ge 6, 3) := by decide +kernel
theorem dX8_ancestor_17 : decode cX8_ancestor 17 = .ok (.bipush (-2), 2) := by decide +kernel
theorem dX8_ancestor_19 : decode cX8_ancestor 19 = .ok (.ireturn, 1) := by decide +kernel
theorem dX8_ancestor_20 : decode cX8_ancestor 20 = .ok (.iload_n 2, 1) := by decide +kernel
theorem dX8_ancestor_21 : decode cX8_ancestor 21 = .ok (.aload_n 0, 1) := by decide +kernel
theorem dX8_ancestor_22 : decode cX8_ancestor 22 = .ok (.getfield 35, 3) := by decide +kernel
theorem dX8_ancestor_25 : decode cX8_ancestor 25 = .ok (.iload_n 1, 1) := by decide +kernel
theorem dX8_ancestor_26 : decode cX8_ancestor 26 = .ok (.invokevirtual 146, 3) := by decide +kernel
theorem dX8_ancestor_29 : decode cX8_ancestor 29 = .ok (.if_icmp .le 8, 3) := by decide +kernel
theorem dX8_ancestor_32 : decode cX8_ancestor 32 = .ok (.bipush (-5), 2) := by decide +kernel
theorem dX8_ancestor_34 : decode cX8_ancestor 34 = .ok (.goto 12, 3) := by decide +kernel
theorem dX8_ancestor_37 : decode cX8_ancestor 37 = .ok (.aload_n 0, 1) := by decide +kernel
theorem dX8_ancestor_38 : decode cX8_ancestor 38 = .ok (.getfield 35, 3) := by decide +kernel
theorem dX8_ancestor_41 : decode cX8_ancestor 41 = .ok (.iload_n 1, 1) := by decide +kernel
theorem dX8_ancestor_42 : decode cX8_ancestor 42 = .ok (.iload_n 2, 1) := by decide +kernel
theorem dX8_ancestor_43 : decode cX8_ancestor 43 = .ok (.invokevirtual 149, 3) := by decide +kernel
theorem dX8_ancestor_46 : decode cX8_ancestor 46 = .ok (.ireturn, 1) := by decide +kernel
theorem dX8_looks_0 : decode cX8_looks 0 = .ok (.aload_n 0, 1) := by decide +kernel
theorem dX8_looks_1 : decode cX8_looks 1 = .ok (.getfield 10, 3) := by decide +kernel
theorem dX8_looks_4 : decode cX8_looks 4 = .ok (.iload_n 1, 1) := by decide +kernel
theorem dX8_looks_5 : decode cX8_looks 5 = .ok (.invokevirtual 58, 3) := by decide +kernel
theorem dX8_looks_8 : decode cX8_looks 8 = .ok (.ifCond .ne 5, 3) := by decide +kernel
theorem dX8_looks_11 : decode cX8_looks 11 = .ok (.iconst (-1), 1) := by decide +kernel
theorem dX8_looks_12 : decode cX8_looks 12 = .ok (.ireturn, 1) := by decide +kernel
theorem dX8_looks_13 : decode cX8_looks 13 = .ok (.iload_n 2, 1) := by decide +kernel
theorem dX8_looks_14 : decode cX8_looks 14 = .ok (.ifCond .ge 6, 3) := by decide +kernel
theorem dX8_looks_17 : decode cX8_looks 17 = .ok (.bipush (-2), 2) := by decide +kernel
theorem dX8_looks_19 : decode cX8_looks 19 = .ok (.ireturn, 1) := by decide +kernel
theorem dX8_looks_20 : decode cX8_looks 20 = .ok (.iload_n 2, 1) := by decide +kernel
theorem dX8_looks_21 : decode cX8_looks 21 = .ok (.aload_n 0, 1) := by decide +kernel
theorem dX8_looks_22 : decode cX8_looks 22 = .ok (.getfield 35, 3) := by decide +kernel
theorem dX8_looks_25 : decode cX8_looks 25 = .ok (.iload_n 1, 1) := by decide +kernel
theorem dX8_looks_26 : decode cX8_looks 26 = .ok (.invokevirtual 146, 3) := by decide +kernel
theorem dX8_looks_29 : decode cX8_looks 29 = .ok (.if_icmp .le 8, 3) := by decide +kernel
theorem dX8_looks_32 : decode cX8_looks 32 = .ok (.bipush (-5), 2) := by decide +kernel
theorem dX8_looks_34 : decode cX8_looks 34 = .ok (.goto 12, 3) := by decide +kernel
theorem dX8_looks_37 : decode cX8_looks 37 = .ok (.aload_n 0, 1) := by decide +kernel
theorem dX8_looks_38 : decode cX8_looks 38 = .ok (.getfield 35, 3) := by decide +kernel
theorem dX8_looks_41 : decode cX8_looks 41 = .ok (.iload_n 1, 1) := by decide +kernel
theorem dX8_looks_42 : decode cX8_looks 42 = .ok (.iload_n 2, 1) := by decide +kernel
theorem dX8_looks_43 : decode cX8_looks 43 = .ok (.invokevirtual 153, 3) := by decide +kernel
theorem dX8_looks_46 : decode cX8_looks 46 = .ok (.ireturn, 1) := by decide +kernel
theorem dX8_jump_0 : decode cX8_jump 0 = .ok (.aload_n 0, 1) := by decide +kernel
theorem dX8_jump_1 : decode cX8_jump 1 = .ok (.getfield 10, 3) := by decide +kernel
theorem dX8_jump_4 : decode cX8_jump 4 = .ok (.iload_n 1, 1) := by decide +kernel
theorem dX8_jump_5 : decode cX8_jump 5 = .ok (.invokevirtual 58, 3) := by decide +kernel
theorem dX8_jump_8 : decode cX8_jump 8 = .ok (.ifCond .ne 5, 3) := by decide +kernel
theorem dX8_jump_11 : decode cX8_jump 11 = .ok (.iconst (-1), 1) := by decide +kernel
theorem dX8_jump_12 : decode cX8_jump 12 = .ok (.ireturn, 1) := by decide +kernel
theorem dX8_jump_13 : decode cX8_jump 13 = .ok (.iload_n 2, 1) := by decide +kernel
theorem dX8_jump_14 : decode cX8_jump 14 = .ok (.ifCond .lt 9, 3) := by decide +kernel
theorem dX8_jump_17 : decode cX8_jump 17 = .ok (.iload_n 2, 1) := by decide +kernel
theorem dX8_jump_18 : decode cX8_jump 18 = .ok (.bipush 6, 2) := by decide +kernel
theorem dX8_jump_20 : decode cX8_jump 20 = .ok (.if_icmp .le 6, 3) := by decide +kernel
theorem dX8_jump_23 : decode cX8_jump 23 = .ok (.bipush (-2), 2) := by decide +kernel
theorem dX8_jump_25 : decode cX8_jump 25 = .ok (.ireturn, 1) := by decide +kernel
theorem dX8_jump_26 : decode cX8_jump 26 = .ok (.aload_n 0, 1) := by decide +kernel
theorem dX8_jump_27 : decode cX8_jump 27 = .ok (.getfield 35, 3) := by decide +kernel
theorem dX8_jump_30 : decode cX8_jump 30 = .ok (.iload_n 1, 1) := by decide +kernel
theorem dX8_jump_31 : decode cX8_jump 31 = .ok (.invokevirtual 79, 3) := by decide +kernel
theorem dX8_jump_34 : decode cX8_jump 34 = .ok (.ifCond .ne 6, 3) := by decide +kernel
theorem dX8_jump_37 : decode cX8_jump 37 = .ok (.bipush (-4), 2) := by decide +kernel
theorem dX8_jump_39 : decode cX8_jump 39 = .ok (.ireturn, 1) := by decide +kernel
theorem dX8_jump_40 : decode cX8_jump 40 = .ok (.iconst 1, 1) := by decide +kernel
theorem dX8_jump_41 : decode cX8_jump 41 = .ok (.iload_n 2, 1) := by decide +kernel
theorem dX8_jump_42 : decode cX8_jump 42 = .ok (.ishl, 1) := by decide +kernel
theorem dX8_jump_43 : decode cX8_jump 43 = .ok (.istore_n 3, 1) := by decide +kernel
theorem dX8_jump_44 : decode cX8_jump 44 = .ok (.iload_n 3, 1) := by decide +kernel
theorem dX8_jump_45 : decode cX8_jump 45 = .ok (.aload_n 0, 1) := by decide +kernel
theorem dX8_jump_46 : decode cX8_jump 46 = .ok (.getfield 35, 3) := by decide +kernel
theorem dX8_jump_49 : decode cX8_jump 49 = .ok (.iload_n 1, 1) := by decide +kernel
theorem dX8_jump_50 : decode cX8_jump 50 = .ok (.invokevirtual 146, 3) := by decide +kernel
theorem dX8_jump_53 : decode cX8_jump 53 = .ok (.if_icmp .le 8, 3) := by decide +kernel
theorem dX8_jump_56 : decode cX8_jump 56 = .ok (.bipush (-5), 2) := by decide +kernel
theorem dX8_jump_58 : decode cX8_jump 58 = .ok (.goto 12, 3) := by decide +kernel
theorem dX8_jump_61 : decode cX8_jump 61 = .ok (.aload_n 0, 1) := by decide +kernel
theorem dX8_jump_62 : decode cX8_jump 62 = .ok (.getfield 35, 3) := by decide +kernel
theorem dX8_jump_65 : decode cX8_jump 65 = .ok (.iload_n 1, 1) := by decide +kernel
theorem dX8_jump_66 : decode cX8_jump 66 = .ok (.iload_n 3, 1) := by decide +kernel
theorem dX8_jump_67 : decode cX8_jump 67 = .ok (.invokevirtual 149, 3) := by decide +kernel
theorem dX8_jump_70 : decode cX8_jump 70 = .ok (.ireturn, 1) := by decide +kernel
theorem dX8_ladderAt_0 : decode cX8_ladderAt 0 = .ok (.aload_n 0, 1) := by decide +kernel
theorem dX8_ladderAt_1 : decode cX8_ladderAt 1 = .ok (.getfield 10, 3) := by decide +kernel
theorem dX8_ladderAt_4 : decode cX8_ladderAt 4 = .ok (.iload_n 1, 1) := by decide +kernel
theorem dX8_ladderAt_5 : decode cX8_ladderAt 5 = .ok (.invokevirtual 58, 3) := by decide +kernel
theorem dX8_ladderAt_8 : decode cX8_ladderAt 8 = .ok (.ifCond .ne 5, 3) := by decide +kernel
theorem dX8_ladderAt_11 : decode cX8_ladderAt 11 = .ok (.iconst (-1), 1) := by decide +kernel
theorem dX8_ladderAt_12 : decode cX8_ladderAt 12 = .ok (.ireturn, 1) := by decide +kernel
theorem dX8_ladderAt_13 : decode cX8_ladderAt 13 = .ok (.iload_n 2, 1) := by decide +kernel
theorem dX8_ladderAt_14 : decode cX8_ladderAt 14 = .ok (.ifCond .ge 6, 3) := by decide +kernel
theorem dX8_ladderAt_17 : decode cX8_ladderAt 17 = .ok (.bipush (-2), 2) := by decide +kernel
theorem dX8_ladderAt_19 : decode cX8_ladderAt 19 = .ok (.ireturn, 1) := by decide +kernel
theorem dX8_ladderAt_20 : decode cX8_ladderAt 20 = .ok (.iload_n 2, 1) := by decide +kernel
theorem dX8_ladderAt_21 : decode cX8_ladderAt 21 = .ok (.aload_n 0, 1) := by decide +kernel
theorem dX8_ladderAt_22 : decode cX8_ladderAt 22 = .ok (.getfield 35, 3) := by decide +kernel
theorem dX8_ladderAt_25 : decode cX8_ladderAt 25 = .ok (.iload_n 1, 1) := by decide +kernel
theorem dX8_ladderAt_26 : decode cX8_ladderAt 26 = .ok (.invokevirtual 156, 3) := by decide +kernel
theorem dX8_ladderAt_29 : decode cX8_ladderAt 29 = .ok (.if_icmp .lt 8, 3) := by decide +kernel
theorem dX8_ladderAt_32 : decode cX8_ladderAt 32 = .ok (.bipush (-5), 2) := by decide +kernel
theorem dX8_ladderAt_34 : decode cX8_ladderAt 34 = .ok (.goto 19, 3) := by decide +kernel
theorem dX8_ladderAt_37 : decode cX8_ladderAt 37 = .ok (.aload_n 0, 1) := by decide +kernel
theorem dX8_ladderAt_38 : decode cX8_ladderAt 38 = .ok (.getfield 35, 3) := by decide +kernel
theorem dX8_ladderAt_41 : decode cX8_ladderAt 41 = .ok (.aload_n 0, 1) := by decide +kernel
theorem dX8_ladderAt_42 : decode cX8_ladderAt 42 = .ok (.getfield 35, 3) := by decide +kernel
theorem dX8_ladderAt_45 : decode cX8_ladderAt 45 = .ok (.iload_n 1, 1) := by decide +kernel
theorem dX8_ladderAt_46 : decode cX8_ladderAt 46 = .ok (.invokevirtual 159, 3) := by decide +kernel
theorem dX8_ladderAt_49 : decode cX8_ladderAt 49 = .ok (.iload_n 2, 1) := by decide +kernel
theorem dX8_ladderAt_50 : decode cX8_ladderAt 50 = .ok (.invokevirtual 149, 3) := by decide +kernel
theorem dX8_ladderAt_53 : decode cX8_ladderAt 53 = .ok (.ireturn, 1) := by decide +kernel
theorem dX8_node_0 : decode cX8_node 0 = .ok (.aload_n 0, 1) := by decide +kernel
theorem dX8_node_1 : decode cX8_node 1 = .ok (.getfield 10, 3) := by decide +kernel
theorem dX8_node_4 : decode cX8_node 4 = .ok (.iload_n 1, 1) := by decide +kernel
theorem dX8_node_5 : decode cX8_node 5 = .ok (.invokevirtual 58, 3) := by decide +kernel
theorem dX8_node_8 : decode cX8_node 8 = .ok (.ifCond .ne 5, 3) := by decide +kernel
theorem dX8_node_11 : decode cX8_node 11 = .ok (.iconst (-1), 1) := by decide +kernel
theorem dX8_node_12 : decode cX8_node 12 = .ok (.ireturn, 1) := by decide +kernel
theorem dX8_node_13 : decode cX8_node 13 = .ok (.iload_n 2, 1) := by decide +kernel
theorem dX8_node_14 : decode cX8_node 14 = .ok (.tableswitch 150 0 9 #[54, 66, 75, 84, 93, 102, 114, 123, 132, 141], 54) := by decide +kernel
theorem dX8_node_68 : decode cX8_node 68 = .ok (.aload_n 0, 1) := by decide +kernel
theorem dX8_node_69 : decode cX8_node 69 = .ok (.getfield 10, 3) := by decide +kernel
theorem dX8_node_72 : decode cX8_node 72 = .ok (.iload_n 1, 1) := by decide +kernel
theorem dX8_node_73 : decode cX8_node 73 = .ok (.invokevirtual 82, 3) := by decide +kernel
theorem dX8_node_76 : decode cX8_node 76 = .ok (.invokestatic 162, 3) := by decide +kernel
theorem dX8_node_79 : decode cX8_node 79 = .ok (.ireturn, 1) := by decide +kernel
theorem dX8_node_80 : decode cX8_node 80 = .ok (.aload_n 0, 1) := by decide +kernel
theorem dX8_node_81 : decode cX8_node 81 = .ok (.getfield 35, 3) := by decide +kernel
theorem dX8_node_84 : decode cX8_node 84 = .ok (.iload_n 1, 1) := by decide +kernel
theorem dX8_node_85 : decode cX8_node 85 = .ok (.invokevirtual 146, 3) := by decide +kernel
theorem dX8_node_88 : decode cX8_node 88 = .ok (.ireturn, 1) := by decide +kernel
theorem dX8_node_89 : decode cX8_node 89 = .ok (.aload_n 0, 1) := by decide +kernel
theorem dX8_node_90 : decode cX8_node 90 = .ok (.getfield 35, 3) := by decide +kernel
theorem dX8_node_93 : decode cX8_node 93 = .ok (.iload_n 1, 1) := by decide +kernel
theorem dX8_node_94 : decode cX8_node 94 = .ok (.invokevirtual 165, 3) := by decide +kernel
theorem dX8_node_97 : decode cX8_node 97 = .ok (.ireturn, 1) := by decide +kernel
theorem dX8_node_98 : decode cX8_node 98 = .ok (.aload_n 0, 1) := by decide +kernel
theorem dX8_node_99 : decode cX8_node 99 = .ok (.getfield 35, 3) := by decide +kernel
theorem dX8_node_102 : decode cX8_node 102 = .ok (.iload_n 1, 1) := by decide +kernel
theorem dX8_node_103 : decode cX8_node 103 = .ok (.invokevirtual 90, 3) := by decide +kernel
theorem dX8_node_106 : decode cX8_node 106 = .ok (.ireturn, 1) := by decide +kernel
theorem dX8_node_107 : decode cX8_node 107 = .ok (.aload_n 0, 1) := by decide +kernel
theorem dX8_node_108 : decode cX8_node 108 = .ok (.getfield 35, 3) := by decide +kernel
theorem dX8_node_111 : decode cX8_node 111 = .ok (.iload_n 1, 1) := by decide +kernel
theorem dX8_node_112 : decode cX8_node 112 = .ok (.invokevirtual 168, 3) := by decide +kernel
theorem dX8_node_115 : decode cX8_node 115 = .ok (.ireturn, 1) := by decide +kernel
theorem dX8_node_116 : decode cX8_node 116 = .ok (.aload_n 0, 1) := by decide +kernel
theorem dX8_node_117 : decode cX8_node 117 = .ok (.getfield 35, 3) := by decide +kernel
theorem dX8_node_120 : decode cX8_node 120 = .ok (.iload_n 1, 1) := by decide +kernel
theorem dX8_node_121 : decode cX8_node 121 = .ok (.invokevirtual 171, 3) := by decide +kernel
theorem dX8_node_124 : decode cX8_node 124 = .ok (.invokestatic 162, 3) := by decide +kernel
theorem dX8_node_127 : decode cX8_node 127 = .ok (.ireturn, 1) := by decide +kernel
theorem dX8_node_128 : decode cX8_node 128 = .ok (.aload_n 0, 1) := by decide +kernel
theorem dX8_node_129 : decode cX8_node 129 = .ok (.getfield 35, 3) := by decide +kernel
theorem dX8_node_132 : decode cX8_node 132 = .ok (.iload_n 1, 1) := by decide +kernel
theorem dX8_node_133 : decode cX8_node 133 = .ok (.invokevirtual 174, 3) := by decide +kernel
theorem dX8_node_136 : decode cX8_node 136 = .ok (.ireturn, 1) := by decide +kernel
theorem dX8_node_137 : decode cX8_node 137 = .ok (.aload_n 0, 1) := by decide +kernel
theorem dX8_node_138 : decode cX8_node 138 = .ok (.getfield 35, 3) := by decide +kernel
theorem dX8_node_141 : decode cX8_node 141 = .ok (.iload_n 1, 1) := by decide +kernel
theorem dX8_node_142 : decode cX8_node 142 = .ok (.invokevirtual 159, 3) := by decide +kernel
theorem dX8_node_145 : decode cX8_node 145 = .ok (.ireturn, 1) := by decide +kernel
theorem dX8_node_146 : decode cX8_node 146 = .ok (.aload_n 0, 1) := by decide +kernel
theorem dX8_node_147 : decode cX8_node 147 = .ok (.getfield 35, 3) := by decide +kernel
theorem dX8_node_150 : decode cX8_node 150 = .ok (.iload_n 1, 1) := by decide +kernel
theorem dX8_node_151 : decode cX8_node 151 = .ok (.invokevirtual 177, 3) := by decide +kernel
theorem dX8_node_154 : decode cX8_node 154 = .ok (.ireturn, 1) := by decide +kernel
theorem dX8_node_155 : decode cX8_node 155 = .ok (.aload_n 0, 1) := by decide +kernel
theorem dX8_node_156 : decode cX8_node 156 = .ok (.getfield 35, 3) := by decide +kernel
theorem dX8_node_159 : decode cX8_node 159 = .ok (.iload_n 1, 1) := by decide +kernel
theorem dX8_node_160 : decode cX8_node 160 = .ok (.invokevirtual 156, 3) := by decide +kernel
theorem dX8_node_163 : decode cX8_node 163 = .ok (.ireturn, 1) := by decide +kernel
theorem dX8_node_164 : decode cX8_node 164 = .ok (.bipush (-2), 2) := by decide +kernel
theorem dX8_node_166 : decode cX8_node 166 = .ok (.ireturn, 1) := by decide +kernel
theorem dX8_meeting_0 : decode cX8_meeting 0 = .ok (.aload_n 0, 1) := by decide +kernel
theorem dX8_meeting_1 : decode cX8_meeting 1 = .ok (.getfield 10, 3) := by decide +kernel
theorem dX8_meeting_4 : decode cX8_meeting 4 = .ok (.iload_n 1, 1) := by decide +kernel
theorem dX8_meeting_5 : decode cX8_meeting 5 = .ok (.invokevirtual 58, 3) := by decide +kernel
theorem dX8_meeting_8 : decode cX8_meeting 8 = .ok (.ifCond .eq 14, 3) := by decide +kernel
theorem dX8_meeting_11 : decode cX8_meeting 11 = .ok (.aload_n 0, 1) := by decide +kernel
theorem dX8_meeting_12 : decode cX8_meeting 12 = .ok (.getfield 10, 3) := by decide +kernel
theorem dX8_meeting_15 : decode cX8_meeting 15 = .ok (.iload_n 2, 1) := by decide +kernel
theorem dX8_meeting_16 : decode cX8_meeting 16 = .ok (.invokevirtual 58, 3) := by decide +kernel
theorem dX8_meeting_19 : decode cX8_meeting 19 = .ok (.ifCond .ne 5, 3) := by decide +kernel
theorem dX8_meeting_22 : decode cX8_meeting 22 = .ok (.iconst (-1), 1) := by decide +kernel
theorem dX8_meeting_23 : decode cX8_meeting 23 = .ok (.ireturn, 1) := by decide +kernel
theorem dX8_meeting_24 : decode cX8_meeting 24 = .ok (.aload_n 0, 1) := by decide +kernel
theorem dX8_meeting_25 : decode cX8_meeting 25 = .ok (.getfield 35, 3) := by decide +kernel
theorem dX8_meeting_28 : decode cX8_meeting 28 = .ok (.iload_n 1, 1) := by decide +kernel
theorem dX8_meeting_29 : decode cX8_meeting 29 = .ok (.iload_n 2, 1) := by decide +kernel
theorem dX8_meeting_30 : decode cX8_meeting 30 = .ok (.invokevirtual 180, 3) := by decide +kernel
theorem dX8_meeting_33 : decode cX8_meeting 33 = .ok (.ireturn, 1) := by decide +kernel
theorem dX8_wayAt_0 : decode cX8_wayAt 0 = .ok (.aload_n 0, 1) := by decide +kernel
theorem dX8_wayAt_1 : decode cX8_wayAt 1 = .ok (.getfield 10, 3) := by decide +kernel
theorem dX8_wayAt_4 : decode cX8_wayAt 4 = .ok (.iload_n 1, 1) := by decide +kernel
theorem dX8_wayAt_5 : decode cX8_wayAt 5 = .ok (.invokevirtual 58, 3) := by decide +kernel
theorem dX8_wayAt_8 : decode cX8_wayAt 8 = .ok (.ifCond .eq 14, 3) := by decide +kernel
theorem dX8_wayAt_11 : decode cX8_wayAt 11 = .ok (.aload_n 0, 1) := by decide +kernel
theorem dX8_wayAt_12 : decode cX8_wayAt 12 = .ok (.getfield 10, 3) := by decide +kernel
theorem dX8_wayAt_15 : decode cX8_wayAt 15 = .ok (.iload_n 2, 1) := by decide +kernel
theorem dX8_wayAt_16 : decode cX8_wayAt 16 = .ok (.invokevirtual 58, 3) := by decide +kernel
theorem dX8_wayAt_19 : decode cX8_wayAt 19 = .ok (.ifCond .ne 5, 3) := by decide +kernel
theorem dX8_wayAt_22 : decode cX8_wayAt 22 = .ok (.iconst (-1), 1) := by decide +kernel
theorem dX8_wayAt_23 : decode cX8_wayAt 23 = .ok (.ireturn, 1) := by decide +kernel
theorem dX8_wayAt_24 : decode cX8_wayAt 24 = .ok (.iload_n 3, 1) := by decide +kernel
theorem dX8_wayAt_25 : decode cX8_wayAt 25 = .ok (.ifCond .ge 6, 3) := by decide +kernel
theorem dX8_wayAt_28 : decode cX8_wayAt 28 = .ok (.bipush (-2), 2) := by decide +kernel
theorem dX8_wayAt_30 : decode cX8_wayAt 30 = .ok (.ireturn, 1) := by decide +kernel
theorem dX8_wayAt_31 : decode cX8_wayAt 31 = .ok (.aload_n 0, 1) := by decide +kernel
theorem dX8_wayAt_32 : decode cX8_wayAt 32 = .ok (.getfield 44, 3) := by decide +kernel
theorem dX8_wayAt_35 : decode cX8_wayAt 35 = .ok (.iload_n 1, 1) := by decide +kernel
theorem dX8_wayAt_36 : decode cX8_wayAt 36 = .ok (.iload_n 2, 1) := by decide +kernel
theorem dX8_wayAt_37 : decode cX8_wayAt 37 = .ok (.iload_n 3, 1) := by decide +kernel
theorem dX8_wayAt_38 : decode cX8_wayAt 38 = .ok (.invokevirtual 183, 3) := by decide +kernel
theorem dX8_wayAt_41 : decode cX8_wayAt 41 = .ok (.invokestatic 162, 3) := by decide +kernel
theorem dX8_wayAt_44 : decode cX8_wayAt 44 = .ok (.ireturn, 1) := by decide +kernel
theorem dX8_real_0 : decode cX8_real 0 = .ok (.aload_n 0, 1) := by decide +kernel
theorem dX8_real_1 : decode cX8_real 1 = .ok (.getfield 10, 3) := by decide +kernel
theorem dX8_real_4 : decode cX8_real 4 = .ok (.iload_n 1, 1) := by decide +kernel
theorem dX8_real_5 : decode cX8_real 5 = .ok (.invokevirtual 58, 3) := by decide +kernel
theorem dX8_real_8 : decode cX8_real 8 = .ok (.ifCond .eq 12, 3) := by decide +kernel
theorem dX8_real_11 : decode cX8_real 11 = .ok (.iload_n 2, 1) := by decide +kernel
theorem dX8_real_12 : decode cX8_real 12 = .ok (.ifCond .lt 8, 3) := by decide +kernel
theorem dX8_real_15 : decode cX8_real 15 = .ok (.iload_n 2, 1) := by decide +kernel
theorem dX8_real_16 : decode cX8_real 16 = .ok (.iconst 1, 1) := by decide +kernel
theorem dX8_real_17 : decode cX8_real 17 = .ok (.if_icmp .le 7, 3) := by decide +kernel
theorem dX8_real_20 : decode cX8_real 20 = .ok (.invokestatic 187, 3) := by decide +kernel
theorem dX8_real_23 : decode cX8_real 23 = .ok (.freturn, 1) := by decide +kernel
theorem dX8_real_24 : decode cX8_real 24 = .ok (.iload_n 2, 1) := by decide +kernel
theorem dX8_real_25 : decode cX8_real 25 = .ok (.ifCond .ne 14, 3) := by decide +kernel
theorem dX8_real_28 : decode cX8_real 28 = .ok (.aload_n 0, 1) := by decide +kernel
theorem dX8_real_29 : decode cX8_real 29 = .ok (.getfield 10, 3) := by decide +kernel
theorem dX8_real_32 : decode cX8_real 32 = .ok (.iload_n 1, 1) := by decide +kernel
theorem dX8_real_33 : decode cX8_real 33 = .ok (.invokevirtual 191, 3) := by decide +kernel
theorem dX8_real_36 : decode cX8_real 36 = .ok (.goto 11, 3) := by decide +kernel
theorem dX8_real_39 : decode cX8_real 39 = .ok (.aload_n 0, 1) := by decide +kernel
theorem dX8_real_40 : decode cX8_real 40 = .ok (.getfield 44, 3) := by decide +kernel
theorem dX8_real_43 : decode cX8_real 43 = .ok (.iload_n 1, 1) := by decide +kernel
theorem dX8_real_44 : decode cX8_real 44 = .ok (.invokevirtual 194, 3) := by decide +kernel
theorem dX8_real_47 : decode cX8_real 47 = .ok (.freturn, 1) := by decide +kernel
theorem dX8_distance_0 : decode cX8_distance 0 = .ok (.aload_n 0, 1) := by decide +kernel
theorem dX8_distance_1 : decode cX8_distance 1 = .ok (.getfield 10, 3) := by decide +kernel
theorem dX8_distance_4 : decode cX8_distance 4 = .ok (.iload_n 1, 1) := by decide +kernel
theorem dX8_distance_5 : decode cX8_distance 5 = .ok (.invokevirtual 58, 3) := by decide +kernel
theorem dX8_distance_8 : decode cX8_distance 8 = .ok (.ifCond .eq 14, 3) := by decide +kernel
theorem dX8_distance_11 : decode cX8_distance 11 = .ok (.aload_n 0, 1) := by decide +kernel
theorem dX8_distance_12 : decode cX8_distance 12 = .ok (.getfield 10, 3) := by decide +kernel
theorem dX8_distance_15 : decode cX8_distance 15 = .ok (.iload_n 2, 1) := by decide +kernel
theorem dX8_distance_16 : decode cX8_distance 16 = .ok (.invokevirtual 58, 3) := by decide +kernel
theorem dX8_distance_19 : decode cX8_distance 19 = .ok (.ifCond .ne 7, 3) := by decide +kernel
theorem dX8_distance_22 : decode cX8_distance 22 = .ok (.invokestatic 187, 3) := by decide +kernel
theorem dX8_distance_25 : decode cX8_distance 25 = .ok (.freturn, 1) := by decide +kernel
theorem dX8_distance_26 : decode cX8_distance 26 = .ok (.aload_n 0, 1) := by decide +kernel
theorem dX8_distance_27 : decode cX8_distance 27 = .ok (.getfield 44, 3) := by decide +kernel
theorem dX8_distance_30 : decode cX8_distance 30 = .ok (.iload_n 1, 1) := by decide +kernel
theorem dX8_distance_31 : decode cX8_distance 31 = .ok (.iload_n 2, 1) := by decide +kernel
theorem dX8_distance_32 : decode cX8_distance 32 = .ok (.invokevirtual 197, 3) := by decide +kernel
theorem dX8_distance_35 : decode cX8_distance 35 = .ok (.freturn, 1) := by decide +kernel
theorem dX8_reach_0 : decode cX8_reach 0 = .ok (.aload_n 0, 1) := by decide +kernel
theorem dX8_reach_1 : decode cX8_reach 1 = .ok (.getfield 10, 3) := by decide +kernel
theorem dX8_reach_4 : decode cX8_reach 4 = .ok (.iload_n 1, 1) := by decide +kernel
theorem dX8_reach_5 : decode cX8_reach 5 = .ok (.invokevirtual 58, 3) := by decide +kernel
theorem dX8_reach_8 : decode cX8_reach 8 = .ok (.ifCond .ne 5, 3) := by decide +kernel
theorem dX8_reach_11 : decode cX8_reach 11 = .ok (.iconst (-1), 1) := by decide +kernel
theorem dX8_reach_12 : decode cX8_reach 12 = .ok (.ireturn, 1) := by decide +kernel
theorem dX8_reach_13 : decode cX8_reach 13 = .ok (.iload_n 2, 1) := by decide +kernel
theorem dX8_reach_14 : decode cX8_reach 14 = .ok (.invokestatic 62, 3) := by decide +kernel
theorem dX8_reach_17 : decode cX8_reach 17 = .ok (.ifCond .ne 6, 3) := by decide +kernel
theorem dX8_reach_20 : decode cX8_reach 20 = .ok (.bipush (-2), 2) := by decide +kernel
theorem dX8_reach_22 : decode cX8_reach 22 = .ok (.ireturn, 1) := by decide +kernel
theorem dX8_reach_23 : decode cX8_reach 23 = .ok (.aload_n 0, 1) := by decide +kernel
theorem dX8_reach_24 : decode cX8_reach 24 = .ok (.getfield 44, 3) := by decide +kernel
theorem dX8_reach_27 : decode cX8_reach 27 = .ok (.iload_n 1, 1) := by decide +kernel
theorem dX8_reach_28 : decode cX8_reach 28 = .ok (.iload_n 2, 1) := by decide +kernel
theorem dX8_reach_29 : decode cX8_reach 29 = .ok (.invokestatic 71, 3) := by decide +kernel
theorem dX8_reach_32 : decode cX8_reach 32 = .ok (.invokevirtual 201, 3) := by decide +kernel
theorem dX8_reach_35 : decode cX8_reach 35 = .ok (.ireturn, 1) := by decide +kernel
theorem dX8_farthest_0 : decode cX8_farthest 0 = .ok (.aload_n 0, 1) := by decide +kernel
theorem dX8_farthest_1 : decode cX8_farthest 1 = .ok (.getfield 10, 3) := by decide +kernel
theorem dX8_farthest_4 : decode cX8_farthest 4 = .ok (.iload_n 1, 1) := by decide +kernel
theorem dX8_farthest_5 : decode cX8_farthest 5 = .ok (.invokevirtual 58, 3) := by decide +kernel
theorem dX8_farthest_8 : decode cX8_farthest 8 = .ok (.ifCond .ne 5, 3) := by decide +kernel
theorem dX8_farthest_11 : decode cX8_farthest 11 = .ok (.iconst (-1), 1) := by decide +kernel
theorem dX8_farthest_12 : decode cX8_farthest 12 = .ok (.ireturn, 1) := by decide +kernel
theorem dX8_farthest_13 : decode cX8_farthest 13 = .ok (.aload_n 0, 1) := by decide +kernel
theorem dX8_farthest_14 : decode cX8_farthest 14 = .ok (.getfield 44, 3) := by decide +kernel
theorem dX8_farthest_17 : decode cX8_farthest 17 = .ok (.iload_n 1, 1) := by decide +kernel
theorem dX8_farthest_18 : decode cX8_farthest 18 = .ok (.invokevirtual 205, 3) := by decide +kernel
theorem dX8_farthest_21 : decode cX8_farthest 21 = .ok (.ireturn, 1) := by decide +kernel
theorem dX8_apart_0 : decode cX8_apart 0 = .ok (.iload_n 1, 1) := by decide +kernel
theorem dX8_apart_1 : decode cX8_apart 1 = .ok (.ifCond .lt 8, 3) := by decide +kernel
theorem dX8_apart_4 : decode cX8_apart 4 = .ok (.iload_n 1, 1) := by decide +kernel
theorem dX8_apart_5 : decode cX8_apart 5 = .ok (.iconst 1, 1) := by decide +kernel
theorem dX8_apart_6 : decode cX8_apart 6 = .ok (.if_icmp .le 6, 3) := by decide +kernel
theorem dX8_apart_9 : decode cX8_apart 9 = .ok (.bipush (-2), 2) := by decide +kernel
theorem dX8_apart_11 : decode cX8_apart 11 = .ok (.ireturn, 1) := by decide +kernel
theorem dX8_apart_12 : decode cX8_apart 12 = .ok (.aload_n 0, 1) := by decide +kernel
theorem dX8_apart_13 : decode cX8_apart 13 = .ok (.getfield 44, 3) := by decide +kernel
theorem dX8_apart_16 : decode cX8_apart 16 = .ok (.invokevirtual 208, 3) := by decide +kernel
theorem dX8_apart_19 : decode cX8_apart 19 = .ok (.iload_n 1, 1) := by decide +kernel
theorem dX8_apart_20 : decode cX8_apart 20 = .ok (.ifCond .ne 13, 3) := by decide +kernel
theorem dX8_apart_23 : decode cX8_apart 23 = .ok (.aload_n 0, 1) := by decide +kernel
theorem dX8_apart_24 : decode cX8_apart 24 = .ok (.getfield 44, 3) := by decide +kernel
theorem dX8_apart_27 : decode cX8_apart 27 = .ok (.invokevirtual 211, 3) := by decide +kernel
theorem dX8_apart_30 : decode cX8_apart 30 = .ok (.goto 10, 3) := by decide +kernel
theorem dX8_apart_33 : decode cX8_apart 33 = .ok (.aload_n 0, 1) := by decide +kernel
theorem dX8_apart_34 : decode cX8_apart 34 = .ok (.getfield 44, 3) := by decide +kernel
theorem dX8_apart_37 : decode cX8_apart 37 = .ok (.invokevirtual 214, 3) := by decide +kernel
theorem dX8_apart_40 : decode cX8_apart 40 = .ok (.ireturn, 1) := by decide +kernel
theorem dX8_shape_0 : decode cX8_shape 0 = .ok (.aload_n 0, 1) := by decide +kernel
theorem dX8_shape_1 : decode cX8_shape 1 = .ok (.getfield 10, 3) := by decide +kernel
theorem dX8_shape_4 : decode cX8_shape 4 = .ok (.iload_n 1, 1) := by decide +kernel
theorem dX8_shape_5 : decode cX8_shape 5 = .ok (.invokevirtual 58, 3) := by decide +kernel
theorem dX8_shape_8 : decode cX8_shape 8 = .ok (.ifCond .ne 5, 3) := by decide +kernel
theorem dX8_shape_11 : decode cX8_shape 11 = .ok (.iconst (-1), 1) := by decide +kernel
theorem dX8_shape_12 : decode cX8_shape 12 = .ok (.ireturn, 1) := by decide +kernel
theorem dX8_shape_13 : decode cX8_shape 13 = .ok (.aload_n 0, 1) := by decide +kernel
theorem dX8_shape_14 : decode cX8_shape 14 = .ok (.getfield 35, 3) := by decide +kernel
theorem dX8_shape_17 : decode cX8_shape 17 = .ok (.iload_n 1, 1) := by decide +kernel
theorem dX8_shape_18 : decode cX8_shape 18 = .ok (.invokevirtual 168, 3) := by decide +kernel
theorem dX8_shape_21 : decode cX8_shape 21 = .ok (.bipush 15, 2) := by decide +kernel
theorem dX8_shape_23 : decode cX8_shape 23 = .ok (.if_icmp .le 6, 3) := by decide +kernel
theorem dX8_shape_26 : decode cX8_shape 26 = .ok (.bipush (-5), 2) := by decide +kernel
theorem dX8_shape_28 : decode cX8_shape 28 = .ok (.ireturn, 1) := by decide +kernel
theorem dX8_shape_29 : decode cX8_shape 29 = .ok (.aload_n 0, 1) := by decide +kernel
theorem dX8_shape_30 : decode cX8_shape 30 = .ok (.getfield 51, 3) := by decide +kernel
theorem dX8_shape_33 : decode cX8_shape 33 = .ok (.invokevirtual 217, 3) := by decide +kernel
theorem dX8_shape_36 : decode cX8_shape 36 = .ok (.aload_n 0, 1) := by decide +kernel
theorem dX8_shape_37 : decode cX8_shape 37 = .ok (.getfield 51, 3) := by decide +kernel
theorem dX8_shape_40 : decode cX8_shape 40 = .ok (.iload_n 1, 1) := by decide +kernel
theorem dX8_shape_41 : decode cX8_shape 41 = .ok (.invokevirtual 220, 3) := by decide +kernel
theorem dX8_shape_44 : decode cX8_shape 44 = .ok (.ireturn, 1) := by decide +kernel
theorem dX8_alike_0 : decode cX8_alike 0 = .ok (.aload_n 0, 1) := by decide +kernel
theorem dX8_alike_1 : decode cX8_alike 1 = .ok (.getfield 10, 3) := by decide +kernel
theorem dX8_alike_4 : decode cX8_alike 4 = .ok (.iload_n 1, 1) := by decide +kernel
theorem dX8_alike_5 : decode cX8_alike 5 = .ok (.invokevirtual 58, 3) := by decide +kernel
theorem dX8_alike_8 : decode cX8_alike 8 = .ok (.ifCond .ne 5, 3) := by decide +kernel
theorem dX8_alike_11 : decode cX8_alike 11 = .ok (.iconst (-1), 1) := by decide +kernel
theorem dX8_alike_12 : decode cX8_alike 12 = .ok (.ireturn, 1) := by decide +kernel
theorem dX8_alike_13 : decode cX8_alike 13 = .ok (.aload_n 0, 1) := by decide +kernel
theorem dX8_alike_14 : decode cX8_alike 14 = .ok (.getfield 35, 3) := by decide +kernel
theorem dX8_alike_17 : decode cX8_alike 17 = .ok (.iload_n 1, 1) := by decide +kernel
theorem dX8_alike_18 : decode cX8_alike 18 = .ok (.invokevirtual 168, 3) := by decide +kernel
theorem dX8_alike_21 : decode cX8_alike 21 = .ok (.bipush 15, 2) := by decide +kernel
theorem dX8_alike_23 : decode cX8_alike 23 = .ok (.if_icmp .le 6, 3) := by decide +kernel
theorem dX8_alike_26 : decode cX8_alike 26 = .ok (.bipush (-5), 2) := by decide +kernel
theorem dX8_alike_28 : decode cX8_alike 28 = .ok (.ireturn, 1) := by decide +kernel
theorem dX8_alike_29 : decode cX8_alike 29 = .ok (.aload_n 0, 1) := by decide +kernel
theorem dX8_alike_30 : decode cX8_alike 30 = .ok (.getfield 51, 3) := by decide +kernel
theorem dX8_alike_33 : decode cX8_alike 33 = .ok (.invokevirtual 217, 3) := by decide +kernel
theorem dX8_alike_36 : decode cX8_alike 36 = .ok (.aload_n 0, 1) := by decide +kernel
theorem dX8_alike_37 : decode cX8_alike 37 = .ok (.getfield 51, 3) := by decide +kernel
theorem dX8_alike_40 : decode cX8_alike 40 = .ok (.iload_n 1, 1) := by decide +kernel
theorem dX8_alike_41 : decode cX8_alike 41 = .ok (.invokevirtual 223, 3) := by decide +kernel
theorem dX8_alike_44 : decode cX8_alike 44 = .ok (.ireturn, 1) := by decide +kernel
theorem dX8_count_0 : decode cX8_count 0 = .ok (.iload_n 1, 1) := by decide +kernel
theorem dX8_count_1 : decode cX8_count 1 = .ok (.tableswitch 142 0 9 #[55, 63, 71, 71, 79, 87, 95, 104, 126, 134], 55) := by decide +kernel
theorem dX8_count_56 : decode cX8_count 56 = .ok (.aload_n 0, 1) := by decide +kernel
theorem dX8_count_57 : decode cX8_count 57 = .ok (.getfield 35, 3) := by decide +kernel
theorem dX8_count_60 : decode cX8_count 60 = .ok (.invokevirtual 136, 3) := by decide +kernel
theorem dX8_count_63 : decode cX8_count 63 = .ok (.ireturn, 1) := by decide +kernel
theorem dX8_count_64 : decode cX8_count 64 = .ok (.aload_n 0, 1) := by decide +kernel
theorem dX8_count_65 : decode cX8_count 65 = .ok (.getfield 10, 3) := by decide +kernel
theorem dX8_count_68 : decode cX8_count 68 = .ok (.invokevirtual 235, 3) := by decide +kernel
theorem dX8_count_71 : decode cX8_count 71 = .ok (.ireturn, 1) := by decide +kernel
theorem dX8_count_72 : decode cX8_count 72 = .ok (.aload_n 0, 1) := by decide +kernel
theorem dX8_count_73 : decode cX8_count 73 = .ok (.getfield 35, 3) := by decide +kernel
theorem dX8_count_76 : decode cX8_count 76 = .ok (.invokevirtual 238, 3) := by decide +kernel
theorem dX8_count_79 : decode cX8_count 79 = .ok (.ireturn, 1) := by decide +kernel
theorem dX8_count_80 : decode cX8_count 80 = .ok (.aload_n 0, 1) := by decide +kernel
theorem dX8_count_81 : decode cX8_count 81 = .ok (.getfield 35, 3) := by decide +kernel
theorem dX8_count_84 : decode cX8_count 84 = .ok (.invokevirtual 241, 3) := by decide +kernel
theorem dX8_count_87 : decode cX8_count 87 = .ok (.ireturn, 1) := by decide +kernel
theorem dX8_count_88 : decode cX8_count 88 = .ok (.aload_n 0, 1) := by decide +kernel
theorem dX8_count_89 : decode cX8_count 89 = .ok (.getfield 35, 3) := by decide +kernel
theorem dX8_count_92 : decode cX8_count 92 = .ok (.invokevirtual 244, 3) := by decide +kernel
theorem dX8_count_95 : decode cX8_count 95 = .ok (.ireturn, 1) := by decide +kernel
theorem dX8_count_96 : decode cX8_count 96 = .ok (.aload_n 0, 1) := by decide +kernel
theorem dX8_count_97 : decode cX8_count 97 = .ok (.getfield 35, 3) := by decide +kernel
theorem dX8_count_100 : decode cX8_count 100 = .ok (.iconst 0, 1) := by decide +kernel
theorem dX8_count_101 : decode cX8_count 101 = .ok (.invokevirtual 165, 3) := by decide +kernel
theorem dX8_count_104 : decode cX8_count 104 = .ok (.ireturn, 1) := by decide +kernel
theorem dX8_count_105 : decode cX8_count 105 = .ok (.aload_n 0, 1) := by decide +kernel
theorem dX8_count_106 : decode cX8_count 106 = .ok (.getfield 51, 3) := by decide +kernel
theorem dX8_count_109 : decode cX8_count 109 = .ok (.invokevirtual 217, 3) := by decide +kernel
theorem dX8_count_112 : decode cX8_count 112 = .ok (.aload_n 0, 1) := by decide +kernel
theorem dX8_count_113 : decode cX8_count 113 = .ok (.getfield 51, 3) := by decide +kernel
theorem dX8_count_116 : decode cX8_count 116 = .ok (.invokevirtual 226, 3) := by decide +kernel
theorem dX8_count_119 : decode cX8_count 119 = .ok (.aload_n 0, 1) := by decide +kernel
theorem dX8_count_120 : decode cX8_count 120 = .ok (.getfield 51, 3) := by decide +kernel
theorem dX8_count_123 : decode cX8_count 123 = .ok (.invokevirtual 229, 3) := by decide +kernel
theorem dX8_count_126 : decode cX8_count 126 = .ok (.ireturn, 1) := by decide +kernel
theorem dX8_count_127 : decode cX8_count 127 = .ok (.aload_n 0, 1) := by decide +kernel
theorem dX8_count_128 : decode cX8_count 128 = .ok (.getfield 26, 3) := by decide +kernel
theorem dX8_count_131 : decode cX8_count 131 = .ok (.invokevirtual 129, 3) := by decide +kernel
theorem dX8_count_134 : decode cX8_count 134 = .ok (.ireturn, 1) := by decide +kernel
theorem dX8_count_135 : decode cX8_count 135 = .ok (.aload_n 0, 1) := by decide +kernel
theorem dX8_count_136 : decode cX8_count 136 = .ok (.getfield 19, 3) := by decide +kernel
theorem dX8_count_139 : decode cX8_count 139 = .ok (.invokevirtual 112, 3) := by decide +kernel
theorem dX8_count_142 : decode cX8_count 142 = .ok (.ireturn, 1) := by decide +kernel
theorem dX8_count_143 : decode cX8_count 143 = .ok (.bipush (-2), 2) := by decide +kernel
theorem dX8_count_145 : decode cX8_count 145 = .ok (.ireturn, 1) := by decide +kernel
theorem dX8_lookAround_0 : decode cX8_lookAround 0 = .ok (.aload_n 0, 1) := by decide +kernel
theorem dX8_lookAround_1 : decode cX8_lookAround 1 = .ok (.getfield 35, 3) := by decide +kernel
theorem dX8_lookAround_4 : decode cX8_lookAround 4 = .ok (.invokevirtual 247, 3) := by decide +kernel
theorem dX8_lookAround_7 : decode cX8_lookAround 7 = .ok (.aload_n 0, 1) := by decide +kernel
theorem dX8_lookAround_8 : decode cX8_lookAround 8 = .ok (.getfield 44, 3) := by decide +kernel
theorem dX8_lookAround_11 : decode cX8_lookAround 11 = .ok (.invokevirtual 250, 3) := by decide +kernel
theorem dX8_lookAround_14 : decode cX8_lookAround 14 = .ok (.return_, 1) := by decide +kernel
theorem dX8_orNone_0 : decode cX8_orNone 0 = .ok (.iload_n 0, 1) := by decide +kernel
theorem dX8_orNone_1 : decode cX8_orNone 1 = .ok (.iconst (-1), 1) := by decide +kernel
theorem dX8_orNone_2 : decode cX8_orNone 2 = .ok (.if_icmp .ne 8, 3) := by decide +kernel
theorem dX8_orNone_5 : decode cX8_orNone 5 = .ok (.bipush (-5), 2) := by decide +kernel
theorem dX8_orNone_7 : decode cX8_orNone 7 = .ok (.goto 4, 3) := by decide +kernel
theorem dX8_orNone_10 : decode cX8_orNone 10 = .ok (.iload_n 0, 1) := by decide +kernel
theorem dX8_orNone_11 : decode cX8_orNone 11 = .ok (.ireturn, 1) := by decide +kernel
theorem dX8_noFloat_0 : decode cX8_noFloat 0 = .ok (.ldc 251, 2) := by decide +kernel
theorem dX8_noFloat_2 : decode cX8_noFloat 2 = .ok (.freturn, 1) := by decide +kernel
theorem dX8_isLength_0 : decode cX8_isLength 0 = .ok (.iload_n 0, 1) := by decide +kernel
theorem dX8_isLength_1 : decode cX8_isLength 1 = .ok (.ifCond .lt 13, 3) := by decide +kernel
theorem dX8_isLength_4 : decode cX8_isLength 4 = .ok (.iload_n 0, 1) := by decide +kernel
theorem dX8_isLength_5 : decode cX8_isLength 5 = .ok (.ldc 252, 2) := by decide +kernel
theorem dX8_isLength_7 : decode cX8_isLength 7 = .ok (.if_icmp .gt 7, 3) := by decide +kernel
theorem dX8_isLength_10 : decode cX8_isLength 10 = .ok (.iconst 1, 1) := by decide +kernel
theorem dX8_isLength_11 : decode cX8_isLength 11 = .ok (.goto 4, 3) := by decide +kernel
theorem dX8_isLength_14 : decode cX8_isLength 14 = .ok (.iconst 0, 1) := by decide +kernel
theorem dX8_isLength_15 : decode cX8_isLength 15 = .ok (.ireturn, 1) := by decide +kernel
theorem dX8_toFloat_0 : decode cX8_toFloat 0 = .ok (.iload_n 0, 1) := by decide +kernel
theorem dX8_toFloat_1 : decode cX8_toFloat 1 = .ok (.bipush 23, 2) := by decide +kernel
theorem dX8_toFloat_3 : decode cX8_toFloat 3 = .ok (.ishr, 1) := by decide +kernel
theorem dX8_toFloat_4 : decode cX8_toFloat 4 = .ok (.istore_n 1, 1) := by decide +kernel
theorem dX8_toFloat_5 : decode cX8_toFloat 5 = .ok (.iload_n 0, 1) := by decide +kernel
theorem dX8_toFloat_6 : decode cX8_toFloat 6 = .ok (.ldc 253, 2) := by decide +kernel
theorem dX8_toFloat_8 : decode cX8_toFloat 8 = .ok (.iand, 1) := by decide +kernel
theorem dX8_toFloat_9 : decode cX8_toFloat 9 = .ok (.istore_n 2, 1) := by decide +kernel
theorem dX8_toFloat_10 : decode cX8_toFloat 10 = .ok (.iload_n 1, 1) := by decide +kernel
theorem dX8_toFloat_11 : decode cX8_toFloat 11 = .ok (.ifCond .ne 8, 3) := by decide +kernel
theorem dX8_toFloat_14 : decode cX8_toFloat 14 = .ok (.iload_n 2, 1) := by decide +kernel
theorem dX8_toFloat_15 : decode cX8_toFloat 15 = .ok (.i2f, 1) := by decide +kernel
theorem dX8_toFloat_16 : decode cX8_toFloat 16 = .ok (.goto 8, 3) := by decide +kernel
theorem dX8_toFloat_19 : decode cX8_toFloat 19 = .ok (.iload_n 2, 1) := by decide +kernel
theorem dX8_toFloat_20 : decode cX8_toFloat 20 = .ok (.ldc 254, 2) := by decide +kernel
theorem dX8_toFloat_22 : decode cX8_toFloat 22 = .ok (.iadd, 1) := by decide +kernel
theorem dX8_toFloat_23 : decode cX8_toFloat 23 = .ok (.i2f, 1) := by decide +kernel
theorem dX8_toFloat_24 : decode cX8_toFloat 24 = .ok (.fstore_n 3, 1) := by decide +kernel
theorem dX8_toFloat_25 : decode cX8_toFloat 25 = .ok (.iload_n 1, 1) := by decide +kernel
theorem dX8_toFloat_26 : decode cX8_toFloat 26 = .ok (.ifCond .ne 7, 3) := by decide +kernel
theorem dX8_toFloat_29 : decode cX8_toFloat 29 = .ok (.iconst 1, 1) := by decide +kernel
theorem dX8_toFloat_30 : decode cX8_toFloat 30 = .ok (.goto 4, 3) := by decide +kernel
theorem dX8_toFloat_33 : decode cX8_toFloat 33 = .ok (.iload_n 1, 1) := by decide +kernel
theorem dX8_toFloat_34 : decode cX8_toFloat 34 = .ok (.istore 4, 2) := by decide +kernel
theorem dX8_toFloat_36 : decode cX8_toFloat 36 = .ok (.iload 4, 2) := by decide +kernel
theorem dX8_toFloat_38 : decode cX8_toFloat 38 = .ok (.sipush 150, 3) := by decide +kernel
theorem dX8_toFloat_41 : decode cX8_toFloat 41 = .ok (.if_icmp .ge 14, 3) := by decide +kernel
theorem dX8_toFloat_44 : decode cX8_toFloat 44 = .ok (.fload_n 3, 1) := by decide +kernel
theorem dX8_toFloat_45 : decode cX8_toFloat 45 = .ok (.ldc 255, 2) := by decide +kernel
theorem dX8_toFloat_47 : decode cX8_toFloat 47 = .ok (.fmul, 1) := by decide +kernel
theorem dX8_toFloat_48 : decode cX8_toFloat 48 = .ok (.fstore_n 3, 1) := by decide +kernel
theorem dX8_toFloat_49 : decode cX8_toFloat 49 = .ok (.iinc 4 1, 3) := by decide +kernel
theorem dX8_toFloat_52 : decode cX8_toFloat 52 = .ok (.goto (-16), 3) := by decide +kernel
theorem dX8_toFloat_55 : decode cX8_toFloat 55 = .ok (.fload_n 3, 1) := by decide +kernel
theorem dX8_toFloat_56 : decode cX8_toFloat 56 = .ok (.freturn, 1) := by decide +kernel
theorem dJ6_bitCount_0f7a4_0 : decode cJ6_bitCount_0f7a4 0 = .ok (.iload_n 0, 1) := by decide +kernel
theorem dJ6_bitCount_0f7a4_1 : decode cJ6_bitCount_0f7a4 1 = .ok (.iload_n 0, 1) := by decide +kernel
theorem dJ6_bitCount_0f7a4_2 : decode cJ6_bitCount_0f7a4 2 = .ok (.iconst 1, 1) := by decide +kernel
theorem dJ6_bitCount_0f7a4_3 : decode cJ6_bitCount_0f7a4 3 = .ok (.iushr, 1) := by decide +kernel
theorem dJ6_bitCount_0f7a4_4 : decode cJ6_bitCount_0f7a4 4 = .ok (.ldc_w 265, 3) := by decide +kernel
theorem dJ6_bitCount_0f7a4_7 : decode cJ6_bitCount_0f7a4 7 = .ok (.iand, 1) := by decide +kernel
theorem dJ6_bitCount_0f7a4_8 : decode cJ6_bitCount_0f7a4 8 = .ok (.isub, 1) := by decide +kernel
theorem dJ6_bitCount_0f7a4_9 : decode cJ6_bitCount_0f7a4 9 = .ok (.istore_n 0, 1) := by decide +kernel
theorem dJ6_bitCount_0f7a4_10 : decode cJ6_bitCount_0f7a4 10 = .ok (.iload_n 0, 1) := by decide +kernel
theorem dJ6_bitCount_0f7a4_11 : decode cJ6_bitCount_0f7a4 11 = .ok (.ldc_w 266, 3) := by decide +kernel
theorem dJ6_bitCount_0f7a4_14 : decode cJ6_bitCount_0f7a4 14 = .ok (.iand, 1) := by decide +kernel
theorem dJ6_bitCount_0f7a4_15 : decode cJ6_bitCount_0f7a4 15 = .ok (.iload_n 0, 1) := by decide +kernel
theorem dJ6_bitCount_0f7a4_16 : decode cJ6_bitCount_0f7a4 16 = .ok (.iconst 2, 1) := by decide +kernel
theorem dJ6_bitCount_0f7a4_17 : decode cJ6_bitCount_0f7a4 17 = .ok (.iushr, 1) := by decide +kernel
theorem dJ6_bitCount_0f7a4_18 : decode cJ6_bitCount_0f7a4 18 = .ok (.ldc_w 266, 3) := by decide +kernel
theorem dJ6_bitCount_0f7a4_21 : decode cJ6_bitCount_0f7a4 21 = .ok (.iand, 1) := by decide +kernel
theorem dJ6_bitCount_0f7a4_22 : decode cJ6_bitCount_0f7a4 22 = .ok (.iadd, 1) := by decide +kernel
theorem dJ6_bitCount_0f7a4_23 : decode cJ6_bitCount_0f7a4 23 = .ok (.istore_n 0, 1) := by decide +kernel
theorem dJ6_bitCount_0f7a4_24 : decode cJ6_bitCount_0f7a4 24 = .ok (.iload_n 0, 1) := by decide +kernel
theorem dJ6_bitCount_0f7a4_25 : decode cJ6_bitCount_0f7a4 25 = .ok (.iload_n 0, 1) := by decide +kernel
theorem dJ6_bitCount_0f7a4_26 : decode cJ6_bitCount_0f7a4 26 = .ok (.iconst 4, 1) := by decide +kernel
theorem dJ6_bitCount_0f7a4_27 : decode cJ6_bitCount_0f7a4 27 = .ok (.iushr, 1) := by decide +kernel
theorem dJ6_bitCount_0f7a4_28 : decode cJ6_bitCount_0f7a4 28 = .ok (.iadd, 1) := by decide +kernel
theorem dJ6_bitCount_0f7a4_29 : decode cJ6_bitCount_0f7a4 29 = .ok (.ldc_w 267, 3) := by decide +kernel
theorem dJ6_bitCount_0f7a4_32 : decode cJ6_bitCount_0f7a4 32 = .ok (.iand, 1) := by decide +kernel
theorem dJ6_bitCount_0f7a4_33 : decode cJ6_bitCount_0f7a4 33 = .ok (.istore_n 0, 1) := by decide +kernel
theorem dJ6_bitCount_0f7a4_34 : decode cJ6_bitCount_0f7a4 34 = .ok (.iload_n 0, 1) := by decide +kernel
theorem dJ6_bitCount_0f7a4_35 : decode cJ6_bitCount_0f7a4 35 = .ok (.iload_n 0, 1) := by decide +kernel
theorem dJ6_bitCount_0f7a4_36 : decode cJ6_bitCount_0f7a4 36 = .ok (.bipush 8, 2) := by decide +kernel
theorem dJ6_bitCount_0f7a4_38 : decode cJ6_bitCount_0f7a4 38 = .ok (.iushr, 1) := by decide +kernel
theorem dJ6_bitCount_0f7a4_39 : decode cJ6_bitCount_0f7a4 39 = .ok (.iadd, 1) := by decide +kernel
theorem dJ6_bitCount_0f7a4_40 : decode cJ6_bitCount_0f7a4 40 = .ok (.istore_n 0, 1) := by decide +kernel
theorem dJ6_bitCount_0f7a4_41 : decode cJ6_bitCount_0f7a4 41 = .ok (.iload_n 0, 1) := by decide +kernel
theorem dJ6_bitCount_0f7a4_42 : decode cJ6_bitCount_0f7a4 42 = .ok (.iload_n 0, 1) := by decide +kernel
theorem dJ6_bitCount_0f7a4_43 : decode cJ6_bitCount_0f7a4 43 = .ok (.bipush 16, 2) := by decide +kernel
theorem dJ6_bitCount_0f7a4_45 : decode cJ6_bitCount_0f7a4 45 = .ok (.iushr, 1) := by decide +kernel
theorem dJ6_bitCount_0f7a4_46 : decode cJ6_bitCount_0f7a4 46 = .ok (.iadd, 1) := by decide +kernel
theorem dJ6_bitCount_0f7a4_47 : decode cJ6_bitCount_0f7a4 47 = .ok (.istore_n 0, 1) := by decide +kernel
theorem dJ6_bitCount_0f7a4_48 : decode cJ6_bitCount_0f7a4 48 = .ok (.iload_n 0, 1) := by decide +kernel
theorem dJ6_bitCount_0f7a4_49 : decode cJ6_bitCount_0f7a4 49 = .ok (.bipush 63, 2) := by decide +kernel
theorem dJ6_bitCount_0f7a4_51 : decode cJ6_bitCount_0f7a4 51 = .ok (.iand, 1) := by decide +kernel
theorem dJ6_bitCount_0f7a4_52 : decode cJ6_bitCount_0f7a4 52 = .ok (.ireturn, 1) := by decide +kernel
theorem dJ9_min_7cf53_0 : decode cJ9_min_7cf53 0 = .ok (.iload_n 0, 1) := by decide +kernel
theorem dJ9_min_7cf53_1 : decode cJ9_min_7cf53 1 = .ok (.iload_n 1, 1) := by decide +kernel
theorem dJ9_min_7cf53_2 : decode cJ9_min_7cf53 2 = .ok (.if_icmp .gt 7, 3) := by decide +kernel
theorem dJ9_min_7cf53_5 : decode cJ9_min_7cf53 5 = .ok (.iload_n 0, 1) := by decide +kernel
theorem dJ9_min_7cf53_6 : decode cJ9_min_7cf53 6 = .ok (.goto 4, 3) := by decide +kernel
theorem dJ9_min_7cf53_9 : decode cJ9_min_7cf53 9 = .ok (.iload_n 1, 1) := by decide +kernel
theorem dJ9_min_7cf53_10 : decode cJ9_min_7cf53 10 = .ok (.ireturn, 1) := by decide +kernel
