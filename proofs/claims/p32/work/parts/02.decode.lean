theorem dX0_init_0 : decode cX0_init 0 = .ok (.aload_n 0, 1) := by decide +kernel
theorem dX0_init_1 : decode cX0_init 1 = .ok (.invokespecial 3, 3) := by decide +kernel
theorem dX0_init_4 : decode cX0_init 4 = .ok (.aload_n 0, 1) := by decide +kernel
theorem dX0_init_5 : decode cX0_init 5 = .ok (.bipush 6, 2) := by decide +kernel
theorem dX0_init_7 : decode cX0_init 7 = .ok (.anewarray 9, 3) := by decide +kernel
theorem dX0_init_10 : decode cX0_init 10 = .ok (.putfield 11, 3) := by decide +kernel
theorem dX0_init_13 : decode cX0_init 13 = .ok (.aload_n 0, 1) := by decide +kernel
theorem dX0_init_14 : decode cX0_init 14 = .ok (.iconst 0, 1) := by decide +kernel
theorem dX0_init_15 : decode cX0_init 15 = .ok (.putfield 17, 3) := by decide +kernel
theorem dX0_init_18 : decode cX0_init 18 = .ok (.iconst 0, 1) := by decide +kernel
theorem dX0_init_19 : decode cX0_init 19 = .ok (.istore_n 1, 1) := by decide +kernel
theorem dX0_init_20 : decode cX0_init 20 = .ok (.iload_n 1, 1) := by decide +kernel
theorem dX0_init_21 : decode cX0_init 21 = .ok (.bipush 6, 2) := by decide +kernel
theorem dX0_init_23 : decode cX0_init 23 = .ok (.if_icmp .ge 22, 3) := by decide +kernel
theorem dX0_init_26 : decode cX0_init 26 = .ok (.aload_n 0, 1) := by decide +kernel
theorem dX0_init_27 : decode cX0_init 27 = .ok (.getfield 11, 3) := by decide +kernel
theorem dX0_init_30 : decode cX0_init 30 = .ok (.iload_n 1, 1) := by decide +kernel
theorem dX0_init_31 : decode cX0_init 31 = .ok (.new 9, 3) := by decide +kernel
theorem dX0_init_34 : decode cX0_init 34 = .ok (.dup, 1) := by decide +kernel
theorem dX0_init_35 : decode cX0_init 35 = .ok (.invokespecial 21, 3) := by decide +kernel
theorem dX0_init_38 : decode cX0_init 38 = .ok (.aastore, 1) := by decide +kernel
theorem dX0_init_39 : decode cX0_init 39 = .ok (.iinc 1 1, 3) := by decide +kernel
theorem dX0_init_42 : decode cX0_init 42 = .ok (.goto (-22), 3) := by decide +kernel
theorem dX0_init_45 : decode cX0_init 45 = .ok (.return_, 1) := by decide +kernel
theorem dX0_record_0 : decode cX0_record 0 = .ok (.aload_n 0, 1) := by decide +kernel
theorem dX0_record_1 : decode cX0_record 1 = .ok (.getfield 17, 3) := by decide +kernel
theorem dX0_record_4 : decode cX0_record 4 = .ok (.bipush 6, 2) := by decide +kernel
theorem dX0_record_6 : decode cX0_record 6 = .ok (.if_icmp .ne 7, 3) := by decide +kernel
theorem dX0_record_9 : decode cX0_record 9 = .ok (.aload_n 0, 1) := by decide +kernel
theorem dX0_record_10 : decode cX0_record 10 = .ok (.invokevirtual 22, 3) := by decide +kernel
theorem dX0_record_13 : decode cX0_record 13 = .ok (.aload_n 0, 1) := by decide +kernel
theorem dX0_record_14 : decode cX0_record 14 = .ok (.getfield 11, 3) := by decide +kernel
theorem dX0_record_17 : decode cX0_record 17 = .ok (.aload_n 0, 1) := by decide +kernel
theorem dX0_record_18 : decode cX0_record 18 = .ok (.getfield 17, 3) := by decide +kernel
theorem dX0_record_21 : decode cX0_record 21 = .ok (.aaload, 1) := by decide +kernel
theorem dX0_record_22 : decode cX0_record 22 = .ok (.aload_n 1, 1) := by decide +kernel
theorem dX0_record_23 : decode cX0_record 23 = .ok (.invokevirtual 25, 3) := by decide +kernel
theorem dX0_record_26 : decode cX0_record 26 = .ok (.aload_n 0, 1) := by decide +kernel
theorem dX0_record_27 : decode cX0_record 27 = .ok (.dup, 1) := by decide +kernel
theorem dX0_record_28 : decode cX0_record 28 = .ok (.getfield 17, 3) := by decide +kernel
theorem dX0_record_31 : decode cX0_record 31 = .ok (.iconst 1, 1) := by decide +kernel
theorem dX0_record_32 : decode cX0_record 32 = .ok (.iadd, 1) := by decide +kernel
theorem dX0_record_33 : decode cX0_record 33 = .ok (.putfield 17, 3) := by decide +kernel
theorem dX0_record_36 : decode cX0_record 36 = .ok (.return_, 1) := by decide +kernel
theorem dX0_dropOldest_0 : decode cX0_dropOldest 0 = .ok (.aload_n 0, 1) := by decide +kernel
theorem dX0_dropOldest_1 : decode cX0_dropOldest 1 = .ok (.getfield 11, 3) := by decide +kernel
theorem dX0_dropOldest_4 : decode cX0_dropOldest 4 = .ok (.iconst 0, 1) := by decide +kernel
theorem dX0_dropOldest_5 : decode cX0_dropOldest 5 = .ok (.aaload, 1) := by decide +kernel
theorem dX0_dropOldest_6 : decode cX0_dropOldest 6 = .ok (.astore_n 1, 1) := by decide +kernel
theorem dX0_dropOldest_7 : decode cX0_dropOldest 7 = .ok (.iconst 1, 1) := by decide +kernel
theorem dX0_dropOldest_8 : decode cX0_dropOldest 8 = .ok (.istore_n 2, 1) := by decide +kernel
theorem dX0_dropOldest_9 : decode cX0_dropOldest 9 = .ok (.iload_n 2, 1) := by decide +kernel
theorem dX0_dropOldest_10 : decode cX0_dropOldest 10 = .ok (.bipush 6, 2) := by decide +kernel
theorem dX0_dropOldest_12 : decode cX0_dropOldest 12 = .ok (.if_icmp .ge 23, 3) := by decide +kernel
theorem dX0_dropOldest_15 : decode cX0_dropOldest 15 = .ok (.aload_n 0, 1) := by decide +kernel
theorem dX0_dropOldest_16 : decode cX0_dropOldest 16 = .ok (.getfield 11, 3) := by decide +kernel
theorem dX0_dropOldest_19 : decode cX0_dropOldest 19 = .ok (.iload_n 2, 1) := by decide +kernel
theorem dX0_dropOldest_20 : decode cX0_dropOldest 20 = .ok (.iconst 1, 1) := by decide +kernel
theorem dX0_dropOldest_21 : decode cX0_dropOldest 21 = .ok (.isub, 1) := by decide +kernel
theorem dX0_dropOldest_22 : decode cX0_dropOldest 22 = .ok (.aload_n 0, 1) := by decide +kernel
theorem dX0_dropOldest_23 : decode cX0_dropOldest 23 = .ok (.getfield 11, 3) := by decide +kernel
theorem dX0_dropOldest_26 : decode cX0_dropOldest 26 = .ok (.iload_n 2, 1) := by decide +kernel
theorem dX0_dropOldest_27 : decode cX0_dropOldest 27 = .ok (.aaload, 1) := by decide +kernel
theorem dX0_dropOldest_28 : decode cX0_dropOldest 28 = .ok (.aastore, 1) := by decide +kernel
theorem dX0_dropOldest_29 : decode cX0_dropOldest 29 = .ok (.iinc 2 1, 3) := by decide +kernel
theorem dX0_dropOldest_32 : decode cX0_dropOldest 32 = .ok (.goto (-23), 3) := by decide +kernel
theorem dX0_dropOldest_35 : decode cX0_dropOldest 35 = .ok (.aload_n 0, 1) := by decide +kernel
theorem dX0_dropOldest_36 : decode cX0_dropOldest 36 = .ok (.getfield 11, 3) := by decide +kernel
theorem dX0_dropOldest_39 : decode cX0_dropOldest 39 = .ok (.iconst 5, 1) := by decide +kernel
theorem dX0_dropOldest_40 : decode cX0_dropOldest 40 = .ok (.aload_n 1, 1) := by decide +kernel
theorem dX0_dropOldest_41 : decode cX0_dropOldest 41 = .ok (.aastore, 1) := by decide +kernel
theorem dX0_dropOldest_42 : decode cX0_dropOldest 42 = .ok (.aload_n 0, 1) := by decide +kernel
theorem dX0_dropOldest_43 : decode cX0_dropOldest 43 = .ok (.dup, 1) := by decide +kernel
theorem dX0_dropOldest_44 : decode cX0_dropOldest 44 = .ok (.getfield 17, 3) := by decide +kernel
theorem dX0_dropOldest_47 : decode cX0_dropOldest 47 = .ok (.iconst 1, 1) := by decide +kernel
theorem dX0_dropOldest_48 : decode cX0_dropOldest 48 = .ok (.isub, 1) := by decide +kernel
theorem dX0_dropOldest_49 : decode cX0_dropOldest 49 = .ok (.putfield 17, 3) := by decide +kernel
theorem dX0_dropOldest_52 : decode cX0_dropOldest 52 = .ok (.return_, 1) := by decide +kernel
theorem dX0_goBack_0 : decode cX0_goBack 0 = .ok (.aload_n 0, 1) := by decide +kernel
theorem dX0_goBack_1 : decode cX0_goBack 1 = .ok (.dup, 1) := by decide +kernel
theorem dX0_goBack_2 : decode cX0_goBack 2 = .ok (.getfield 17, 3) := by decide +kernel
theorem dX0_goBack_5 : decode cX0_goBack 5 = .ok (.iconst 1, 1) := by decide +kernel
theorem dX0_goBack_6 : decode cX0_goBack 6 = .ok (.isub, 1) := by decide +kernel
theorem dX0_goBack_7 : decode cX0_goBack 7 = .ok (.putfield 17, 3) := by decide +kernel
theorem dX0_goBack_10 : decode cX0_goBack 10 = .ok (.aload_n 1, 1) := by decide +kernel
theorem dX0_goBack_11 : decode cX0_goBack 11 = .ok (.aload_n 0, 1) := by decide +kernel
theorem dX0_goBack_12 : decode cX0_goBack 12 = .ok (.getfield 11, 3) := by decide +kernel
theorem dX0_goBack_15 : decode cX0_goBack 15 = .ok (.aload_n 0, 1) := by decide +kernel
theorem dX0_goBack_16 : decode cX0_goBack 16 = .ok (.getfield 17, 3) := by decide +kernel
theorem dX0_goBack_19 : decode cX0_goBack 19 = .ok (.aaload, 1) := by decide +kernel
theorem dX0_goBack_20 : decode cX0_goBack 20 = .ok (.invokevirtual 25, 3) := by decide +kernel
theorem dX0_goBack_23 : decode cX0_goBack 23 = .ok (.return_, 1) := by decide +kernel
theorem dX1_init_0 : decode cX1_init 0 = .ok (.aload_n 0, 1) := by decide +kernel
theorem dX1_init_1 : decode cX1_init 1 = .ok (.invokespecial 3, 3) := by decide +kernel
theorem dX1_init_4 : decode cX1_init 4 = .ok (.aload_n 0, 1) := by decide +kernel
theorem dX1_init_5 : decode cX1_init 5 = .ok (.new 9, 3) := by decide +kernel
theorem dX1_init_8 : decode cX1_init 8 = .ok (.dup, 1) := by decide +kernel
theorem dX1_init_9 : decode cX1_init 9 = .ok (.invokespecial 11, 3) := by decide +kernel
theorem dX1_init_12 : decode cX1_init 12 = .ok (.putfield 12, 3) := by decide +kernel
theorem dX1_init_15 : decode cX1_init 15 = .ok (.aload_n 0, 1) := by decide +kernel
theorem dX1_init_16 : decode cX1_init 16 = .ok (.iconst 2, 1) := by decide +kernel
theorem dX1_init_17 : decode cX1_init 17 = .ok (.anewarray 9, 3) := by decide +kernel
theorem dX1_init_20 : decode cX1_init 20 = .ok (.putfield 18, 3) := by decide +kernel
theorem dX1_init_23 : decode cX1_init 23 = .ok (.aload_n 0, 1) := by decide +kernel
theorem dX1_init_24 : decode cX1_init 24 = .ok (.iconst 2, 1) := by decide +kernel
theorem dX1_init_25 : decode cX1_init 25 = .ok (.newarray .boolean, 2) := by decide +kernel
theorem dX1_init_27 : decode cX1_init 27 = .ok (.putfield 22, 3) := by decide +kernel
theorem dX1_init_30 : decode cX1_init 30 = .ok (.iconst 0, 1) := by decide +kernel
theorem dX1_init_31 : decode cX1_init 31 = .ok (.istore_n 1, 1) := by decide +kernel
theorem dX1_init_32 : decode cX1_init 32 = .ok (.iload_n 1, 1) := by decide +kernel
theorem dX1_init_33 : decode cX1_init 33 = .ok (.iconst 2, 1) := by decide +kernel
theorem dX1_init_34 : decode cX1_init 34 = .ok (.if_icmp .ge 22, 3) := by decide +kernel
theorem dX1_init_37 : decode cX1_init 37 = .ok (.aload_n 0, 1) := by decide +kernel
theorem dX1_init_38 : decode cX1_init 38 = .ok (.getfield 18, 3) := by decide +kernel
theorem dX1_init_41 : decode cX1_init 41 = .ok (.iload_n 1, 1) := by decide +kernel
theorem dX1_init_42 : decode cX1_init 42 = .ok (.new 9, 3) := by decide +kernel
theorem dX1_init_45 : decode cX1_init 45 = .ok (.dup, 1) := by decide +kernel
theorem dX1_init_46 : decode cX1_init 46 = .ok (.invokespecial 11, 3) := by decide +kernel
theorem dX1_init_49 : decode cX1_init 49 = .ok (.aastore, 1) := by decide +kernel
theorem dX1_init_50 : decode cX1_init 50 = .ok (.iinc 1 1, 3) := by decide +kernel
theorem dX1_init_53 : decode cX1_init 53 = .ok (.goto (-21), 3) := by decide +kernel
theorem dX1_init_56 : decode cX1_init 56 = .ok (.return_, 1) := by decide +kernel
theorem dX1_copyFrom_0 : decode cX1_copyFrom 0 = .ok (.aload_n 0, 1) := by decide +kernel
theorem dX1_copyFrom_1 : decode cX1_copyFrom 1 = .ok (.getfield 12, 3) := by decide +kernel
theorem dX1_copyFrom_4 : decode cX1_copyFrom 4 = .ok (.aload_n 1, 1) := by decide +kernel
theorem dX1_copyFrom_5 : decode cX1_copyFrom 5 = .ok (.getfield 12, 3) := by decide +kernel
theorem dX1_copyFrom_8 : decode cX1_copyFrom 8 = .ok (.invokevirtual 26, 3) := by decide +kernel
theorem dX1_copyFrom_11 : decode cX1_copyFrom 11 = .ok (.iconst 0, 1) := by decide +kernel
theorem dX1_copyFrom_12 : decode cX1_copyFrom 12 = .ok (.istore_n 2, 1) := by decide +kernel
theorem dX1_copyFrom_13 : decode cX1_copyFrom 13 = .ok (.iload_n 2, 1) := by decide +kernel
theorem dX1_copyFrom_14 : decode cX1_copyFrom 14 = .ok (.iconst 2, 1) := by decide +kernel
theorem dX1_copyFrom_15 : decode cX1_copyFrom 15 = .ok (.if_icmp .ge 36, 3) := by decide +kernel
theorem dX1_copyFrom_18 : decode cX1_copyFrom 18 = .ok (.aload_n 0, 1) := by decide +kernel
theorem dX1_copyFrom_19 : decode cX1_copyFrom 19 = .ok (.getfield 18, 3) := by decide +kernel
theorem dX1_copyFrom_22 : decode cX1_copyFrom 22 = .ok (.iload_n 2, 1) := by decide +kernel
theorem dX1_copyFrom_23 : decode cX1_copyFrom 23 = .ok (.aaload, 1) := by decide +kernel
theorem dX1_copyFrom_24 : decode cX1_copyFrom 24 = .ok (.aload_n 1, 1) := by decide +kernel
theorem dX1_copyFrom_25 : decode cX1_copyFrom 25 = .ok (.getfield 18, 3) := by decide +kernel
theorem dX1_copyFrom_28 : decode cX1_copyFrom 28 = .ok (.iload_n 2, 1) := by decide +kernel
theorem dX1_copyFrom_29 : decode cX1_copyFrom 29 = .ok (.aaload, 1) := by decide +kernel
theorem dX1_copyFrom_30 : decode cX1_copyFrom 30 = .ok (.invokevirtual 26, 3) := by decide +kernel
theorem dX1_copyFrom_33 : decode cX1_copyFrom 33 = .ok (.aload_n 0, 1) := by decide +kernel
theorem dX1_copyFrom_34 : decode cX1_copyFrom 34 = .ok (.getfield 22, 3) := by decide +kernel
theorem dX1_copyFrom_37 : decode cX1_copyFrom 37 = .ok (.iload_n 2, 1) := by decide +kernel
theorem dX1_copyFrom_38 : decode cX1_copyFrom 38 = .ok (.aload_n 1, 1) := by decide +kernel
theorem dX1_copyFrom_39 : decode cX1_copyFrom 39 = .ok (.getfield 22, 3) := by decide +kernel
theorem dX1_copyFrom_42 : decode cX1_copyFrom 42 = .ok (.iload_n 2, 1) := by decide +kernel
theorem dX1_copyFrom_43 : decode cX1_copyFrom 43 = .ok (.baload, 1) := by decide +kernel
theorem dX1_copyFrom_44 : decode cX1_copyFrom 44 = .ok (.bastore, 1) := by decide +kernel
theorem dX1_copyFrom_45 : decode cX1_copyFrom 45 = .ok (.iinc 2 1, 3) := by decide +kernel
theorem dX1_copyFrom_48 : decode cX1_copyFrom 48 = .ok (.goto (-35), 3) := by decide +kernel
theorem dX1_copyFrom_51 : decode cX1_copyFrom 51 = .ok (.return_, 1) := by decide +kernel
theorem dX1_snapshots_0 : decode cX1_snapshots 0 = .ok (.iconst 0, 1) := by decide +kernel
theorem dX1_snapshots_1 : decode cX1_snapshots 1 = .ok (.istore_n 1, 1) := by decide +kernel
theorem dX1_snapshots_2 : decode cX1_snapshots 2 = .ok (.iconst 0, 1) := by decide +kernel
theorem dX1_snapshots_3 : decode cX1_snapshots 3 = .ok (.istore_n 2, 1) := by decide +kernel
theorem dX1_snapshots_4 : decode cX1_snapshots 4 = .ok (.iload_n 2, 1) := by decide +kernel
theorem dX1_snapshots_5 : decode cX1_snapshots 5 = .ok (.iconst 2, 1) := by decide +kernel
theorem dX1_snapshots_6 : decode cX1_snapshots 6 = .ok (.if_icmp .ge 26, 3) := by decide +kernel
theorem dX1_snapshots_9 : decode cX1_snapshots 9 = .ok (.iload_n 1, 1) := by decide +kernel
theorem dX1_snapshots_10 : decode cX1_snapshots 10 = .ok (.aload_n 0, 1) := by decide +kernel
theorem dX1_snapshots_11 : decode cX1_snapshots 11 = .ok (.getfield 22, 3) := by decide +kernel
theorem dX1_snapshots_14 : decode cX1_snapshots 14 = .ok (.iload_n 2, 1) := by decide +kernel
theorem dX1_snapshots_15 : decode cX1_snapshots 15 = .ok (.baload, 1) := by decide +kernel
theorem dX1_snapshots_16 : decode cX1_snapshots 16 = .ok (.ifCond .eq 7, 3) := by decide +kernel
theorem dX1_snapshots_19 : decode cX1_snapshots 19 = .ok (.iconst 1, 1) := by decide +kernel
theorem dX1_snapshots_20 : decode cX1_snapshots 20 = .ok (.goto 4, 3) := by decide +kernel
theorem dX1_snapshots_23 : decode cX1_snapshots 23 = .ok (.iconst 0, 1) := by decide +kernel
theorem dX1_snapshots_24 : decode cX1_snapshots 24 = .ok (.iadd, 1) := by decide +kernel
theorem dX1_snapshots_25 : decode cX1_snapshots 25 = .ok (.istore_n 1, 1) := by decide +kernel
theorem dX1_snapshots_26 : decode cX1_snapshots 26 = .ok (.iinc 2 1, 3) := by decide +kernel
theorem dX1_snapshots_29 : decode cX1_snapshots 29 = .ok (.goto (-25), 3) := by decide +kernel
theorem dX1_snapshots_32 : decode cX1_snapshots 32 = .ok (.iload_n 1, 1) := by decide +kernel
theorem dX1_snapshots_33 : decode cX1_snapshots 33 = .ok (.ireturn, 1) := by decide +kernel
theorem dX2_init_0 : decode cX2_init 0 = .ok (.aload_n 0, 1) := by decide +kernel
theorem dX2_init_1 : decode cX2_init 1 = .ok (.invokespecial 3, 3) := by decide +kernel
theorem dX2_init_4 : decode cX2_init 4 = .ok (.aload_n 0, 1) := by decide +kernel
theorem dX2_init_5 : decode cX2_init 5 = .ok (.bipush 17, 2) := by decide +kernel
theorem dX2_init_7 : decode cX2_init 7 = .ok (.newarray .int, 2) := by decide +kernel
theorem dX2_init_9 : decode cX2_init 9 = .ok (.putfield 9, 3) := by decide +kernel
theorem dX2_init_12 : decode cX2_init 12 = .ok (.aload_n 0, 1) := by decide +kernel
theorem dX2_init_13 : decode cX2_init 13 = .ok (.bipush 6, 2) := by decide +kernel
theorem dX2_init_15 : decode cX2_init 15 = .ok (.bipush 20, 2) := by decide +kernel
theorem dX2_init_17 : decode cX2_init 17 = .ok (.multianewarray 15 2, 4) := by decide +kernel
theorem dX2_init_21 : decode cX2_init 21 = .ok (.putfield 17, 3) := by decide +kernel
theorem dX2_init_24 : decode cX2_init 24 = .ok (.aload_n 0, 1) := by decide +kernel
theorem dX2_init_25 : decode cX2_init 25 = .ok (.iconst 4, 1) := by decide +kernel
theorem dX2_init_26 : decode cX2_init 26 = .ok (.bipush 30, 2) := by decide +kernel
theorem dX2_init_28 : decode cX2_init 28 = .ok (.multianewarray 15 2, 4) := by decide +kernel
theorem dX2_init_32 : decode cX2_init 32 = .ok (.putfield 20, 3) := by decide +kernel
theorem dX2_init_35 : decode cX2_init 35 = .ok (.aload_n 0, 1) := by decide +kernel
theorem dX2_init_36 : decode cX2_init 36 = .ok (.getfield 9, 3) := by decide +kernel
theorem dX2_init_39 : decode cX2_init 39 = .ok (.iconst 5, 1) := by decide +kernel
theorem dX2_init_40 : decode cX2_init 40 = .ok (.sipush 300, 3) := by decide +kernel
theorem dX2_init_43 : decode cX2_init 43 = .ok (.iastore, 1) := by decide +kernel
theorem dX2_init_44 : decode cX2_init 44 = .ok (.aload_n 0, 1) := by decide +kernel
theorem dX2_init_45 : decode cX2_init 45 = .ok (.getfield 9, 3) := by decide +kernel
theorem dX2_init_48 : decode cX2_init 48 = .ok (.bipush 6, 2) := by decide +kernel
theorem dX2_init_50 : decode cX2_init 50 = .ok (.iconst 5, 1) := by decide +kernel
theorem dX2_init_51 : decode cX2_init 51 = .ok (.iastore, 1) := by decide +kernel
theorem dX2_init_52 : decode cX2_init 52 = .ok (.aload_n 0, 1) := by decide +kernel
theorem dX2_init_53 : decode cX2_init 53 = .ok (.getfield 9, 3) := by decide +kernel
theorem dX2_init_56 : decode cX2_init 56 = .ok (.bipush 7, 2) := by decide +kernel
theorem dX2_init_58 : decode cX2_init 58 = .ok (.sipush 400, 3) := by decide +kernel
theorem dX2_init_61 : decode cX2_init 61 = .ok (.iastore, 1) := by decide +kernel
theorem dX2_init_62 : decode cX2_init 62 = .ok (.aload_n 0, 1) := by decide +kernel
theorem dX2_init_63 : decode cX2_init 63 = .ok (.getfield 9, 3) := by decide +kernel
theorem dX2_init_66 : decode cX2_init 66 = .ok (.bipush 8, 2) := by decide +kernel
theorem dX2_init_68 : decode cX2_init 68 = .ok (.iconst 2, 1) := by decide +kernel
theorem dX2_init_69 : decode cX2_init 69 = .ok (.iastore, 1) := by decide +kernel
theorem dX2_init_70 : decode cX2_init 70 = .ok (.iconst 0, 1) := by decide +kernel
theorem dX2_init_71 : decode cX2_init 71 = .ok (.istore_n 1, 1) := by decide +kernel
theorem dX2_init_72 : decode cX2_init 72 = .ok (.iload_n 1, 1) := by decide +kernel
theorem dX2_init_73 : decode cX2_init 73 = .ok (.bipush 30, 2) := by decide +kernel
theorem dX2_init_75 : decode cX2_init 75 = .ok (.if_icmp .ge 38, 3) := by decide +kernel
theorem dX2_init_78 : decode cX2_init 78 = .ok (.aload_n 0, 1) := by decide +kernel
theorem dX2_init_79 : decode cX2_init 79 = .ok (.getfield 20, 3) := by decide +kernel
theorem dX2_init_82 : decode cX2_init 82 = .ok (.iconst 0, 1) := by decide +kernel
theorem dX2_init_83 : decode cX2_init 83 = .ok (.aaload, 1) := by decide +kernel
theorem dX2_init_84 : decode cX2_init 84 = .ok (.iload_n 1, 1) := by decide +kernel
theorem dX2_init_85 : decode cX2_init 85 = .ok (.iconst 2, 1) := by decide +kernel
theorem dX2_init_86 : decode cX2_init 86 = .ok (.iastore, 1) := by decide +kernel
theorem dX2_init_87 : decode cX2_init 87 = .ok (.aload_n 0, 1) := by decide +kernel
theorem dX2_init_88 : decode cX2_init 88 = .ok (.getfield 20, 3) := by decide +kernel
theorem dX2_init_91 : decode cX2_init 91 = .ok (.iconst 2, 1) := by decide +kernel
theorem dX2_init_92 : decode cX2_init 92 = .ok (.aaload, 1) := by decide +kernel
theorem dX2_init_93 : decode cX2_init 93 = .ok (.iload_n 1, 1) := by decide +kernel
theorem dX2_init_94 : decode cX2_init 94 = .ok (.ldc 23, 2) := by decide +kernel
theorem dX2_init_96 : decode cX2_init 96 = .ok (.iastore, 1) := by decide +kernel
theorem dX2_init_97 : decode cX2_init 97 = .ok (.aload_n 0, 1) := by decide +kernel
theorem dX2_init_98 : decode cX2_init 98 = .ok (.getfield 20, 3) := by decide +kernel
theorem dX2_init_101 : decode cX2_init 101 = .ok (.iconst 3, 1) := by decide +kernel
theorem dX2_init_102 : decode cX2_init 102 = .ok (.aaload, 1) := by decide +kernel
theorem dX2_init_103 : decode cX2_init 103 = .ok (.iload_n 1, 1) := by decide +kernel
theorem dX2_init_104 : decode cX2_init 104 = .ok (.ldc 23, 2) := by decide +kernel
theorem dX2_init_106 : decode cX2_init 106 = .ok (.iastore, 1) := by decide +kernel
theorem dX2_init_107 : decode cX2_init 107 = .ok (.iinc 1 1, 3) := by decide +kernel
theorem dX2_init_110 : decode cX2_init 110 = .ok (.goto (-38), 3) := by decide +kernel
theorem dX2_init_113 : decode cX2_init 113 = .ok (.return_, 1) := by decide +kernel
theorem dX2_copyFrom_0 : decode cX2_copyFrom 0 = .ok (.aload_n 1, 1) := by decide +kernel
theorem dX2_copyFrom_1 : decode cX2_copyFrom 1 = .ok (.getfield 9, 3) := by decide +kernel
theorem dX2_copyFrom_4 : decode cX2_copyFrom 4 = .ok (.iconst 0, 1) := by decide +kernel
theorem dX2_copyFrom_5 : decode cX2_copyFrom 5 = .ok (.aload_n 0, 1) := by decide +kernel
theorem dX2_copyFrom_6 : decode cX2_copyFrom 6 = .ok (.getfield 9, 3) := by decide +kernel
theorem dX2_copyFrom_9 : decode cX2_copyFrom 9 = .ok (.iconst 0, 1) := by decide +kernel
theorem dX2_copyFrom_10 : decode cX2_copyFrom 10 = .ok (.bipush 17, 2) := by decide +kernel
theorem dX2_copyFrom_12 : decode cX2_copyFrom 12 = .ok (.invokestatic 24, 3) := by decide +kernel
theorem dX2_copyFrom_15 : decode cX2_copyFrom 15 = .ok (.iconst 0, 1) := by decide +kernel
theorem dX2_copyFrom_16 : decode cX2_copyFrom 16 = .ok (.istore_n 2, 1) := by decide +kernel
theorem dX2_copyFrom_17 : decode cX2_copyFrom 17 = .ok (.iload_n 2, 1) := by decide +kernel
theorem dX2_copyFrom_18 : decode cX2_copyFrom 18 = .ok (.bipush 6, 2) := by decide +kernel
theorem dX2_copyFrom_20 : decode cX2_copyFrom 20 = .ok (.if_icmp .ge 28, 3) := by decide +kernel
theorem dX2_copyFrom_23 : decode cX2_copyFrom 23 = .ok (.aload_n 1, 1) := by decide +kernel
theorem dX2_copyFrom_24 : decode cX2_copyFrom 24 = .ok (.getfield 17, 3) := by decide +kernel
theorem dX2_copyFrom_27 : decode cX2_copyFrom 27 = .ok (.iload_n 2, 1) := by decide +kernel
theorem dX2_copyFrom_28 : decode cX2_copyFrom 28 = .ok (.aaload, 1) := by decide +kernel
theorem dX2_copyFrom_29 : decode cX2_copyFrom 29 = .ok (.iconst 0, 1) := by decide +kernel
theorem dX2_copyFrom_30 : decode cX2_copyFrom 30 = .ok (.aload_n 0, 1) := by decide +kernel
theorem dX2_copyFrom_31 : decode cX2_copyFrom 31 = .ok (.getfield 17, 3) := by decide +kernel
theorem dX2_copyFrom_34 : decode cX2_copyFrom 34 = .ok (.iload_n 2, 1) := by decide +kernel
theorem dX2_copyFrom_35 : decode cX2_copyFrom 35 = .ok (.aaload, 1) := by decide +kernel
theorem dX2_copyFrom_36 : decode cX2_copyFrom 36 = .ok (.iconst 0, 1) := by decide +kernel
theorem dX2_copyFrom_37 : decode cX2_copyFrom 37 = .ok (.bipush 20, 2) := by decide +kernel
theorem dX2_copyFrom_39 : decode cX2_copyFrom 39 = .ok (.invokestatic 24, 3) := by decide +kernel
theorem dX2_copyFrom_42 : decode cX2_copyFrom 42 = .ok (.iinc 2 1, 3) := by decide +kernel
theorem dX2_copyFrom_45 : decode cX2_copyFrom 45 = .ok (.goto (-28), 3) := by decide +kernel
theorem dX2_copyFrom_48 : decode cX2_copyFrom 48 = .ok (.iconst 0, 1) := by decide +kernel
theorem dX2_copyFrom_49 : decode cX2_copyFrom 49 = .ok (.istore_n 2, 1) := by decide +kernel
theorem dX2_copyFrom_50 : decode cX2_copyFrom 50 = .ok (.iload_n 2, 1) := by decide +kernel
theorem dX2_copyFrom_51 : decode cX2_copyFrom 51 = .ok (.iconst 4, 1) := by decide +kernel
theorem dX2_copyFrom_52 : decode cX2_copyFrom 52 = .ok (.if_icmp .ge 28, 3) := by decide +kernel
theorem dX2_copyFrom_55 : decode cX2_copyFrom 55 = .ok (.aload_n 1, 1) := by decide +kernel
theorem dX2_copyFrom_56 : decode cX2_copyFrom 56 = .ok (.getfield 20, 3) := by decide +kernel
theorem dX2_copyFrom_59 : decode cX2_copyFrom 59 = .ok (.iload_n 2, 1) := by decide +kernel
theorem dX2_copyFrom_60 : decode cX2_copyFrom 60 = .ok (.aaload, 1) := by decide +kernel
theorem dX2_copyFrom_61 : decode cX2_copyFrom 61 = .ok (.iconst 0, 1) := by decide +kernel
theorem dX2_copyFrom_62 : decode cX2_copyFrom 62 = .ok (.aload_n 0, 1) := by decide +kernel
theorem dX2_copyFrom_63 : decode cX2_copyFrom 63 = .ok (.getfield 20, 3) := by decide +kernel
theorem dX2_copyFrom_66 : decode cX2_copyFrom 66 = .ok (.iload_n 2, 1) := by decide +kernel
theorem dX2_copyFrom_67 : decode cX2_copyFrom 67 = .ok (.aaload, 1) := by decide +kernel
theorem dX2_copyFrom_68 : decode cX2_copyFrom 68 = .ok (.iconst 0, 1) := by decide +kernel
theorem dX2_copyFrom_69 : decode cX2_copyFrom 69 = .ok (.bipush 30, 2) := by decide +kernel
theorem dX2_copyFrom_71 : decode cX2_copyFrom 71 = .ok (.invokestatic 24, 3) := by decide +kernel
theorem dX2_copyFrom_74 : decode cX2_copyFrom 74 = .ok (.iinc 2 1, 3) := by decide +kernel
theorem dX2_copyFrom_77 : decode cX2_copyFrom 77 = .ok (.goto (-27), 3) := by decide +kernel
theorem dX2_copyFrom_80 : decode cX2_copyFrom 80 = .ok (.return_, 1) := by decide +kernel
theorem dX2_toCome_0 : decode cX2_toCome 0 = .ok (.aload_n 0, 1) := by decide +kernel
theorem dX2_toCome_1 : decode cX2_toCome 1 = .ok (.getfield 9, 3) := by decide +kernel
theorem dX2_toCome_4 : decode cX2_toCome 4 = .ok (.iconst 0, 1) := by decide +kernel
theorem dX2_toCome_5 : decode cX2_toCome 5 = .ok (.iaload, 1) := by decide +kernel
theorem dX2_toCome_6 : decode cX2_toCome 6 = .ok (.aload_n 0, 1) := by decide +kernel
theorem dX2_toCome_7 : decode cX2_toCome 7 = .ok (.getfield 9, 3) := by decide +kernel
theorem dX2_toCome_10 : decode cX2_toCome 10 = .ok (.iconst 1, 1) := by decide +kernel
theorem dX2_toCome_11 : decode cX2_toCome 11 = .ok (.iaload, 1) := by decide +kernel
theorem dX2_toCome_12 : decode cX2_toCome 12 = .ok (.isub, 1) := by decide +kernel
theorem dX2_toCome_13 : decode cX2_toCome 13 = .ok (.ireturn, 1) := by decide +kernel
theorem dX2_isToCome_0 : decode cX2_isToCome 0 = .ok (.iload_n 1, 1) := by decide +kernel
theorem dX2_isToCome_1 : decode cX2_isToCome 1 = .ok (.aload_n 0, 1) := by decide +kernel
theorem dX2_isToCome_2 : decode cX2_isToCome 2 = .ok (.getfield 9, 3) := by decide +kernel
theorem dX2_isToCome_5 : decode cX2_isToCome 5 = .ok (.iconst 1, 1) := by decide +kernel
theorem dX2_isToCome_6 : decode cX2_isToCome 6 = .ok (.iaload, 1) := by decide +kernel
theorem dX2_isToCome_7 : decode cX2_isToCome 7 = .ok (.if_icmp .lt 17, 3) := by decide +kernel
theorem dX2_isToCome_10 : decode cX2_isToCome 10 = .ok (.iload_n 1, 1) := by decide +kernel
theorem dX2_isToCome_11 : decode cX2_isToCome 11 = .ok (.aload_n 0, 1) := by decide +kernel
theorem dX2_isToCome_12 : decode cX2_isToCome 12 = .ok (.getfield 9, 3) := by decide +kernel
theorem dX2_isToCome_15 : decode cX2_isToCome 15 = .ok (.iconst 0, 1) := by decide +kernel
theorem dX2_isToCome_16 : decode cX2_isToCome 16 = .ok (.iaload, 1) := by decide +kernel
theorem dX2_isToCome_17 : decode cX2_isToCome 17 = .ok (.if_icmp .ge 7, 3) := by decide +kernel
theorem dX2_isToCome_20 : decode cX2_isToCome 20 = .ok (.iconst 1, 1) := by decide +kernel
theorem dX2_isToCome_21 : decode cX2_isToCome 21 = .ok (.goto 4, 3) := by decide +kernel
theorem dX2_isToCome_24 : decode cX2_isToCome 24 = .ok (.iconst 0, 1) := by decide +kernel
theorem dX2_isToCome_25 : decode cX2_isToCome 25 = .ok (.ireturn, 1) := by decide +kernel
theorem dX2_addScene_0 : decode cX2_addScene 0 = .ok (.iconst 0, 1) := by decide +kernel
theorem dX2_addScene_1 : decode cX2_addScene 1 = .ok (.istore 6, 2) := by decide +kernel
theorem dX2_addScene_3 : decode cX2_addScene 3 = .ok (.iload 6, 2) := by decide +kernel
theorem dX2_addScene_5 : decode cX2_addScene 5 = .ok (.bipush 6, 2) := by decide +kernel
theorem dX2_addScene_7 : decode cX2_addScene 7 = .ok (.if_icmp .ge 51, 3) := by decide +kernel
theorem dX2_addScene_10 : decode cX2_addScene 10 = .ok (.aload_n 0, 1) := by decide +kernel
theorem dX2_addScene_11 : decode cX2_addScene 11 = .ok (.getfield 9, 3) := by decide +kernel
theorem dX2_addScene_14 : decode cX2_addScene 14 = .ok (.iconst 0, 1) := by decide +kernel
theorem dX2_addScene_15 : decode cX2_addScene 15 = .ok (.iaload, 1) := by decide +kernel
theorem dX2_addScene_16 : decode cX2_addScene 16 = .ok (.istore 7, 2) := by decide +kernel
theorem dX2_addScene_18 : decode cX2_addScene 18 = .ok (.iload 7, 2) := by decide +kernel
theorem dX2_addScene_20 : decode cX2_addScene 20 = .ok (.iload_n 1, 1) := by decide +kernel
theorem dX2_addScene_21 : decode cX2_addScene 21 = .ok (.if_icmp .le 31, 3) := by decide +kernel
theorem dX2_addScene_24 : decode cX2_addScene 24 = .ok (.aload_n 0, 1) := by decide +kernel
theorem dX2_addScene_25 : decode cX2_addScene 25 = .ok (.getfield 17, 3) := by decide +kernel
theorem dX2_addScene_28 : decode cX2_addScene 28 = .ok (.iload 6, 2) := by decide +kernel
theorem dX2_addScene_30 : decode cX2_addScene 30 = .ok (.aaload, 1) := by decide +kernel
theorem dX2_addScene_31 : decode cX2_addScene 31 = .ok (.iload 7, 2) := by decide +kernel
theorem dX2_addScene_33 : decode cX2_addScene 33 = .ok (.aload_n 0, 1) := by decide +kernel
theorem dX2_addScene_34 : decode cX2_addScene 34 = .ok (.getfield 17, 3) := by decide +kernel
theorem dX2_addScene_37 : decode cX2_addScene 37 = .ok (.iload 6, 2) := by decide +kernel
theorem dX2_addScene_39 : decode cX2_addScene 39 = .ok (.aaload, 1) := by decide +kernel
theorem dX2_addScene_40 : decode cX2_addScene 40 = .ok (.iload 7, 2) := by decide +kernel
theorem dX2_addScene_42 : decode cX2_addScene 42 = .ok (.iconst 1, 1) := by decide +kernel
theorem dX2_addScene_43 : decode cX2_addScene 43 = .ok (.isub, 1) := by decide +kernel
theorem dX2_addScene_44 : decode cX2_addScene 44 = .ok (.iaload, 1) := by decide +kernel
theorem dX2_addScene_45 : decode cX2_addScene 45 = .ok (.iastore, 1) := by decide +kernel
theorem dX2_addScene_46 : decode cX2_addScene 46 = .ok (.iinc 7 (-1), 3) := by decide +kernel
theorem dX2_addScene_49 : decode cX2_addScene 49 = .ok (.goto (-31), 3) := by decide +kernel
theorem dX2_addScene_52 : decode cX2_addScene 52 = .ok (.iinc 6 1, 3) := by decide +kernel
theorem dX2_addScene_55 : decode cX2_addScene 55 = .ok (.goto (-52), 3) := by decide +kernel
theorem dX2_addScene_58 : decode cX2_addScene 58 = .ok (.aload_n 0, 1) := by decide +kernel
theorem dX2_addScene_59 : decode cX2_addScene 59 = .ok (.getfield 17, 3) := by decide +kernel
theorem dX2_addScene_62 : decode cX2_addScene 62 = .ok (.iconst 0, 1) := by decide +kernel
theorem dX2_addScene_63 : decode cX2_addScene 63 = .ok (.aaload, 1) := by decide +kernel
theorem dX2_addScene_64 : decode cX2_addScene 64 = .ok (.iload_n 1, 1) := by decide +kernel
theorem dX2_addScene_65 : decode cX2_addScene 65 = .ok (.iload_n 2, 1) := by decide +kernel
theorem dX2_addScene_66 : decode cX2_addScene 66 = .ok (.iastore, 1) := by decide +kernel
theorem dX2_addScene_67 : decode cX2_addScene 67 = .ok (.aload_n 0, 1) := by decide +kernel
theorem dX2_addScene_68 : decode cX2_addScene 68 = .ok (.getfield 17, 3) := by decide +kernel
theorem dX2_addScene_71 : decode cX2_addScene 71 = .ok (.iconst 1, 1) := by decide +kernel
theorem dX2_addScene_72 : decode cX2_addScene 72 = .ok (.aaload, 1) := by decide +kernel
theorem dX2_addScene_73 : decode cX2_addScene 73 = .ok (.iload_n 1, 1) := by decide +kernel
theorem dX2_addScene_74 : decode cX2_addScene 74 = .ok (.iload_n 3, 1) := by decide +kernel
theorem dX2_addScene_75 : decode cX2_addScene 75 = .ok (.iastore, 1) := by decide +kernel
theorem dX2_addScene_76 : decode cX2_addScene 76 = .ok (.aload_n 0, 1) := by decide +kernel
theorem dX2_addScene_77 : decode cX2_addScene 77 = .ok (.getfield 17, 3) := by decide +kernel
theorem dX2_addScene_80 : decode cX2_addScene 80 = .ok (.iconst 2, 1) := by decide +kernel
theorem dX2_addScene_81 : decode cX2_addScene 81 = .ok (.aaload, 1) := by decide +kernel
theorem dX2_addScene_82 : decode cX2_addScene 82 = .ok (.iload_n 1, 1) := by decide +kernel
theorem dX2_addScene_83 : decode cX2_addScene 83 = .ok (.iload 4, 2) := by decide +kernel
theorem dX2_addScene_85 : decode cX2_addScene 85 = .ok (.iastore, 1) := by decide +kernel
theorem dX2_addScene_86 : decode cX2_addScene 86 = .ok (.aload_n 0, 1) := by decide +kernel
theorem dX2_addScene_87 : decode cX2_addScene 87 = .ok (.getfield 17, 3) := by decide +kernel
theorem dX2_addScene_90 : decode cX2_addScene 90 = .ok (.iconst 3, 1) := by decide +kernel
theorem dX2_addScene_91 : decode cX2_addScene 91 = .ok (.aaload, 1) := by decide +kernel
theorem dX2_addScene_92 : decode cX2_addScene 92 = .ok (.iload_n 1, 1) := by decide +kernel
theorem dX2_addScene_93 : decode cX2_addScene 93 = .ok (.iload 5, 2) := by decide +kernel
theorem dX2_addScene_95 : decode cX2_addScene 95 = .ok (.iastore, 1) := by decide +kernel
theorem dX2_addScene_96 : decode cX2_addScene 96 = .ok (.aload_n 0, 1) := by decide +kernel
theorem dX2_addScene_97 : decode cX2_addScene 97 = .ok (.getfield 17, 3) := by decide +kernel
theorem dX2_addScene_100 : decode cX2_addScene 100 = .ok (.iconst 4, 1) := by decide +kernel
theorem dX2_addScene_101 : decode cX2_addScene 101 = .ok (.aaload, 1) := by decide +kernel
theorem dX2_addScene_102 : decode cX2_addScene 102 = .ok (.iload_n 1, 1) := by decide +kernel
theorem dX2_addScene_103 : decode cX2_addScene 103 = .ok (.iconst 0, 1) := by decide +kernel
theorem dX2_addScene_104 : decode cX2_addScene 104 = .ok (.iastore, 1) := by decide +kernel
theorem dX2_addScene_105 : decode cX2_addScene 105 = .ok (.aload_n 0, 1) := by decide +kernel
theorem dX2_addScene_106 : decode cX2_addScene 106 = .ok (.getfield 17, 3) := by decide +kernel
theorem dX2_addScene_109 : decode cX2_addScene 109 = .ok (.iconst 5, 1) := by decide +kernel
theorem dX2_addScene_110 : decode cX2_addScene 110 = .ok (.aaload, 1) := by decide +kernel
theorem dX2_addScene_111 : decode cX2_addScene 111 = .ok (.iload_n 1, 1) := by decide +kernel
theorem dX2_addScene_112 : decode cX2_addScene 112 = .ok (.ldc 23, 2) := by decide +kernel
theorem dX2_addScene_114 : decode cX2_addScene 114 = .ok (.iastore, 1) := by decide +kernel
theorem dX2_addScene_115 : decode cX2_addScene 115 = .ok (.aload_n 0, 1) := by decide +kernel
theorem dX2_addScene_116 : decode cX2_addScene 116 = .ok (.getfield 9, 3) := by decide +kernel
theorem dX2_addScene_119 : decode cX2_addScene 119 = .ok (.iconst 0, 1) := by decide +kernel
theorem dX2_addScene_120 : decode cX2_addScene 120 = .ok (.dup2, 1) := by decide +kernel
theorem dX2_addScene_121 : decode cX2_addScene 121 = .ok (.iaload, 1) := by decide +kernel
theorem dX2_addScene_122 : decode cX2_addScene 122 = .ok (.iconst 1, 1) := by decide +kernel
theorem dX2_addScene_123 : decode cX2_addScene 123 = .ok (.iadd, 1) := by decide +kernel
theorem dX2_addScene_124 : decode cX2_addScene 124 = .ok (.iastore, 1) := by decide +kernel
theorem dX2_addScene_125 : decode cX2_addScene 125 = .ok (.return_, 1) := by decide +kernel
theorem dX2_dropScene_0 : decode cX2_dropScene 0 = .ok (.iconst 0, 1) := by decide +kernel
theorem dX2_dropScene_1 : decode cX2_dropScene 1 = .ok (.istore_n 2, 1) := by decide +kernel
theorem dX2_dropScene_2 : decode cX2_dropScene 2 = .ok (.iload_n 2, 1) := by decide +kernel
theorem dX2_dropScene_3 : decode cX2_dropScene 3 = .ok (.bipush 6, 2) := by decide +kernel
theorem dX2_dropScene_5 : decode cX2_dropScene 5 = .ok (.if_icmp .ge 47, 3) := by decide +kernel
theorem dX2_dropScene_8 : decode cX2_dropScene 8 = .ok (.iload_n 1, 1) := by decide +kernel
theorem dX2_dropScene_9 : decode cX2_dropScene 9 = .ok (.iconst 1, 1) := by decide +kernel
theorem dX2_dropScene_10 : decode cX2_dropScene 10 = .ok (.iadd, 1) := by decide +kernel
theorem dX2_dropScene_11 : decode cX2_dropScene 11 = .ok (.istore_n 3, 1) := by decide +kernel
theorem dX2_dropScene_12 : decode cX2_dropScene 12 = .ok (.iload_n 3, 1) := by decide +kernel
theorem dX2_dropScene_13 : decode cX2_dropScene 13 = .ok (.aload_n 0, 1) := by decide +kernel
theorem dX2_dropScene_14 : decode cX2_dropScene 14 = .ok (.getfield 9, 3) := by decide +kernel
theorem dX2_dropScene_17 : decode cX2_dropScene 17 = .ok (.iconst 0, 1) := by decide +kernel
theorem dX2_dropScene_18 : decode cX2_dropScene 18 = .ok (.iaload, 1) := by decide +kernel
theorem dX2_dropScene_19 : decode cX2_dropScene 19 = .ok (.if_icmp .ge 27, 3) := by decide +kernel
theorem dX2_dropScene_22 : decode cX2_dropScene 22 = .ok (.aload_n 0, 1) := by decide +kernel
theorem dX2_dropScene_23 : decode cX2_dropScene 23 = .ok (.getfield 17, 3) := by decide +kernel
theorem dX2_dropScene_26 : decode cX2_dropScene 26 = .ok (.iload_n 2, 1) := by decide +kernel
theorem dX2_dropScene_27 : decode cX2_dropScene 27 = .ok (.aaload, 1) := by decide +kernel
theorem dX2_dropScene_28 : decode cX2_dropScene 28 = .ok (.iload_n 3, 1) := by decide +kernel
theorem dX2_dropScene_29 : decode cX2_dropScene 29 = .ok (.iconst 1, 1) := by decide +kernel
theorem dX2_dropScene_30 : decode cX2_dropScene 30 = .ok (.isub, 1) := by decide +kernel
theorem dX2_dropScene_31 : decode cX2_dropScene 31 = .ok (.aload_n 0, 1) := by decide +kernel
theorem dX2_dropScene_32 : decode cX2_dropScene 32 = .ok (.getfield 17, 3) := by decide +kernel
theorem dX2_dropScene_35 : decode cX2_dropScene 35 = .ok (.iload_n 2, 1) := by decide +kernel
theorem dX2_dropScene_36 : decode cX2_dropScene 36 = .ok (.aaload, 1) := by decide +kernel
theorem dX2_dropScene_37 : decode cX2_dropScene 37 = .ok (.iload_n 3, 1) := by decide +kernel
theorem dX2_dropScene_38 : decode cX2_dropScene 38 = .ok (.iaload, 1) := by decide +kernel
theorem dX2_dropScene_39 : decode cX2_dropScene 39 = .ok (.iastore, 1) := by decide +kernel
theorem dX2_dropScene_40 : decode cX2_dropScene 40 = .ok (.iinc 3 1, 3) := by decide +kernel
theorem dX2_dropScene_43 : decode cX2_dropScene 43 = .ok (.goto (-31), 3) := by decide +kernel
theorem dX2_dropScene_46 : decode cX2_dropScene 46 = .ok (.iinc 2 1, 3) := by decide +kernel
theorem dX2_dropScene_49 : decode cX2_dropScene 49 = .ok (.goto (-47), 3) := by decide +kernel
theorem dX2_dropScene_52 : decode cX2_dropScene 52 = .ok (.aload_n 0, 1) := by decide +kernel
theorem dX2_dropScene_53 : decode cX2_dropScene 53 = .ok (.getfield 9, 3) := by decide +kernel
theorem dX2_dropScene_56 : decode cX2_dropScene 56 = .ok (.iconst 0, 1) := by decide +kernel
theorem dX2_dropScene_57 : decode cX2_dropScene 57 = .ok (.dup2, 1) := by decide +kernel
theorem dX2_dropScene_58 : decode cX2_dropScene 58 = .ok (.iaload, 1) := by decide +kernel
theorem dX2_dropScene_59 : decode cX2_dropScene 59 = .ok (.iconst 1, 1) := by decide +kernel
theorem dX2_dropScene_60 : decode cX2_dropScene 60 = .ok (.isub, 1) := by decide +kernel
theorem dX2_dropScene_61 : decode cX2_dropScene 61 = .ok (.iastore, 1) := by decide +kernel
theorem dX2_dropScene_62 : decode cX2_dropScene 62 = .ok (.return_, 1) := by decide +kernel
theorem dX2_roomOf_0 : decode cX2_roomOf 0 = .ok (.iconst 0, 1) := by decide +kernel
theorem dX2_roomOf_1 : decode cX2_roomOf 1 = .ok (.aload_n 0, 1) := by decide +kernel
theorem dX2_roomOf_2 : decode cX2_roomOf 2 = .ok (.getfield 20, 3) := by decide +kernel
theorem dX2_roomOf_5 : decode cX2_roomOf 5 = .ok (.iconst 0, 1) := by decide +kernel
theorem dX2_roomOf_6 : decode cX2_roomOf 6 = .ok (.aaload, 1) := by decide +kernel
theorem dX2_roomOf_7 : decode cX2_roomOf 7 = .ok (.iload_n 1, 1) := by decide +kernel
theorem dX2_roomOf_8 : decode cX2_roomOf 8 = .ok (.iaload, 1) := by decide +kernel
theorem dX2_roomOf_9 : decode cX2_roomOf 9 = .ok (.aload_n 0, 1) := by decide +kernel
theorem dX2_roomOf_10 : decode cX2_roomOf 10 = .ok (.getfield 9, 3) := by decide +kernel
theorem dX2_roomOf_13 : decode cX2_roomOf 13 = .ok (.iconst 5, 1) := by decide +kernel
theorem dX2_roomOf_14 : decode cX2_roomOf 14 = .ok (.iaload, 1) := by decide +kernel
theorem dX2_roomOf_15 : decode cX2_roomOf 15 = .ok (.imul, 1) := by decide +kernel
theorem dX2_roomOf_16 : decode cX2_roomOf 16 = .ok (.aload_n 0, 1) := by decide +kernel
theorem dX2_roomOf_17 : decode cX2_roomOf 17 = .ok (.getfield 20, 3) := by decide +kernel
theorem dX2_roomOf_20 : decode cX2_roomOf 20 = .ok (.iconst 1, 1) := by decide +kernel
theorem dX2_roomOf_21 : decode cX2_roomOf 21 = .ok (.aaload, 1) := by decide +kernel
theorem dX2_roomOf_22 : decode cX2_roomOf 22 = .ok (.iload_n 1, 1) := by decide +kernel
theorem dX2_roomOf_23 : decode cX2_roomOf 23 = .ok (.iaload, 1) := by decide +kernel
theorem dX2_roomOf_24 : decode cX2_roomOf 24 = .ok (.isub, 1) := by decide +kernel
theorem dX2_roomOf_25 : decode cX2_roomOf 25 = .ok (.invokestatic 30, 3) := by decide +kernel
theorem dX2_roomOf_28 : decode cX2_roomOf 28 = .ok (.ireturn, 1) := by decide +kernel
theorem dX2_sum_0 : decode cX2_sum 0 = .ok (.iconst 0, 1) := by decide +kernel
theorem dX2_sum_1 : decode cX2_sum 1 = .ok (.istore 4, 2) := by decide +kernel
theorem dX2_sum_3 : decode cX2_sum 3 = .ok (.iload_n 2, 1) := by decide +kernel
theorem dX2_sum_4 : decode cX2_sum 4 = .ok (.istore 5, 2) := by decide +kernel
theorem dX2_sum_6 : decode cX2_sum 6 = .ok (.iload 5, 2) := by decide +kernel
theorem dX2_sum_8 : decode cX2_sum 8 = .ok (.iload_n 3, 1) := by decide +kernel
theorem dX2_sum_9 : decode cX2_sum 9 = .ok (.if_icmp .ge 23, 3) := by decide +kernel
theorem dX2_sum_12 : decode cX2_sum 12 = .ok (.iload 4, 2) := by decide +kernel
theorem dX2_sum_14 : decode cX2_sum 14 = .ok (.aload_n 0, 1) := by decide +kernel
theorem dX2_sum_15 : decode cX2_sum 15 = .ok (.getfield 17, 3) := by decide +kernel
theorem dX2_sum_18 : decode cX2_sum 18 = .ok (.iload_n 1, 1) := by decide +kernel
theorem dX2_sum_19 : decode cX2_sum 19 = .ok (.aaload, 1) := by decide +kernel
theorem dX2_sum_20 : decode cX2_sum 20 = .ok (.iload 5, 2) := by decide +kernel
theorem dX2_sum_22 : decode cX2_sum 22 = .ok (.iaload, 1) := by decide +kernel
theorem dX2_sum_23 : decode cX2_sum 23 = .ok (.iadd, 1) := by decide +kernel
theorem dX2_sum_24 : decode cX2_sum 24 = .ok (.istore 4, 2) := by decide +kernel
theorem dX2_sum_26 : decode cX2_sum 26 = .ok (.iinc 5 1, 3) := by decide +kernel
theorem dX2_sum_29 : decode cX2_sum 29 = .ok (.goto (-23), 3) := by decide +kernel
theorem dX2_sum_32 : decode cX2_sum 32 = .ok (.iload 4, 2) := by decide +kernel
theorem dX2_sum_34 : decode cX2_sum 34 = .ok (.ireturn, 1) := by decide +kernel
theorem dX2_wordsOfStrand_0 : decode cX2_wordsOfStrand 0 = .ok (.iconst 0, 1) := by decide +kernel
theorem dX2_wordsOfStrand_1 : decode cX2_wordsOfStrand 1 = .ok (.istore 4, 2) := by decide +kernel
theorem dX2_wordsOfStrand_3 : decode cX2_wordsOfStrand 3 = .ok (.iload_n 2, 1) := by decide +kernel
theorem dX2_wordsOfStrand_4 : decode cX2_wordsOfStrand 4 = .ok (.istore 5, 2) := by decide +kernel
theorem dX2_wordsOfStrand_6 : decode cX2_wordsOfStrand 6 = .ok (.iload 5, 2) := by decide +kernel
theorem dX2_wordsOfStrand_8 : decode cX2_wordsOfStrand 8 = .ok (.iload_n 3, 1) := by decide +kernel
theorem dX2_wordsOfStrand_9 : decode cX2_wordsOfStrand 9 = .ok (.if_icmp .ge 46, 3) := by decide +kernel
theorem dX2_wordsOfStrand_12 : decode cX2_wordsOfStrand 12 = .ok (.aload_n 0, 1) := by decide +kernel
theorem dX2_wordsOfStrand_13 : decode cX2_wordsOfStrand 13 = .ok (.getfield 17, 3) := by decide +kernel
theorem dX2_wordsOfStrand_16 : decode cX2_wordsOfStrand 16 = .ok (.iconst 2, 1) := by decide +kernel
theorem dX2_wordsOfStrand_17 : decode cX2_wordsOfStrand 17 = .ok (.aaload, 1) := by decide +kernel
theorem dX2_wordsOfStrand_18 : decode cX2_wordsOfStrand 18 = .ok (.iload 5, 2) := by decide +kernel
theorem dX2_wordsOfStrand_20 : decode cX2_wordsOfStrand 20 = .ok (.iaload, 1) := by decide +kernel
theorem dX2_wordsOfStrand_21 : decode cX2_wordsOfStrand 21 = .ok (.iload_n 1, 1) := by decide +kernel
theorem dX2_wordsOfStrand_22 : decode cX2_wordsOfStrand 22 = .ok (.if_icmp .ne 27, 3) := by decide +kernel
theorem dX2_wordsOfStrand_25 : decode cX2_wordsOfStrand 25 = .ok (.iload 4, 2) := by decide +kernel
theorem dX2_wordsOfStrand_27 : decode cX2_wordsOfStrand 27 = .ok (.aload_n 0, 1) := by decide +kernel
theorem dX2_wordsOfStrand_28 : decode cX2_wordsOfStrand 28 = .ok (.getfield 17, 3) := by decide +kernel
theorem dX2_wordsOfStrand_31 : decode cX2_wordsOfStrand 31 = .ok (.iconst 0, 1) := by decide +kernel
theorem dX2_wordsOfStrand_32 : decode cX2_wordsOfStrand 32 = .ok (.aaload, 1) := by decide +kernel
theorem dX2_wordsOfStrand_33 : decode cX2_wordsOfStrand 33 = .ok (.iload 5, 2) := by decide +kernel
theorem dX2_wordsOfStrand_35 : decode cX2_wordsOfStrand 35 = .ok (.iaload, 1) := by decide +kernel
theorem dX2_wordsOfStrand_36 : decode cX2_wordsOfStrand 36 = .ok (.aload_n 0, 1) := by decide +kernel
theorem dX2_wordsOfStrand_37 : decode cX2_wordsOfStrand 37 = .ok (.getfield 17, 3) := by decide +kernel
theorem dX2_wordsOfStrand_40 : decode cX2_wordsOfStrand 40 = .ok (.iconst 4, 1) := by decide +kernel
theorem dX2_wordsOfStrand_41 : decode cX2_wordsOfStrand 41 = .ok (.aaload, 1) := by decide +kernel
theorem dX2_wordsOfStrand_42 : decode cX2_wordsOfStrand 42 = .ok (.iload 5, 2) := by decide +kernel
theorem dX2_wordsOfStrand_44 : decode cX2_wordsOfStrand 44 = .ok (.iaload, 1) := by decide +kernel
theorem dX2_wordsOfStrand_45 : decode cX2_wordsOfStrand 45 = .ok (.isub, 1) := by decide +kernel
theorem dX2_wordsOfStrand_46 : decode cX2_wordsOfStrand 46 = .ok (.iadd, 1) := by decide +kernel
theorem dX2_wordsOfStrand_47 : decode cX2_wordsOfStrand 47 = .ok (.istore 4, 2) := by decide +kernel
theorem dX2_wordsOfStrand_49 : decode cX2_wordsOfStrand 49 = .ok (.iinc 5 1, 3) := by decide +kernel
theorem dX2_wordsOfStrand_52 : decode cX2_wordsOfStrand 52 = .ok (.goto (-46), 3) := by decide +kernel
theorem dX2_wordsOfStrand_55 : decode cX2_wordsOfStrand 55 = .ok (.iload 4, 2) := by decide +kernel
theorem dX2_wordsOfStrand_57 : decode cX2_wordsOfStrand 57 = .ok (.ireturn, 1) := by decide +kernel
theorem dX2_wordsOfNext_0 : decode cX2_wordsOfNext 0 = .ok (.aload_n 0, 1) := by decide +kernel
theorem dX2_wordsOfNext_1 : decode cX2_wordsOfNext 1 = .ok (.getfield 9, 3) := by decide +kernel
theorem dX2_wordsOfNext_4 : decode cX2_wordsOfNext 4 = .ok (.iconst 1, 1) := by decide +kernel
theorem dX2_wordsOfNext_5 : decode cX2_wordsOfNext 5 = .ok (.iaload, 1) := by decide +kernel
theorem dX2_wordsOfNext_6 : decode cX2_wordsOfNext 6 = .ok (.istore_n 2, 1) := by decide +kernel
theorem dX2_wordsOfNext_7 : decode cX2_wordsOfNext 7 = .ok (.aload_n 0, 1) := by decide +kernel
theorem dX2_wordsOfNext_8 : decode cX2_wordsOfNext 8 = .ok (.iconst 0, 1) := by decide +kernel
theorem dX2_wordsOfNext_9 : decode cX2_wordsOfNext 9 = .ok (.iload_n 2, 1) := by decide +kernel
theorem dX2_wordsOfNext_10 : decode cX2_wordsOfNext 10 = .ok (.iload_n 2, 1) := by decide +kernel
theorem dX2_wordsOfNext_11 : decode cX2_wordsOfNext 11 = .ok (.iload_n 1, 1) := by decide +kernel
theorem dX2_wordsOfNext_12 : decode cX2_wordsOfNext 12 = .ok (.iadd, 1) := by decide +kernel
theorem dX2_wordsOfNext_13 : decode cX2_wordsOfNext 13 = .ok (.invokevirtual 36, 3) := by decide +kernel
theorem dX2_wordsOfNext_16 : decode cX2_wordsOfNext 16 = .ok (.aload_n 0, 1) := by decide +kernel
theorem dX2_wordsOfNext_17 : decode cX2_wordsOfNext 17 = .ok (.getfield 9, 3) := by decide +kernel
theorem dX2_wordsOfNext_20 : decode cX2_wordsOfNext 20 = .ok (.iconst 3, 1) := by decide +kernel
theorem dX2_wordsOfNext_21 : decode cX2_wordsOfNext 21 = .ok (.iaload, 1) := by decide +kernel
theorem dX2_wordsOfNext_22 : decode cX2_wordsOfNext 22 = .ok (.isub, 1) := by decide +kernel
theorem dX2_wordsOfNext_23 : decode cX2_wordsOfNext 23 = .ok (.ireturn, 1) := by decide +kernel
theorem dX2_strandBefore_0 : decode cX2_strandBefore 0 = .ok (.iload_n 1, 1) := by decide +kernel
theorem dX2_strandBefore_1 : decode cX2_strandBefore 1 = .ok (.ifCond .le 16, 3) := by decide +kernel
theorem dX2_strandBefore_4 : decode cX2_strandBefore 4 = .ok (.aload_n 0, 1) := by decide +kernel
theorem dX2_strandBefore_5 : decode cX2_strandBefore 5 = .ok (.getfield 17, 3) := by decide +kernel
theorem dX2_strandBefore_8 : decode cX2_strandBefore 8 = .ok (.iconst 2, 1) := by decide +kernel
theorem dX2_strandBefore_9 : decode cX2_strandBefore 9 = .ok (.aaload, 1) := by decide +kernel
theorem dX2_strandBefore_10 : decode cX2_strandBefore 10 = .ok (.iload_n 1, 1) := by decide +kernel
theorem dX2_strandBefore_11 : decode cX2_strandBefore 11 = .ok (.iconst 1, 1) := by decide +kernel
theorem dX2_strandBefore_12 : decode cX2_strandBefore 12 = .ok (.isub, 1) := by decide +kernel
theorem dX2_strandBefore_13 : decode cX2_strandBefore 13 = .ok (.iaload, 1) := by decide +kernel
theorem dX2_strandBefore_14 : decode cX2_strandBefore 14 = .ok (.goto 5, 3) := by decide +kernel
theorem dX2_strandBefore_17 : decode cX2_strandBefore 17 = .ok (.ldc 23, 2) := by decide +kernel
theorem dX2_strandBefore_19 : decode cX2_strandBefore 19 = .ok (.ireturn, 1) := by decide +kernel
theorem dX2_cutOf_0 : decode cX2_cutOf 0 = .ok (.iconst 0, 1) := by decide +kernel
theorem dX2_cutOf_1 : decode cX2_cutOf 1 = .ok (.iload_n 3, 1) := by decide +kernel
theorem dX2_cutOf_2 : decode cX2_cutOf 2 = .ok (.aload_n 0, 1) := by decide +kernel
theorem dX2_cutOf_3 : decode cX2_cutOf 3 = .ok (.iconst 1, 1) := by decide +kernel
theorem dX2_cutOf_4 : decode cX2_cutOf 4 = .ok (.iload_n 1, 1) := by decide +kernel
theorem dX2_cutOf_5 : decode cX2_cutOf 5 = .ok (.iconst 1, 1) := by decide +kernel
theorem dX2_cutOf_6 : decode cX2_cutOf 6 = .ok (.iadd, 1) := by decide +kernel
theorem dX2_cutOf_7 : decode cX2_cutOf 7 = .ok (.iload_n 2, 1) := by decide +kernel
theorem dX2_cutOf_8 : decode cX2_cutOf 8 = .ok (.invokevirtual 36, 3) := by decide +kernel
theorem dX2_cutOf_11 : decode cX2_cutOf 11 = .ok (.isub, 1) := by decide +kernel
theorem dX2_cutOf_12 : decode cX2_cutOf 12 = .ok (.invokestatic 30, 3) := by decide +kernel
theorem dX2_cutOf_15 : decode cX2_cutOf 15 = .ok (.istore 4, 2) := by decide +kernel
theorem dX2_cutOf_17 : decode cX2_cutOf 17 = .ok (.iload 4, 2) := by decide +kernel
theorem dX2_cutOf_19 : decode cX2_cutOf 19 = .ok (.aload_n 0, 1) := by decide +kernel
theorem dX2_cutOf_20 : decode cX2_cutOf 20 = .ok (.getfield 17, 3) := by decide +kernel
theorem dX2_cutOf_23 : decode cX2_cutOf 23 = .ok (.iconst 1, 1) := by decide +kernel
theorem dX2_cutOf_24 : decode cX2_cutOf 24 = .ok (.aaload, 1) := by decide +kernel
theorem dX2_cutOf_25 : decode cX2_cutOf 25 = .ok (.iload_n 1, 1) := by decide +kernel
theorem dX2_cutOf_26 : decode cX2_cutOf 26 = .ok (.iaload, 1) := by decide +kernel
theorem dX2_cutOf_27 : decode cX2_cutOf 27 = .ok (.invokestatic 40, 3) := by decide +kernel
theorem dX2_cutOf_30 : decode cX2_cutOf 30 = .ok (.ireturn, 1) := by decide +kernel
theorem dX2_tensionAfter_0 : decode cX2_tensionAfter 0 = .ok (.aload_n 0, 1) := by decide +kernel
theorem dX2_tensionAfter_1 : decode cX2_tensionAfter 1 = .ok (.getfield 17, 3) := by decide +kernel
theorem dX2_tensionAfter_4 : decode cX2_tensionAfter 4 = .ok (.iconst 3, 1) := by decide +kernel
theorem dX2_tensionAfter_5 : decode cX2_tensionAfter 5 = .ok (.aaload, 1) := by decide +kernel
theorem dX2_tensionAfter_6 : decode cX2_tensionAfter 6 = .ok (.iload_n 1, 1) := by decide +kernel
theorem dX2_tensionAfter_7 : decode cX2_tensionAfter 7 = .ok (.iaload, 1) := by decide +kernel
theorem dX2_tensionAfter_8 : decode cX2_tensionAfter 8 = .ok (.istore_n 3, 1) := by decide +kernel
theorem dX2_tensionAfter_9 : decode cX2_tensionAfter 9 = .ok (.iconst 2, 1) := by decide +kernel
theorem dX2_tensionAfter_10 : decode cX2_tensionAfter 10 = .ok (.iload_n 2, 1) := by decide +kernel
theorem dX2_tensionAfter_11 : decode cX2_tensionAfter 11 = .ok (.imul, 1) := by decide +kernel
theorem dX2_tensionAfter_12 : decode cX2_tensionAfter 12 = .ok (.aload_n 0, 1) := by decide +kernel
theorem dX2_tensionAfter_13 : decode cX2_tensionAfter 13 = .ok (.getfield 17, 3) := by decide +kernel
theorem dX2_tensionAfter_16 : decode cX2_tensionAfter 16 = .ok (.iconst 1, 1) := by decide +kernel
theorem dX2_tensionAfter_17 : decode cX2_tensionAfter 17 = .ok (.aaload, 1) := by decide +kernel
theorem dX2_tensionAfter_18 : decode cX2_tensionAfter 18 = .ok (.iload_n 1, 1) := by decide +kernel
theorem dX2_tensionAfter_19 : decode cX2_tensionAfter 19 = .ok (.iaload, 1) := by decide +kernel
theorem dX2_tensionAfter_20 : decode cX2_tensionAfter 20 = .ok (.if_icmp .gt 5, 3) := by decide +kernel
theorem dX2_tensionAfter_23 : decode cX2_tensionAfter 23 = .ok (.iload_n 3, 1) := by decide +kernel
theorem dX2_tensionAfter_24 : decode cX2_tensionAfter 24 = .ok (.ireturn, 1) := by decide +kernel
theorem dX2_tensionAfter_25 : decode cX2_tensionAfter 25 = .ok (.iload_n 3, 1) := by decide +kernel
theorem dX2_tensionAfter_26 : decode cX2_tensionAfter 26 = .ok (.iconst 2, 1) := by decide +kernel
theorem dX2_tensionAfter_27 : decode cX2_tensionAfter 27 = .ok (.if_icmp .le 9, 3) := by decide +kernel
theorem dX2_tensionAfter_30 : decode cX2_tensionAfter 30 = .ok (.iload_n 3, 1) := by decide +kernel
theorem dX2_tensionAfter_31 : decode cX2_tensionAfter 31 = .ok (.iconst 2, 1) := by decide +kernel
theorem dX2_tensionAfter_32 : decode cX2_tensionAfter 32 = .ok (.isub, 1) := by decide +kernel
theorem dX2_tensionAfter_33 : decode cX2_tensionAfter 33 = .ok (.goto 4, 3) := by decide +kernel
theorem dX2_tensionAfter_36 : decode cX2_tensionAfter 36 = .ok (.iconst 0, 1) := by decide +kernel
theorem dX2_tensionAfter_37 : decode cX2_tensionAfter 37 = .ok (.ireturn, 1) := by decide +kernel
theorem dX2_lastTension_0 : decode cX2_lastTension 0 = .ok (.aload_n 0, 1) := by decide +kernel
theorem dX2_lastTension_1 : decode cX2_lastTension 1 = .ok (.iload_n 1, 1) := by decide +kernel
theorem dX2_lastTension_2 : decode cX2_lastTension 2 = .ok (.iconst 1, 1) := by decide +kernel
theorem dX2_lastTension_3 : decode cX2_lastTension 3 = .ok (.isub, 1) := by decide +kernel
theorem dX2_lastTension_4 : decode cX2_lastTension 4 = .ok (.iload_n 2, 1) := by decide +kernel
theorem dX2_lastTension_5 : decode cX2_lastTension 5 = .ok (.aload_n 0, 1) := by decide +kernel
theorem dX2_lastTension_6 : decode cX2_lastTension 6 = .ok (.getfield 17, 3) := by decide +kernel
theorem dX2_lastTension_9 : decode cX2_lastTension 9 = .ok (.iconst 1, 1) := by decide +kernel
theorem dX2_lastTension_10 : decode cX2_lastTension 10 = .ok (.aaload, 1) := by decide +kernel
theorem dX2_lastTension_11 : decode cX2_lastTension 11 = .ok (.iload_n 1, 1) := by decide +kernel
theorem dX2_lastTension_12 : decode cX2_lastTension 12 = .ok (.iconst 1, 1) := by decide +kernel
theorem dX2_lastTension_13 : decode cX2_lastTension 13 = .ok (.isub, 1) := by decide +kernel
theorem dX2_lastTension_14 : decode cX2_lastTension 14 = .ok (.iaload, 1) := by decide +kernel
theorem dX2_lastTension_15 : decode cX2_lastTension 15 = .ok (.invokestatic 40, 3) := by decide +kernel
theorem dX2_lastTension_18 : decode cX2_lastTension 18 = .ok (.invokevirtual 43, 3) := by decide +kernel
theorem dX2_lastTension_21 : decode cX2_lastTension 21 = .ok (.ireturn, 1) := by decide +kernel
theorem dX2_isCliff_0 : decode cX2_isCliff 0 = .ok (.iload_n 1, 1) := by decide +kernel
theorem dX2_isCliff_1 : decode cX2_isCliff 1 = .ok (.iconst 1, 1) := by decide +kernel
theorem dX2_isCliff_2 : decode cX2_isCliff 2 = .ok (.iadd, 1) := by decide +kernel
theorem dX2_isCliff_3 : decode cX2_isCliff 3 = .ok (.istore 4, 2) := by decide +kernel
theorem dX2_isCliff_5 : decode cX2_isCliff 5 = .ok (.iload_n 2, 1) := by decide +kernel
theorem dX2_isCliff_6 : decode cX2_isCliff 6 = .ok (.iload_n 3, 1) := by decide +kernel
theorem dX2_isCliff_7 : decode cX2_isCliff 7 = .ok (.if_icmp .lt 51, 3) := by decide +kernel
theorem dX2_isCliff_10 : decode cX2_isCliff 10 = .ok (.iload 4, 2) := by decide +kernel
theorem dX2_isCliff_12 : decode cX2_isCliff 12 = .ok (.aload_n 0, 1) := by decide +kernel
theorem dX2_isCliff_13 : decode cX2_isCliff 13 = .ok (.getfield 9, 3) := by decide +kernel
theorem dX2_isCliff_16 : decode cX2_isCliff 16 = .ok (.iconst 0, 1) := by decide +kernel
theorem dX2_isCliff_17 : decode cX2_isCliff 17 = .ok (.iaload, 1) := by decide +kernel
theorem dX2_isCliff_18 : decode cX2_isCliff 18 = .ok (.if_icmp .ge 40, 3) := by decide +kernel
theorem dX2_isCliff_21 : decode cX2_isCliff 21 = .ok (.aload_n 0, 1) := by decide +kernel
theorem dX2_isCliff_22 : decode cX2_isCliff 22 = .ok (.getfield 17, 3) := by decide +kernel
theorem dX2_isCliff_25 : decode cX2_isCliff 25 = .ok (.iconst 2, 1) := by decide +kernel
theorem dX2_isCliff_26 : decode cX2_isCliff 26 = .ok (.aaload, 1) := by decide +kernel
theorem dX2_isCliff_27 : decode cX2_isCliff 27 = .ok (.iload 4, 2) := by decide +kernel
theorem dX2_isCliff_29 : decode cX2_isCliff 29 = .ok (.iaload, 1) := by decide +kernel
theorem dX2_isCliff_30 : decode cX2_isCliff 30 = .ok (.aload_n 0, 1) := by decide +kernel
theorem dX2_isCliff_31 : decode cX2_isCliff 31 = .ok (.getfield 17, 3) := by decide +kernel
theorem dX2_isCliff_34 : decode cX2_isCliff 34 = .ok (.iconst 2, 1) := by decide +kernel
theorem dX2_isCliff_35 : decode cX2_isCliff 35 = .ok (.aaload, 1) := by decide +kernel
theorem dX2_isCliff_36 : decode cX2_isCliff 36 = .ok (.iload_n 1, 1) := by decide +kernel
theorem dX2_isCliff_37 : decode cX2_isCliff 37 = .ok (.iaload, 1) := by decide +kernel
theorem dX2_isCliff_38 : decode cX2_isCliff 38 = .ok (.if_icmp .ne 16, 3) := by decide +kernel
theorem dX2_isCliff_41 : decode cX2_isCliff 41 = .ok (.aload_n 0, 1) := by decide +kernel
theorem dX2_isCliff_42 : decode cX2_isCliff 42 = .ok (.getfield 17, 3) := by decide +kernel
theorem dX2_isCliff_45 : decode cX2_isCliff 45 = .ok (.iconst 3, 1) := by decide +kernel
theorem dX2_isCliff_46 : decode cX2_isCliff 46 = .ok (.aaload, 1) := by decide +kernel
theorem dX2_isCliff_47 : decode cX2_isCliff 47 = .ok (.iload 4, 2) := by decide +kernel
theorem dX2_isCliff_49 : decode cX2_isCliff 49 = .ok (.iaload, 1) := by decide +kernel
theorem dX2_isCliff_50 : decode cX2_isCliff 50 = .ok (.iload_n 2, 1) := by decide +kernel
theorem dX2_isCliff_51 : decode cX2_isCliff 51 = .ok (.if_icmp .ge 7, 3) := by decide +kernel
theorem dX2_isCliff_54 : decode cX2_isCliff 54 = .ok (.iconst 1, 1) := by decide +kernel
theorem dX2_isCliff_55 : decode cX2_isCliff 55 = .ok (.goto 4, 3) := by decide +kernel
theorem dX2_isCliff_58 : decode cX2_isCliff 58 = .ok (.iconst 0, 1) := by decide +kernel
theorem dX2_isCliff_59 : decode cX2_isCliff 59 = .ok (.ireturn, 1) := by decide +kernel
theorem dX2_reason_0 : decode cX2_reason 0 = .ok (.iload_n 2, 1) := by decide +kernel
theorem dX2_reason_1 : decode cX2_reason 1 = .ok (.iconst 1, 1) := by decide +kernel
theorem dX2_reason_2 : decode cX2_reason 2 = .ok (.if_icmp .lt 15, 3) := by decide +kernel
theorem dX2_reason_5 : decode cX2_reason 5 = .ok (.iload_n 2, 1) := by decide +kernel
theorem dX2_reason_6 : decode cX2_reason 6 = .ok (.aload_n 0, 1) := by decide +kernel
theorem dX2_reason_7 : decode cX2_reason 7 = .ok (.getfield 9, 3) := by decide +kernel
theorem dX2_reason_10 : decode cX2_reason 10 = .ok (.iconst 0, 1) := by decide +kernel
theorem dX2_reason_11 : decode cX2_reason 11 = .ok (.iaload, 1) := by decide +kernel
theorem dX2_reason_12 : decode cX2_reason 12 = .ok (.iload_n 1, 1) := by decide +kernel
theorem dX2_reason_13 : decode cX2_reason 13 = .ok (.isub, 1) := by decide +kernel
theorem dX2_reason_14 : decode cX2_reason 14 = .ok (.if_icmp .le 5, 3) := by decide +kernel
theorem dX2_reason_17 : decode cX2_reason 17 = .ok (.iconst 1, 1) := by decide +kernel
theorem dX2_reason_18 : decode cX2_reason 18 = .ok (.ireturn, 1) := by decide +kernel
theorem dX2_reason_19 : decode cX2_reason 19 = .ok (.iload_n 1, 1) := by decide +kernel
theorem dX2_reason_20 : decode cX2_reason 20 = .ok (.iload_n 2, 1) := by decide +kernel
theorem dX2_reason_21 : decode cX2_reason 21 = .ok (.iadd, 1) := by decide +kernel
theorem dX2_reason_22 : decode cX2_reason 22 = .ok (.istore 6, 2) := by decide +kernel
theorem dX2_reason_24 : decode cX2_reason 24 = .ok (.aload_n 0, 1) := by decide +kernel
theorem dX2_reason_25 : decode cX2_reason 25 = .ok (.iconst 1, 1) := by decide +kernel
theorem dX2_reason_26 : decode cX2_reason 26 = .ok (.iload_n 1, 1) := by decide +kernel
theorem dX2_reason_27 : decode cX2_reason 27 = .ok (.iload 6, 2) := by decide +kernel
theorem dX2_reason_29 : decode cX2_reason 29 = .ok (.invokevirtual 36, 3) := by decide +kernel
theorem dX2_reason_32 : decode cX2_reason 32 = .ok (.iload 4, 2) := by decide +kernel
theorem dX2_reason_34 : decode cX2_reason 34 = .ok (.if_icmp .ge 5, 3) := by decide +kernel
theorem dX2_reason_37 : decode cX2_reason 37 = .ok (.iconst 2, 1) := by decide +kernel
theorem dX2_reason_38 : decode cX2_reason 38 = .ok (.ireturn, 1) := by decide +kernel
theorem dX2_reason_39 : decode cX2_reason 39 = .ok (.aload_n 0, 1) := by decide +kernel
theorem dX2_reason_40 : decode cX2_reason 40 = .ok (.iconst 0, 1) := by decide +kernel
theorem dX2_reason_41 : decode cX2_reason 41 = .ok (.iload_n 1, 1) := by decide +kernel
theorem dX2_reason_42 : decode cX2_reason 42 = .ok (.iload 6, 2) := by decide +kernel
theorem dX2_reason_44 : decode cX2_reason 44 = .ok (.invokevirtual 36, 3) := by decide +kernel
theorem dX2_reason_47 : decode cX2_reason 47 = .ok (.iload 4, 2) := by decide +kernel
theorem dX2_reason_49 : decode cX2_reason 49 = .ok (.isub, 1) := by decide +kernel
theorem dX2_reason_50 : decode cX2_reason 50 = .ok (.istore 7, 2) := by decide +kernel
theorem dX2_reason_52 : decode cX2_reason 52 = .ok (.iload 7, 2) := by decide +kernel
theorem dX2_reason_54 : decode cX2_reason 54 = .ok (.aload_n 0, 1) := by decide +kernel
theorem dX2_reason_55 : decode cX2_reason 55 = .ok (.iload_n 3, 1) := by decide +kernel
theorem dX2_reason_56 : decode cX2_reason 56 = .ok (.invokevirtual 46, 3) := by decide +kernel
theorem dX2_reason_59 : decode cX2_reason 59 = .ok (.if_icmp .le 5, 3) := by decide +kernel
theorem dX2_reason_62 : decode cX2_reason 62 = .ok (.iconst 3, 1) := by decide +kernel
theorem dX2_reason_63 : decode cX2_reason 63 = .ok (.ireturn, 1) := by decide +kernel
theorem dX2_reason_64 : decode cX2_reason 64 = .ok (.iload 7, 2) := by decide +kernel
theorem dX2_reason_66 : decode cX2_reason 66 = .ok (.aload_n 0, 1) := by decide +kernel
theorem dX2_reason_67 : decode cX2_reason 67 = .ok (.iload_n 3, 1) := by decide +kernel
theorem dX2_reason_68 : decode cX2_reason 68 = .ok (.invokevirtual 46, 3) := by decide +kernel
theorem dX2_reason_71 : decode cX2_reason 71 = .ok (.aload_n 0, 1) := by decide +kernel
theorem dX2_reason_72 : decode cX2_reason 72 = .ok (.getfield 9, 3) := by decide +kernel
theorem dX2_reason_75 : decode cX2_reason 75 = .ok (.iconst 5, 1) := by decide +kernel
theorem dX2_reason_76 : decode cX2_reason 76 = .ok (.iaload, 1) := by decide +kernel
theorem dX2_reason_77 : decode cX2_reason 77 = .ok (.isub, 1) := by decide +kernel
theorem dX2_reason_78 : decode cX2_reason 78 = .ok (.if_icmp .gt 5, 3) := by decide +kernel
theorem dX2_reason_81 : decode cX2_reason 81 = .ok (.iconst 4, 1) := by decide +kernel
theorem dX2_reason_82 : decode cX2_reason 82 = .ok (.ireturn, 1) := by decide +kernel
theorem dX2_reason_83 : decode cX2_reason 83 = .ok (.iload 6, 2) := by decide +kernel
theorem dX2_reason_85 : decode cX2_reason 85 = .ok (.aload_n 0, 1) := by decide +kernel
theorem dX2_reason_86 : decode cX2_reason 86 = .ok (.getfield 9, 3) := by decide +kernel
theorem dX2_reason_89 : decode cX2_reason 89 = .ok (.iconst 0, 1) := by decide +kernel
theorem dX2_reason_90 : decode cX2_reason 90 = .ok (.iaload, 1) := by decide +kernel
theorem dX2_reason_91 : decode cX2_reason 91 = .ok (.if_icmp .ne 5, 3) := by decide +kernel
theorem dX2_reason_94 : decode cX2_reason 94 = .ok (.iconst 0, 1) := by decide +kernel
theorem dX2_reason_95 : decode cX2_reason 95 = .ok (.ireturn, 1) := by decide +kernel
theorem dX2_reason_96 : decode cX2_reason 96 = .ok (.aload_n 0, 1) := by decide +kernel
theorem dX2_reason_97 : decode cX2_reason 97 = .ok (.iload 6, 2) := by decide +kernel
theorem dX2_reason_99 : decode cX2_reason 99 = .ok (.iconst 1, 1) := by decide +kernel
theorem dX2_reason_100 : decode cX2_reason 100 = .ok (.isub, 1) := by decide +kernel
theorem dX2_reason_101 : decode cX2_reason 101 = .ok (.aload_n 0, 1) := by decide +kernel
theorem dX2_reason_102 : decode cX2_reason 102 = .ok (.iload 6, 2) := by decide +kernel
theorem dX2_reason_104 : decode cX2_reason 104 = .ok (.iload 4, 2) := by decide +kernel
theorem dX2_reason_106 : decode cX2_reason 106 = .ok (.invokevirtual 50, 3) := by decide +kernel
theorem dX2_reason_109 : decode cX2_reason 109 = .ok (.iload 5, 2) := by decide +kernel
theorem dX2_reason_111 : decode cX2_reason 111 = .ok (.invokevirtual 53, 3) := by decide +kernel
theorem dX2_reason_114 : decode cX2_reason 114 = .ok (.ifCond .ne 5, 3) := by decide +kernel
theorem dX2_reason_117 : decode cX2_reason 117 = .ok (.iconst 5, 1) := by decide +kernel
theorem dX2_reason_118 : decode cX2_reason 118 = .ok (.ireturn, 1) := by decide +kernel
theorem dX2_reason_119 : decode cX2_reason 119 = .ok (.aload_n 0, 1) := by decide +kernel
theorem dX2_reason_120 : decode cX2_reason 120 = .ok (.getfield 17, 3) := by decide +kernel
theorem dX2_reason_123 : decode cX2_reason 123 = .ok (.iconst 2, 1) := by decide +kernel
theorem dX2_reason_124 : decode cX2_reason 124 = .ok (.aaload, 1) := by decide +kernel
theorem dX2_reason_125 : decode cX2_reason 125 = .ok (.iload 6, 2) := by decide +kernel
theorem dX2_reason_127 : decode cX2_reason 127 = .ok (.iconst 1, 1) := by decide +kernel
theorem dX2_reason_128 : decode cX2_reason 128 = .ok (.isub, 1) := by decide +kernel
theorem dX2_reason_129 : decode cX2_reason 129 = .ok (.iaload, 1) := by decide +kernel
theorem dX2_reason_130 : decode cX2_reason 130 = .ok (.aload_n 0, 1) := by decide +kernel
theorem dX2_reason_131 : decode cX2_reason 131 = .ok (.iload_n 1, 1) := by decide +kernel
theorem dX2_reason_132 : decode cX2_reason 132 = .ok (.invokevirtual 57, 3) := by decide +kernel
theorem dX2_reason_135 : decode cX2_reason 135 = .ok (.if_icmp .ne 8, 3) := by decide +kernel
theorem dX2_reason_138 : decode cX2_reason 138 = .ok (.bipush 6, 2) := by decide +kernel
theorem dX2_reason_140 : decode cX2_reason 140 = .ok (.goto 4, 3) := by decide +kernel
theorem dX2_reason_143 : decode cX2_reason 143 = .ok (.iconst 0, 1) := by decide +kernel
theorem dX2_reason_144 : decode cX2_reason 144 = .ok (.ireturn, 1) := by decide +kernel
theorem dX2_reasonNow_0 : decode cX2_reasonNow 0 = .ok (.aload_n 0, 1) := by decide +kernel
theorem dX2_reasonNow_1 : decode cX2_reasonNow 1 = .ok (.aload_n 0, 1) := by decide +kernel
theorem dX2_reasonNow_2 : decode cX2_reasonNow 2 = .ok (.getfield 9, 3) := by decide +kernel
theorem dX2_reasonNow_5 : decode cX2_reasonNow 5 = .ok (.iconst 1, 1) := by decide +kernel
theorem dX2_reasonNow_6 : decode cX2_reasonNow 6 = .ok (.iaload, 1) := by decide +kernel
theorem dX2_reasonNow_7 : decode cX2_reasonNow 7 = .ok (.iload_n 1, 1) := by decide +kernel
theorem dX2_reasonNow_8 : decode cX2_reasonNow 8 = .ok (.aload_n 0, 1) := by decide +kernel
theorem dX2_reasonNow_9 : decode cX2_reasonNow 9 = .ok (.getfield 9, 3) := by decide +kernel
theorem dX2_reasonNow_12 : decode cX2_reasonNow 12 = .ok (.iconst 2, 1) := by decide +kernel
theorem dX2_reasonNow_13 : decode cX2_reasonNow 13 = .ok (.iaload, 1) := by decide +kernel
theorem dX2_reasonNow_14 : decode cX2_reasonNow 14 = .ok (.iload_n 2, 1) := by decide +kernel
theorem dX2_reasonNow_15 : decode cX2_reasonNow 15 = .ok (.aload_n 0, 1) := by decide +kernel
theorem dX2_reasonNow_16 : decode cX2_reasonNow 16 = .ok (.getfield 9, 3) := by decide +kernel
theorem dX2_reasonNow_19 : decode cX2_reasonNow 19 = .ok (.bipush 6, 2) := by decide +kernel
theorem dX2_reasonNow_21 : decode cX2_reasonNow 21 = .ok (.iaload, 1) := by decide +kernel
theorem dX2_reasonNow_22 : decode cX2_reasonNow 22 = .ok (.invokevirtual 60, 3) := by decide +kernel
theorem dX2_reasonNow_25 : decode cX2_reasonNow 25 = .ok (.ireturn, 1) := by decide +kernel
theorem dX2_isGood_0 : decode cX2_isGood 0 = .ok (.aload_n 0, 1) := by decide +kernel
theorem dX2_isGood_1 : decode cX2_isGood 1 = .ok (.getfield 9, 3) := by decide +kernel
theorem dX2_isGood_4 : decode cX2_isGood 4 = .ok (.iconst 2, 1) := by decide +kernel
theorem dX2_isGood_5 : decode cX2_isGood 5 = .ok (.iaload, 1) := by decide +kernel
theorem dX2_isGood_6 : decode cX2_isGood 6 = .ok (.bipush 30, 2) := by decide +kernel
theorem dX2_isGood_8 : decode cX2_isGood 8 = .ok (.if_icmp .ge 21, 3) := by decide +kernel
theorem dX2_isGood_11 : decode cX2_isGood 11 = .ok (.aload_n 0, 1) := by decide +kernel
theorem dX2_isGood_12 : decode cX2_isGood 12 = .ok (.iload_n 1, 1) := by decide +kernel
theorem dX2_isGood_13 : decode cX2_isGood 13 = .ok (.aload_n 0, 1) := by decide +kernel
theorem dX2_isGood_14 : decode cX2_isGood 14 = .ok (.getfield 9, 3) := by decide +kernel
theorem dX2_isGood_17 : decode cX2_isGood 17 = .ok (.iconst 3, 1) := by decide +kernel
theorem dX2_isGood_18 : decode cX2_isGood 18 = .ok (.iaload, 1) := by decide +kernel
theorem dX2_isGood_19 : decode cX2_isGood 19 = .ok (.invokevirtual 64, 3) := by decide +kernel
theorem dX2_isGood_22 : decode cX2_isGood 22 = .ok (.ifCond .ne 7, 3) := by decide +kernel
theorem dX2_isGood_25 : decode cX2_isGood 25 = .ok (.iconst 1, 1) := by decide +kernel
theorem dX2_isGood_26 : decode cX2_isGood 26 = .ok (.goto 4, 3) := by decide +kernel
theorem dX2_isGood_29 : decode cX2_isGood 29 = .ok (.iconst 0, 1) := by decide +kernel
theorem dX2_isGood_30 : decode cX2_isGood 30 = .ok (.ireturn, 1) := by decide +kernel
theorem dX2_owedAfter_0 : decode cX2_owedAfter 0 = .ok (.iload_n 1, 1) := by decide +kernel
theorem dX2_owedAfter_1 : decode cX2_owedAfter 1 = .ok (.aload_n 0, 1) := by decide +kernel
theorem dX2_owedAfter_2 : decode cX2_owedAfter 2 = .ok (.getfield 9, 3) := by decide +kernel
theorem dX2_owedAfter_5 : decode cX2_owedAfter 5 = .ok (.bipush 7, 2) := by decide +kernel
theorem dX2_owedAfter_7 : decode cX2_owedAfter 7 = .ok (.iaload, 1) := by decide +kernel
theorem dX2_owedAfter_8 : decode cX2_owedAfter 8 = .ok (.iadd, 1) := by decide +kernel
theorem dX2_owedAfter_9 : decode cX2_owedAfter 9 = .ok (.iload_n 2, 1) := by decide +kernel
theorem dX2_owedAfter_10 : decode cX2_owedAfter 10 = .ok (.isub, 1) := by decide +kernel
theorem dX2_owedAfter_11 : decode cX2_owedAfter 11 = .ok (.aload_n 0, 1) := by decide +kernel
theorem dX2_owedAfter_12 : decode cX2_owedAfter 12 = .ok (.getfield 9, 3) := by decide +kernel
theorem dX2_owedAfter_15 : decode cX2_owedAfter 15 = .ok (.bipush 7, 2) := by decide +kernel
theorem dX2_owedAfter_17 : decode cX2_owedAfter 17 = .ok (.iaload, 1) := by decide +kernel
theorem dX2_owedAfter_18 : decode cX2_owedAfter 18 = .ok (.ineg, 1) := by decide +kernel
theorem dX2_owedAfter_19 : decode cX2_owedAfter 19 = .ok (.invokestatic 30, 3) := by decide +kernel
theorem dX2_owedAfter_22 : decode cX2_owedAfter 22 = .ok (.ireturn, 1) := by decide +kernel
theorem dX2_payFor_0 : decode cX2_payFor 0 = .ok (.aload_n 0, 1) := by decide +kernel
theorem dX2_payFor_1 : decode cX2_payFor 1 = .ok (.getfield 9, 3) := by decide +kernel
theorem dX2_payFor_4 : decode cX2_payFor 4 = .ok (.bipush 8, 2) := by decide +kernel
theorem dX2_payFor_6 : decode cX2_payFor 6 = .ok (.iaload, 1) := by decide +kernel
theorem dX2_payFor_7 : decode cX2_payFor 7 = .ok (.iload_n 1, 1) := by decide +kernel
theorem dX2_payFor_8 : decode cX2_payFor 8 = .ok (.imul, 1) := by decide +kernel
theorem dX2_payFor_9 : decode cX2_payFor 9 = .ok (.bipush 10, 2) := by decide +kernel
theorem dX2_payFor_11 : decode cX2_payFor 11 = .ok (.iload_n 2, 1) := by decide +kernel
theorem dX2_payFor_12 : decode cX2_payFor 12 = .ok (.imul, 1) := by decide +kernel
theorem dX2_payFor_13 : decode cX2_payFor 13 = .ok (.iadd, 1) := by decide +kernel
theorem dX2_payFor_14 : decode cX2_payFor 14 = .ok (.ireturn, 1) := by decide +kernel
theorem dX2_printInstalment_0 : decode cX2_printInstalment 0 = .ok (.aload_n 0, 1) := by decide +kernel
theorem dX2_printInstalment_1 : decode cX2_printInstalment 1 = .ok (.getfield 9, 3) := by decide +kernel
theorem dX2_printInstalment_4 : decode cX2_printInstalment 4 = .ok (.iconst 1, 1) := by decide +kernel
theorem dX2_printInstalment_5 : decode cX2_printInstalment 5 = .ok (.iaload, 1) := by decide +kernel
theorem dX2_printInstalment_6 : decode cX2_printInstalment 6 = .ok (.istore_n 2, 1) := by decide +kernel
theorem dX2_printInstalment_7 : decode cX2_printInstalment 7 = .ok (.iload_n 2, 1) := by decide +kernel
theorem dX2_printInstalment_8 : decode cX2_printInstalment 8 = .ok (.iload_n 1, 1) := by decide +kernel
theorem dX2_printInstalment_9 : decode cX2_printInstalment 9 = .ok (.iadd, 1) := by decide +kernel
theorem dX2_printInstalment_10 : decode cX2_printInstalment 10 = .ok (.istore_n 3, 1) := by decide +kernel
theorem dX2_printInstalment_11 : decode cX2_printInstalment 11 = .ok (.aload_n 0, 1) := by decide +kernel
theorem dX2_printInstalment_12 : decode cX2_printInstalment 12 = .ok (.iload_n 1, 1) := by decide +kernel
theorem dX2_printInstalment_13 : decode cX2_printInstalment 13 = .ok (.invokevirtual 67, 3) := by decide +kernel
theorem dX2_printInstalment_16 : decode cX2_printInstalment 16 = .ok (.istore 4, 2) := by decide +kernel
theorem dX2_printInstalment_18 : decode cX2_printInstalment 18 = .ok (.iload_n 2, 1) := by decide +kernel
theorem dX2_printInstalment_19 : decode cX2_printInstalment 19 = .ok (.istore 5, 2) := by decide +kernel
theorem dX2_printInstalment_21 : decode cX2_printInstalment 21 = .ok (.iload 5, 2) := by decide +kernel
theorem dX2_printInstalment_23 : decode cX2_printInstalment 23 = .ok (.iload_n 3, 1) := by decide +kernel
theorem dX2_printInstalment_24 : decode cX2_printInstalment 24 = .ok (.if_icmp .ge 67, 3) := by decide +kernel
theorem dX2_printInstalment_27 : decode cX2_printInstalment 27 = .ok (.aload_n 0, 1) := by decide +kernel
theorem dX2_printInstalment_28 : decode cX2_printInstalment 28 = .ok (.iload 5, 2) := by decide +kernel
theorem dX2_printInstalment_30 : decode cX2_printInstalment 30 = .ok (.iload_n 3, 1) := by decide +kernel
theorem dX2_printInstalment_31 : decode cX2_printInstalment 31 = .ok (.aload_n 0, 1) := by decide +kernel
theorem dX2_printInstalment_32 : decode cX2_printInstalment 32 = .ok (.getfield 9, 3) := by decide +kernel
theorem dX2_printInstalment_35 : decode cX2_printInstalment 35 = .ok (.iconst 3, 1) := by decide +kernel
theorem dX2_printInstalment_36 : decode cX2_printInstalment 36 = .ok (.iaload, 1) := by decide +kernel
theorem dX2_printInstalment_37 : decode cX2_printInstalment 37 = .ok (.invokevirtual 70, 3) := by decide +kernel
theorem dX2_printInstalment_40 : decode cX2_printInstalment 40 = .ok (.istore 6, 2) := by decide +kernel
theorem dX2_printInstalment_42 : decode cX2_printInstalment 42 = .ok (.aload_n 0, 1) := by decide +kernel
theorem dX2_printInstalment_43 : decode cX2_printInstalment 43 = .ok (.getfield 17, 3) := by decide +kernel
theorem dX2_printInstalment_46 : decode cX2_printInstalment 46 = .ok (.iconst 3, 1) := by decide +kernel
theorem dX2_printInstalment_47 : decode cX2_printInstalment 47 = .ok (.aaload, 1) := by decide +kernel
theorem dX2_printInstalment_48 : decode cX2_printInstalment 48 = .ok (.iload 5, 2) := by decide +kernel
theorem dX2_printInstalment_50 : decode cX2_printInstalment 50 = .ok (.aload_n 0, 1) := by decide +kernel
theorem dX2_printInstalment_51 : decode cX2_printInstalment 51 = .ok (.iload 5, 2) := by decide +kernel
theorem dX2_printInstalment_53 : decode cX2_printInstalment 53 = .ok (.iload 6, 2) := by decide +kernel
theorem dX2_printInstalment_55 : decode cX2_printInstalment 55 = .ok (.invokevirtual 43, 3) := by decide +kernel
theorem dX2_printInstalment_58 : decode cX2_printInstalment 58 = .ok (.iastore, 1) := by decide +kernel
theorem dX2_printInstalment_59 : decode cX2_printInstalment 59 = .ok (.aload_n 0, 1) := by decide +kernel
theorem dX2_printInstalment_60 : decode cX2_printInstalment 60 = .ok (.getfield 17, 3) := by decide +kernel
theorem dX2_printInstalment_63 : decode cX2_printInstalment 63 = .ok (.iconst 4, 1) := by decide +kernel
theorem dX2_printInstalment_64 : decode cX2_printInstalment 64 = .ok (.aaload, 1) := by decide +kernel
theorem dX2_printInstalment_65 : decode cX2_printInstalment 65 = .ok (.iload 5, 2) := by decide +kernel
theorem dX2_printInstalment_67 : decode cX2_printInstalment 67 = .ok (.iload 6, 2) := by decide +kernel
theorem dX2_printInstalment_69 : decode cX2_printInstalment 69 = .ok (.iastore, 1) := by decide +kernel
theorem dX2_printInstalment_70 : decode cX2_printInstalment 70 = .ok (.aload_n 0, 1) := by decide +kernel
theorem dX2_printInstalment_71 : decode cX2_printInstalment 71 = .ok (.getfield 17, 3) := by decide +kernel
theorem dX2_printInstalment_74 : decode cX2_printInstalment 74 = .ok (.iconst 5, 1) := by decide +kernel
theorem dX2_printInstalment_75 : decode cX2_printInstalment 75 = .ok (.aaload, 1) := by decide +kernel
theorem dX2_printInstalment_76 : decode cX2_printInstalment 76 = .ok (.iload 5, 2) := by decide +kernel
theorem dX2_printInstalment_78 : decode cX2_printInstalment 78 = .ok (.aload_n 0, 1) := by decide +kernel
theorem dX2_printInstalment_79 : decode cX2_printInstalment 79 = .ok (.getfield 9, 3) := by decide +kernel
theorem dX2_printInstalment_82 : decode cX2_printInstalment 82 = .ok (.iconst 2, 1) := by decide +kernel
theorem dX2_printInstalment_83 : decode cX2_printInstalment 83 = .ok (.iaload, 1) := by decide +kernel
theorem dX2_printInstalment_84 : decode cX2_printInstalment 84 = .ok (.iastore, 1) := by decide +kernel
theorem dX2_printInstalment_85 : decode cX2_printInstalment 85 = .ok (.iinc 5 1, 3) := by decide +kernel
theorem dX2_printInstalment_88 : decode cX2_printInstalment 88 = .ok (.goto (-67), 3) := by decide +kernel
theorem dX2_printInstalment_91 : decode cX2_printInstalment 91 = .ok (.aload_n 0, 1) := by decide +kernel
theorem dX2_printInstalment_92 : decode cX2_printInstalment 92 = .ok (.getfield 9, 3) := by decide +kernel
theorem dX2_printInstalment_95 : decode cX2_printInstalment 95 = .ok (.iconst 1, 1) := by decide +kernel
theorem dX2_printInstalment_96 : decode cX2_printInstalment 96 = .ok (.iload_n 3, 1) := by decide +kernel
theorem dX2_printInstalment_97 : decode cX2_printInstalment 97 = .ok (.iastore, 1) := by decide +kernel
theorem dX2_printInstalment_98 : decode cX2_printInstalment 98 = .ok (.aload_n 0, 1) := by decide +kernel
theorem dX2_printInstalment_99 : decode cX2_printInstalment 99 = .ok (.getfield 9, 3) := by decide +kernel
theorem dX2_printInstalment_102 : decode cX2_printInstalment 102 = .ok (.iconst 4, 1) := by decide +kernel
theorem dX2_printInstalment_103 : decode cX2_printInstalment 103 = .ok (.iconst 0, 1) := by decide +kernel
theorem dX2_printInstalment_104 : decode cX2_printInstalment 104 = .ok (.iastore, 1) := by decide +kernel
theorem dX2_printInstalment_105 : decode cX2_printInstalment 105 = .ok (.aload_n 0, 1) := by decide +kernel
theorem dX2_printInstalment_106 : decode cX2_printInstalment 106 = .ok (.getfield 9, 3) := by decide +kernel
theorem dX2_printInstalment_109 : decode cX2_printInstalment 109 = .ok (.bipush 10, 2) := by decide +kernel
theorem dX2_printInstalment_111 : decode cX2_printInstalment 111 = .ok (.dup2, 1) := by decide +kernel
theorem dX2_printInstalment_112 : decode cX2_printInstalment 112 = .ok (.iaload, 1) := by decide +kernel
theorem dX2_printInstalment_113 : decode cX2_printInstalment 113 = .ok (.iload 4, 2) := by decide +kernel
theorem dX2_printInstalment_115 : decode cX2_printInstalment 115 = .ok (.iadd, 1) := by decide +kernel
theorem dX2_printInstalment_116 : decode cX2_printInstalment 116 = .ok (.iastore, 1) := by decide +kernel
theorem dX2_printInstalment_117 : decode cX2_printInstalment 117 = .ok (.aload_n 0, 1) := by decide +kernel
theorem dX2_printInstalment_118 : decode cX2_printInstalment 118 = .ok (.getfield 9, 3) := by decide +kernel
theorem dX2_printInstalment_121 : decode cX2_printInstalment 121 = .ok (.bipush 11, 2) := by decide +kernel
theorem dX2_printInstalment_123 : decode cX2_printInstalment 123 = .ok (.dup2, 1) := by decide +kernel
theorem dX2_printInstalment_124 : decode cX2_printInstalment 124 = .ok (.iaload, 1) := by decide +kernel
theorem dX2_printInstalment_125 : decode cX2_printInstalment 125 = .ok (.aload_n 0, 1) := by decide +kernel
theorem dX2_printInstalment_126 : decode cX2_printInstalment 126 = .ok (.getfield 9, 3) := by decide +kernel
theorem dX2_printInstalment_129 : decode cX2_printInstalment 129 = .ok (.iconst 3, 1) := by decide +kernel
theorem dX2_printInstalment_130 : decode cX2_printInstalment 130 = .ok (.iaload, 1) := by decide +kernel
theorem dX2_printInstalment_131 : decode cX2_printInstalment 131 = .ok (.iadd, 1) := by decide +kernel
theorem dX2_printInstalment_132 : decode cX2_printInstalment 132 = .ok (.iastore, 1) := by decide +kernel
theorem dX2_printInstalment_133 : decode cX2_printInstalment 133 = .ok (.aload_n 0, 1) := by decide +kernel
theorem dX2_printInstalment_134 : decode cX2_printInstalment 134 = .ok (.getfield 9, 3) := by decide +kernel
theorem dX2_printInstalment_137 : decode cX2_printInstalment 137 = .ok (.bipush 12, 2) := by decide +kernel
theorem dX2_printInstalment_139 : decode cX2_printInstalment 139 = .ok (.dup2, 1) := by decide +kernel
theorem dX2_printInstalment_140 : decode cX2_printInstalment 140 = .ok (.iaload, 1) := by decide +kernel
theorem dX2_printInstalment_141 : decode cX2_printInstalment 141 = .ok (.iconst 1, 1) := by decide +kernel
theorem dX2_printInstalment_142 : decode cX2_printInstalment 142 = .ok (.iadd, 1) := by decide +kernel
theorem dX2_printInstalment_143 : decode cX2_printInstalment 143 = .ok (.iastore, 1) := by decide +kernel
theorem dX2_printInstalment_144 : decode cX2_printInstalment 144 = .ok (.aload_n 0, 1) := by decide +kernel
theorem dX2_printInstalment_145 : decode cX2_printInstalment 145 = .ok (.getfield 9, 3) := by decide +kernel
theorem dX2_printInstalment_148 : decode cX2_printInstalment 148 = .ok (.bipush 15, 2) := by decide +kernel
theorem dX2_printInstalment_150 : decode cX2_printInstalment 150 = .ok (.dup2, 1) := by decide +kernel
theorem dX2_printInstalment_151 : decode cX2_printInstalment 151 = .ok (.iaload, 1) := by decide +kernel
theorem dX2_printInstalment_152 : decode cX2_printInstalment 152 = .ok (.aload_n 0, 1) := by decide +kernel
theorem dX2_printInstalment_153 : decode cX2_printInstalment 153 = .ok (.iload 4, 2) := by decide +kernel
theorem dX2_printInstalment_155 : decode cX2_printInstalment 155 = .ok (.aload_n 0, 1) := by decide +kernel
theorem dX2_printInstalment_156 : decode cX2_printInstalment 156 = .ok (.getfield 17, 3) := by decide +kernel
theorem dX2_printInstalment_159 : decode cX2_printInstalment 159 = .ok (.iconst 3, 1) := by decide +kernel
theorem dX2_printInstalment_160 : decode cX2_printInstalment 160 = .ok (.aaload, 1) := by decide +kernel
theorem dX2_printInstalment_161 : decode cX2_printInstalment 161 = .ok (.iload_n 3, 1) := by decide +kernel
theorem dX2_printInstalment_162 : decode cX2_printInstalment 162 = .ok (.iconst 1, 1) := by decide +kernel
theorem dX2_printInstalment_163 : decode cX2_printInstalment 163 = .ok (.isub, 1) := by decide +kernel
theorem dX2_printInstalment_164 : decode cX2_printInstalment 164 = .ok (.iaload, 1) := by decide +kernel
theorem dX2_printInstalment_165 : decode cX2_printInstalment 165 = .ok (.invokevirtual 73, 3) := by decide +kernel
theorem dX2_printInstalment_168 : decode cX2_printInstalment 168 = .ok (.iadd, 1) := by decide +kernel
theorem dX2_printInstalment_169 : decode cX2_printInstalment 169 = .ok (.iastore, 1) := by decide +kernel
theorem dX2_printInstalment_170 : decode cX2_printInstalment 170 = .ok (.aload_n 0, 1) := by decide +kernel
theorem dX2_printInstalment_171 : decode cX2_printInstalment 171 = .ok (.iload 4, 2) := by decide +kernel
theorem dX2_printInstalment_173 : decode cX2_printInstalment 173 = .ok (.iload_n 1, 1) := by decide +kernel
theorem dX2_printInstalment_174 : decode cX2_printInstalment 174 = .ok (.invokevirtual 76, 3) := by decide +kernel
theorem dX2_printInstalment_177 : decode cX2_printInstalment 177 = .ok (.iload 4, 2) := by decide +kernel
theorem dX2_printInstalment_179 : decode cX2_printInstalment 179 = .ok (.ireturn, 1) := by decide +kernel
theorem dX2_passWeek_0 : decode cX2_passWeek 0 = .ok (.aload_n 0, 1) := by decide +kernel
theorem dX2_passWeek_1 : decode cX2_passWeek 1 = .ok (.getfield 9, 3) := by decide +kernel
theorem dX2_passWeek_4 : decode cX2_passWeek 4 = .ok (.iconst 2, 1) := by decide +kernel
theorem dX2_passWeek_5 : decode cX2_passWeek 5 = .ok (.iaload, 1) := by decide +kernel
theorem dX2_passWeek_6 : decode cX2_passWeek 6 = .ok (.istore_n 3, 1) := by decide +kernel
theorem dX2_passWeek_7 : decode cX2_passWeek 7 = .ok (.aload_n 0, 1) := by decide +kernel
theorem dX2_passWeek_8 : decode cX2_passWeek 8 = .ok (.getfield 20, 3) := by decide +kernel
theorem dX2_passWeek_11 : decode cX2_passWeek 11 = .ok (.iconst 2, 1) := by decide +kernel
theorem dX2_passWeek_12 : decode cX2_passWeek 12 = .ok (.aaload, 1) := by decide +kernel
theorem dX2_passWeek_13 : decode cX2_passWeek 13 = .ok (.iload_n 3, 1) := by decide +kernel
theorem dX2_passWeek_14 : decode cX2_passWeek 14 = .ok (.iload_n 1, 1) := by decide +kernel
theorem dX2_passWeek_15 : decode cX2_passWeek 15 = .ok (.iastore, 1) := by decide +kernel
theorem dX2_passWeek_16 : decode cX2_passWeek 16 = .ok (.aload_n 0, 1) := by decide +kernel
theorem dX2_passWeek_17 : decode cX2_passWeek 17 = .ok (.getfield 20, 3) := by decide +kernel
theorem dX2_passWeek_20 : decode cX2_passWeek 20 = .ok (.iconst 3, 1) := by decide +kernel
theorem dX2_passWeek_21 : decode cX2_passWeek 21 = .ok (.aaload, 1) := by decide +kernel
theorem dX2_passWeek_22 : decode cX2_passWeek 22 = .ok (.iload_n 3, 1) := by decide +kernel
theorem dX2_passWeek_23 : decode cX2_passWeek 23 = .ok (.iload_n 2, 1) := by decide +kernel
theorem dX2_passWeek_24 : decode cX2_passWeek 24 = .ok (.iastore, 1) := by decide +kernel
theorem dX2_passWeek_25 : decode cX2_passWeek 25 = .ok (.aload_n 0, 1) := by decide +kernel
theorem dX2_passWeek_26 : decode cX2_passWeek 26 = .ok (.getfield 9, 3) := by decide +kernel
theorem dX2_passWeek_29 : decode cX2_passWeek 29 = .ok (.bipush 9, 2) := by decide +kernel
theorem dX2_passWeek_31 : decode cX2_passWeek 31 = .ok (.aload_n 0, 1) := by decide +kernel
theorem dX2_passWeek_32 : decode cX2_passWeek 32 = .ok (.aload_n 0, 1) := by decide +kernel
theorem dX2_passWeek_33 : decode cX2_passWeek 33 = .ok (.getfield 9, 3) := by decide +kernel
theorem dX2_passWeek_36 : decode cX2_passWeek 36 = .ok (.bipush 9, 2) := by decide +kernel
theorem dX2_passWeek_38 : decode cX2_passWeek 38 = .ok (.iaload, 1) := by decide +kernel
theorem dX2_passWeek_39 : decode cX2_passWeek 39 = .ok (.iload_n 1, 1) := by decide +kernel
theorem dX2_passWeek_40 : decode cX2_passWeek 40 = .ok (.invokevirtual 80, 3) := by decide +kernel
theorem dX2_passWeek_43 : decode cX2_passWeek 43 = .ok (.iastore, 1) := by decide +kernel
theorem dX2_passWeek_44 : decode cX2_passWeek 44 = .ok (.aload_n 0, 1) := by decide +kernel
theorem dX2_passWeek_45 : decode cX2_passWeek 45 = .ok (.getfield 9, 3) := by decide +kernel
theorem dX2_passWeek_48 : decode cX2_passWeek 48 = .ok (.bipush 16, 2) := by decide +kernel
theorem dX2_passWeek_50 : decode cX2_passWeek 50 = .ok (.dup2, 1) := by decide +kernel
theorem dX2_passWeek_51 : decode cX2_passWeek 51 = .ok (.iaload, 1) := by decide +kernel
theorem dX2_passWeek_52 : decode cX2_passWeek 52 = .ok (.aload_n 0, 1) := by decide +kernel
theorem dX2_passWeek_53 : decode cX2_passWeek 53 = .ok (.getfield 9, 3) := by decide +kernel
theorem dX2_passWeek_56 : decode cX2_passWeek 56 = .ok (.bipush 9, 2) := by decide +kernel
theorem dX2_passWeek_58 : decode cX2_passWeek 58 = .ok (.iaload, 1) := by decide +kernel
theorem dX2_passWeek_59 : decode cX2_passWeek 59 = .ok (.invokestatic 83, 3) := by decide +kernel
theorem dX2_passWeek_62 : decode cX2_passWeek 62 = .ok (.iadd, 1) := by decide +kernel
theorem dX2_passWeek_63 : decode cX2_passWeek 63 = .ok (.iastore, 1) := by decide +kernel
theorem dX2_passWeek_64 : decode cX2_passWeek 64 = .ok (.aload_n 0, 1) := by decide +kernel
theorem dX2_passWeek_65 : decode cX2_passWeek 65 = .ok (.getfield 9, 3) := by decide +kernel
theorem dX2_passWeek_68 : decode cX2_passWeek 68 = .ok (.iconst 3, 1) := by decide +kernel
theorem dX2_passWeek_69 : decode cX2_passWeek 69 = .ok (.iconst 0, 1) := by decide +kernel
theorem dX2_passWeek_70 : decode cX2_passWeek 70 = .ok (.iastore, 1) := by decide +kernel
theorem dX2_passWeek_71 : decode cX2_passWeek 71 = .ok (.aload_n 0, 1) := by decide +kernel
theorem dX2_passWeek_72 : decode cX2_passWeek 72 = .ok (.getfield 9, 3) := by decide +kernel
theorem dX2_passWeek_75 : decode cX2_passWeek 75 = .ok (.iconst 2, 1) := by decide +kernel
theorem dX2_passWeek_76 : decode cX2_passWeek 76 = .ok (.dup2, 1) := by decide +kernel
theorem dX2_passWeek_77 : decode cX2_passWeek 77 = .ok (.iaload, 1) := by decide +kernel
theorem dX2_passWeek_78 : decode cX2_passWeek 78 = .ok (.iconst 1, 1) := by decide +kernel
theorem dX2_passWeek_79 : decode cX2_passWeek 79 = .ok (.iadd, 1) := by decide +kernel
theorem dX2_passWeek_80 : decode cX2_passWeek 80 = .ok (.iastore, 1) := by decide +kernel
theorem dX2_passWeek_81 : decode cX2_passWeek 81 = .ok (.return_, 1) := by decide +kernel
theorem dX3_init_0 : decode cX3_init 0 = .ok (.aload_n 0, 1) := by decide +kernel
theorem dX3_init_1 : decode cX3_init 1 = .ok (.invokespecial 3, 3) := by decide +kernel
theorem dX3_init_4 : decode cX3_init 4 = .ok (.aload_n 0, 1) := by decide +kernel
theorem dX3_init_5 : decode cX3_init 5 = .ok (.bipush 21, 2) := by decide +kernel
theorem dX3_init_7 : decode cX3_init 7 = .ok (.bipush 21, 2) := by decide +kernel
theorem dX3_init_9 : decode cX3_init 9 = .ok (.multianewarray 9 2, 4) := by decide +kernel
theorem dX3_init_13 : decode cX3_init 13 = .ok (.putfield 11, 3) := by decide +kernel
theorem dX3_init_16 : decode cX3_init 16 = .ok (.aload_n 0, 1) := by decide +kernel
theorem dX3_init_17 : decode cX3_init 17 = .ok (.bipush 21, 2) := by decide +kernel
theorem dX3_init_19 : decode cX3_init 19 = .ok (.bipush 21, 2) := by decide +kernel
theorem dX3_init_21 : decode cX3_init 21 = .ok (.multianewarray 9 2, 4) := by decide +kernel
theorem dX3_init_25 : decode cX3_init 25 = .ok (.putfield 16, 3) := by decide +kernel
theorem dX3_init_28 : decode cX3_init 28 = .ok (.aload_n 0, 1) := by decide +kernel
theorem dX3_init_29 : decode cX3_init 29 = .ok (.bipush 21, 2) := by decide +kernel
theorem dX3_init_31 : decode cX3_init 31 = .ok (.bipush 21, 2) := by decide +kernel
theorem dX3_init_33 : decode cX3_init 33 = .ok (.multianewarray 9 2, 4) := by decide +kernel
theorem dX3_init_37 : decode cX3_init 37 = .ok (.putfield 19, 3) := by decide +kernel
theorem dX3_init_40 : decode cX3_init 40 = .ok (.aload_n 0, 1) := by decide +kernel
theorem dX3_init_41 : decode cX3_init 41 = .ok (.bipush 21, 2) := by decide +kernel
theorem dX3_init_43 : decode cX3_init 43 = .ok (.bipush 21, 2) := by decide +kernel
theorem dX3_init_45 : decode cX3_init 45 = .ok (.multianewarray 9 2, 4) := by decide +kernel
theorem dX3_init_49 : decode cX3_init 49 = .ok (.putfield 22, 3) := by decide +kernel
theorem dX3_init_52 : decode cX3_init 52 = .ok (.aload_n 0, 1) := by decide +kernel
theorem dX3_init_53 : decode cX3_init 53 = .ok (.iconst 0, 1) := by decide +kernel
theorem dX3_init_54 : decode cX3_init 54 = .ok (.putfield 25, 3) := by decide +kernel
theorem dX3_init_57 : decode cX3_init 57 = .ok (.aload_n 0, 1) := by decide +kernel
theorem dX3_init_58 : decode cX3_init 58 = .ok (.iconst 0, 1) := by decide +kernel
theorem dX3_init_59 : decode cX3_init 59 = .ok (.putfield 29, 3) := by decide +kernel
theorem dX3_init_62 : decode cX3_init 62 = .ok (.return_, 1) := by decide +kernel
theorem dX4_init_0 : decode cX4_init 0 = .ok (.aload_n 0, 1) := by decide +kernel
theorem dX4_init_1 : decode cX4_init 1 = .ok (.invokespecial 3, 3) := by decide +kernel
theorem dX4_init_4 : decode cX4_init 4 = .ok (.aload_n 0, 1) := by decide +kernel
theorem dX4_init_5 : decode cX4_init 5 = .ok (.bipush 100, 2) := by decide +kernel
theorem dX4_init_7 : decode cX4_init 7 = .ok (.newarray .int, 2) := by decide +kernel
theorem dX4_init_9 : decode cX4_init 9 = .ok (.putfield 9, 3) := by decide +kernel
theorem dX4_init_12 : decode cX4_init 12 = .ok (.aload_n 0, 1) := by decide +kernel
theorem dX4_init_13 : decode cX4_init 13 = .ok (.iconst 4, 1) := by decide +kernel
theorem dX4_init_14 : decode cX4_init 14 = .ok (.bipush 20, 2) := by decide +kernel
theorem dX4_init_16 : decode cX4_init 16 = .ok (.multianewarray 15 2, 4) := by decide +kernel
theorem dX4_init_20 : decode cX4_init 20 = .ok (.putfield 17, 3) := by decide +kernel
theorem dX4_init_23 : decode cX4_init 23 = .ok (.aload_n 0, 1) := by decide +kernel
theorem dX4_init_24 : decode cX4_init 24 = .ok (.iconst 0, 1) := by decide +kernel
theorem dX4_init_25 : decode cX4_init 25 = .ok (.putfield 20, 3) := by decide +kernel
theorem dX4_init_28 : decode cX4_init 28 = .ok (.aload_n 0, 1) := by decide +kernel
theorem dX4_init_29 : decode cX4_init 29 = .ok (.iconst 0, 1) := by decide +kernel
theorem dX4_init_30 : decode cX4_init 30 = .ok (.putfield 24, 3) := by decide +kernel
theorem dX4_init_33 : decode cX4_init 33 = .ok (.aload_n 0, 1) := by decide +kernel
theorem dX4_init_34 : decode cX4_init 34 = .ok (.iconst 0, 1) := by decide +kernel
theorem dX4_init_35 : decode cX4_init 35 = .ok (.putfield 27, 3) := by decide +kernel
theorem dX4_init_38 : decode cX4_init 38 = .ok (.return_, 1) := by decide +kernel
theorem dX5_init_0 : decode cX5_init 0 = .ok (.aload_n 0, 1) := by decide +kernel
theorem dX5_init_1 : decode cX5_init 1 = .ok (.invokespecial 1, 3) := by decide +kernel
theorem dX5_init_4 : decode cX5_init 4 = .ok (.aload_n 0, 1) := by decide +kernel
theorem dX5_init_5 : decode cX5_init 5 = .ok (.new 7, 3) := by decide +kernel
theorem dX5_init_8 : decode cX5_init 8 = .ok (.dup, 1) := by decide +kernel
theorem dX5_init_9 : decode cX5_init 9 = .ok (.invokespecial 9, 3) := by decide +kernel
theorem dX5_init_12 : decode cX5_init 12 = .ok (.putfield 10, 3) := by decide +kernel
theorem dX5_init_15 : decode cX5_init 15 = .ok (.aload_n 0, 1) := by decide +kernel
theorem dX5_init_16 : decode cX5_init 16 = .ok (.new 16, 3) := by decide +kernel
theorem dX5_init_19 : decode cX5_init 19 = .ok (.dup, 1) := by decide +kernel
theorem dX5_init_20 : decode cX5_init 20 = .ok (.invokespecial 18, 3) := by decide +kernel
theorem dX5_init_23 : decode cX5_init 23 = .ok (.putfield 19, 3) := by decide +kernel
theorem dX5_init_26 : decode cX5_init 26 = .ok (.aload_n 0, 1) := by decide +kernel
theorem dX5_init_27 : decode cX5_init 27 = .ok (.new 23, 3) := by decide +kernel
theorem dX5_init_30 : decode cX5_init 30 = .ok (.dup, 1) := by decide +kernel
theorem dX5_init_31 : decode cX5_init 31 = .ok (.invokespecial 25, 3) := by decide +kernel
theorem dX5_init_34 : decode cX5_init 34 = .ok (.putfield 26, 3) := by decide +kernel
theorem dX5_init_37 : decode cX5_init 37 = .ok (.aload_n 0, 1) := by decide +kernel
theorem dX5_init_38 : decode cX5_init 38 = .ok (.new 30, 3) := by decide +kernel
theorem dX5_init_41 : decode cX5_init 41 = .ok (.dup, 1) := by decide +kernel
theorem dX5_init_42 : decode cX5_init 42 = .ok (.invokespecial 32, 3) := by decide +kernel
theorem dX5_init_45 : decode cX5_init 45 = .ok (.putfield 33, 3) := by decide +kernel
theorem dX5_init_48 : decode cX5_init 48 = .ok (.return_, 1) := by decide +kernel
theorem dX5_insert_0 : decode cX5_insert 0 = .ok (.aload_n 0, 1) := by decide +kernel
theorem dX5_insert_1 : decode cX5_insert 1 = .ok (.getfield 10, 3) := by decide +kernel
theorem dX5_insert_4 : decode cX5_insert 4 = .ok (.getfield 37, 3) := by decide +kernel
theorem dX5_insert_7 : decode cX5_insert 7 = .ok (.getfield 41, 3) := by decide +kernel
theorem dX5_insert_10 : decode cX5_insert 10 = .ok (.astore 6, 2) := by decide +kernel
theorem dX5_insert_12 : decode cX5_insert 12 = .ok (.iload_n 1, 1) := by decide +kernel
theorem dX5_insert_13 : decode cX5_insert 13 = .ok (.aload 6, 2) := by decide +kernel
theorem dX5_insert_15 : decode cX5_insert 15 = .ok (.iconst 1, 1) := by decide +kernel
theorem dX5_insert_16 : decode cX5_insert 16 = .ok (.iaload, 1) := by decide +kernel
theorem dX5_insert_17 : decode cX5_insert 17 = .ok (.if_icmp .lt 23, 3) := by decide +kernel
theorem dX5_insert_20 : decode cX5_insert 20 = .ok (.iload_n 1, 1) := by decide +kernel
theorem dX5_insert_21 : decode cX5_insert 21 = .ok (.aload 6, 2) := by decide +kernel
theorem dX5_insert_23 : decode cX5_insert 23 = .ok (.iconst 0, 1) := by decide +kernel
theorem dX5_insert_24 : decode cX5_insert 24 = .ok (.iaload, 1) := by decide +kernel
theorem dX5_insert_25 : decode cX5_insert 25 = .ok (.if_icmp .gt 15, 3) := by decide +kernel
theorem dX5_insert_28 : decode cX5_insert 28 = .ok (.iload_n 2, 1) := by decide +kernel
theorem dX5_insert_29 : decode cX5_insert 29 = .ok (.iload_n 3, 1) := by decide +kernel
theorem dX5_insert_30 : decode cX5_insert 30 = .ok (.iload 4, 2) := by decide +kernel
theorem dX5_insert_32 : decode cX5_insert 32 = .ok (.iload 5, 2) := by decide +kernel
theorem dX5_insert_34 : decode cX5_insert 34 = .ok (.invokestatic 47, 3) := by decide +kernel
theorem dX5_insert_37 : decode cX5_insert 37 = .ok (.ifCond .ne 6, 3) := by decide +kernel
theorem dX5_insert_40 : decode cX5_insert 40 = .ok (.ldc 51, 2) := by decide +kernel
theorem dX5_insert_42 : decode cX5_insert 42 = .ok (.ireturn, 1) := by decide +kernel
theorem dX5_insert_43 : decode cX5_insert 43 = .ok (.aload_n 0, 1) := by decide +kernel
theorem dX5_insert_44 : decode cX5_insert 44 = .ok (.invokevirtual 52, 3) := by decide +kernel
theorem dX5_insert_47 : decode cX5_insert 47 = .ok (.ifCond .eq 6, 3) := by decide +kernel
theorem dX5_insert_50 : decode cX5_insert 50 = .ok (.ldc 56, 2) := by decide +kernel
theorem dX5_insert_52 : decode cX5_insert 52 = .ok (.ireturn, 1) := by decide +kernel
theorem dX5_insert_53 : decode cX5_insert 53 = .ok (.aload 6, 2) := by decide +kernel
theorem dX5_insert_55 : decode cX5_insert 55 = .ok (.iconst 0, 1) := by decide +kernel
theorem dX5_insert_56 : decode cX5_insert 56 = .ok (.iaload, 1) := by decide +kernel
theorem dX5_insert_57 : decode cX5_insert 57 = .ok (.bipush 20, 2) := by decide +kernel
theorem dX5_insert_59 : decode cX5_insert 59 = .ok (.if_icmp .lt 6, 3) := by decide +kernel
theorem dX5_insert_62 : decode cX5_insert 62 = .ok (.ldc 57, 2) := by decide +kernel
theorem dX5_insert_64 : decode cX5_insert 64 = .ok (.ireturn, 1) := by decide +kernel
theorem dX5_insert_65 : decode cX5_insert 65 = .ok (.aload_n 0, 1) := by decide +kernel
theorem dX5_insert_66 : decode cX5_insert 66 = .ok (.getfield 19, 3) := by decide +kernel
theorem dX5_insert_69 : decode cX5_insert 69 = .ok (.aload_n 0, 1) := by decide +kernel
theorem dX5_insert_70 : decode cX5_insert 70 = .ok (.getfield 10, 3) := by decide +kernel
theorem dX5_insert_73 : decode cX5_insert 73 = .ok (.invokevirtual 58, 3) := by decide +kernel
theorem dX5_insert_76 : decode cX5_insert 76 = .ok (.aload_n 0, 1) := by decide +kernel
theorem dX5_insert_77 : decode cX5_insert 77 = .ok (.getfield 10, 3) := by decide +kernel
theorem dX5_insert_80 : decode cX5_insert 80 = .ok (.getfield 37, 3) := by decide +kernel
theorem dX5_insert_83 : decode cX5_insert 83 = .ok (.iload_n 1, 1) := by decide +kernel
theorem dX5_insert_84 : decode cX5_insert 84 = .ok (.iload_n 2, 1) := by decide +kernel
theorem dX5_insert_85 : decode cX5_insert 85 = .ok (.iload_n 3, 1) := by decide +kernel
theorem dX5_insert_86 : decode cX5_insert 86 = .ok (.iload 4, 2) := by decide +kernel
theorem dX5_insert_88 : decode cX5_insert 88 = .ok (.iload 5, 2) := by decide +kernel
theorem dX5_insert_90 : decode cX5_insert 90 = .ok (.invokevirtual 62, 3) := by decide +kernel
theorem dX5_insert_93 : decode cX5_insert 93 = .ok (.aload 6, 2) := by decide +kernel
theorem dX5_insert_95 : decode cX5_insert 95 = .ok (.iconst 0, 1) := by decide +kernel
theorem dX5_insert_96 : decode cX5_insert 96 = .ok (.iaload, 1) := by decide +kernel
theorem dX5_insert_97 : decode cX5_insert 97 = .ok (.ireturn, 1) := by decide +kernel
theorem dX5_remove_0 : decode cX5_remove 0 = .ok (.aload_n 0, 1) := by decide +kernel
theorem dX5_remove_1 : decode cX5_remove 1 = .ok (.getfield 10, 3) := by decide +kernel
theorem dX5_remove_4 : decode cX5_remove 4 = .ok (.getfield 37, 3) := by decide +kernel
theorem dX5_remove_7 : decode cX5_remove 7 = .ok (.iload_n 1, 1) := by decide +kernel
theorem dX5_remove_8 : decode cX5_remove 8 = .ok (.invokevirtual 66, 3) := by decide +kernel
theorem dX5_remove_11 : decode cX5_remove 11 = .ok (.ifCond .ne 6, 3) := by decide +kernel
theorem dX5_remove_14 : decode cX5_remove 14 = .ok (.ldc 51, 2) := by decide +kernel
theorem dX5_remove_16 : decode cX5_remove 16 = .ok (.ireturn, 1) := by decide +kernel
theorem dX5_remove_17 : decode cX5_remove 17 = .ok (.aload_n 0, 1) := by decide +kernel
theorem dX5_remove_18 : decode cX5_remove 18 = .ok (.invokevirtual 52, 3) := by decide +kernel
theorem dX5_remove_21 : decode cX5_remove 21 = .ok (.ifCond .eq 6, 3) := by decide +kernel
theorem dX5_remove_24 : decode cX5_remove 24 = .ok (.ldc 56, 2) := by decide +kernel
theorem dX5_remove_26 : decode cX5_remove 26 = .ok (.ireturn, 1) := by decide +kernel
theorem dX5_remove_27 : decode cX5_remove 27 = .ok (.aload_n 0, 1) := by decide +kernel
theorem dX5_remove_28 : decode cX5_remove 28 = .ok (.getfield 19, 3) := by decide +kernel
theorem dX5_remove_31 : decode cX5_remove 31 = .ok (.aload_n 0, 1) := by decide +kernel
theorem dX5_remove_32 : decode cX5_remove 32 = .ok (.getfield 10, 3) := by decide +kernel
theorem dX5_remove_35 : decode cX5_remove 35 = .ok (.invokevirtual 58, 3) := by decide +kernel
theorem dX5_remove_38 : decode cX5_remove 38 = .ok (.aload_n 0, 1) := by decide +kernel
theorem dX5_remove_39 : decode cX5_remove 39 = .ok (.getfield 10, 3) := by decide +kernel
theorem dX5_remove_42 : decode cX5_remove 42 = .ok (.getfield 37, 3) := by decide +kernel
theorem dX5_remove_45 : decode cX5_remove 45 = .ok (.iload_n 1, 1) := by decide +kernel
theorem dX5_remove_46 : decode cX5_remove 46 = .ok (.invokevirtual 70, 3) := by decide +kernel
theorem dX5_remove_49 : decode cX5_remove 49 = .ok (.aload_n 0, 1) := by decide +kernel
theorem dX5_remove_50 : decode cX5_remove 50 = .ok (.getfield 10, 3) := by decide +kernel
theorem dX5_remove_53 : decode cX5_remove 53 = .ok (.getfield 37, 3) := by decide +kernel
theorem dX5_remove_56 : decode cX5_remove 56 = .ok (.getfield 41, 3) := by decide +kernel
theorem dX5_remove_59 : decode cX5_remove 59 = .ok (.iconst 0, 1) := by decide +kernel
theorem dX5_remove_60 : decode cX5_remove 60 = .ok (.iaload, 1) := by decide +kernel
theorem dX5_remove_61 : decode cX5_remove 61 = .ok (.ireturn, 1) := by decide +kernel
theorem dX5_change_0 : decode cX5_change 0 = .ok (.aload_n 0, 1) := by decide +kernel
theorem dX5_change_1 : decode cX5_change 1 = .ok (.getfield 10, 3) := by decide +kernel
theorem dX5_change_4 : decode cX5_change 4 = .ok (.getfield 37, 3) := by decide +kernel
theorem dX5_change_7 : decode cX5_change 7 = .ok (.iload_n 1, 1) := by decide +kernel
theorem dX5_change_8 : decode cX5_change 8 = .ok (.invokevirtual 66, 3) := by decide +kernel
theorem dX5_change_11 : decode cX5_change 11 = .ok (.ifCond .eq 22, 3) := by decide +kernel
theorem dX5_change_14 : decode cX5_change 14 = .ok (.iload_n 2, 1) := by decide +kernel
theorem dX5_change_15 : decode cX5_change 15 = .ok (.ifCond .lt 18, 3) := by decide +kernel
theorem dX5_change_18 : decode cX5_change 18 = .ok (.iload_n 2, 1) := by decide +kernel
theorem dX5_change_19 : decode cX5_change 19 = .ok (.iconst 3, 1) := by decide +kernel
theorem dX5_change_20 : decode cX5_change 20 = .ok (.if_icmp .gt 13, 3) := by decide +kernel
theorem dX5_change_23 : decode cX5_change 23 = .ok (.aload_n 0, 1) := by decide +kernel
theorem dX5_change_24 : decode cX5_change 24 = .ok (.iload_n 1, 1) := by decide +kernel
theorem dX5_change_25 : decode cX5_change 25 = .ok (.iload_n 2, 1) := by decide +kernel
theorem dX5_change_26 : decode cX5_change 26 = .ok (.iload_n 3, 1) := by decide +kernel
theorem dX5_change_27 : decode cX5_change 27 = .ok (.invokevirtual 74, 3) := by decide +kernel
theorem dX5_change_30 : decode cX5_change 30 = .ok (.ifCond .ne 6, 3) := by decide +kernel
theorem dX5_change_33 : decode cX5_change 33 = .ok (.ldc 51, 2) := by decide +kernel
theorem dX5_change_35 : decode cX5_change 35 = .ok (.ireturn, 1) := by decide +kernel
theorem dX5_change_36 : decode cX5_change 36 = .ok (.aload_n 0, 1) := by decide +kernel
theorem dX5_change_37 : decode cX5_change 37 = .ok (.invokevirtual 52, 3) := by decide +kernel
theorem dX5_change_40 : decode cX5_change 40 = .ok (.ifCond .eq 6, 3) := by decide +kernel
theorem dX5_change_43 : decode cX5_change 43 = .ok (.ldc 56, 2) := by decide +kernel
theorem dX5_change_45 : decode cX5_change 45 = .ok (.ireturn, 1) := by decide +kernel
theorem dX5_change_46 : decode cX5_change 46 = .ok (.aload_n 0, 1) := by decide +kernel
theorem dX5_change_47 : decode cX5_change 47 = .ok (.getfield 19, 3) := by decide +kernel
theorem dX5_change_50 : decode cX5_change 50 = .ok (.aload_n 0, 1) := by decide +kernel
theorem dX5_change_51 : decode cX5_change 51 = .ok (.getfield 10, 3) := by decide +kernel
theorem dX5_change_54 : decode cX5_change 54 = .ok (.invokevirtual 58, 3) := by decide +kernel
theorem dX5_change_57 : decode cX5_change 57 = .ok (.aload_n 0, 1) := by decide +kernel
theorem dX5_change_58 : decode cX5_change 58 = .ok (.getfield 10, 3) := by decide +kernel
theorem dX5_change_61 : decode cX5_change 61 = .ok (.getfield 37, 3) := by decide +kernel
theorem dX5_change_64 : decode cX5_change 64 = .ok (.getfield 78, 3) := by decide +kernel
theorem dX5_change_67 : decode cX5_change 67 = .ok (.iload_n 2, 1) := by decide +kernel
theorem dX5_change_68 : decode cX5_change 68 = .ok (.aaload, 1) := by decide +kernel
theorem dX5_change_69 : decode cX5_change 69 = .ok (.iload_n 1, 1) := by decide +kernel
theorem dX5_change_70 : decode cX5_change 70 = .ok (.iaload, 1) := by decide +kernel
theorem dX5_change_71 : decode cX5_change 71 = .ok (.istore 4, 2) := by decide +kernel
theorem dX5_change_73 : decode cX5_change 73 = .ok (.aload_n 0, 1) := by decide +kernel
theorem dX5_change_74 : decode cX5_change 74 = .ok (.getfield 10, 3) := by decide +kernel
theorem dX5_change_77 : decode cX5_change 77 = .ok (.getfield 37, 3) := by decide +kernel
theorem dX5_change_80 : decode cX5_change 80 = .ok (.getfield 78, 3) := by decide +kernel
theorem dX5_change_83 : decode cX5_change 83 = .ok (.iload_n 2, 1) := by decide +kernel
theorem dX5_change_84 : decode cX5_change 84 = .ok (.aaload, 1) := by decide +kernel
theorem dX5_change_85 : decode cX5_change 85 = .ok (.iload_n 1, 1) := by decide +kernel
theorem dX5_change_86 : decode cX5_change 86 = .ok (.iload_n 3, 1) := by decide +kernel
theorem dX5_change_87 : decode cX5_change 87 = .ok (.iastore, 1) := by decide +kernel
theorem dX5_change_88 : decode cX5_change 88 = .ok (.iload 4, 2) := by decide +kernel
theorem dX5_change_90 : decode cX5_change 90 = .ok (.ireturn, 1) := by decide +kernel
theorem dX5_isSet_0 : decode cX5_isSet 0 = .ok (.aload_n 0, 1) := by decide +kernel
theorem dX5_isSet_1 : decode cX5_isSet 1 = .ok (.getfield 10, 3) := by decide +kernel
theorem dX5_isSet_4 : decode cX5_isSet 4 = .ok (.getfield 37, 3) := by decide +kernel
theorem dX5_isSet_7 : decode cX5_isSet 7 = .ok (.getfield 41, 3) := by decide +kernel
theorem dX5_isSet_10 : decode cX5_isSet 10 = .ok (.iconst 4, 1) := by decide +kernel
theorem dX5_isSet_11 : decode cX5_isSet 11 = .ok (.iaload, 1) := by decide +kernel
theorem dX5_isSet_12 : decode cX5_isSet 12 = .ok (.ifCond .le 7, 3) := by decide +kernel
theorem dX5_isSet_15 : decode cX5_isSet 15 = .ok (.iconst 1, 1) := by decide +kernel
theorem dX5_isSet_16 : decode cX5_isSet 16 = .ok (.goto 4, 3) := by decide +kernel
theorem dX5_isSet_19 : decode cX5_isSet 19 = .ok (.iconst 0, 1) := by decide +kernel
theorem dX5_isSet_20 : decode cX5_isSet 20 = .ok (.ireturn, 1) := by decide +kernel
theorem dX5_isScene_0 : decode cX5_isScene 0 = .ok (.iconst 0, 1) := by decide +kernel
theorem dX5_isScene_1 : decode cX5_isScene 1 = .ok (.iload_n 0, 1) := by decide +kernel
theorem dX5_isScene_2 : decode cX5_isScene 2 = .ok (.invokestatic 82, 3) := by decide +kernel
theorem dX5_isScene_5 : decode cX5_isScene 5 = .ok (.ifCond .eq 36, 3) := by decide +kernel
theorem dX5_isScene_8 : decode cX5_isScene 8 = .ok (.iconst 1, 1) := by decide +kernel
theorem dX5_isScene_9 : decode cX5_isScene 9 = .ok (.iload_n 1, 1) := by decide +kernel
theorem dX5_isScene_10 : decode cX5_isScene 10 = .ok (.invokestatic 82, 3) := by decide +kernel
theorem dX5_isScene_13 : decode cX5_isScene 13 = .ok (.ifCond .eq 28, 3) := by decide +kernel
theorem dX5_isScene_16 : decode cX5_isScene 16 = .ok (.iconst 2, 1) := by decide +kernel
theorem dX5_isScene_17 : decode cX5_isScene 17 = .ok (.iload_n 2, 1) := by decide +kernel
theorem dX5_isScene_18 : decode cX5_isScene 18 = .ok (.invokestatic 82, 3) := by decide +kernel
theorem dX5_isScene_21 : decode cX5_isScene 21 = .ok (.ifCond .eq 20, 3) := by decide +kernel
theorem dX5_isScene_24 : decode cX5_isScene 24 = .ok (.iconst 3, 1) := by decide +kernel
theorem dX5_isScene_25 : decode cX5_isScene 25 = .ok (.iload_n 3, 1) := by decide +kernel
theorem dX5_isScene_26 : decode cX5_isScene 26 = .ok (.invokestatic 82, 3) := by decide +kernel
theorem dX5_isScene_29 : decode cX5_isScene 29 = .ok (.ifCond .eq 12, 3) := by decide +kernel
theorem dX5_isScene_32 : decode cX5_isScene 32 = .ok (.iload_n 1, 1) := by decide +kernel
theorem dX5_isScene_33 : decode cX5_isScene 33 = .ok (.iload_n 0, 1) := by decide +kernel
theorem dX5_isScene_34 : decode cX5_isScene 34 = .ok (.if_icmp .ge 7, 3) := by decide +kernel
theorem dX5_isScene_37 : decode cX5_isScene 37 = .ok (.iconst 1, 1) := by decide +kernel
theorem dX5_isScene_38 : decode cX5_isScene 38 = .ok (.goto 4, 3) := by decide +kernel
theorem dX5_isScene_41 : decode cX5_isScene 41 = .ok (.iconst 0, 1) := by decide +kernel
theorem dX5_isScene_42 : decode cX5_isScene 42 = .ok (.ireturn, 1) := by decide +kernel
theorem dX5_isOfScene_0 : decode cX5_isOfScene 0 = .ok (.iload_n 1, 1) := by decide +kernel
theorem dX5_isOfScene_1 : decode cX5_isOfScene 1 = .ok (.getstatic 86, 3) := by decide +kernel
theorem dX5_isOfScene_4 : decode cX5_isOfScene 4 = .ok (.iload_n 0, 1) := by decide +kernel
theorem dX5_isOfScene_5 : decode cX5_isOfScene 5 = .ok (.iaload, 1) := by decide +kernel
theorem dX5_isOfScene_6 : decode cX5_isOfScene 6 = .ok (.if_icmp .lt 16, 3) := by decide +kernel
theorem dX5_isOfScene_9 : decode cX5_isOfScene 9 = .ok (.iload_n 1, 1) := by decide +kernel
theorem dX5_isOfScene_10 : decode cX5_isOfScene 10 = .ok (.getstatic 89, 3) := by decide +kernel
theorem dX5_isOfScene_13 : decode cX5_isOfScene 13 = .ok (.iload_n 0, 1) := by decide +kernel
theorem dX5_isOfScene_14 : decode cX5_isOfScene 14 = .ok (.iaload, 1) := by decide +kernel
theorem dX5_isOfScene_15 : decode cX5_isOfScene 15 = .ok (.if_icmp .gt 7, 3) := by decide +kernel
theorem dX5_isOfScene_18 : decode cX5_isOfScene 18 = .ok (.iconst 1, 1) := by decide +kernel
theorem dX5_isOfScene_19 : decode cX5_isOfScene 19 = .ok (.goto 4, 3) := by decide +kernel
theorem dX5_isOfScene_22 : decode cX5_isOfScene 22 = .ok (.iconst 0, 1) := by decide +kernel
theorem dX5_isOfScene_23 : decode cX5_isOfScene 23 = .ok (.ireturn, 1) := by decide +kernel
theorem dX5_fits_0 : decode cX5_fits 0 = .ok (.iload_n 2, 1) := by decide +kernel
theorem dX5_fits_1 : decode cX5_fits 1 = .ok (.ifCond .ne 23, 3) := by decide +kernel
theorem dX5_fits_4 : decode cX5_fits 4 = .ok (.iload_n 3, 1) := by decide +kernel
theorem dX5_fits_5 : decode cX5_fits 5 = .ok (.aload_n 0, 1) := by decide +kernel
theorem dX5_fits_6 : decode cX5_fits 6 = .ok (.getfield 10, 3) := by decide +kernel
theorem dX5_fits_9 : decode cX5_fits 9 = .ok (.getfield 37, 3) := by decide +kernel
theorem dX5_fits_12 : decode cX5_fits 12 = .ok (.getfield 78, 3) := by decide +kernel
theorem dX5_fits_15 : decode cX5_fits 15 = .ok (.iconst 1, 1) := by decide +kernel
theorem dX5_fits_16 : decode cX5_fits 16 = .ok (.aaload, 1) := by decide +kernel
theorem dX5_fits_17 : decode cX5_fits 17 = .ok (.iload_n 1, 1) := by decide +kernel
theorem dX5_fits_18 : decode cX5_fits 18 = .ok (.iaload, 1) := by decide +kernel
theorem dX5_fits_19 : decode cX5_fits 19 = .ok (.if_icmp .gt 5, 3) := by decide +kernel
theorem dX5_fits_22 : decode cX5_fits 22 = .ok (.iconst 0, 1) := by decide +kernel
theorem dX5_fits_23 : decode cX5_fits 23 = .ok (.ireturn, 1) := by decide +kernel
theorem dX5_fits_24 : decode cX5_fits 24 = .ok (.iload_n 2, 1) := by decide +kernel
theorem dX5_fits_25 : decode cX5_fits 25 = .ok (.iconst 1, 1) := by decide +kernel
theorem dX5_fits_26 : decode cX5_fits 26 = .ok (.if_icmp .ne 23, 3) := by decide +kernel
theorem dX5_fits_29 : decode cX5_fits 29 = .ok (.iload_n 3, 1) := by decide +kernel
theorem dX5_fits_30 : decode cX5_fits 30 = .ok (.aload_n 0, 1) := by decide +kernel
theorem dX5_fits_31 : decode cX5_fits 31 = .ok (.getfield 10, 3) := by decide +kernel
theorem dX5_fits_34 : decode cX5_fits 34 = .ok (.getfield 37, 3) := by decide +kernel
theorem dX5_fits_37 : decode cX5_fits 37 = .ok (.getfield 78, 3) := by decide +kernel
theorem dX5_fits_40 : decode cX5_fits 40 = .ok (.iconst 0, 1) := by decide +kernel
theorem dX5_fits_41 : decode cX5_fits 41 = .ok (.aaload, 1) := by decide +kernel
theorem dX5_fits_42 : decode cX5_fits 42 = .ok (.iload_n 1, 1) := by decide +kernel
theorem dX5_fits_43 : decode cX5_fits 43 = .ok (.iaload, 1) := by decide +kernel
theorem dX5_fits_44 : decode cX5_fits 44 = .ok (.if_icmp .lt 5, 3) := by decide +kernel
theorem dX5_fits_47 : decode cX5_fits 47 = .ok (.iconst 0, 1) := by decide +kernel
theorem dX5_fits_48 : decode cX5_fits 48 = .ok (.ireturn, 1) := by decide +kernel
theorem dX5_fits_49 : decode cX5_fits 49 = .ok (.iload_n 2, 1) := by decide +kernel
theorem dX5_fits_50 : decode cX5_fits 50 = .ok (.iload_n 3, 1) := by decide +kernel
theorem dX5_fits_51 : decode cX5_fits 51 = .ok (.invokestatic 82, 3) := by decide +kernel
theorem dX5_fits_54 : decode cX5_fits 54 = .ok (.ireturn, 1) := by decide +kernel
theorem dX5_setWeek_0 : decode cX5_setWeek 0 = .ok (.iload_n 1, 1) := by decide +kernel
theorem dX5_setWeek_1 : decode cX5_setWeek 1 = .ok (.aload_n 0, 1) := by decide +kernel
theorem dX5_setWeek_2 : decode cX5_setWeek 2 = .ok (.getfield 10, 3) := by decide +kernel
theorem dX5_setWeek_5 : decode cX5_setWeek 5 = .ok (.getfield 37, 3) := by decide +kernel
theorem dX5_setWeek_8 : decode cX5_setWeek 8 = .ok (.getfield 41, 3) := by decide +kernel
theorem dX5_setWeek_11 : decode cX5_setWeek 11 = .ok (.iconst 2, 1) := by decide +kernel
theorem dX5_setWeek_12 : decode cX5_setWeek 12 = .ok (.iaload, 1) := by decide +kernel
theorem dX5_setWeek_13 : decode cX5_setWeek 13 = .ok (.if_icmp .lt 30, 3) := by decide +kernel
theorem dX5_setWeek_16 : decode cX5_setWeek 16 = .ok (.iload_n 1, 1) := by decide +kernel
theorem dX5_setWeek_17 : decode cX5_setWeek 17 = .ok (.bipush 30, 2) := by decide +kernel
theorem dX5_setWeek_19 : decode cX5_setWeek 19 = .ok (.if_icmp .ge 24, 3) := by decide +kernel
theorem dX5_setWeek_22 : decode cX5_setWeek 22 = .ok (.iload_n 2, 1) := by decide +kernel
theorem dX5_setWeek_23 : decode cX5_setWeek 23 = .ok (.iconst 1, 1) := by decide +kernel
theorem dX5_setWeek_24 : decode cX5_setWeek 24 = .ok (.if_icmp .lt 19, 3) := by decide +kernel
theorem dX5_setWeek_27 : decode cX5_setWeek 27 = .ok (.iload_n 2, 1) := by decide +kernel
theorem dX5_setWeek_28 : decode cX5_setWeek 28 = .ok (.iconst 4, 1) := by decide +kernel
theorem dX5_setWeek_29 : decode cX5_setWeek 29 = .ok (.if_icmp .gt 14, 3) := by decide +kernel
theorem dX5_setWeek_32 : decode cX5_setWeek 32 = .ok (.iload_n 3, 1) := by decide +kernel
theorem dX5_setWeek_33 : decode cX5_setWeek 33 = .ok (.ifCond .lt 10, 3) := by decide +kernel
theorem dX5_setWeek_36 : decode cX5_setWeek 36 = .ok (.iload_n 3, 1) := by decide +kernel
theorem dX5_setWeek_37 : decode cX5_setWeek 37 = .ok (.sipush 999, 3) := by decide +kernel
theorem dX5_setWeek_40 : decode cX5_setWeek 40 = .ok (.if_icmp .le 6, 3) := by decide +kernel
theorem dX5_setWeek_43 : decode cX5_setWeek 43 = .ok (.ldc 51, 2) := by decide +kernel
theorem dX5_setWeek_45 : decode cX5_setWeek 45 = .ok (.ireturn, 1) := by decide +kernel
theorem dX5_setWeek_46 : decode cX5_setWeek 46 = .ok (.aload_n 0, 1) := by decide +kernel
theorem dX5_setWeek_47 : decode cX5_setWeek 47 = .ok (.getfield 19, 3) := by decide +kernel
theorem dX5_setWeek_50 : decode cX5_setWeek 50 = .ok (.aload_n 0, 1) := by decide +kernel
theorem dX5_setWeek_51 : decode cX5_setWeek 51 = .ok (.getfield 10, 3) := by decide +kernel
theorem dX5_setWeek_54 : decode cX5_setWeek 54 = .ok (.invokevirtual 58, 3) := by decide +kernel
theorem dX5_setWeek_57 : decode cX5_setWeek 57 = .ok (.aload_n 0, 1) := by decide +kernel
theorem dX5_setWeek_58 : decode cX5_setWeek 58 = .ok (.getfield 10, 3) := by decide +kernel
theorem dX5_setWeek_61 : decode cX5_setWeek 61 = .ok (.getfield 37, 3) := by decide +kernel
theorem dX5_setWeek_64 : decode cX5_setWeek 64 = .ok (.getfield 92, 3) := by decide +kernel
theorem dX5_setWeek_67 : decode cX5_setWeek 67 = .ok (.iconst 0, 1) := by decide +kernel
theorem dX5_setWeek_68 : decode cX5_setWeek 68 = .ok (.aaload, 1) := by decide +kernel
theorem dX5_setWeek_69 : decode cX5_setWeek 69 = .ok (.iload_n 1, 1) := by decide +kernel
theorem dX5_setWeek_70 : decode cX5_setWeek 70 = .ok (.iload_n 2, 1) := by decide +kernel
theorem dX5_setWeek_71 : decode cX5_setWeek 71 = .ok (.iastore, 1) := by decide +kernel
theorem dX5_setWeek_72 : decode cX5_setWeek 72 = .ok (.aload_n 0, 1) := by decide +kernel
theorem dX5_setWeek_73 : decode cX5_setWeek 73 = .ok (.getfield 10, 3) := by decide +kernel
theorem dX5_setWeek_76 : decode cX5_setWeek 76 = .ok (.getfield 37, 3) := by decide +kernel
theorem dX5_setWeek_79 : decode cX5_setWeek 79 = .ok (.getfield 92, 3) := by decide +kernel
theorem dX5_setWeek_82 : decode cX5_setWeek 82 = .ok (.iconst 1, 1) := by decide +kernel
theorem dX5_setWeek_83 : decode cX5_setWeek 83 = .ok (.aaload, 1) := by decide +kernel
theorem dX5_setWeek_84 : decode cX5_setWeek 84 = .ok (.iload_n 1, 1) := by decide +kernel
theorem dX5_setWeek_85 : decode cX5_setWeek 85 = .ok (.iload_n 3, 1) := by decide +kernel
theorem dX5_setWeek_86 : decode cX5_setWeek 86 = .ok (.iastore, 1) := by decide +kernel
theorem dX5_setWeek_87 : decode cX5_setWeek 87 = .ok (.aload_n 0, 1) := by decide +kernel
theorem dX5_setWeek_88 : decode cX5_setWeek 88 = .ok (.getfield 10, 3) := by decide +kernel
theorem dX5_setWeek_91 : decode cX5_setWeek 91 = .ok (.getfield 37, 3) := by decide +kernel
theorem dX5_setWeek_94 : decode cX5_setWeek 94 = .ok (.iload_n 1, 1) := by decide +kernel
theorem dX5_setWeek_95 : decode cX5_setWeek 95 = .ok (.invokevirtual 95, 3) := by decide +kernel
theorem dX5_setWeek_98 : decode cX5_setWeek 98 = .ok (.ireturn, 1) := by decide +kernel
theorem dX5_setNumber_0 : decode cX5_setNumber 0 = .ok (.iload_n 1, 1) := by decide +kernel
theorem dX5_setNumber_1 : decode cX5_setNumber 1 = .ok (.ifCond .lt 29, 3) := by decide +kernel
theorem dX5_setNumber_4 : decode cX5_setNumber 4 = .ok (.iload_n 1, 1) := by decide +kernel
theorem dX5_setNumber_5 : decode cX5_setNumber 5 = .ok (.getstatic 99, 3) := by decide +kernel
theorem dX5_setNumber_8 : decode cX5_setNumber 8 = .ok (.arraylength, 1) := by decide +kernel
theorem dX5_setNumber_9 : decode cX5_setNumber 9 = .ok (.if_icmp .ge 21, 3) := by decide +kernel
theorem dX5_setNumber_12 : decode cX5_setNumber 12 = .ok (.iload_n 2, 1) := by decide +kernel
theorem dX5_setNumber_13 : decode cX5_setNumber 13 = .ok (.getstatic 99, 3) := by decide +kernel
theorem dX5_setNumber_16 : decode cX5_setNumber 16 = .ok (.iload_n 1, 1) := by decide +kernel
theorem dX5_setNumber_17 : decode cX5_setNumber 17 = .ok (.iaload, 1) := by decide +kernel
theorem dX5_setNumber_18 : decode cX5_setNumber 18 = .ok (.if_icmp .lt 12, 3) := by decide +kernel
theorem dX5_setNumber_21 : decode cX5_setNumber 21 = .ok (.iload_n 2, 1) := by decide +kernel
theorem dX5_setNumber_22 : decode cX5_setNumber 22 = .ok (.getstatic 102, 3) := by decide +kernel
theorem dX5_setNumber_25 : decode cX5_setNumber 25 = .ok (.iload_n 1, 1) := by decide +kernel
theorem dX5_setNumber_26 : decode cX5_setNumber 26 = .ok (.iaload, 1) := by decide +kernel
theorem dX5_setNumber_27 : decode cX5_setNumber 27 = .ok (.if_icmp .le 6, 3) := by decide +kernel
theorem dX5_setNumber_30 : decode cX5_setNumber 30 = .ok (.ldc 51, 2) := by decide +kernel
theorem dX5_setNumber_32 : decode cX5_setNumber 32 = .ok (.ireturn, 1) := by decide +kernel
theorem dX5_setNumber_33 : decode cX5_setNumber 33 = .ok (.aload_n 0, 1) := by decide +kernel
theorem dX5_setNumber_34 : decode cX5_setNumber 34 = .ok (.getfield 19, 3) := by decide +kernel
theorem dX5_setNumber_37 : decode cX5_setNumber 37 = .ok (.aload_n 0, 1) := by decide +kernel
theorem dX5_setNumber_38 : decode cX5_setNumber 38 = .ok (.getfield 10, 3) := by decide +kernel
theorem dX5_setNumber_41 : decode cX5_setNumber 41 = .ok (.invokevirtual 58, 3) := by decide +kernel
theorem dX5_setNumber_44 : decode cX5_setNumber 44 = .ok (.aload_n 0, 1) := by decide +kernel
theorem dX5_setNumber_45 : decode cX5_setNumber 45 = .ok (.getfield 10, 3) := by decide +kernel
theorem dX5_setNumber_48 : decode cX5_setNumber 48 = .ok (.getfield 37, 3) := by decide +kernel
theorem dX5_setNumber_51 : decode cX5_setNumber 51 = .ok (.getfield 41, 3) := by decide +kernel
theorem dX5_setNumber_54 : decode cX5_setNumber 54 = .ok (.iconst 5, 1) := by decide +kernel
theorem dX5_setNumber_55 : decode cX5_setNumber 55 = .ok (.iload_n 1, 1) := by decide +kernel
theorem dX5_setNumber_56 : decode cX5_setNumber 56 = .ok (.iadd, 1) := by decide +kernel
theorem dX5_setNumber_57 : decode cX5_setNumber 57 = .ok (.iaload, 1) := by decide +kernel
theorem dX5_setNumber_58 : decode cX5_setNumber 58 = .ok (.istore_n 3, 1) := by decide +kernel
theorem dX5_setNumber_59 : decode cX5_setNumber 59 = .ok (.aload_n 0, 1) := by decide +kernel
theorem dX5_setNumber_60 : decode cX5_setNumber 60 = .ok (.getfield 10, 3) := by decide +kernel
theorem dX5_setNumber_63 : decode cX5_setNumber 63 = .ok (.getfield 37, 3) := by decide +kernel
theorem dX5_setNumber_66 : decode cX5_setNumber 66 = .ok (.getfield 41, 3) := by decide +kernel
theorem dX5_setNumber_69 : decode cX5_setNumber 69 = .ok (.iconst 5, 1) := by decide +kernel
theorem dX5_setNumber_70 : decode cX5_setNumber 70 = .ok (.iload_n 1, 1) := by decide +kernel
theorem dX5_setNumber_71 : decode cX5_setNumber 71 = .ok (.iadd, 1) := by decide +kernel
theorem dX5_setNumber_72 : decode cX5_setNumber 72 = .ok (.iload_n 2, 1) := by decide +kernel
theorem dX5_setNumber_73 : decode cX5_setNumber 73 = .ok (.iastore, 1) := by decide +kernel
theorem dX5_setNumber_74 : decode cX5_setNumber 74 = .ok (.iload_n 3, 1) := by decide +kernel
theorem dX5_setNumber_75 : decode cX5_setNumber 75 = .ok (.ireturn, 1) := by decide +kernel
theorem dX5_ask_0 : decode cX5_ask 0 = .ok (.iload_n 1, 1) := by decide +kernel
theorem dX5_ask_1 : decode cX5_ask 1 = .ok (.ifCond .lt 10, 3) := by decide +kernel
theorem dX5_ask_4 : decode cX5_ask 4 = .ok (.iload_n 1, 1) := by decide +kernel
theorem dX5_ask_5 : decode cX5_ask 5 = .ok (.sipush 999, 3) := by decide +kernel
theorem dX5_ask_8 : decode cX5_ask 8 = .ok (.if_icmp .le 6, 3) := by decide +kernel
theorem dX5_ask_11 : decode cX5_ask 11 = .ok (.ldc 51, 2) := by decide +kernel
theorem dX5_ask_13 : decode cX5_ask 13 = .ok (.ireturn, 1) := by decide +kernel
theorem dX5_ask_14 : decode cX5_ask 14 = .ok (.aload_n 0, 1) := by decide +kernel
theorem dX5_ask_15 : decode cX5_ask 15 = .ok (.getfield 19, 3) := by decide +kernel
theorem dX5_ask_18 : decode cX5_ask 18 = .ok (.aload_n 0, 1) := by decide +kernel
theorem dX5_ask_19 : decode cX5_ask 19 = .ok (.getfield 10, 3) := by decide +kernel
theorem dX5_ask_22 : decode cX5_ask 22 = .ok (.invokevirtual 58, 3) := by decide +kernel
theorem dX5_ask_25 : decode cX5_ask 25 = .ok (.aload_n 0, 1) := by decide +kernel
theorem dX5_ask_26 : decode cX5_ask 26 = .ok (.getfield 10, 3) := by decide +kernel
theorem dX5_ask_29 : decode cX5_ask 29 = .ok (.getfield 37, 3) := by decide +kernel
theorem dX5_ask_32 : decode cX5_ask 32 = .ok (.getfield 41, 3) := by decide +kernel
theorem dX5_ask_35 : decode cX5_ask 35 = .ok (.iconst 3, 1) := by decide +kernel
theorem dX5_ask_36 : decode cX5_ask 36 = .ok (.iaload, 1) := by decide +kernel
theorem dX5_ask_37 : decode cX5_ask 37 = .ok (.istore_n 2, 1) := by decide +kernel
theorem dX5_ask_38 : decode cX5_ask 38 = .ok (.aload_n 0, 1) := by decide +kernel
theorem dX5_ask_39 : decode cX5_ask 39 = .ok (.getfield 10, 3) := by decide +kernel
theorem dX5_ask_42 : decode cX5_ask 42 = .ok (.getfield 37, 3) := by decide +kernel
theorem dX5_ask_45 : decode cX5_ask 45 = .ok (.getfield 41, 3) := by decide +kernel
theorem dX5_ask_48 : decode cX5_ask 48 = .ok (.iconst 3, 1) := by decide +kernel
theorem dX5_ask_49 : decode cX5_ask 49 = .ok (.iload_n 1, 1) := by decide +kernel
theorem dX5_ask_50 : decode cX5_ask 50 = .ok (.iastore, 1) := by decide +kernel
theorem dX5_ask_51 : decode cX5_ask 51 = .ok (.aload_n 0, 1) := by decide +kernel
theorem dX5_ask_52 : decode cX5_ask 52 = .ok (.invokevirtual 52, 3) := by decide +kernel
theorem dX5_ask_55 : decode cX5_ask 55 = .ok (.ifCond .eq 20, 3) := by decide +kernel
theorem dX5_ask_58 : decode cX5_ask 58 = .ok (.aload_n 0, 1) := by decide +kernel
theorem dX5_ask_59 : decode cX5_ask 59 = .ok (.getfield 10, 3) := by decide +kernel
theorem dX5_ask_62 : decode cX5_ask 62 = .ok (.getfield 37, 3) := by decide +kernel
theorem dX5_ask_65 : decode cX5_ask 65 = .ok (.getfield 41, 3) := by decide +kernel
theorem dX5_ask_68 : decode cX5_ask 68 = .ok (.bipush 14, 2) := by decide +kernel
theorem dX5_ask_70 : decode cX5_ask 70 = .ok (.dup2, 1) := by decide +kernel
theorem dX5_ask_71 : decode cX5_ask 71 = .ok (.iaload, 1) := by decide +kernel
theorem dX5_ask_72 : decode cX5_ask 72 = .ok (.iconst 1, 1) := by decide +kernel
theorem dX5_ask_73 : decode cX5_ask 73 = .ok (.iadd, 1) := by decide +kernel
theorem dX5_ask_74 : decode cX5_ask 74 = .ok (.iastore, 1) := by decide +kernel
theorem dX5_ask_75 : decode cX5_ask 75 = .ok (.iload_n 2, 1) := by decide +kernel
theorem dX5_ask_76 : decode cX5_ask 76 = .ok (.ireturn, 1) := by decide +kernel
theorem dX5_set_0 : decode cX5_set 0 = .ok (.iload_n 1, 1) := by decide +kernel
theorem dX5_set_1 : decode cX5_set 1 = .ok (.iconst 1, 1) := by decide +kernel
theorem dX5_set_2 : decode cX5_set 2 = .ok (.if_icmp .lt 17, 3) := by decide +kernel
theorem dX5_set_5 : decode cX5_set 5 = .ok (.iload_n 1, 1) := by decide +kernel
theorem dX5_set_6 : decode cX5_set 6 = .ok (.aload_n 0, 1) := by decide +kernel
theorem dX5_set_7 : decode cX5_set 7 = .ok (.getfield 10, 3) := by decide +kernel
theorem dX5_set_10 : decode cX5_set 10 = .ok (.getfield 37, 3) := by decide +kernel
theorem dX5_set_13 : decode cX5_set 13 = .ok (.invokevirtual 105, 3) := by decide +kernel
theorem dX5_set_16 : decode cX5_set 16 = .ok (.if_icmp .le 6, 3) := by decide +kernel
theorem dX5_set_19 : decode cX5_set 19 = .ok (.ldc 51, 2) := by decide +kernel
theorem dX5_set_21 : decode cX5_set 21 = .ok (.ireturn, 1) := by decide +kernel
theorem dX5_set_22 : decode cX5_set 22 = .ok (.aload_n 0, 1) := by decide +kernel
theorem dX5_set_23 : decode cX5_set 23 = .ok (.invokevirtual 52, 3) := by decide +kernel
theorem dX5_set_26 : decode cX5_set 26 = .ok (.ifCond .ne 17, 3) := by decide +kernel
theorem dX5_set_29 : decode cX5_set 29 = .ok (.aload_n 0, 1) := by decide +kernel
theorem dX5_set_30 : decode cX5_set 30 = .ok (.getfield 10, 3) := by decide +kernel
theorem dX5_set_33 : decode cX5_set 33 = .ok (.getfield 37, 3) := by decide +kernel
theorem dX5_set_36 : decode cX5_set 36 = .ok (.iload_n 1, 1) := by decide +kernel
theorem dX5_set_37 : decode cX5_set 37 = .ok (.invokevirtual 109, 3) := by decide +kernel
theorem dX5_set_40 : decode cX5_set 40 = .ok (.ifCond .ne 6, 3) := by decide +kernel
theorem dX5_set_43 : decode cX5_set 43 = .ok (.ldc 56, 2) := by decide +kernel
theorem dX5_set_45 : decode cX5_set 45 = .ok (.ireturn, 1) := by decide +kernel
theorem dX5_set_46 : decode cX5_set 46 = .ok (.aload_n 0, 1) := by decide +kernel
theorem dX5_set_47 : decode cX5_set 47 = .ok (.getfield 19, 3) := by decide +kernel
theorem dX5_set_50 : decode cX5_set 50 = .ok (.aload_n 0, 1) := by decide +kernel
theorem dX5_set_51 : decode cX5_set 51 = .ok (.getfield 10, 3) := by decide +kernel
theorem dX5_set_54 : decode cX5_set 54 = .ok (.invokevirtual 58, 3) := by decide +kernel
theorem dX5_set_57 : decode cX5_set 57 = .ok (.aload_n 0, 1) := by decide +kernel
theorem dX5_set_58 : decode cX5_set 58 = .ok (.getfield 10, 3) := by decide +kernel
theorem dX5_set_61 : decode cX5_set 61 = .ok (.getfield 37, 3) := by decide +kernel
theorem dX5_set_64 : decode cX5_set 64 = .ok (.getfield 41, 3) := by decide +kernel
theorem dX5_set_67 : decode cX5_set 67 = .ok (.iconst 4, 1) := by decide +kernel
theorem dX5_set_68 : decode cX5_set 68 = .ok (.iload_n 1, 1) := by decide +kernel
theorem dX5_set_69 : decode cX5_set 69 = .ok (.iastore, 1) := by decide +kernel
theorem dX5_set_70 : decode cX5_set 70 = .ok (.aload_n 0, 1) := by decide +kernel
theorem dX5_set_71 : decode cX5_set 71 = .ok (.getfield 10, 3) := by decide +kernel
theorem dX5_set_74 : decode cX5_set 74 = .ok (.getfield 37, 3) := by decide +kernel
theorem dX5_set_77 : decode cX5_set 77 = .ok (.iload_n 1, 1) := by decide +kernel
theorem dX5_set_78 : decode cX5_set 78 = .ok (.invokevirtual 112, 3) := by decide +kernel
theorem dX5_set_81 : decode cX5_set 81 = .ok (.ireturn, 1) := by decide +kernel
theorem dX5_unset_0 : decode cX5_unset 0 = .ok (.aload_n 0, 1) := by decide +kernel
theorem dX5_unset_1 : decode cX5_unset 1 = .ok (.invokevirtual 52, 3) := by decide +kernel
theorem dX5_unset_4 : decode cX5_unset 4 = .ok (.ifCond .ne 6, 3) := by decide +kernel
theorem dX5_unset_7 : decode cX5_unset 7 = .ok (.ldc 56, 2) := by decide +kernel
theorem dX5_unset_9 : decode cX5_unset 9 = .ok (.ireturn, 1) := by decide +kernel
theorem dX5_unset_10 : decode cX5_unset 10 = .ok (.aload_n 0, 1) := by decide +kernel
theorem dX5_unset_11 : decode cX5_unset 11 = .ok (.getfield 19, 3) := by decide +kernel
theorem dX5_unset_14 : decode cX5_unset 14 = .ok (.aload_n 0, 1) := by decide +kernel
theorem dX5_unset_15 : decode cX5_unset 15 = .ok (.getfield 10, 3) := by decide +kernel
theorem dX5_unset_18 : decode cX5_unset 18 = .ok (.invokevirtual 58, 3) := by decide +kernel
theorem dX5_unset_21 : decode cX5_unset 21 = .ok (.aload_n 0, 1) := by decide +kernel
theorem dX5_unset_22 : decode cX5_unset 22 = .ok (.getfield 10, 3) := by decide +kernel
theorem dX5_unset_25 : decode cX5_unset 25 = .ok (.getfield 37, 3) := by decide +kernel
theorem dX5_unset_28 : decode cX5_unset 28 = .ok (.getfield 41, 3) := by decide +kernel
theorem dX5_unset_31 : decode cX5_unset 31 = .ok (.iconst 4, 1) := by decide +kernel
theorem dX5_unset_32 : decode cX5_unset 32 = .ok (.iaload, 1) := by decide +kernel
theorem dX5_unset_33 : decode cX5_unset 33 = .ok (.istore_n 1, 1) := by decide +kernel
theorem dX5_unset_34 : decode cX5_unset 34 = .ok (.aload_n 0, 1) := by decide +kernel
theorem dX5_unset_35 : decode cX5_unset 35 = .ok (.getfield 10, 3) := by decide +kernel
theorem dX5_unset_38 : decode cX5_unset 38 = .ok (.getfield 37, 3) := by decide +kernel
theorem dX5_unset_41 : decode cX5_unset 41 = .ok (.getfield 41, 3) := by decide +kernel
theorem dX5_unset_44 : decode cX5_unset 44 = .ok (.iconst 4, 1) := by decide +kernel
theorem dX5_unset_45 : decode cX5_unset 45 = .ok (.iconst 0, 1) := by decide +kernel
theorem dX5_unset_46 : decode cX5_unset 46 = .ok (.iastore, 1) := by decide +kernel
theorem dX5_unset_47 : decode cX5_unset 47 = .ok (.iload_n 1, 1) := by decide +kernel
theorem dX5_unset_48 : decode cX5_unset 48 = .ok (.ireturn, 1) := by decide +kernel
theorem dX5_mend_0 : decode cX5_mend 0 = .ok (.aload_n 0, 1) := by decide +kernel
theorem dX5_mend_1 : decode cX5_mend 1 = .ok (.invokevirtual 52, 3) := by decide +kernel
theorem dX5_mend_4 : decode cX5_mend 4 = .ok (.ifCond .eq 28, 3) := by decide +kernel
theorem dX5_mend_7 : decode cX5_mend 7 = .ok (.aload_n 0, 1) := by decide +kernel
theorem dX5_mend_8 : decode cX5_mend 8 = .ok (.getfield 10, 3) := by decide +kernel
theorem dX5_mend_11 : decode cX5_mend 11 = .ok (.getfield 37, 3) := by decide +kernel
theorem dX5_mend_14 : decode cX5_mend 14 = .ok (.aload_n 0, 1) := by decide +kernel
theorem dX5_mend_15 : decode cX5_mend 15 = .ok (.getfield 10, 3) := by decide +kernel
theorem dX5_mend_18 : decode cX5_mend 18 = .ok (.getfield 37, 3) := by decide +kernel
theorem dX5_mend_21 : decode cX5_mend 21 = .ok (.getfield 41, 3) := by decide +kernel
theorem dX5_mend_24 : decode cX5_mend 24 = .ok (.iconst 4, 1) := by decide +kernel
theorem dX5_mend_25 : decode cX5_mend 25 = .ok (.iaload, 1) := by decide +kernel
theorem dX5_mend_26 : decode cX5_mend 26 = .ok (.invokevirtual 109, 3) := by decide +kernel
theorem dX5_mend_29 : decode cX5_mend 29 = .ok (.ifCond .eq 6, 3) := by decide +kernel
theorem dX5_mend_32 : decode cX5_mend 32 = .ok (.ldc 56, 2) := by decide +kernel
theorem dX5_mend_34 : decode cX5_mend 34 = .ok (.ireturn, 1) := by decide +kernel
theorem dX5_mend_35 : decode cX5_mend 35 = .ok (.aload_n 0, 1) := by decide +kernel
theorem dX5_mend_36 : decode cX5_mend 36 = .ok (.aload_n 0, 1) := by decide +kernel
theorem dX5_mend_37 : decode cX5_mend 37 = .ok (.getfield 10, 3) := by decide +kernel
theorem dX5_mend_40 : decode cX5_mend 40 = .ok (.getfield 37, 3) := by decide +kernel
theorem dX5_mend_43 : decode cX5_mend 43 = .ok (.getfield 41, 3) := by decide +kernel
theorem dX5_mend_46 : decode cX5_mend 46 = .ok (.iconst 4, 1) := by decide +kernel
theorem dX5_mend_47 : decode cX5_mend 47 = .ok (.iaload, 1) := by decide +kernel
theorem dX5_mend_48 : decode cX5_mend 48 = .ok (.invokevirtual 115, 3) := by decide +kernel
theorem dX5_mend_51 : decode cX5_mend 51 = .ok (.istore_n 1, 1) := by decide +kernel
theorem dX5_mend_52 : decode cX5_mend 52 = .ok (.iload_n 1, 1) := by decide +kernel
theorem dX5_mend_53 : decode cX5_mend 53 = .ok (.ifCond .ne 6, 3) := by decide +kernel
theorem dX5_mend_56 : decode cX5_mend 56 = .ok (.ldc 56, 2) := by decide +kernel
theorem dX5_mend_58 : decode cX5_mend 58 = .ok (.ireturn, 1) := by decide +kernel
theorem dX5_mend_59 : decode cX5_mend 59 = .ok (.aload_n 0, 1) := by decide +kernel
theorem dX5_mend_60 : decode cX5_mend 60 = .ok (.getfield 19, 3) := by decide +kernel
theorem dX5_mend_63 : decode cX5_mend 63 = .ok (.aload_n 0, 1) := by decide +kernel
theorem dX5_mend_64 : decode cX5_mend 64 = .ok (.getfield 10, 3) := by decide +kernel
theorem dX5_mend_67 : decode cX5_mend 67 = .ok (.invokevirtual 58, 3) := by decide +kernel
theorem dX5_mend_70 : decode cX5_mend 70 = .ok (.aload_n 0, 1) := by decide +kernel
theorem dX5_mend_71 : decode cX5_mend 71 = .ok (.getfield 10, 3) := by decide +kernel
theorem dX5_mend_74 : decode cX5_mend 74 = .ok (.getfield 37, 3) := by decide +kernel
theorem dX5_mend_77 : decode cX5_mend 77 = .ok (.getfield 41, 3) := by decide +kernel
theorem dX5_mend_80 : decode cX5_mend 80 = .ok (.iconst 4, 1) := by decide +kernel
theorem dX5_mend_81 : decode cX5_mend 81 = .ok (.iload_n 1, 1) := by decide +kernel
theorem dX5_mend_82 : decode cX5_mend 82 = .ok (.iastore, 1) := by decide +kernel
theorem dX5_mend_83 : decode cX5_mend 83 = .ok (.iload_n 1, 1) := by decide +kernel
theorem dX5_mend_84 : decode cX5_mend 84 = .ok (.ireturn, 1) := by decide +kernel
theorem dX5_nearestGood_0 : decode cX5_nearestGood 0 = .ok (.iconst 1, 1) := by decide +kernel
theorem dX5_nearestGood_1 : decode cX5_nearestGood 1 = .ok (.istore_n 2, 1) := by decide +kernel
theorem dX5_nearestGood_2 : decode cX5_nearestGood 2 = .ok (.iload_n 2, 1) := by decide +kernel
theorem dX5_nearestGood_3 : decode cX5_nearestGood 3 = .ok (.bipush 20, 2) := by decide +kernel
theorem dX5_nearestGood_5 : decode cX5_nearestGood 5 = .ok (.if_icmp .gt 49, 3) := by decide +kernel
theorem dX5_nearestGood_8 : decode cX5_nearestGood 8 = .ok (.aload_n 0, 1) := by decide +kernel
theorem dX5_nearestGood_9 : decode cX5_nearestGood 9 = .ok (.getfield 10, 3) := by decide +kernel
theorem dX5_nearestGood_12 : decode cX5_nearestGood 12 = .ok (.getfield 37, 3) := by decide +kernel
theorem dX5_nearestGood_15 : decode cX5_nearestGood 15 = .ok (.iload_n 1, 1) := by decide +kernel
theorem dX5_nearestGood_16 : decode cX5_nearestGood 16 = .ok (.iload_n 2, 1) := by decide +kernel
theorem dX5_nearestGood_17 : decode cX5_nearestGood 17 = .ok (.isub, 1) := by decide +kernel
theorem dX5_nearestGood_18 : decode cX5_nearestGood 18 = .ok (.invokevirtual 109, 3) := by decide +kernel
theorem dX5_nearestGood_21 : decode cX5_nearestGood 21 = .ok (.ifCond .eq 7, 3) := by decide +kernel
theorem dX5_nearestGood_24 : decode cX5_nearestGood 24 = .ok (.iload_n 1, 1) := by decide +kernel
theorem dX5_nearestGood_25 : decode cX5_nearestGood 25 = .ok (.iload_n 2, 1) := by decide +kernel
theorem dX5_nearestGood_26 : decode cX5_nearestGood 26 = .ok (.isub, 1) := by decide +kernel
theorem dX5_nearestGood_27 : decode cX5_nearestGood 27 = .ok (.ireturn, 1) := by decide +kernel
theorem dX5_nearestGood_28 : decode cX5_nearestGood 28 = .ok (.aload_n 0, 1) := by decide +kernel
theorem dX5_nearestGood_29 : decode cX5_nearestGood 29 = .ok (.getfield 10, 3) := by decide +kernel
theorem dX5_nearestGood_32 : decode cX5_nearestGood 32 = .ok (.getfield 37, 3) := by decide +kernel
theorem dX5_nearestGood_35 : decode cX5_nearestGood 35 = .ok (.iload_n 1, 1) := by decide +kernel
theorem dX5_nearestGood_36 : decode cX5_nearestGood 36 = .ok (.iload_n 2, 1) := by decide +kernel
theorem dX5_nearestGood_37 : decode cX5_nearestGood 37 = .ok (.iadd, 1) := by decide +kernel
theorem dX5_nearestGood_38 : decode cX5_nearestGood 38 = .ok (.invokevirtual 109, 3) := by decide +kernel
theorem dX5_nearestGood_41 : decode cX5_nearestGood 41 = .ok (.ifCond .eq 7, 3) := by decide +kernel
theorem dX5_nearestGood_44 : decode cX5_nearestGood 44 = .ok (.iload_n 1, 1) := by decide +kernel
theorem dX5_nearestGood_45 : decode cX5_nearestGood 45 = .ok (.iload_n 2, 1) := by decide +kernel
theorem dX5_nearestGood_46 : decode cX5_nearestGood 46 = .ok (.iadd, 1) := by decide +kernel
theorem dX5_nearestGood_47 : decode cX5_nearestGood 47 = .ok (.ireturn, 1) := by decide +kernel
theorem dX5_nearestGood_48 : decode cX5_nearestGood 48 = .ok (.iinc 2 1, 3) := by decide +kernel
theorem dX5_nearestGood_51 : decode cX5_nearestGood 51 = .ok (.goto (-49), 3) := by decide +kernel
theorem dX5_nearestGood_54 : decode cX5_nearestGood 54 = .ok (.iconst 0, 1) := by decide +kernel
theorem dX5_nearestGood_55 : decode cX5_nearestGood 55 = .ok (.ireturn, 1) := by decide +kernel
theorem dX5_print_0 : decode cX5_print 0 = .ok (.aload_n 0, 1) := by decide +kernel
theorem dX5_print_1 : decode cX5_print 1 = .ok (.invokevirtual 52, 3) := by decide +kernel
theorem dX5_print_4 : decode cX5_print 4 = .ok (.ifCond .eq 28, 3) := by decide +kernel
theorem dX5_print_7 : decode cX5_print 7 = .ok (.aload_n 0, 1) := by decide +kernel
theorem dX5_print_8 : decode cX5_print 8 = .ok (.getfield 10, 3) := by decide +kernel
theorem dX5_print_11 : decode cX5_print 11 = .ok (.getfield 37, 3) := by decide +kernel
theorem dX5_print_14 : decode cX5_print 14 = .ok (.aload_n 0, 1) := by decide +kernel
theorem dX5_print_15 : decode cX5_print 15 = .ok (.getfield 10, 3) := by decide +kernel
theorem dX5_print_18 : decode cX5_print 18 = .ok (.getfield 37, 3) := by decide +kernel
theorem dX5_print_21 : decode cX5_print 21 = .ok (.getfield 41, 3) := by decide +kernel
theorem dX5_print_24 : decode cX5_print 24 = .ok (.iconst 4, 1) := by decide +kernel
theorem dX5_print_25 : decode cX5_print 25 = .ok (.iaload, 1) := by decide +kernel
theorem dX5_print_26 : decode cX5_print 26 = .ok (.invokevirtual 109, 3) := by decide +kernel
theorem dX5_print_29 : decode cX5_print 29 = .ok (.ifCond .ne 6, 3) := by decide +kernel
theorem dX5_print_32 : decode cX5_print 32 = .ok (.ldc 56, 2) := by decide +kernel
theorem dX5_print_34 : decode cX5_print 34 = .ok (.ireturn, 1) := by decide +kernel
theorem dX5_print_35 : decode cX5_print 35 = .ok (.aload_n 0, 1) := by decide +kernel
theorem dX5_print_36 : decode cX5_print 36 = .ok (.getfield 19, 3) := by decide +kernel
theorem dX5_print_39 : decode cX5_print 39 = .ok (.aload_n 0, 1) := by decide +kernel
theorem dX5_print_40 : decode cX5_print 40 = .ok (.getfield 10, 3) := by decide +kernel
theorem dX5_print_43 : decode cX5_print 43 = .ok (.invokevirtual 58, 3) := by decide +kernel
theorem dX5_print_46 : decode cX5_print 46 = .ok (.aload_n 0, 1) := by decide +kernel
theorem dX5_print_47 : decode cX5_print 47 = .ok (.getfield 10, 3) := by decide +kernel
theorem dX5_print_50 : decode cX5_print 50 = .ok (.getfield 37, 3) := by decide +kernel
theorem dX5_print_53 : decode cX5_print 53 = .ok (.aload_n 0, 1) := by decide +kernel
theorem dX5_print_54 : decode cX5_print 54 = .ok (.getfield 10, 3) := by decide +kernel
theorem dX5_print_57 : decode cX5_print 57 = .ok (.getfield 37, 3) := by decide +kernel
theorem dX5_print_60 : decode cX5_print 60 = .ok (.getfield 41, 3) := by decide +kernel
theorem dX5_print_63 : decode cX5_print 63 = .ok (.iconst 4, 1) := by decide +kernel
theorem dX5_print_64 : decode cX5_print 64 = .ok (.iaload, 1) := by decide +kernel
theorem dX5_print_65 : decode cX5_print 65 = .ok (.invokevirtual 118, 3) := by decide +kernel
theorem dX5_print_68 : decode cX5_print 68 = .ok (.ireturn, 1) := by decide +kernel
theorem dX5_skip_0 : decode cX5_skip 0 = .ok (.aload_n 0, 1) := by decide +kernel
theorem dX5_skip_1 : decode cX5_skip 1 = .ok (.invokevirtual 52, 3) := by decide +kernel
theorem dX5_skip_4 : decode cX5_skip 4 = .ok (.ifCond .ne 20, 3) := by decide +kernel
theorem dX5_skip_7 : decode cX5_skip 7 = .ok (.aload_n 0, 1) := by decide +kernel
theorem dX5_skip_8 : decode cX5_skip 8 = .ok (.getfield 10, 3) := by decide +kernel
theorem dX5_skip_11 : decode cX5_skip 11 = .ok (.getfield 37, 3) := by decide +kernel
theorem dX5_skip_14 : decode cX5_skip 14 = .ok (.getfield 41, 3) := by decide +kernel
theorem dX5_skip_17 : decode cX5_skip 17 = .ok (.iconst 2, 1) := by decide +kernel
theorem dX5_skip_18 : decode cX5_skip 18 = .ok (.iaload, 1) := by decide +kernel
theorem dX5_skip_19 : decode cX5_skip 19 = .ok (.bipush 30, 2) := by decide +kernel
theorem dX5_skip_21 : decode cX5_skip 21 = .ok (.if_icmp .lt 6, 3) := by decide +kernel
theorem dX5_skip_24 : decode cX5_skip 24 = .ok (.ldc 56, 2) := by decide +kernel
theorem dX5_skip_26 : decode cX5_skip 26 = .ok (.ireturn, 1) := by decide +kernel
theorem dX5_skip_27 : decode cX5_skip 27 = .ok (.aload_n 0, 1) := by decide +kernel
theorem dX5_skip_28 : decode cX5_skip 28 = .ok (.getfield 19, 3) := by decide +kernel
theorem dX5_skip_31 : decode cX5_skip 31 = .ok (.aload_n 0, 1) := by decide +kernel
theorem dX5_skip_32 : decode cX5_skip 32 = .ok (.getfield 10, 3) := by decide +kernel
theorem dX5_skip_35 : decode cX5_skip 35 = .ok (.invokevirtual 58, 3) := by decide +kernel
theorem dX5_skip_38 : decode cX5_skip 38 = .ok (.aload_n 0, 1) := by decide +kernel
theorem dX5_skip_39 : decode cX5_skip 39 = .ok (.getfield 10, 3) := by decide +kernel
theorem dX5_skip_42 : decode cX5_skip 42 = .ok (.getfield 37, 3) := by decide +kernel
theorem dX5_skip_45 : decode cX5_skip 45 = .ok (.getfield 41, 3) := by decide +kernel
theorem dX5_skip_48 : decode cX5_skip 48 = .ok (.bipush 13, 2) := by decide +kernel
theorem dX5_skip_50 : decode cX5_skip 50 = .ok (.dup2, 1) := by decide +kernel
theorem dX5_skip_51 : decode cX5_skip 51 = .ok (.iaload, 1) := by decide +kernel
theorem dX5_skip_52 : decode cX5_skip 52 = .ok (.iconst 1, 1) := by decide +kernel
theorem dX5_skip_53 : decode cX5_skip 53 = .ok (.iadd, 1) := by decide +kernel
theorem dX5_skip_54 : decode cX5_skip 54 = .ok (.iastore, 1) := by decide +kernel
theorem dX5_skip_55 : decode cX5_skip 55 = .ok (.aload_n 0, 1) := by decide +kernel
theorem dX5_skip_56 : decode cX5_skip 56 = .ok (.getfield 10, 3) := by decide +kernel
theorem dX5_skip_59 : decode cX5_skip 59 = .ok (.getfield 37, 3) := by decide +kernel
theorem dX5_skip_62 : decode cX5_skip 62 = .ok (.iconst 0, 1) := by decide +kernel
theorem dX5_skip_63 : decode cX5_skip 63 = .ok (.iconst 0, 1) := by decide +kernel
theorem dX5_skip_64 : decode cX5_skip 64 = .ok (.invokevirtual 121, 3) := by decide +kernel
theorem dX5_skip_67 : decode cX5_skip 67 = .ok (.aload_n 0, 1) := by decide +kernel
theorem dX5_skip_68 : decode cX5_skip 68 = .ok (.getfield 10, 3) := by decide +kernel
theorem dX5_skip_71 : decode cX5_skip 71 = .ok (.getfield 37, 3) := by decide +kernel
theorem dX5_skip_74 : decode cX5_skip 74 = .ok (.getfield 41, 3) := by decide +kernel
theorem dX5_skip_77 : decode cX5_skip 77 = .ok (.bipush 9, 2) := by decide +kernel
theorem dX5_skip_79 : decode cX5_skip 79 = .ok (.iaload, 1) := by decide +kernel
theorem dX5_skip_80 : decode cX5_skip 80 = .ok (.ireturn, 1) := by decide +kernel
theorem dX5_take_0 : decode cX5_take 0 = .ok (.iload_n 1, 1) := by decide +kernel
theorem dX5_take_1 : decode cX5_take 1 = .ok (.ifCond .lt 8, 3) := by decide +kernel
theorem dX5_take_4 : decode cX5_take 4 = .ok (.iload_n 1, 1) := by decide +kernel
theorem dX5_take_5 : decode cX5_take 5 = .ok (.iconst 2, 1) := by decide +kernel
theorem dX5_take_6 : decode cX5_take 6 = .ok (.if_icmp .lt 6, 3) := by decide +kernel
theorem dX5_take_9 : decode cX5_take 9 = .ok (.ldc 51, 2) := by decide +kernel
theorem dX5_take_11 : decode cX5_take 11 = .ok (.ireturn, 1) := by decide +kernel
theorem dX5_take_12 : decode cX5_take 12 = .ok (.aload_n 0, 1) := by decide +kernel
theorem dX5_take_13 : decode cX5_take 13 = .ok (.getfield 19, 3) := by decide +kernel
theorem dX5_take_16 : decode cX5_take 16 = .ok (.aload_n 0, 1) := by decide +kernel
theorem dX5_take_17 : decode cX5_take 17 = .ok (.getfield 10, 3) := by decide +kernel
theorem dX5_take_20 : decode cX5_take 20 = .ok (.invokevirtual 58, 3) := by decide +kernel
theorem dX5_take_23 : decode cX5_take 23 = .ok (.aload_n 0, 1) := by decide +kernel
theorem dX5_take_24 : decode cX5_take 24 = .ok (.getfield 10, 3) := by decide +kernel
theorem dX5_take_27 : decode cX5_take 27 = .ok (.getfield 125, 3) := by decide +kernel
theorem dX5_take_30 : decode cX5_take 30 = .ok (.iload_n 1, 1) := by decide +kernel
theorem dX5_take_31 : decode cX5_take 31 = .ok (.aaload, 1) := by decide +kernel
theorem dX5_take_32 : decode cX5_take 32 = .ok (.aload_n 0, 1) := by decide +kernel
theorem dX5_take_33 : decode cX5_take 33 = .ok (.getfield 10, 3) := by decide +kernel
theorem dX5_take_36 : decode cX5_take 36 = .ok (.getfield 37, 3) := by decide +kernel
theorem dX5_take_39 : decode cX5_take 39 = .ok (.invokevirtual 129, 3) := by decide +kernel
theorem dX5_take_42 : decode cX5_take 42 = .ok (.aload_n 0, 1) := by decide +kernel
theorem dX5_take_43 : decode cX5_take 43 = .ok (.getfield 10, 3) := by decide +kernel
theorem dX5_take_46 : decode cX5_take 46 = .ok (.getfield 133, 3) := by decide +kernel
theorem dX5_take_49 : decode cX5_take 49 = .ok (.iload_n 1, 1) := by decide +kernel
theorem dX5_take_50 : decode cX5_take 50 = .ok (.iconst 1, 1) := by decide +kernel
theorem dX5_take_51 : decode cX5_take 51 = .ok (.bastore, 1) := by decide +kernel
theorem dX5_take_52 : decode cX5_take 52 = .ok (.aload_n 0, 1) := by decide +kernel
theorem dX5_take_53 : decode cX5_take 53 = .ok (.getfield 10, 3) := by decide +kernel
theorem dX5_take_56 : decode cX5_take 56 = .ok (.getfield 37, 3) := by decide +kernel
theorem dX5_take_59 : decode cX5_take 59 = .ok (.invokevirtual 105, 3) := by decide +kernel
theorem dX5_take_62 : decode cX5_take 62 = .ok (.ireturn, 1) := by decide +kernel
theorem dX5_restore_0 : decode cX5_restore 0 = .ok (.iload_n 1, 1) := by decide +kernel
theorem dX5_restore_1 : decode cX5_restore 1 = .ok (.ifCond .lt 8, 3) := by decide +kernel
theorem dX5_restore_4 : decode cX5_restore 4 = .ok (.iload_n 1, 1) := by decide +kernel
theorem dX5_restore_5 : decode cX5_restore 5 = .ok (.iconst 2, 1) := by decide +kernel
theorem dX5_restore_6 : decode cX5_restore 6 = .ok (.if_icmp .lt 6, 3) := by decide +kernel
theorem dX5_restore_9 : decode cX5_restore 9 = .ok (.ldc 51, 2) := by decide +kernel
theorem dX5_restore_11 : decode cX5_restore 11 = .ok (.ireturn, 1) := by decide +kernel
theorem dX5_restore_12 : decode cX5_restore 12 = .ok (.aload_n 0, 1) := by decide +kernel
theorem dX5_restore_13 : decode cX5_restore 13 = .ok (.getfield 10, 3) := by decide +kernel
theorem dX5_restore_16 : decode cX5_restore 16 = .ok (.getfield 133, 3) := by decide +kernel
theorem dX5_restore_19 : decode cX5_restore 19 = .ok (.iload_n 1, 1) := by decide +kernel
theorem dX5_restore_20 : decode cX5_restore 20 = .ok (.baload, 1) := by decide +kernel
theorem dX5_restore_21 : decode cX5_restore 21 = .ok (.ifCond .ne 6, 3) := by decide +kernel
theorem dX5_restore_24 : decode cX5_restore 24 = .ok (.ldc 56, 2) := by decide +kernel
theorem dX5_restore_26 : decode cX5_restore 26 = .ok (.ireturn, 1) := by decide +kernel
theorem dX5_restore_27 : decode cX5_restore 27 = .ok (.aload_n 0, 1) := by decide +kernel
theorem dX5_restore_28 : decode cX5_restore 28 = .ok (.getfield 19, 3) := by decide +kernel
theorem dX5_restore_31 : decode cX5_restore 31 = .ok (.aload_n 0, 1) := by decide +kernel
theorem dX5_restore_32 : decode cX5_restore 32 = .ok (.getfield 10, 3) := by decide +kernel
theorem dX5_restore_35 : decode cX5_restore 35 = .ok (.invokevirtual 58, 3) := by decide +kernel
theorem dX5_restore_38 : decode cX5_restore 38 = .ok (.aload_n 0, 1) := by decide +kernel
theorem dX5_restore_39 : decode cX5_restore 39 = .ok (.getfield 10, 3) := by decide +kernel
theorem dX5_restore_42 : decode cX5_restore 42 = .ok (.getfield 37, 3) := by decide +kernel
theorem dX5_restore_45 : decode cX5_restore 45 = .ok (.aload_n 0, 1) := by decide +kernel
theorem dX5_restore_46 : decode cX5_restore 46 = .ok (.getfield 10, 3) := by decide +kernel
theorem dX5_restore_49 : decode cX5_restore 49 = .ok (.getfield 125, 3) := by decide +kernel
theorem dX5_restore_52 : decode cX5_restore 52 = .ok (.iload_n 1, 1) := by decide +kernel
theorem dX5_restore_53 : decode cX5_restore 53 = .ok (.aaload, 1) := by decide +kernel
theorem dX5_restore_54 : decode cX5_restore 54 = .ok (.invokevirtual 129, 3) := by decide +kernel
theorem dX5_restore_57 : decode cX5_restore 57 = .ok (.aload_n 0, 1) := by decide +kernel
theorem dX5_restore_58 : decode cX5_restore 58 = .ok (.getfield 10, 3) := by decide +kernel
theorem dX5_restore_61 : decode cX5_restore 61 = .ok (.getfield 37, 3) := by decide +kernel
theorem dX5_restore_64 : decode cX5_restore 64 = .ok (.invokevirtual 105, 3) := by decide +kernel
theorem dX5_restore_67 : decode cX5_restore 67 = .ok (.ireturn, 1) := by decide +kernel
theorem dX5_undo_0 : decode cX5_undo 0 = .ok (.aload_n 0, 1) := by decide +kernel
theorem dX5_undo_1 : decode cX5_undo 1 = .ok (.getfield 19, 3) := by decide +kernel
theorem dX5_undo_4 : decode cX5_undo 4 = .ok (.getfield 137, 3) := by decide +kernel
theorem dX5_undo_7 : decode cX5_undo 7 = .ok (.ifCond .ne 6, 3) := by decide +kernel
theorem dX5_undo_10 : decode cX5_undo 10 = .ok (.ldc 56, 2) := by decide +kernel
theorem dX5_undo_12 : decode cX5_undo 12 = .ok (.ireturn, 1) := by decide +kernel
theorem dX5_undo_13 : decode cX5_undo 13 = .ok (.aload_n 0, 1) := by decide +kernel
theorem dX5_undo_14 : decode cX5_undo 14 = .ok (.getfield 19, 3) := by decide +kernel
theorem dX5_undo_17 : decode cX5_undo 17 = .ok (.aload_n 0, 1) := by decide +kernel
theorem dX5_undo_18 : decode cX5_undo 18 = .ok (.getfield 10, 3) := by decide +kernel
theorem dX5_undo_21 : decode cX5_undo 21 = .ok (.invokevirtual 141, 3) := by decide +kernel
theorem dX5_undo_24 : decode cX5_undo 24 = .ok (.aload_n 0, 1) := by decide +kernel
theorem dX5_undo_25 : decode cX5_undo 25 = .ok (.getfield 19, 3) := by decide +kernel
theorem dX5_undo_28 : decode cX5_undo 28 = .ok (.getfield 137, 3) := by decide +kernel
theorem dX5_undo_31 : decode cX5_undo 31 = .ok (.ireturn, 1) := by decide +kernel
theorem dX5_count_0 : decode cX5_count 0 = .ok (.iload_n 1, 1) := by decide +kernel
theorem dX5_count_1 : decode cX5_count 1 = .ok (.ifCond .lt 22, 3) := by decide +kernel
theorem dX5_count_4 : decode cX5_count 4 = .ok (.iload_n 1, 1) := by decide +kernel
theorem dX5_count_5 : decode cX5_count 5 = .ok (.bipush 17, 2) := by decide +kernel
theorem dX5_count_7 : decode cX5_count 7 = .ok (.if_icmp .ge 16, 3) := by decide +kernel
theorem dX5_count_10 : decode cX5_count 10 = .ok (.aload_n 0, 1) := by decide +kernel
theorem dX5_count_11 : decode cX5_count 11 = .ok (.getfield 10, 3) := by decide +kernel
theorem dX5_count_14 : decode cX5_count 14 = .ok (.getfield 37, 3) := by decide +kernel
theorem dX5_count_17 : decode cX5_count 17 = .ok (.getfield 41, 3) := by decide +kernel
theorem dX5_count_20 : decode cX5_count 20 = .ok (.iload_n 1, 1) := by decide +kernel
theorem dX5_count_21 : decode cX5_count 21 = .ok (.iaload, 1) := by decide +kernel
theorem dX5_count_22 : decode cX5_count 22 = .ok (.ireturn, 1) := by decide +kernel
theorem dX5_count_23 : decode cX5_count 23 = .ok (.iload_n 1, 1) := by decide +kernel
theorem dX5_count_24 : decode cX5_count 24 = .ok (.tableswitch 79 17 20 #[32, 55, 63, 71], 32) := by decide +kernel
theorem dX5_count_56 : decode cX5_count 56 = .ok (.aload_n 0, 1) := by decide +kernel
theorem dX5_count_57 : decode cX5_count 57 = .ok (.getfield 10, 3) := by decide +kernel
theorem dX5_count_60 : decode cX5_count 60 = .ok (.getfield 37, 3) := by decide +kernel
theorem dX5_count_63 : decode cX5_count 63 = .ok (.aload_n 0, 1) := by decide +kernel
theorem dX5_count_64 : decode cX5_count 64 = .ok (.getfield 10, 3) := by decide +kernel
theorem dX5_count_67 : decode cX5_count 67 = .ok (.getfield 37, 3) := by decide +kernel
theorem dX5_count_70 : decode cX5_count 70 = .ok (.getfield 41, 3) := by decide +kernel
theorem dX5_count_73 : decode cX5_count 73 = .ok (.iconst 1, 1) := by decide +kernel
theorem dX5_count_74 : decode cX5_count 74 = .ok (.iaload, 1) := by decide +kernel
theorem dX5_count_75 : decode cX5_count 75 = .ok (.invokevirtual 161, 3) := by decide +kernel
theorem dX5_count_78 : decode cX5_count 78 = .ok (.ireturn, 1) := by decide +kernel
theorem dX5_count_79 : decode cX5_count 79 = .ok (.aload_n 0, 1) := by decide +kernel
theorem dX5_count_80 : decode cX5_count 80 = .ok (.getfield 10, 3) := by decide +kernel
theorem dX5_count_83 : decode cX5_count 83 = .ok (.invokevirtual 164, 3) := by decide +kernel
theorem dX5_count_86 : decode cX5_count 86 = .ok (.ireturn, 1) := by decide +kernel
theorem dX5_count_87 : decode cX5_count 87 = .ok (.aload_n 0, 1) := by decide +kernel
theorem dX5_count_88 : decode cX5_count 88 = .ok (.getfield 19, 3) := by decide +kernel
theorem dX5_count_91 : decode cX5_count 91 = .ok (.getfield 137, 3) := by decide +kernel
theorem dX5_count_94 : decode cX5_count 94 = .ok (.ireturn, 1) := by decide +kernel
theorem dX5_count_95 : decode cX5_count 95 = .ok (.aload_n 0, 1) := by decide +kernel
theorem dX5_count_96 : decode cX5_count 96 = .ok (.getfield 26, 3) := by decide +kernel
theorem dX5_count_99 : decode cX5_count 99 = .ok (.getfield 144, 3) := by decide +kernel
theorem dX5_count_102 : decode cX5_count 102 = .ok (.ireturn, 1) := by decide +kernel
theorem dX5_count_103 : decode cX5_count 103 = .ok (.ldc 51, 2) := by decide +kernel
theorem dX5_count_105 : decode cX5_count 105 = .ok (.ireturn, 1) := by decide +kernel
theorem dX5_scene_0 : decode cX5_scene 0 = .ok (.aload_n 0, 1) := by decide +kernel
theorem dX5_scene_1 : decode cX5_scene 1 = .ok (.getfield 10, 3) := by decide +kernel
theorem dX5_scene_4 : decode cX5_scene 4 = .ok (.getfield 37, 3) := by decide +kernel
theorem dX5_scene_7 : decode cX5_scene 7 = .ok (.astore_n 3, 1) := by decide +kernel
theorem dX5_scene_8 : decode cX5_scene 8 = .ok (.iload_n 1, 1) := by decide +kernel
theorem dX5_scene_9 : decode cX5_scene 9 = .ok (.ifCond .lt 23, 3) := by decide +kernel
theorem dX5_scene_12 : decode cX5_scene 12 = .ok (.iload_n 1, 1) := by decide +kernel
theorem dX5_scene_13 : decode cX5_scene 13 = .ok (.aload_n 3, 1) := by decide +kernel
theorem dX5_scene_14 : decode cX5_scene 14 = .ok (.getfield 41, 3) := by decide +kernel
theorem dX5_scene_17 : decode cX5_scene 17 = .ok (.iconst 0, 1) := by decide +kernel
theorem dX5_scene_18 : decode cX5_scene 18 = .ok (.iaload, 1) := by decide +kernel
theorem dX5_scene_19 : decode cX5_scene 19 = .ok (.if_icmp .ge 13, 3) := by decide +kernel
theorem dX5_scene_22 : decode cX5_scene 22 = .ok (.iload_n 2, 1) := by decide +kernel
theorem dX5_scene_23 : decode cX5_scene 23 = .ok (.ifCond .lt 9, 3) := by decide +kernel
theorem dX5_scene_26 : decode cX5_scene 26 = .ok (.iload_n 2, 1) := by decide +kernel
theorem dX5_scene_27 : decode cX5_scene 27 = .ok (.bipush 6, 2) := by decide +kernel
theorem dX5_scene_29 : decode cX5_scene 29 = .ok (.if_icmp .le 6, 3) := by decide +kernel
theorem dX5_scene_32 : decode cX5_scene 32 = .ok (.ldc 51, 2) := by decide +kernel
theorem dX5_scene_34 : decode cX5_scene 34 = .ok (.ireturn, 1) := by decide +kernel
theorem dX5_scene_35 : decode cX5_scene 35 = .ok (.iload_n 2, 1) := by decide +kernel
theorem dX5_scene_36 : decode cX5_scene 36 = .ok (.bipush 6, 2) := by decide +kernel
theorem dX5_scene_38 : decode cX5_scene 38 = .ok (.if_icmp .ge 12, 3) := by decide +kernel
theorem dX5_scene_41 : decode cX5_scene 41 = .ok (.aload_n 3, 1) := by decide +kernel
theorem dX5_scene_42 : decode cX5_scene 42 = .ok (.getfield 78, 3) := by decide +kernel
theorem dX5_scene_45 : decode cX5_scene 45 = .ok (.iload_n 2, 1) := by decide +kernel
theorem dX5_scene_46 : decode cX5_scene 46 = .ok (.aaload, 1) := by decide +kernel
theorem dX5_scene_47 : decode cX5_scene 47 = .ok (.iload_n 1, 1) := by decide +kernel
theorem dX5_scene_48 : decode cX5_scene 48 = .ok (.iaload, 1) := by decide +kernel
theorem dX5_scene_49 : decode cX5_scene 49 = .ok (.ireturn, 1) := by decide +kernel
theorem dX5_scene_50 : decode cX5_scene 50 = .ok (.aload_n 3, 1) := by decide +kernel
theorem dX5_scene_51 : decode cX5_scene 51 = .ok (.getfield 78, 3) := by decide +kernel
theorem dX5_scene_54 : decode cX5_scene 54 = .ok (.iconst 3, 1) := by decide +kernel
theorem dX5_scene_55 : decode cX5_scene 55 = .ok (.aaload, 1) := by decide +kernel
theorem dX5_scene_56 : decode cX5_scene 56 = .ok (.iload_n 1, 1) := by decide +kernel
theorem dX5_scene_57 : decode cX5_scene 57 = .ok (.iaload, 1) := by decide +kernel
theorem dX5_scene_58 : decode cX5_scene 58 = .ok (.istore 4, 2) := by decide +kernel
theorem dX5_scene_60 : decode cX5_scene 60 = .ok (.aload_n 3, 1) := by decide +kernel
theorem dX5_scene_61 : decode cX5_scene 61 = .ok (.iload_n 1, 1) := by decide +kernel
theorem dX5_scene_62 : decode cX5_scene 62 = .ok (.iload 4, 2) := by decide +kernel
theorem dX5_scene_64 : decode cX5_scene 64 = .ok (.aload_n 3, 1) := by decide +kernel
theorem dX5_scene_65 : decode cX5_scene 65 = .ok (.getfield 41, 3) := by decide +kernel
theorem dX5_scene_68 : decode cX5_scene 68 = .ok (.bipush 6, 2) := by decide +kernel
theorem dX5_scene_70 : decode cX5_scene 70 = .ok (.iaload, 1) := by decide +kernel
theorem dX5_scene_71 : decode cX5_scene 71 = .ok (.invokevirtual 167, 3) := by decide +kernel
theorem dX5_scene_74 : decode cX5_scene 74 = .ok (.ifCond .eq 7, 3) := by decide +kernel
theorem dX5_scene_77 : decode cX5_scene 77 = .ok (.iconst 1, 1) := by decide +kernel
theorem dX5_scene_78 : decode cX5_scene 78 = .ok (.goto 4, 3) := by decide +kernel
theorem dX5_scene_81 : decode cX5_scene 81 = .ok (.iconst 0, 1) := by decide +kernel
theorem dX5_scene_82 : decode cX5_scene 82 = .ok (.ireturn, 1) := by decide +kernel
theorem dX5_week_0 : decode cX5_week 0 = .ok (.iload_n 1, 1) := by decide +kernel
theorem dX5_week_1 : decode cX5_week 1 = .ok (.ifCond .lt 9, 3) := by decide +kernel
theorem dX5_week_4 : decode cX5_week 4 = .ok (.iload_n 1, 1) := by decide +kernel
theorem dX5_week_5 : decode cX5_week 5 = .ok (.bipush 30, 2) := by decide +kernel
theorem dX5_week_7 : decode cX5_week 7 = .ok (.if_icmp .lt 6, 3) := by decide +kernel
theorem dX5_week_10 : decode cX5_week 10 = .ok (.ldc 51, 2) := by decide +kernel
theorem dX5_week_12 : decode cX5_week 12 = .ok (.ireturn, 1) := by decide +kernel
theorem dX5_week_13 : decode cX5_week 13 = .ok (.iload_n 2, 1) := by decide +kernel
theorem dX5_week_14 : decode cX5_week 14 = .ok (.tableswitch 106 0 4 #[34, 49, 64, 76, 91], 34) := by decide +kernel
theorem dX5_week_48 : decode cX5_week 48 = .ok (.aload_n 0, 1) := by decide +kernel
theorem dX5_week_49 : decode cX5_week 49 = .ok (.getfield 10, 3) := by decide +kernel
theorem dX5_week_52 : decode cX5_week 52 = .ok (.getfield 37, 3) := by decide +kernel
theorem dX5_week_55 : decode cX5_week 55 = .ok (.getfield 92, 3) := by decide +kernel
theorem dX5_week_58 : decode cX5_week 58 = .ok (.iconst 0, 1) := by decide +kernel
theorem dX5_week_59 : decode cX5_week 59 = .ok (.aaload, 1) := by decide +kernel
theorem dX5_week_60 : decode cX5_week 60 = .ok (.iload_n 1, 1) := by decide +kernel
theorem dX5_week_61 : decode cX5_week 61 = .ok (.iaload, 1) := by decide +kernel
theorem dX5_week_62 : decode cX5_week 62 = .ok (.ireturn, 1) := by decide +kernel
theorem dX5_week_63 : decode cX5_week 63 = .ok (.aload_n 0, 1) := by decide +kernel
theorem dX5_week_64 : decode cX5_week 64 = .ok (.getfield 10, 3) := by decide +kernel
theorem dX5_week_67 : decode cX5_week 67 = .ok (.getfield 37, 3) := by decide +kernel
theorem dX5_week_70 : decode cX5_week 70 = .ok (.getfield 92, 3) := by decide +kernel
theorem dX5_week_73 : decode cX5_week 73 = .ok (.iconst 1, 1) := by decide +kernel
theorem dX5_week_74 : decode cX5_week 74 = .ok (.aaload, 1) := by decide +kernel
theorem dX5_week_75 : decode cX5_week 75 = .ok (.iload_n 1, 1) := by decide +kernel
theorem dX5_week_76 : decode cX5_week 76 = .ok (.iaload, 1) := by decide +kernel
theorem dX5_week_77 : decode cX5_week 77 = .ok (.ireturn, 1) := by decide +kernel
theorem dX5_week_78 : decode cX5_week 78 = .ok (.aload_n 0, 1) := by decide +kernel
theorem dX5_week_79 : decode cX5_week 79 = .ok (.getfield 10, 3) := by decide +kernel
theorem dX5_week_82 : decode cX5_week 82 = .ok (.getfield 37, 3) := by decide +kernel
theorem dX5_week_85 : decode cX5_week 85 = .ok (.iload_n 1, 1) := by decide +kernel
theorem dX5_week_86 : decode cX5_week 86 = .ok (.invokevirtual 95, 3) := by decide +kernel
theorem dX5_week_89 : decode cX5_week 89 = .ok (.ireturn, 1) := by decide +kernel
theorem dX5_week_90 : decode cX5_week 90 = .ok (.aload_n 0, 1) := by decide +kernel
theorem dX5_week_91 : decode cX5_week 91 = .ok (.getfield 10, 3) := by decide +kernel
theorem dX5_week_94 : decode cX5_week 94 = .ok (.getfield 37, 3) := by decide +kernel
theorem dX5_week_97 : decode cX5_week 97 = .ok (.getfield 92, 3) := by decide +kernel
theorem dX5_week_100 : decode cX5_week 100 = .ok (.iconst 2, 1) := by decide +kernel
theorem dX5_week_101 : decode cX5_week 101 = .ok (.aaload, 1) := by decide +kernel
theorem dX5_week_102 : decode cX5_week 102 = .ok (.iload_n 1, 1) := by decide +kernel
theorem dX5_week_103 : decode cX5_week 103 = .ok (.iaload, 1) := by decide +kernel
theorem dX5_week_104 : decode cX5_week 104 = .ok (.ireturn, 1) := by decide +kernel
theorem dX5_week_105 : decode cX5_week 105 = .ok (.aload_n 0, 1) := by decide +kernel
theorem dX5_week_106 : decode cX5_week 106 = .ok (.getfield 10, 3) := by decide +kernel
theorem dX5_week_109 : decode cX5_week 109 = .ok (.getfield 37, 3) := by decide +kernel
theorem dX5_week_112 : decode cX5_week 112 = .ok (.getfield 92, 3) := by decide +kernel
theorem dX5_week_115 : decode cX5_week 115 = .ok (.iconst 3, 1) := by decide +kernel
theorem dX5_week_116 : decode cX5_week 116 = .ok (.aaload, 1) := by decide +kernel
theorem dX5_week_117 : decode cX5_week 117 = .ok (.iload_n 1, 1) := by decide +kernel
theorem dX5_week_118 : decode cX5_week 118 = .ok (.iaload, 1) := by decide +kernel
theorem dX5_week_119 : decode cX5_week 119 = .ok (.ireturn, 1) := by decide +kernel
theorem dX5_week_120 : decode cX5_week 120 = .ok (.ldc 51, 2) := by decide +kernel
theorem dX5_week_122 : decode cX5_week 122 = .ok (.ireturn, 1) := by decide +kernel
theorem dX5_why_0 : decode cX5_why 0 = .ok (.aload_n 0, 1) := by decide +kernel
theorem dX5_why_1 : decode cX5_why 1 = .ok (.getfield 10, 3) := by decide +kernel
theorem dX5_why_4 : decode cX5_why 4 = .ok (.getfield 37, 3) := by decide +kernel
theorem dX5_why_7 : decode cX5_why 7 = .ok (.getfield 41, 3) := by decide +kernel
theorem dX5_why_10 : decode cX5_why 10 = .ok (.iconst 2, 1) := by decide +kernel
theorem dX5_why_11 : decode cX5_why 11 = .ok (.iaload, 1) := by decide +kernel
theorem dX5_why_12 : decode cX5_why 12 = .ok (.bipush 30, 2) := by decide +kernel
theorem dX5_why_14 : decode cX5_why 14 = .ok (.if_icmp .lt 6, 3) := by decide +kernel
theorem dX5_why_17 : decode cX5_why 17 = .ok (.ldc 56, 2) := by decide +kernel
theorem dX5_why_19 : decode cX5_why 19 = .ok (.ireturn, 1) := by decide +kernel
theorem dX5_why_20 : decode cX5_why 20 = .ok (.aload_n 0, 1) := by decide +kernel
theorem dX5_why_21 : decode cX5_why 21 = .ok (.getfield 10, 3) := by decide +kernel
theorem dX5_why_24 : decode cX5_why 24 = .ok (.getfield 37, 3) := by decide +kernel
theorem dX5_why_27 : decode cX5_why 27 = .ok (.iload_n 1, 1) := by decide +kernel
theorem dX5_why_28 : decode cX5_why 28 = .ok (.aload_n 0, 1) := by decide +kernel
theorem dX5_why_29 : decode cX5_why 29 = .ok (.getfield 10, 3) := by decide +kernel
theorem dX5_why_32 : decode cX5_why 32 = .ok (.getfield 37, 3) := by decide +kernel
theorem dX5_why_35 : decode cX5_why 35 = .ok (.getfield 41, 3) := by decide +kernel
theorem dX5_why_38 : decode cX5_why 38 = .ok (.iconst 3, 1) := by decide +kernel
theorem dX5_why_39 : decode cX5_why 39 = .ok (.iaload, 1) := by decide +kernel
theorem dX5_why_40 : decode cX5_why 40 = .ok (.invokevirtual 170, 3) := by decide +kernel
theorem dX5_why_43 : decode cX5_why 43 = .ok (.ireturn, 1) := by decide +kernel
theorem dX5_cutFrom_0 : decode cX5_cutFrom 0 = .ok (.aload_n 0, 1) := by decide +kernel
theorem dX5_cutFrom_1 : decode cX5_cutFrom 1 = .ok (.getfield 10, 3) := by decide +kernel
theorem dX5_cutFrom_4 : decode cX5_cutFrom 4 = .ok (.getfield 37, 3) := by decide +kernel
theorem dX5_cutFrom_7 : decode cX5_cutFrom 7 = .ok (.getfield 41, 3) := by decide +kernel
theorem dX5_cutFrom_10 : decode cX5_cutFrom 10 = .ok (.iconst 1, 1) := by decide +kernel
theorem dX5_cutFrom_11 : decode cX5_cutFrom 11 = .ok (.iaload, 1) := by decide +kernel
theorem dX5_cutFrom_12 : decode cX5_cutFrom 12 = .ok (.istore_n 3, 1) := by decide +kernel
theorem dX5_cutFrom_13 : decode cX5_cutFrom 13 = .ok (.iload_n 1, 1) := by decide +kernel
theorem dX5_cutFrom_14 : decode cX5_cutFrom 14 = .ok (.iconst 1, 1) := by decide +kernel
theorem dX5_cutFrom_15 : decode cX5_cutFrom 15 = .ok (.if_icmp .lt 29, 3) := by decide +kernel
theorem dX5_cutFrom_18 : decode cX5_cutFrom 18 = .ok (.iload_n 1, 1) := by decide +kernel
theorem dX5_cutFrom_19 : decode cX5_cutFrom 19 = .ok (.aload_n 0, 1) := by decide +kernel
theorem dX5_cutFrom_20 : decode cX5_cutFrom 20 = .ok (.getfield 10, 3) := by decide +kernel
theorem dX5_cutFrom_23 : decode cX5_cutFrom 23 = .ok (.getfield 37, 3) := by decide +kernel
theorem dX5_cutFrom_26 : decode cX5_cutFrom 26 = .ok (.invokevirtual 105, 3) := by decide +kernel
theorem dX5_cutFrom_29 : decode cX5_cutFrom 29 = .ok (.if_icmp .gt 15, 3) := by decide +kernel
theorem dX5_cutFrom_32 : decode cX5_cutFrom 32 = .ok (.iload_n 2, 1) := by decide +kernel
theorem dX5_cutFrom_33 : decode cX5_cutFrom 33 = .ok (.iload_n 3, 1) := by decide +kernel
theorem dX5_cutFrom_34 : decode cX5_cutFrom 34 = .ok (.if_icmp .lt 10, 3) := by decide +kernel
theorem dX5_cutFrom_37 : decode cX5_cutFrom 37 = .ok (.iload_n 2, 1) := by decide +kernel
theorem dX5_cutFrom_38 : decode cX5_cutFrom 38 = .ok (.iload_n 3, 1) := by decide +kernel
theorem dX5_cutFrom_39 : decode cX5_cutFrom 39 = .ok (.iload_n 1, 1) := by decide +kernel
theorem dX5_cutFrom_40 : decode cX5_cutFrom 40 = .ok (.iadd, 1) := by decide +kernel
theorem dX5_cutFrom_41 : decode cX5_cutFrom 41 = .ok (.if_icmp .lt 6, 3) := by decide +kernel
theorem dX5_cutFrom_44 : decode cX5_cutFrom 44 = .ok (.ldc 51, 2) := by decide +kernel
theorem dX5_cutFrom_46 : decode cX5_cutFrom 46 = .ok (.ireturn, 1) := by decide +kernel
theorem dX5_cutFrom_47 : decode cX5_cutFrom 47 = .ok (.aload_n 0, 1) := by decide +kernel
theorem dX5_cutFrom_48 : decode cX5_cutFrom 48 = .ok (.getfield 10, 3) := by decide +kernel
theorem dX5_cutFrom_51 : decode cX5_cutFrom 51 = .ok (.getfield 37, 3) := by decide +kernel
theorem dX5_cutFrom_54 : decode cX5_cutFrom 54 = .ok (.getfield 41, 3) := by decide +kernel
theorem dX5_cutFrom_57 : decode cX5_cutFrom 57 = .ok (.iconst 3, 1) := by decide +kernel
theorem dX5_cutFrom_58 : decode cX5_cutFrom 58 = .ok (.iaload, 1) := by decide +kernel
theorem dX5_cutFrom_59 : decode cX5_cutFrom 59 = .ok (.istore 4, 2) := by decide +kernel
theorem dX5_cutFrom_61 : decode cX5_cutFrom 61 = .ok (.aload_n 0, 1) := by decide +kernel
theorem dX5_cutFrom_62 : decode cX5_cutFrom 62 = .ok (.getfield 10, 3) := by decide +kernel
theorem dX5_cutFrom_65 : decode cX5_cutFrom 65 = .ok (.getfield 37, 3) := by decide +kernel
theorem dX5_cutFrom_68 : decode cX5_cutFrom 68 = .ok (.iconst 1, 1) := by decide +kernel
theorem dX5_cutFrom_69 : decode cX5_cutFrom 69 = .ok (.iload_n 3, 1) := by decide +kernel
theorem dX5_cutFrom_70 : decode cX5_cutFrom 70 = .ok (.iload_n 3, 1) := by decide +kernel
theorem dX5_cutFrom_71 : decode cX5_cutFrom 71 = .ok (.iload_n 1, 1) := by decide +kernel
theorem dX5_cutFrom_72 : decode cX5_cutFrom 72 = .ok (.iadd, 1) := by decide +kernel
theorem dX5_cutFrom_73 : decode cX5_cutFrom 73 = .ok (.invokevirtual 174, 3) := by decide +kernel
theorem dX5_cutFrom_76 : decode cX5_cutFrom 76 = .ok (.iload 4, 2) := by decide +kernel
theorem dX5_cutFrom_78 : decode cX5_cutFrom 78 = .ok (.if_icmp .ge 6, 3) := by decide +kernel
theorem dX5_cutFrom_81 : decode cX5_cutFrom 81 = .ok (.ldc 153, 2) := by decide +kernel
theorem dX5_cutFrom_83 : decode cX5_cutFrom 83 = .ok (.ireturn, 1) := by decide +kernel
theorem dX5_cutFrom_84 : decode cX5_cutFrom 84 = .ok (.aload_n 0, 1) := by decide +kernel
theorem dX5_cutFrom_85 : decode cX5_cutFrom 85 = .ok (.getfield 10, 3) := by decide +kernel
theorem dX5_cutFrom_88 : decode cX5_cutFrom 88 = .ok (.getfield 37, 3) := by decide +kernel
theorem dX5_cutFrom_91 : decode cX5_cutFrom 91 = .ok (.iload_n 2, 1) := by decide +kernel
theorem dX5_cutFrom_92 : decode cX5_cutFrom 92 = .ok (.iload_n 3, 1) := by decide +kernel
theorem dX5_cutFrom_93 : decode cX5_cutFrom 93 = .ok (.iload_n 1, 1) := by decide +kernel
theorem dX5_cutFrom_94 : decode cX5_cutFrom 94 = .ok (.iadd, 1) := by decide +kernel
theorem dX5_cutFrom_95 : decode cX5_cutFrom 95 = .ok (.iload 4, 2) := by decide +kernel
theorem dX5_cutFrom_97 : decode cX5_cutFrom 97 = .ok (.invokevirtual 178, 3) := by decide +kernel
theorem dX5_cutFrom_100 : decode cX5_cutFrom 100 = .ok (.ireturn, 1) := by decide +kernel
theorem dX5_since_0 : decode cX5_since 0 = .ok (.iload_n 1, 1) := by decide +kernel
theorem dX5_since_1 : decode cX5_since 1 = .ok (.ifCond .lt 9, 3) := by decide +kernel
theorem dX5_since_4 : decode cX5_since 4 = .ok (.iload_n 1, 1) := by decide +kernel
theorem dX5_since_5 : decode cX5_since 5 = .ok (.bipush 6, 2) := by decide +kernel
theorem dX5_since_7 : decode cX5_since 7 = .ok (.if_icmp .lt 6, 3) := by decide +kernel
theorem dX5_since_10 : decode cX5_since 10 = .ok (.ldc 51, 2) := by decide +kernel
theorem dX5_since_12 : decode cX5_since 12 = .ok (.ireturn, 1) := by decide +kernel
theorem dX5_since_13 : decode cX5_since 13 = .ok (.aload_n 0, 1) := by decide +kernel
theorem dX5_since_14 : decode cX5_since 14 = .ok (.getfield 10, 3) := by decide +kernel
theorem dX5_since_17 : decode cX5_since 17 = .ok (.getfield 37, 3) := by decide +kernel
theorem dX5_since_20 : decode cX5_since 20 = .ok (.astore_n 2, 1) := by decide +kernel
theorem dX5_since_21 : decode cX5_since 21 = .ok (.aload_n 2, 1) := by decide +kernel
theorem dX5_since_22 : decode cX5_since 22 = .ok (.getfield 41, 3) := by decide +kernel
theorem dX5_since_25 : decode cX5_since 25 = .ok (.iconst 1, 1) := by decide +kernel
theorem dX5_since_26 : decode cX5_since 26 = .ok (.iaload, 1) := by decide +kernel
theorem dX5_since_27 : decode cX5_since 27 = .ok (.iconst 1, 1) := by decide +kernel
theorem dX5_since_28 : decode cX5_since 28 = .ok (.isub, 1) := by decide +kernel
theorem dX5_since_29 : decode cX5_since 29 = .ok (.istore_n 3, 1) := by decide +kernel
theorem dX5_since_30 : decode cX5_since 30 = .ok (.iload_n 3, 1) := by decide +kernel
theorem dX5_since_31 : decode cX5_since 31 = .ok (.ifCond .lt 39, 3) := by decide +kernel
theorem dX5_since_34 : decode cX5_since 34 = .ok (.aload_n 2, 1) := by decide +kernel
theorem dX5_since_35 : decode cX5_since 35 = .ok (.getfield 78, 3) := by decide +kernel
theorem dX5_since_38 : decode cX5_since 38 = .ok (.iconst 2, 1) := by decide +kernel
theorem dX5_since_39 : decode cX5_since 39 = .ok (.aaload, 1) := by decide +kernel
theorem dX5_since_40 : decode cX5_since 40 = .ok (.iload_n 3, 1) := by decide +kernel
theorem dX5_since_41 : decode cX5_since 41 = .ok (.iaload, 1) := by decide +kernel
theorem dX5_since_42 : decode cX5_since 42 = .ok (.iload_n 1, 1) := by decide +kernel
theorem dX5_since_43 : decode cX5_since 43 = .ok (.if_icmp .ne 21, 3) := by decide +kernel
theorem dX5_since_46 : decode cX5_since 46 = .ok (.aload_n 2, 1) := by decide +kernel
theorem dX5_since_47 : decode cX5_since 47 = .ok (.getfield 41, 3) := by decide +kernel
theorem dX5_since_50 : decode cX5_since 50 = .ok (.iconst 2, 1) := by decide +kernel
theorem dX5_since_51 : decode cX5_since 51 = .ok (.iaload, 1) := by decide +kernel
theorem dX5_since_52 : decode cX5_since 52 = .ok (.aload_n 2, 1) := by decide +kernel
theorem dX5_since_53 : decode cX5_since 53 = .ok (.getfield 78, 3) := by decide +kernel
theorem dX5_since_56 : decode cX5_since 56 = .ok (.iconst 5, 1) := by decide +kernel
theorem dX5_since_57 : decode cX5_since 57 = .ok (.aaload, 1) := by decide +kernel
theorem dX5_since_58 : decode cX5_since 58 = .ok (.iload_n 3, 1) := by decide +kernel
theorem dX5_since_59 : decode cX5_since 59 = .ok (.iaload, 1) := by decide +kernel
theorem dX5_since_60 : decode cX5_since 60 = .ok (.isub, 1) := by decide +kernel
theorem dX5_since_61 : decode cX5_since 61 = .ok (.iconst 1, 1) := by decide +kernel
theorem dX5_since_62 : decode cX5_since 62 = .ok (.isub, 1) := by decide +kernel
theorem dX5_since_63 : decode cX5_since 63 = .ok (.ireturn, 1) := by decide +kernel
theorem dX5_since_64 : decode cX5_since 64 = .ok (.iinc 3 (-1), 3) := by decide +kernel
theorem dX5_since_67 : decode cX5_since 67 = .ok (.goto (-37), 3) := by decide +kernel
theorem dX5_since_70 : decode cX5_since 70 = .ok (.ldc 153, 2) := by decide +kernel
theorem dX5_since_72 : decode cX5_since 72 = .ok (.ireturn, 1) := by decide +kernel
theorem dX5_strand_0 : decode cX5_strand 0 = .ok (.iload_n 1, 1) := by decide +kernel
theorem dX5_strand_1 : decode cX5_strand 1 = .ok (.ifCond .lt 18, 3) := by decide +kernel
theorem dX5_strand_4 : decode cX5_strand 4 = .ok (.iload_n 1, 1) := by decide +kernel
theorem dX5_strand_5 : decode cX5_strand 5 = .ok (.bipush 6, 2) := by decide +kernel
theorem dX5_strand_7 : decode cX5_strand 7 = .ok (.if_icmp .ge 12, 3) := by decide +kernel
theorem dX5_strand_10 : decode cX5_strand 10 = .ok (.iload_n 2, 1) := by decide +kernel
theorem dX5_strand_11 : decode cX5_strand 11 = .ok (.ifCond .lt 8, 3) := by decide +kernel
theorem dX5_strand_14 : decode cX5_strand 14 = .ok (.iload_n 2, 1) := by decide +kernel
theorem dX5_strand_15 : decode cX5_strand 15 = .ok (.iconst 1, 1) := by decide +kernel
theorem dX5_strand_16 : decode cX5_strand 16 = .ok (.if_icmp .le 6, 3) := by decide +kernel
theorem dX5_strand_19 : decode cX5_strand 19 = .ok (.ldc 51, 2) := by decide +kernel
theorem dX5_strand_21 : decode cX5_strand 21 = .ok (.ireturn, 1) := by decide +kernel
theorem dX5_strand_22 : decode cX5_strand 22 = .ok (.aload_n 0, 1) := by decide +kernel
theorem dX5_strand_23 : decode cX5_strand 23 = .ok (.getfield 10, 3) := by decide +kernel
theorem dX5_strand_26 : decode cX5_strand 26 = .ok (.getfield 37, 3) := by decide +kernel
theorem dX5_strand_29 : decode cX5_strand 29 = .ok (.getfield 41, 3) := by decide +kernel
theorem dX5_strand_32 : decode cX5_strand 32 = .ok (.astore_n 3, 1) := by decide +kernel
theorem dX5_strand_33 : decode cX5_strand 33 = .ok (.iload_n 2, 1) := by decide +kernel
theorem dX5_strand_34 : decode cX5_strand 34 = .ok (.ifCond .ne 21, 3) := by decide +kernel
theorem dX5_strand_37 : decode cX5_strand 37 = .ok (.aload_n 0, 1) := by decide +kernel
theorem dX5_strand_38 : decode cX5_strand 38 = .ok (.getfield 10, 3) := by decide +kernel
theorem dX5_strand_41 : decode cX5_strand 41 = .ok (.getfield 37, 3) := by decide +kernel
theorem dX5_strand_44 : decode cX5_strand 44 = .ok (.iload_n 1, 1) := by decide +kernel
theorem dX5_strand_45 : decode cX5_strand 45 = .ok (.iconst 0, 1) := by decide +kernel
theorem dX5_strand_46 : decode cX5_strand 46 = .ok (.aload_n 3, 1) := by decide +kernel
theorem dX5_strand_47 : decode cX5_strand 47 = .ok (.iconst 1, 1) := by decide +kernel
theorem dX5_strand_48 : decode cX5_strand 48 = .ok (.iaload, 1) := by decide +kernel
theorem dX5_strand_49 : decode cX5_strand 49 = .ok (.invokevirtual 181, 3) := by decide +kernel
theorem dX5_strand_52 : decode cX5_strand 52 = .ok (.goto 20, 3) := by decide +kernel
theorem dX5_strand_55 : decode cX5_strand 55 = .ok (.aload_n 0, 1) := by decide +kernel
theorem dX5_strand_56 : decode cX5_strand 56 = .ok (.getfield 10, 3) := by decide +kernel
theorem dX5_strand_59 : decode cX5_strand 59 = .ok (.getfield 37, 3) := by decide +kernel
theorem dX5_strand_62 : decode cX5_strand 62 = .ok (.iload_n 1, 1) := by decide +kernel
theorem dX5_strand_63 : decode cX5_strand 63 = .ok (.aload_n 3, 1) := by decide +kernel
theorem dX5_strand_64 : decode cX5_strand 64 = .ok (.iconst 1, 1) := by decide +kernel
theorem dX5_strand_65 : decode cX5_strand 65 = .ok (.iaload, 1) := by decide +kernel
theorem dX5_strand_66 : decode cX5_strand 66 = .ok (.aload_n 3, 1) := by decide +kernel
theorem dX5_strand_67 : decode cX5_strand 67 = .ok (.iconst 0, 1) := by decide +kernel
theorem dX5_strand_68 : decode cX5_strand 68 = .ok (.iaload, 1) := by decide +kernel
theorem dX5_strand_69 : decode cX5_strand 69 = .ok (.invokevirtual 181, 3) := by decide +kernel
theorem dX5_strand_72 : decode cX5_strand 72 = .ok (.ireturn, 1) := by decide +kernel
theorem dX5_fineFor_0 : decode cX5_fineFor 0 = .ok (.iconst 0, 1) := by decide +kernel
theorem dX5_fineFor_1 : decode cX5_fineFor 1 = .ok (.iload_n 0, 1) := by decide +kernel
theorem dX5_fineFor_2 : decode cX5_fineFor 2 = .ok (.invokestatic 215, 3) := by decide +kernel
theorem dX5_fineFor_5 : decode cX5_fineFor 5 = .ok (.bipush 10, 2) := by decide +kernel
theorem dX5_fineFor_7 : decode cX5_fineFor 7 = .ok (.idiv, 1) := by decide +kernel
theorem dX5_fineFor_8 : decode cX5_fineFor 8 = .ok (.ireturn, 1) := by decide +kernel
theorem dL_cell_0 : decode cL_cell 0 = .ok (.iload_n 1, 1) := by decide +kernel
theorem dL_cell_1 : decode cL_cell 1 = .ok (.aload_n 0, 1) := by decide +kernel
theorem dL_cell_2 : decode cL_cell 2 = .ok (.arraylength, 1) := by decide +kernel
theorem dL_cell_3 : decode cL_cell 3 = .ok (.if_icmp .ge 9, 3) := by decide +kernel
theorem dL_cell_6 : decode cL_cell 6 = .ok (.aload_n 0, 1) := by decide +kernel
theorem dL_cell_7 : decode cL_cell 7 = .ok (.iload_n 1, 1) := by decide +kernel
theorem dL_cell_8 : decode cL_cell 8 = .ok (.iaload, 1) := by decide +kernel
theorem dL_cell_9 : decode cL_cell 9 = .ok (.goto 10, 3) := by decide +kernel
theorem dL_cell_12 : decode cL_cell 12 = .ok (.ldc 7, 2) := by decide +kernel
theorem dL_cell_14 : decode cL_cell 14 = .ok (.iload_n 1, 1) := by decide +kernel
theorem dL_cell_15 : decode cL_cell 15 = .ok (.bipush 11, 2) := by decide +kernel
theorem dL_cell_17 : decode cL_cell 17 = .ok (.iadd, 1) := by decide +kernel
theorem dL_cell_18 : decode cL_cell 18 = .ok (.imul, 1) := by decide +kernel
theorem dL_cell_19 : decode cL_cell 19 = .ok (.ldc 8, 2) := by decide +kernel
theorem dL_cell_21 : decode cL_cell 21 = .ok (.iand, 1) := by decide +kernel
theorem dL_cell_22 : decode cL_cell 22 = .ok (.ireturn, 1) := by decide +kernel
theorem dL_holds_0 : decode cL_holds 0 = .ok (.aload_n 0, 1) := by decide +kernel
theorem dL_holds_1 : decode cL_holds 1 = .ok (.iconst 1, 1) := by decide +kernel
theorem dL_holds_2 : decode cL_holds 2 = .ok (.invokevirtual 9, 3) := by decide +kernel
theorem dL_holds_5 : decode cL_holds 5 = .ok (.istore_n 1, 1) := by decide +kernel
theorem dL_holds_6 : decode cL_holds 6 = .ok (.iconst 0, 1) := by decide +kernel
theorem dL_holds_7 : decode cL_holds 7 = .ok (.istore_n 2, 1) := by decide +kernel
theorem dL_holds_8 : decode cL_holds 8 = .ok (.iconst 0, 1) := by decide +kernel
theorem dL_holds_9 : decode cL_holds 9 = .ok (.istore_n 3, 1) := by decide +kernel
theorem dL_holds_10 : decode cL_holds 10 = .ok (.iload_n 1, 1) := by decide +kernel
theorem dL_holds_11 : decode cL_holds 11 = .ok (.aload_n 0, 1) := by decide +kernel
theorem dL_holds_12 : decode cL_holds 12 = .ok (.iconst 0, 1) := by decide +kernel
theorem dL_holds_13 : decode cL_holds 13 = .ok (.invokevirtual 9, 3) := by decide +kernel
theorem dL_holds_16 : decode cL_holds 16 = .ok (.if_icmp .gt 50, 3) := by decide +kernel
theorem dL_holds_19 : decode cL_holds 19 = .ok (.aload_n 0, 1) := by decide +kernel
theorem dL_holds_20 : decode cL_holds 20 = .ok (.iconst 0, 1) := by decide +kernel
theorem dL_holds_21 : decode cL_holds 21 = .ok (.invokevirtual 9, 3) := by decide +kernel
theorem dL_holds_24 : decode cL_holds 24 = .ok (.bipush 20, 2) := by decide +kernel
theorem dL_holds_26 : decode cL_holds 26 = .ok (.if_icmp .gt 40, 3) := by decide +kernel
theorem dL_holds_29 : decode cL_holds 29 = .ok (.aload_n 0, 1) := by decide +kernel
theorem dL_holds_30 : decode cL_holds 30 = .ok (.bipush 9, 2) := by decide +kernel
theorem dL_holds_32 : decode cL_holds 32 = .ok (.invokevirtual 9, 3) := by decide +kernel
theorem dL_holds_35 : decode cL_holds 35 = .ok (.sipush (-999), 3) := by decide +kernel
theorem dL_holds_38 : decode cL_holds 38 = .ok (.if_icmp .lt 28, 3) := by decide +kernel
theorem dL_holds_41 : decode cL_holds 41 = .ok (.aload_n 0, 1) := by decide +kernel
theorem dL_holds_42 : decode cL_holds 42 = .ok (.bipush 12, 2) := by decide +kernel
theorem dL_holds_44 : decode cL_holds 44 = .ok (.invokevirtual 9, 3) := by decide +kernel
theorem dL_holds_47 : decode cL_holds 47 = .ok (.aload_n 0, 1) := by decide +kernel
theorem dL_holds_48 : decode cL_holds 48 = .ok (.bipush 13, 2) := by decide +kernel
theorem dL_holds_50 : decode cL_holds 50 = .ok (.invokevirtual 9, 3) := by decide +kernel
theorem dL_holds_53 : decode cL_holds 53 = .ok (.iadd, 1) := by decide +kernel
theorem dL_holds_54 : decode cL_holds 54 = .ok (.aload_n 0, 1) := by decide +kernel
theorem dL_holds_55 : decode cL_holds 55 = .ok (.iconst 2, 1) := by decide +kernel
theorem dL_holds_56 : decode cL_holds 56 = .ok (.invokevirtual 9, 3) := by decide +kernel
theorem dL_holds_59 : decode cL_holds 59 = .ok (.if_icmp .ne 7, 3) := by decide +kernel
theorem dL_holds_62 : decode cL_holds 62 = .ok (.iconst 1, 1) := by decide +kernel
theorem dL_holds_63 : decode cL_holds 63 = .ok (.goto 4, 3) := by decide +kernel
theorem dL_holds_66 : decode cL_holds 66 = .ok (.iconst 0, 1) := by decide +kernel
theorem dL_holds_67 : decode cL_holds 67 = .ok (.istore 4, 2) := by decide +kernel
theorem dL_holds_69 : decode cL_holds 69 = .ok (.iconst 0, 1) := by decide +kernel
theorem dL_holds_70 : decode cL_holds 70 = .ok (.istore 5, 2) := by decide +kernel
theorem dL_holds_72 : decode cL_holds 72 = .ok (.iload 5, 2) := by decide +kernel
theorem dL_holds_74 : decode cL_holds 74 = .ok (.aload_n 0, 1) := by decide +kernel
theorem dL_holds_75 : decode cL_holds 75 = .ok (.iconst 0, 1) := by decide +kernel
theorem dL_holds_76 : decode cL_holds 76 = .ok (.invokevirtual 9, 3) := by decide +kernel
theorem dL_holds_79 : decode cL_holds 79 = .ok (.if_icmp .ge 169, 3) := by decide +kernel
theorem dL_holds_82 : decode cL_holds 82 = .ok (.iload 4, 2) := by decide +kernel
theorem dL_holds_84 : decode cL_holds 84 = .ok (.ifCond .eq 164, 3) := by decide +kernel
theorem dL_holds_87 : decode cL_holds 87 = .ok (.iload 5, 2) := by decide +kernel
theorem dL_holds_89 : decode cL_holds 89 = .ok (.iload_n 1, 1) := by decide +kernel
theorem dL_holds_90 : decode cL_holds 90 = .ok (.if_icmp .ge 7, 3) := by decide +kernel
theorem dL_holds_93 : decode cL_holds 93 = .ok (.iconst 1, 1) := by decide +kernel
theorem dL_holds_94 : decode cL_holds 94 = .ok (.goto 4, 3) := by decide +kernel
theorem dL_holds_97 : decode cL_holds 97 = .ok (.iconst 0, 1) := by decide +kernel
theorem dL_holds_98 : decode cL_holds 98 = .ok (.istore 6, 2) := by decide +kernel
theorem dL_holds_100 : decode cL_holds 100 = .ok (.iload_n 2, 1) := by decide +kernel
theorem dL_holds_101 : decode cL_holds 101 = .ok (.iload 6, 2) := by decide +kernel
theorem dL_holds_103 : decode cL_holds 103 = .ok (.ifCond .eq 21, 3) := by decide +kernel
theorem dL_holds_106 : decode cL_holds 106 = .ok (.aload_n 0, 1) := by decide +kernel
theorem dL_holds_107 : decode cL_holds 107 = .ok (.iload 5, 2) := by decide +kernel
theorem dL_holds_109 : decode cL_holds 109 = .ok (.iconst 0, 1) := by decide +kernel
theorem dL_holds_110 : decode cL_holds 110 = .ok (.invokevirtual 15, 3) := by decide +kernel
theorem dL_holds_113 : decode cL_holds 113 = .ok (.aload_n 0, 1) := by decide +kernel
theorem dL_holds_114 : decode cL_holds 114 = .ok (.iload 5, 2) := by decide +kernel
theorem dL_holds_116 : decode cL_holds 116 = .ok (.iconst 4, 1) := by decide +kernel
theorem dL_holds_117 : decode cL_holds 117 = .ok (.invokevirtual 15, 3) := by decide +kernel
theorem dL_holds_120 : decode cL_holds 120 = .ok (.isub, 1) := by decide +kernel
theorem dL_holds_121 : decode cL_holds 121 = .ok (.goto 4, 3) := by decide +kernel
theorem dL_holds_124 : decode cL_holds 124 = .ok (.iconst 0, 1) := by decide +kernel
theorem dL_holds_125 : decode cL_holds 125 = .ok (.iadd, 1) := by decide +kernel
theorem dL_holds_126 : decode cL_holds 126 = .ok (.istore_n 2, 1) := by decide +kernel
theorem dL_holds_127 : decode cL_holds 127 = .ok (.iload_n 3, 1) := by decide +kernel
theorem dL_holds_128 : decode cL_holds 128 = .ok (.aload_n 0, 1) := by decide +kernel
theorem dL_holds_129 : decode cL_holds 129 = .ok (.iload 5, 2) := by decide +kernel
theorem dL_holds_131 : decode cL_holds 131 = .ok (.iconst 4, 1) := by decide +kernel
theorem dL_holds_132 : decode cL_holds 132 = .ok (.invokevirtual 15, 3) := by decide +kernel
theorem dL_holds_135 : decode cL_holds 135 = .ok (.iadd, 1) := by decide +kernel
theorem dL_holds_136 : decode cL_holds 136 = .ok (.istore_n 3, 1) := by decide +kernel
theorem dL_holds_137 : decode cL_holds 137 = .ok (.aload_n 0, 1) := by decide +kernel
theorem dL_holds_138 : decode cL_holds 138 = .ok (.iload 5, 2) := by decide +kernel
theorem dL_holds_140 : decode cL_holds 140 = .ok (.iconst 1, 1) := by decide +kernel
theorem dL_holds_141 : decode cL_holds 141 = .ok (.invokevirtual 15, 3) := by decide +kernel
theorem dL_holds_144 : decode cL_holds 144 = .ok (.aload_n 0, 1) := by decide +kernel
theorem dL_holds_145 : decode cL_holds 145 = .ok (.iload 5, 2) := by decide +kernel
theorem dL_holds_147 : decode cL_holds 147 = .ok (.iconst 0, 1) := by decide +kernel
theorem dL_holds_148 : decode cL_holds 148 = .ok (.invokevirtual 15, 3) := by decide +kernel
theorem dL_holds_151 : decode cL_holds 151 = .ok (.if_icmp .ge 88, 3) := by decide +kernel
theorem dL_holds_154 : decode cL_holds 154 = .ok (.aload_n 0, 1) := by decide +kernel
theorem dL_holds_155 : decode cL_holds 155 = .ok (.iload 5, 2) := by decide +kernel
theorem dL_holds_157 : decode cL_holds 157 = .ok (.iconst 4, 1) := by decide +kernel
theorem dL_holds_158 : decode cL_holds 158 = .ok (.invokevirtual 15, 3) := by decide +kernel
theorem dL_holds_161 : decode cL_holds 161 = .ok (.aload_n 0, 1) := by decide +kernel
theorem dL_holds_162 : decode cL_holds 162 = .ok (.iload 5, 2) := by decide +kernel
theorem dL_holds_164 : decode cL_holds 164 = .ok (.iconst 1, 1) := by decide +kernel
theorem dL_holds_165 : decode cL_holds 165 = .ok (.invokevirtual 15, 3) := by decide +kernel
theorem dL_holds_168 : decode cL_holds 168 = .ok (.if_icmp .gt 71, 3) := by decide +kernel
theorem dL_holds_171 : decode cL_holds 171 = .ok (.aload_n 0, 1) := by decide +kernel
theorem dL_holds_172 : decode cL_holds 172 = .ok (.iload 5, 2) := by decide +kernel
theorem dL_holds_174 : decode cL_holds 174 = .ok (.iconst 5, 1) := by decide +kernel
theorem dL_holds_175 : decode cL_holds 175 = .ok (.invokevirtual 15, 3) := by decide +kernel
theorem dL_holds_178 : decode cL_holds 178 = .ok (.ifCond .lt 7, 3) := by decide +kernel
theorem dL_holds_181 : decode cL_holds 181 = .ok (.iconst 1, 1) := by decide +kernel
theorem dL_holds_182 : decode cL_holds 182 = .ok (.goto 4, 3) := by decide +kernel
theorem dL_holds_185 : decode cL_holds 185 = .ok (.iconst 0, 1) := by decide +kernel
theorem dL_holds_186 : decode cL_holds 186 = .ok (.iload 6, 2) := by decide +kernel
theorem dL_holds_188 : decode cL_holds 188 = .ok (.if_icmp .ne 51, 3) := by decide +kernel
theorem dL_holds_191 : decode cL_holds 191 = .ok (.iload 6, 2) := by decide +kernel
theorem dL_holds_193 : decode cL_holds 193 = .ok (.ifCond .ne 13, 3) := by decide +kernel
theorem dL_holds_196 : decode cL_holds 196 = .ok (.aload_n 0, 1) := by decide +kernel
theorem dL_holds_197 : decode cL_holds 197 = .ok (.iload 5, 2) := by decide +kernel
theorem dL_holds_199 : decode cL_holds 199 = .ok (.iconst 4, 1) := by decide +kernel
theorem dL_holds_200 : decode cL_holds 200 = .ok (.invokevirtual 15, 3) := by decide +kernel
theorem dL_holds_203 : decode cL_holds 203 = .ok (.ifCond .ne 36, 3) := by decide +kernel
theorem dL_holds_206 : decode cL_holds 206 = .ok (.iload 5, 2) := by decide +kernel
theorem dL_holds_208 : decode cL_holds 208 = .ok (.ifCond .eq 27, 3) := by decide +kernel
theorem dL_holds_211 : decode cL_holds 211 = .ok (.iload 6, 2) := by decide +kernel
theorem dL_holds_213 : decode cL_holds 213 = .ok (.ifCond .eq 22, 3) := by decide +kernel
theorem dL_holds_216 : decode cL_holds 216 = .ok (.aload_n 0, 1) := by decide +kernel
theorem dL_holds_217 : decode cL_holds 217 = .ok (.iload 5, 2) := by decide +kernel
theorem dL_holds_219 : decode cL_holds 219 = .ok (.iconst 5, 1) := by decide +kernel
theorem dL_holds_220 : decode cL_holds 220 = .ok (.invokevirtual 15, 3) := by decide +kernel
theorem dL_holds_223 : decode cL_holds 223 = .ok (.aload_n 0, 1) := by decide +kernel
theorem dL_holds_224 : decode cL_holds 224 = .ok (.iload 5, 2) := by decide +kernel
theorem dL_holds_226 : decode cL_holds 226 = .ok (.iconst 1, 1) := by decide +kernel
theorem dL_holds_227 : decode cL_holds 227 = .ok (.isub, 1) := by decide +kernel
theorem dL_holds_228 : decode cL_holds 228 = .ok (.iconst 5, 1) := by decide +kernel
theorem dL_holds_229 : decode cL_holds 229 = .ok (.invokevirtual 15, 3) := by decide +kernel
theorem dL_holds_232 : decode cL_holds 232 = .ok (.if_icmp .lt 7, 3) := by decide +kernel
theorem dL_holds_235 : decode cL_holds 235 = .ok (.iconst 1, 1) := by decide +kernel
theorem dL_holds_236 : decode cL_holds 236 = .ok (.goto 4, 3) := by decide +kernel
theorem dL_holds_239 : decode cL_holds 239 = .ok (.iconst 0, 1) := by decide +kernel
theorem dL_holds_240 : decode cL_holds 240 = .ok (.istore 4, 2) := by decide +kernel
theorem dL_holds_242 : decode cL_holds 242 = .ok (.iinc 5 1, 3) := by decide +kernel
theorem dL_holds_245 : decode cL_holds 245 = .ok (.goto (-173), 3) := by decide +kernel
theorem dL_holds_248 : decode cL_holds 248 = .ok (.iconst 0, 1) := by decide +kernel
theorem dL_holds_249 : decode cL_holds 249 = .ok (.istore 5, 2) := by decide +kernel
theorem dL_holds_251 : decode cL_holds 251 = .ok (.iconst 0, 1) := by decide +kernel
theorem dL_holds_252 : decode cL_holds 252 = .ok (.istore 6, 2) := by decide +kernel
theorem dL_holds_254 : decode cL_holds 254 = .ok (.iconst 0, 1) := by decide +kernel
theorem dL_holds_255 : decode cL_holds 255 = .ok (.istore 7, 2) := by decide +kernel
theorem dL_holds_257 : decode cL_holds 257 = .ok (.iload 7, 2) := by decide +kernel
theorem dL_holds_259 : decode cL_holds 259 = .ok (.bipush 30, 2) := by decide +kernel
theorem dL_holds_261 : decode cL_holds 261 = .ok (.if_icmp .ge 135, 3) := by decide +kernel
theorem dL_holds_264 : decode cL_holds 264 = .ok (.iload 4, 2) := by decide +kernel
theorem dL_holds_266 : decode cL_holds 266 = .ok (.ifCond .eq 130, 3) := by decide +kernel
theorem dL_holds_269 : decode cL_holds 269 = .ok (.iload 7, 2) := by decide +kernel
theorem dL_holds_271 : decode cL_holds 271 = .ok (.aload_n 0, 1) := by decide +kernel
theorem dL_holds_272 : decode cL_holds 272 = .ok (.iconst 2, 1) := by decide +kernel
theorem dL_holds_273 : decode cL_holds 273 = .ok (.invokevirtual 9, 3) := by decide +kernel
theorem dL_holds_276 : decode cL_holds 276 = .ok (.if_icmp .ge 7, 3) := by decide +kernel
theorem dL_holds_279 : decode cL_holds 279 = .ok (.iconst 1, 1) := by decide +kernel
theorem dL_holds_280 : decode cL_holds 280 = .ok (.goto 4, 3) := by decide +kernel
theorem dL_holds_283 : decode cL_holds 283 = .ok (.iconst 0, 1) := by decide +kernel
theorem dL_holds_284 : decode cL_holds 284 = .ok (.istore 8, 2) := by decide +kernel
theorem dL_holds_286 : decode cL_holds 286 = .ok (.iload 5, 2) := by decide +kernel
theorem dL_holds_288 : decode cL_holds 288 = .ok (.iload 8, 2) := by decide +kernel
theorem dL_holds_290 : decode cL_holds 290 = .ok (.ifCond .eq 13, 3) := by decide +kernel
theorem dL_holds_293 : decode cL_holds 293 = .ok (.aload_n 0, 1) := by decide +kernel
theorem dL_holds_294 : decode cL_holds 294 = .ok (.iload 7, 2) := by decide +kernel
theorem dL_holds_296 : decode cL_holds 296 = .ok (.iconst 3, 1) := by decide +kernel
theorem dL_holds_297 : decode cL_holds 297 = .ok (.invokevirtual 19, 3) := by decide +kernel
theorem dL_holds_300 : decode cL_holds 300 = .ok (.goto 4, 3) := by decide +kernel
theorem dL_holds_303 : decode cL_holds 303 = .ok (.iconst 0, 1) := by decide +kernel
theorem dL_holds_304 : decode cL_holds 304 = .ok (.iadd, 1) := by decide +kernel
theorem dL_holds_305 : decode cL_holds 305 = .ok (.istore 5, 2) := by decide +kernel
theorem dL_holds_307 : decode cL_holds 307 = .ok (.iload 6, 2) := by decide +kernel
theorem dL_holds_309 : decode cL_holds 309 = .ok (.iload 8, 2) := by decide +kernel
theorem dL_holds_311 : decode cL_holds 311 = .ok (.ifCond .eq 13, 3) := by decide +kernel
theorem dL_holds_314 : decode cL_holds 314 = .ok (.aload_n 0, 1) := by decide +kernel
theorem dL_holds_315 : decode cL_holds 315 = .ok (.iload 7, 2) := by decide +kernel
theorem dL_holds_317 : decode cL_holds 317 = .ok (.iconst 4, 1) := by decide +kernel
theorem dL_holds_318 : decode cL_holds 318 = .ok (.invokevirtual 19, 3) := by decide +kernel
theorem dL_holds_321 : decode cL_holds 321 = .ok (.goto 4, 3) := by decide +kernel
theorem dL_holds_324 : decode cL_holds 324 = .ok (.iconst 0, 1) := by decide +kernel
theorem dL_holds_325 : decode cL_holds 325 = .ok (.iadd, 1) := by decide +kernel
theorem dL_holds_326 : decode cL_holds 326 = .ok (.istore 6, 2) := by decide +kernel
theorem dL_holds_328 : decode cL_holds 328 = .ok (.aload_n 0, 1) := by decide +kernel
theorem dL_holds_329 : decode cL_holds 329 = .ok (.iload 7, 2) := by decide +kernel
theorem dL_holds_331 : decode cL_holds 331 = .ok (.iconst 3, 1) := by decide +kernel
theorem dL_holds_332 : decode cL_holds 332 = .ok (.invokevirtual 19, 3) := by decide +kernel
theorem dL_holds_335 : decode cL_holds 335 = .ok (.ldc 22, 2) := by decide +kernel
theorem dL_holds_337 : decode cL_holds 337 = .ok (.if_icmp .eq 7, 3) := by decide +kernel
theorem dL_holds_340 : decode cL_holds 340 = .ok (.iconst 1, 1) := by decide +kernel
theorem dL_holds_341 : decode cL_holds 341 = .ok (.goto 4, 3) := by decide +kernel
theorem dL_holds_344 : decode cL_holds 344 = .ok (.iconst 0, 1) := by decide +kernel
theorem dL_holds_345 : decode cL_holds 345 = .ok (.iload 8, 2) := by decide +kernel
theorem dL_holds_347 : decode cL_holds 347 = .ok (.if_icmp .ne 40, 3) := by decide +kernel
theorem dL_holds_350 : decode cL_holds 350 = .ok (.aload_n 0, 1) := by decide +kernel
theorem dL_holds_351 : decode cL_holds 351 = .ok (.iload 7, 2) := by decide +kernel
theorem dL_holds_353 : decode cL_holds 353 = .ok (.iconst 2, 1) := by decide +kernel
theorem dL_holds_354 : decode cL_holds 354 = .ok (.invokevirtual 19, 3) := by decide +kernel
theorem dL_holds_357 : decode cL_holds 357 = .ok (.ifCond .lt 30, 3) := by decide +kernel
theorem dL_holds_360 : decode cL_holds 360 = .ok (.aload_n 0, 1) := by decide +kernel
theorem dL_holds_361 : decode cL_holds 361 = .ok (.iload 7, 2) := by decide +kernel
theorem dL_holds_363 : decode cL_holds 363 = .ok (.iconst 2, 1) := by decide +kernel
theorem dL_holds_364 : decode cL_holds 364 = .ok (.invokevirtual 19, 3) := by decide +kernel
theorem dL_holds_367 : decode cL_holds 367 = .ok (.aload_n 0, 1) := by decide +kernel
theorem dL_holds_368 : decode cL_holds 368 = .ok (.iload 7, 2) := by decide +kernel
theorem dL_holds_370 : decode cL_holds 370 = .ok (.iconst 0, 1) := by decide +kernel
theorem dL_holds_371 : decode cL_holds 371 = .ok (.invokevirtual 19, 3) := by decide +kernel
theorem dL_holds_374 : decode cL_holds 374 = .ok (.aload_n 0, 1) := by decide +kernel
theorem dL_holds_375 : decode cL_holds 375 = .ok (.iconst 5, 1) := by decide +kernel
theorem dL_holds_376 : decode cL_holds 376 = .ok (.invokevirtual 9, 3) := by decide +kernel
theorem dL_holds_379 : decode cL_holds 379 = .ok (.imul, 1) := by decide +kernel
theorem dL_holds_380 : decode cL_holds 380 = .ok (.if_icmp .gt 7, 3) := by decide +kernel
theorem dL_holds_383 : decode cL_holds 383 = .ok (.iconst 1, 1) := by decide +kernel
theorem dL_holds_384 : decode cL_holds 384 = .ok (.goto 4, 3) := by decide +kernel
theorem dL_holds_387 : decode cL_holds 387 = .ok (.iconst 0, 1) := by decide +kernel
theorem dL_holds_388 : decode cL_holds 388 = .ok (.istore 4, 2) := by decide +kernel
theorem dL_holds_390 : decode cL_holds 390 = .ok (.iinc 7 1, 3) := by decide +kernel
theorem dL_holds_393 : decode cL_holds 393 = .ok (.goto (-136), 3) := by decide +kernel
theorem dL_holds_396 : decode cL_holds 396 = .ok (.iconst 0, 1) := by decide +kernel
theorem dL_holds_397 : decode cL_holds 397 = .ok (.istore 7, 2) := by decide +kernel
theorem dL_holds_399 : decode cL_holds 399 = .ok (.iconst 0, 1) := by decide +kernel
theorem dL_holds_400 : decode cL_holds 400 = .ok (.istore 8, 2) := by decide +kernel
theorem dL_holds_402 : decode cL_holds 402 = .ok (.iload 8, 2) := by decide +kernel
theorem dL_holds_404 : decode cL_holds 404 = .ok (.bipush 6, 2) := by decide +kernel
theorem dL_holds_406 : decode cL_holds 406 = .ok (.if_icmp .ge 73, 3) := by decide +kernel
theorem dL_holds_409 : decode cL_holds 409 = .ok (.iload 4, 2) := by decide +kernel
theorem dL_holds_411 : decode cL_holds 411 = .ok (.ifCond .eq 68, 3) := by decide +kernel
theorem dL_holds_414 : decode cL_holds 414 = .ok (.iload 7, 2) := by decide +kernel
theorem dL_holds_416 : decode cL_holds 416 = .ok (.aload_n 0, 1) := by decide +kernel
theorem dL_holds_417 : decode cL_holds 417 = .ok (.iload 8, 2) := by decide +kernel
theorem dL_holds_419 : decode cL_holds 419 = .ok (.iconst 0, 1) := by decide +kernel
theorem dL_holds_420 : decode cL_holds 420 = .ok (.invokevirtual 23, 3) := by decide +kernel
theorem dL_holds_423 : decode cL_holds 423 = .ok (.iadd, 1) := by decide +kernel
theorem dL_holds_424 : decode cL_holds 424 = .ok (.istore 7, 2) := by decide +kernel
theorem dL_holds_426 : decode cL_holds 426 = .ok (.aload_n 0, 1) := by decide +kernel
theorem dL_holds_427 : decode cL_holds 427 = .ok (.iload 8, 2) := by decide +kernel
theorem dL_holds_429 : decode cL_holds 429 = .ok (.iconst 0, 1) := by decide +kernel
theorem dL_holds_430 : decode cL_holds 430 = .ok (.invokevirtual 23, 3) := by decide +kernel
theorem dL_holds_433 : decode cL_holds 433 = .ok (.ifCond .gt 23, 3) := by decide +kernel
theorem dL_holds_436 : decode cL_holds 436 = .ok (.aload_n 0, 1) := by decide +kernel
theorem dL_holds_437 : decode cL_holds 437 = .ok (.iload 8, 2) := by decide +kernel
theorem dL_holds_439 : decode cL_holds 439 = .ok (.invokevirtual 26, 3) := by decide +kernel
theorem dL_holds_442 : decode cL_holds 442 = .ok (.ldc 22, 2) := by decide +kernel
theorem dL_holds_444 : decode cL_holds 444 = .ok (.if_icmp .eq 12, 3) := by decide +kernel
theorem dL_holds_447 : decode cL_holds 447 = .ok (.aload_n 0, 1) := by decide +kernel
theorem dL_holds_448 : decode cL_holds 448 = .ok (.iload 8, 2) := by decide +kernel
theorem dL_holds_450 : decode cL_holds 450 = .ok (.invokevirtual 26, 3) := by decide +kernel
theorem dL_holds_453 : decode cL_holds 453 = .ok (.ifCond .lt 17, 3) := by decide +kernel
theorem dL_holds_456 : decode cL_holds 456 = .ok (.aload_n 0, 1) := by decide +kernel
theorem dL_holds_457 : decode cL_holds 457 = .ok (.iload 8, 2) := by decide +kernel
theorem dL_holds_459 : decode cL_holds 459 = .ok (.iconst 1, 1) := by decide +kernel
theorem dL_holds_460 : decode cL_holds 460 = .ok (.invokevirtual 23, 3) := by decide +kernel
theorem dL_holds_463 : decode cL_holds 463 = .ok (.ifCond .lt 7, 3) := by decide +kernel
theorem dL_holds_466 : decode cL_holds 466 = .ok (.iconst 1, 1) := by decide +kernel
theorem dL_holds_467 : decode cL_holds 467 = .ok (.goto 4, 3) := by decide +kernel
theorem dL_holds_470 : decode cL_holds 470 = .ok (.iconst 0, 1) := by decide +kernel
theorem dL_holds_471 : decode cL_holds 471 = .ok (.istore 4, 2) := by decide +kernel
theorem dL_holds_473 : decode cL_holds 473 = .ok (.iinc 8 1, 3) := by decide +kernel
theorem dL_holds_476 : decode cL_holds 476 = .ok (.goto (-74), 3) := by decide +kernel
theorem dL_holds_479 : decode cL_holds 479 = .ok (.iload 4, 2) := by decide +kernel
theorem dL_holds_481 : decode cL_holds 481 = .ok (.ifCond .eq 45, 3) := by decide +kernel
theorem dL_holds_484 : decode cL_holds 484 = .ok (.iload_n 2, 1) := by decide +kernel
theorem dL_holds_485 : decode cL_holds 485 = .ok (.aload_n 0, 1) := by decide +kernel
theorem dL_holds_486 : decode cL_holds 486 = .ok (.bipush 10, 2) := by decide +kernel
theorem dL_holds_488 : decode cL_holds 488 = .ok (.invokevirtual 9, 3) := by decide +kernel
theorem dL_holds_491 : decode cL_holds 491 = .ok (.if_icmp .ne 35, 3) := by decide +kernel
theorem dL_holds_494 : decode cL_holds 494 = .ok (.iload 5, 2) := by decide +kernel
theorem dL_holds_496 : decode cL_holds 496 = .ok (.iload_n 2, 1) := by decide +kernel
theorem dL_holds_497 : decode cL_holds 497 = .ok (.if_icmp .ne 29, 3) := by decide +kernel
theorem dL_holds_500 : decode cL_holds 500 = .ok (.iload 6, 2) := by decide +kernel
theorem dL_holds_502 : decode cL_holds 502 = .ok (.iload_n 1, 1) := by decide +kernel
theorem dL_holds_503 : decode cL_holds 503 = .ok (.if_icmp .ne 23, 3) := by decide +kernel
theorem dL_holds_506 : decode cL_holds 506 = .ok (.iload_n 3, 1) := by decide +kernel
theorem dL_holds_507 : decode cL_holds 507 = .ok (.aload_n 0, 1) := by decide +kernel
theorem dL_holds_508 : decode cL_holds 508 = .ok (.bipush 11, 2) := by decide +kernel
theorem dL_holds_510 : decode cL_holds 510 = .ok (.invokevirtual 9, 3) := by decide +kernel
theorem dL_holds_513 : decode cL_holds 513 = .ok (.if_icmp .ne 13, 3) := by decide +kernel
theorem dL_holds_516 : decode cL_holds 516 = .ok (.iload 7, 2) := by decide +kernel
theorem dL_holds_518 : decode cL_holds 518 = .ok (.iload_n 2, 1) := by decide +kernel
theorem dL_holds_519 : decode cL_holds 519 = .ok (.if_icmp .ne 7, 3) := by decide +kernel
theorem dL_holds_522 : decode cL_holds 522 = .ok (.iconst 1, 1) := by decide +kernel
theorem dL_holds_523 : decode cL_holds 523 = .ok (.goto 4, 3) := by decide +kernel
theorem dL_holds_526 : decode cL_holds 526 = .ok (.iconst 0, 1) := by decide +kernel
theorem dL_holds_527 : decode cL_holds 527 = .ok (.ireturn, 1) := by decide +kernel
theorem dL_prints_0 : decode cL_prints 0 = .ok (.aload_n 0, 1) := by decide +kernel
theorem dL_prints_1 : decode cL_prints 1 = .ok (.iconst 2, 1) := by decide +kernel
theorem dL_prints_2 : decode cL_prints 2 = .ok (.invokevirtual 9, 3) := by decide +kernel
theorem dL_prints_5 : decode cL_prints 5 = .ok (.bipush 30, 2) := by decide +kernel
theorem dL_prints_7 : decode cL_prints 7 = .ok (.if_icmp .ne 19, 3) := by decide +kernel
theorem dL_prints_10 : decode cL_prints 10 = .ok (.aload_n 0, 1) := by decide +kernel
theorem dL_prints_11 : decode cL_prints 11 = .ok (.iload_n 1, 1) := by decide +kernel
theorem dL_prints_12 : decode cL_prints 12 = .ok (.invokevirtual 29, 3) := by decide +kernel
theorem dL_prints_15 : decode cL_prints 15 = .ok (.ldc 32, 2) := by decide +kernel
theorem dL_prints_17 : decode cL_prints 17 = .ok (.if_icmp .ne 7, 3) := by decide +kernel
theorem dL_prints_20 : decode cL_prints 20 = .ok (.iconst 1, 1) := by decide +kernel
theorem dL_prints_21 : decode cL_prints 21 = .ok (.goto 4, 3) := by decide +kernel
theorem dL_prints_24 : decode cL_prints 24 = .ok (.iconst 0, 1) := by decide +kernel
theorem dL_prints_25 : decode cL_prints 25 = .ok (.ireturn, 1) := by decide +kernel
theorem dL_prints_26 : decode cL_prints 26 = .ok (.aload_n 0, 1) := by decide +kernel
theorem dL_prints_27 : decode cL_prints 27 = .ok (.iload_n 1, 1) := by decide +kernel
theorem dL_prints_28 : decode cL_prints 28 = .ok (.invokevirtual 29, 3) := by decide +kernel
theorem dL_prints_31 : decode cL_prints 31 = .ok (.istore_n 2, 1) := by decide +kernel
theorem dL_prints_32 : decode cL_prints 32 = .ok (.aload_n 0, 1) := by decide +kernel
theorem dL_prints_33 : decode cL_prints 33 = .ok (.iconst 1, 1) := by decide +kernel
theorem dL_prints_34 : decode cL_prints 34 = .ok (.invokevirtual 9, 3) := by decide +kernel
theorem dL_prints_37 : decode cL_prints 37 = .ok (.istore_n 3, 1) := by decide +kernel
theorem dL_prints_38 : decode cL_prints 38 = .ok (.aload_n 0, 1) := by decide +kernel
theorem dL_prints_39 : decode cL_prints 39 = .ok (.bipush 17, 2) := by decide +kernel
theorem dL_prints_41 : decode cL_prints 41 = .ok (.invokevirtual 9, 3) := by decide +kernel
theorem dL_prints_44 : decode cL_prints 44 = .ok (.istore 4, 2) := by decide +kernel
theorem dL_prints_46 : decode cL_prints 46 = .ok (.aload_n 0, 1) := by decide +kernel
theorem dL_prints_47 : decode cL_prints 47 = .ok (.bipush 15, 2) := by decide +kernel
theorem dL_prints_49 : decode cL_prints 49 = .ok (.invokevirtual 9, 3) := by decide +kernel
theorem dL_prints_52 : decode cL_prints 52 = .ok (.istore 5, 2) := by decide +kernel
theorem dL_prints_54 : decode cL_prints 54 = .ok (.aload_n 0, 1) := by decide +kernel
theorem dL_prints_55 : decode cL_prints 55 = .ok (.iload_n 1, 1) := by decide +kernel
theorem dL_prints_56 : decode cL_prints 56 = .ok (.invokevirtual 33, 3) := by decide +kernel
theorem dL_prints_59 : decode cL_prints 59 = .ok (.istore 6, 2) := by decide +kernel
theorem dL_prints_61 : decode cL_prints 61 = .ok (.iload_n 2, 1) := by decide +kernel
theorem dL_prints_62 : decode cL_prints 62 = .ok (.ifCond .le 34, 3) := by decide +kernel
theorem dL_prints_65 : decode cL_prints 65 = .ok (.iload 6, 2) := by decide +kernel
theorem dL_prints_67 : decode cL_prints 67 = .ok (.iload_n 2, 1) := by decide +kernel
theorem dL_prints_68 : decode cL_prints 68 = .ok (.iconst 1, 1) := by decide +kernel
theorem dL_prints_69 : decode cL_prints 69 = .ok (.if_icmp .ne 8, 3) := by decide +kernel
theorem dL_prints_72 : decode cL_prints 72 = .ok (.ldc 36, 2) := by decide +kernel
theorem dL_prints_74 : decode cL_prints 74 = .ok (.goto 5, 3) := by decide +kernel
theorem dL_prints_77 : decode cL_prints 77 = .ok (.ldc 32, 2) := by decide +kernel
theorem dL_prints_79 : decode cL_prints 79 = .ok (.if_icmp .ne 15, 3) := by decide +kernel
theorem dL_prints_82 : decode cL_prints 82 = .ok (.aload_n 0, 1) := by decide +kernel
theorem dL_prints_83 : decode cL_prints 83 = .ok (.iconst 4, 1) := by decide +kernel
theorem dL_prints_84 : decode cL_prints 84 = .ok (.invokevirtual 9, 3) := by decide +kernel
theorem dL_prints_87 : decode cL_prints 87 = .ok (.ifCond .ne 7, 3) := by decide +kernel
theorem dL_prints_90 : decode cL_prints 90 = .ok (.iconst 1, 1) := by decide +kernel
theorem dL_prints_91 : decode cL_prints 91 = .ok (.goto 4, 3) := by decide +kernel
theorem dL_prints_94 : decode cL_prints 94 = .ok (.iconst 0, 1) := by decide +kernel
theorem dL_prints_95 : decode cL_prints 95 = .ok (.ireturn, 1) := by decide +kernel
theorem dL_prints_96 : decode cL_prints 96 = .ok (.aload_n 0, 1) := by decide +kernel
theorem dL_prints_97 : decode cL_prints 97 = .ok (.iconst 3, 1) := by decide +kernel
theorem dL_prints_98 : decode cL_prints 98 = .ok (.invokevirtual 9, 3) := by decide +kernel
theorem dL_prints_101 : decode cL_prints 101 = .ok (.istore 7, 2) := by decide +kernel
theorem dL_prints_103 : decode cL_prints 103 = .ok (.iconst 0, 1) := by decide +kernel
theorem dL_prints_104 : decode cL_prints 104 = .ok (.istore 8, 2) := by decide +kernel
theorem dL_prints_106 : decode cL_prints 106 = .ok (.iload 6, 2) := by decide +kernel
theorem dL_prints_108 : decode cL_prints 108 = .ok (.ifCond .lt 58, 3) := by decide +kernel
theorem dL_prints_111 : decode cL_prints 111 = .ok (.aload_n 0, 1) := by decide +kernel
theorem dL_prints_112 : decode cL_prints 112 = .ok (.iconst 4, 1) := by decide +kernel
theorem dL_prints_113 : decode cL_prints 113 = .ok (.invokevirtual 9, 3) := by decide +kernel
theorem dL_prints_116 : decode cL_prints 116 = .ok (.iload_n 1, 1) := by decide +kernel
theorem dL_prints_117 : decode cL_prints 117 = .ok (.if_icmp .ne 49, 3) := by decide +kernel
theorem dL_prints_120 : decode cL_prints 120 = .ok (.aload_n 0, 1) := by decide +kernel
theorem dL_prints_121 : decode cL_prints 121 = .ok (.iconst 1, 1) := by decide +kernel
theorem dL_prints_122 : decode cL_prints 122 = .ok (.invokevirtual 33, 3) := by decide +kernel
theorem dL_prints_125 : decode cL_prints 125 = .ok (.ldc 32, 2) := by decide +kernel
theorem dL_prints_127 : decode cL_prints 127 = .ok (.if_icmp .ne 39, 3) := by decide +kernel
theorem dL_prints_130 : decode cL_prints 130 = .ok (.aload_n 0, 1) := by decide +kernel
theorem dL_prints_131 : decode cL_prints 131 = .ok (.invokevirtual 37, 3) := by decide +kernel
theorem dL_prints_134 : decode cL_prints 134 = .ok (.ldc 32, 2) := by decide +kernel
theorem dL_prints_136 : decode cL_prints 136 = .ok (.if_icmp .ne 30, 3) := by decide +kernel
theorem dL_prints_139 : decode cL_prints 139 = .ok (.aload_n 0, 1) := by decide +kernel
theorem dL_prints_140 : decode cL_prints 140 = .ok (.invokevirtual 41, 3) := by decide +kernel
theorem dL_prints_143 : decode cL_prints 143 = .ok (.ldc 32, 2) := by decide +kernel
theorem dL_prints_145 : decode cL_prints 145 = .ok (.if_icmp .ne 21, 3) := by decide +kernel
theorem dL_prints_148 : decode cL_prints 148 = .ok (.aload_n 0, 1) := by decide +kernel
theorem dL_prints_149 : decode cL_prints 149 = .ok (.iload_n 3, 1) := by decide +kernel
theorem dL_prints_150 : decode cL_prints 150 = .ok (.iconst 1, 1) := by decide +kernel
theorem dL_prints_151 : decode cL_prints 151 = .ok (.iconst 0, 1) := by decide +kernel
theorem dL_prints_152 : decode cL_prints 152 = .ok (.iconst 0, 1) := by decide +kernel
theorem dL_prints_153 : decode cL_prints 153 = .ok (.iconst 0, 1) := by decide +kernel
theorem dL_prints_154 : decode cL_prints 154 = .ok (.invokevirtual 44, 3) := by decide +kernel
theorem dL_prints_157 : decode cL_prints 157 = .ok (.ldc 32, 2) := by decide +kernel
theorem dL_prints_159 : decode cL_prints 159 = .ok (.if_icmp .ne 7, 3) := by decide +kernel
theorem dL_prints_162 : decode cL_prints 162 = .ok (.iconst 1, 1) := by decide +kernel
theorem dL_prints_163 : decode cL_prints 163 = .ok (.goto 4, 3) := by decide +kernel
theorem dL_prints_166 : decode cL_prints 166 = .ok (.iconst 0, 1) := by decide +kernel
theorem dL_prints_167 : decode cL_prints 167 = .ok (.istore 9, 2) := by decide +kernel
theorem dL_prints_169 : decode cL_prints 169 = .ok (.iload_n 3, 1) := by decide +kernel
theorem dL_prints_170 : decode cL_prints 170 = .ok (.istore 10, 2) := by decide +kernel
theorem dL_prints_172 : decode cL_prints 172 = .ok (.iload 10, 2) := by decide +kernel
theorem dL_prints_174 : decode cL_prints 174 = .ok (.iload_n 3, 1) := by decide +kernel
theorem dL_prints_175 : decode cL_prints 175 = .ok (.iload_n 1, 1) := by decide +kernel
theorem dL_prints_176 : decode cL_prints 176 = .ok (.iadd, 1) := by decide +kernel
theorem dL_prints_177 : decode cL_prints 177 = .ok (.if_icmp .ge 26, 3) := by decide +kernel
theorem dL_prints_180 : decode cL_prints 180 = .ok (.iload 9, 2) := by decide +kernel
theorem dL_prints_182 : decode cL_prints 182 = .ok (.ifCond .eq 21, 3) := by decide +kernel
theorem dL_prints_185 : decode cL_prints 185 = .ok (.iload 8, 2) := by decide +kernel
theorem dL_prints_187 : decode cL_prints 187 = .ok (.aload_n 0, 1) := by decide +kernel
theorem dL_prints_188 : decode cL_prints 188 = .ok (.iload_n 1, 1) := by decide +kernel
theorem dL_prints_189 : decode cL_prints 189 = .ok (.iload 10, 2) := by decide +kernel
theorem dL_prints_191 : decode cL_prints 191 = .ok (.invokevirtual 48, 3) := by decide +kernel
theorem dL_prints_194 : decode cL_prints 194 = .ok (.iadd, 1) := by decide +kernel
theorem dL_prints_195 : decode cL_prints 195 = .ok (.istore 8, 2) := by decide +kernel
theorem dL_prints_197 : decode cL_prints 197 = .ok (.iinc 10 1, 3) := by decide +kernel
theorem dL_prints_200 : decode cL_prints 200 = .ok (.goto (-28), 3) := by decide +kernel
theorem dL_prints_203 : decode cL_prints 203 = .ok (.iload 9, 2) := by decide +kernel
theorem dL_prints_205 : decode cL_prints 205 = .ok (.ifCond .eq 50, 3) := by decide +kernel
theorem dL_prints_208 : decode cL_prints 208 = .ok (.iload 8, 2) := by decide +kernel
theorem dL_prints_210 : decode cL_prints 210 = .ok (.iload 7, 2) := by decide +kernel
theorem dL_prints_212 : decode cL_prints 212 = .ok (.if_icmp .ne 43, 3) := by decide +kernel
theorem dL_prints_215 : decode cL_prints 215 = .ok (.aload_n 0, 1) := by decide +kernel
theorem dL_prints_216 : decode cL_prints 216 = .ok (.invokevirtual 51, 3) := by decide +kernel
theorem dL_prints_219 : decode cL_prints 219 = .ok (.iload 6, 2) := by decide +kernel
theorem dL_prints_221 : decode cL_prints 221 = .ok (.if_icmp .ne 34, 3) := by decide +kernel
theorem dL_prints_224 : decode cL_prints 224 = .ok (.aload_n 0, 1) := by decide +kernel
theorem dL_prints_225 : decode cL_prints 225 = .ok (.iconst 1, 1) := by decide +kernel
theorem dL_prints_226 : decode cL_prints 226 = .ok (.invokevirtual 9, 3) := by decide +kernel
theorem dL_prints_229 : decode cL_prints 229 = .ok (.iload_n 3, 1) := by decide +kernel
theorem dL_prints_230 : decode cL_prints 230 = .ok (.iload_n 1, 1) := by decide +kernel
theorem dL_prints_231 : decode cL_prints 231 = .ok (.iadd, 1) := by decide +kernel
theorem dL_prints_232 : decode cL_prints 232 = .ok (.if_icmp .ne 23, 3) := by decide +kernel
theorem dL_prints_235 : decode cL_prints 235 = .ok (.aload_n 0, 1) := by decide +kernel
theorem dL_prints_236 : decode cL_prints 236 = .ok (.iconst 4, 1) := by decide +kernel
theorem dL_prints_237 : decode cL_prints 237 = .ok (.invokevirtual 9, 3) := by decide +kernel
theorem dL_prints_240 : decode cL_prints 240 = .ok (.ifCond .ne 15, 3) := by decide +kernel
theorem dL_prints_243 : decode cL_prints 243 = .ok (.aload_n 0, 1) := by decide +kernel
theorem dL_prints_244 : decode cL_prints 244 = .ok (.iconst 3, 1) := by decide +kernel
theorem dL_prints_245 : decode cL_prints 245 = .ok (.invokevirtual 9, 3) := by decide +kernel
theorem dL_prints_248 : decode cL_prints 248 = .ok (.ifCond .ne 7, 3) := by decide +kernel
theorem dL_prints_251 : decode cL_prints 251 = .ok (.iconst 1, 1) := by decide +kernel
theorem dL_prints_252 : decode cL_prints 252 = .ok (.goto 4, 3) := by decide +kernel
theorem dL_prints_255 : decode cL_prints 255 = .ok (.iconst 0, 1) := by decide +kernel
theorem dL_prints_256 : decode cL_prints 256 = .ok (.istore 9, 2) := by decide +kernel
theorem dL_prints_258 : decode cL_prints 258 = .ok (.iload_n 3, 1) := by decide +kernel
theorem dL_prints_259 : decode cL_prints 259 = .ok (.iload_n 1, 1) := by decide +kernel
theorem dL_prints_260 : decode cL_prints 260 = .ok (.iadd, 1) := by decide +kernel
theorem dL_prints_261 : decode cL_prints 261 = .ok (.aload_n 0, 1) := by decide +kernel
theorem dL_prints_262 : decode cL_prints 262 = .ok (.iconst 0, 1) := by decide +kernel
theorem dL_prints_263 : decode cL_prints 263 = .ok (.invokevirtual 9, 3) := by decide +kernel
theorem dL_prints_266 : decode cL_prints 266 = .ok (.if_icmp .ne 7, 3) := by decide +kernel
theorem dL_prints_269 : decode cL_prints 269 = .ok (.iconst 1, 1) := by decide +kernel
theorem dL_prints_270 : decode cL_prints 270 = .ok (.goto 4, 3) := by decide +kernel
theorem dL_prints_273 : decode cL_prints 273 = .ok (.iconst 0, 1) := by decide +kernel
theorem dL_prints_274 : decode cL_prints 274 = .ok (.istore 10, 2) := by decide +kernel
theorem dL_prints_276 : decode cL_prints 276 = .ok (.iload 9, 2) := by decide +kernel
theorem dL_prints_278 : decode cL_prints 278 = .ok (.ifCond .eq 77, 3) := by decide +kernel
theorem dL_prints_281 : decode cL_prints 281 = .ok (.iload 10, 2) := by decide +kernel
theorem dL_prints_283 : decode cL_prints 283 = .ok (.ifCond .ne 33, 3) := by decide +kernel
theorem dL_prints_286 : decode cL_prints 286 = .ok (.aload_n 0, 1) := by decide +kernel
theorem dL_prints_287 : decode cL_prints 287 = .ok (.bipush 17, 2) := by decide +kernel
theorem dL_prints_289 : decode cL_prints 289 = .ok (.invokevirtual 9, 3) := by decide +kernel
theorem dL_prints_292 : decode cL_prints 292 = .ok (.iload 4, 2) := by decide +kernel
theorem dL_prints_294 : decode cL_prints 294 = .ok (.if_icmp .eq 61, 3) := by decide +kernel
theorem dL_prints_297 : decode cL_prints 297 = .ok (.aload_n 0, 1) := by decide +kernel
theorem dL_prints_298 : decode cL_prints 298 = .ok (.iload_n 3, 1) := by decide +kernel
theorem dL_prints_299 : decode cL_prints 299 = .ok (.iload_n 1, 1) := by decide +kernel
theorem dL_prints_300 : decode cL_prints 300 = .ok (.iadd, 1) := by decide +kernel
theorem dL_prints_301 : decode cL_prints 301 = .ok (.iconst 1, 1) := by decide +kernel
theorem dL_prints_302 : decode cL_prints 302 = .ok (.isub, 1) := by decide +kernel
theorem dL_prints_303 : decode cL_prints 303 = .ok (.iconst 3, 1) := by decide +kernel
theorem dL_prints_304 : decode cL_prints 304 = .ok (.invokevirtual 15, 3) := by decide +kernel
theorem dL_prints_307 : decode cL_prints 307 = .ok (.aload_n 0, 1) := by decide +kernel
theorem dL_prints_308 : decode cL_prints 308 = .ok (.bipush 6, 2) := by decide +kernel
theorem dL_prints_310 : decode cL_prints 310 = .ok (.invokevirtual 9, 3) := by decide +kernel
theorem dL_prints_313 : decode cL_prints 313 = .ok (.if_icmp .lt 42, 3) := by decide +kernel
theorem dL_prints_316 : decode cL_prints 316 = .ok (.aload_n 0, 1) := by decide +kernel
theorem dL_prints_317 : decode cL_prints 317 = .ok (.bipush 15, 2) := by decide +kernel
theorem dL_prints_319 : decode cL_prints 319 = .ok (.invokevirtual 9, 3) := by decide +kernel
theorem dL_prints_322 : decode cL_prints 322 = .ok (.iload 5, 2) := by decide +kernel
theorem dL_prints_324 : decode cL_prints 324 = .ok (.aload_n 0, 1) := by decide +kernel
theorem dL_prints_325 : decode cL_prints 325 = .ok (.bipush 8, 2) := by decide +kernel
theorem dL_prints_327 : decode cL_prints 327 = .ok (.invokevirtual 9, 3) := by decide +kernel
theorem dL_prints_330 : decode cL_prints 330 = .ok (.iload 6, 2) := by decide +kernel
theorem dL_prints_332 : decode cL_prints 332 = .ok (.imul, 1) := by decide +kernel
theorem dL_prints_333 : decode cL_prints 333 = .ok (.iadd, 1) := by decide +kernel
theorem dL_prints_334 : decode cL_prints 334 = .ok (.bipush 10, 2) := by decide +kernel
theorem dL_prints_336 : decode cL_prints 336 = .ok (.aload_n 0, 1) := by decide +kernel
theorem dL_prints_337 : decode cL_prints 337 = .ok (.iload_n 3, 1) := by decide +kernel
theorem dL_prints_338 : decode cL_prints 338 = .ok (.iload_n 1, 1) := by decide +kernel
theorem dL_prints_339 : decode cL_prints 339 = .ok (.iadd, 1) := by decide +kernel
theorem dL_prints_340 : decode cL_prints 340 = .ok (.iconst 1, 1) := by decide +kernel
theorem dL_prints_341 : decode cL_prints 341 = .ok (.isub, 1) := by decide +kernel
theorem dL_prints_342 : decode cL_prints 342 = .ok (.iconst 3, 1) := by decide +kernel
theorem dL_prints_343 : decode cL_prints 343 = .ok (.invokevirtual 15, 3) := by decide +kernel
theorem dL_prints_346 : decode cL_prints 346 = .ok (.imul, 1) := by decide +kernel
theorem dL_prints_347 : decode cL_prints 347 = .ok (.iadd, 1) := by decide +kernel
theorem dL_prints_348 : decode cL_prints 348 = .ok (.if_icmp .ne 7, 3) := by decide +kernel
theorem dL_prints_351 : decode cL_prints 351 = .ok (.iconst 1, 1) := by decide +kernel
theorem dL_prints_352 : decode cL_prints 352 = .ok (.goto 4, 3) := by decide +kernel
theorem dL_prints_355 : decode cL_prints 355 = .ok (.iconst 0, 1) := by decide +kernel
theorem dL_prints_356 : decode cL_prints 356 = .ok (.ireturn, 1) := by decide +kernel
theorem dL_late_0 : decode cL_late 0 = .ok (.aload_n 0, 1) := by decide +kernel
theorem dL_late_1 : decode cL_late 1 = .ok (.iconst 2, 1) := by decide +kernel
theorem dL_late_2 : decode cL_late 2 = .ok (.invokevirtual 9, 3) := by decide +kernel
theorem dL_late_5 : decode cL_late 5 = .ok (.bipush 30, 2) := by decide +kernel
theorem dL_late_7 : decode cL_late 7 = .ok (.if_icmp .eq 11, 3) := by decide +kernel
theorem dL_late_10 : decode cL_late 10 = .ok (.aload_n 0, 1) := by decide +kernel
theorem dL_late_11 : decode cL_late 11 = .ok (.iload_n 1, 1) := by decide +kernel
theorem dL_late_12 : decode cL_late 12 = .ok (.invokevirtual 33, 3) := by decide +kernel
theorem dL_late_15 : decode cL_late 15 = .ok (.ifCond .ge 5, 3) := by decide +kernel
theorem dL_late_18 : decode cL_late 18 = .ok (.iconst 1, 1) := by decide +kernel
theorem dL_late_19 : decode cL_late 19 = .ok (.ireturn, 1) := by decide +kernel
theorem dL_late_20 : decode cL_late 20 = .ok (.aload_n 0, 1) := by decide +kernel
theorem dL_late_21 : decode cL_late 21 = .ok (.bipush 14, 2) := by decide +kernel
theorem dL_late_23 : decode cL_late 23 = .ok (.invokevirtual 9, 3) := by decide +kernel
theorem dL_late_26 : decode cL_late 26 = .ok (.istore_n 3, 1) := by decide +kernel
theorem dL_late_27 : decode cL_late 27 = .ok (.aload_n 0, 1) := by decide +kernel
theorem dL_late_28 : decode cL_late 28 = .ok (.iload_n 2, 1) := by decide +kernel
theorem dL_late_29 : decode cL_late 29 = .ok (.invokevirtual 54, 3) := by decide +kernel
theorem dL_late_32 : decode cL_late 32 = .ok (.ifCond .lt 19, 3) := by decide +kernel
theorem dL_late_35 : decode cL_late 35 = .ok (.aload_n 0, 1) := by decide +kernel
theorem dL_late_36 : decode cL_late 36 = .ok (.bipush 14, 2) := by decide +kernel
theorem dL_late_38 : decode cL_late 38 = .ok (.invokevirtual 9, 3) := by decide +kernel
theorem dL_late_41 : decode cL_late 41 = .ok (.iload_n 3, 1) := by decide +kernel
theorem dL_late_42 : decode cL_late 42 = .ok (.iconst 1, 1) := by decide +kernel
theorem dL_late_43 : decode cL_late 43 = .ok (.iadd, 1) := by decide +kernel
theorem dL_late_44 : decode cL_late 44 = .ok (.if_icmp .ne 7, 3) := by decide +kernel
theorem dL_late_47 : decode cL_late 47 = .ok (.iconst 1, 1) := by decide +kernel
theorem dL_late_48 : decode cL_late 48 = .ok (.goto 4, 3) := by decide +kernel
theorem dL_late_51 : decode cL_late 51 = .ok (.iconst 0, 1) := by decide +kernel
theorem dL_late_52 : decode cL_late 52 = .ok (.istore 4, 2) := by decide +kernel
theorem dL_late_54 : decode cL_late 54 = .ok (.aload_n 0, 1) := by decide +kernel
theorem dL_late_55 : decode cL_late 55 = .ok (.iload_n 1, 1) := by decide +kernel
theorem dL_late_56 : decode cL_late 56 = .ok (.invokevirtual 29, 3) := by decide +kernel
theorem dL_late_59 : decode cL_late 59 = .ok (.istore 5, 2) := by decide +kernel
theorem dL_late_61 : decode cL_late 61 = .ok (.aload_n 0, 1) := by decide +kernel
theorem dL_late_62 : decode cL_late 62 = .ok (.invokevirtual 37, 3) := by decide +kernel
theorem dL_late_65 : decode cL_late 65 = .ok (.istore 6, 2) := by decide +kernel
theorem dL_late_67 : decode cL_late 67 = .ok (.iload 4, 2) := by decide +kernel
theorem dL_late_69 : decode cL_late 69 = .ok (.ifCond .eq 48, 3) := by decide +kernel
theorem dL_late_72 : decode cL_late 72 = .ok (.iload 5, 2) := by decide +kernel
theorem dL_late_74 : decode cL_late 74 = .ok (.ifCond .ne 13, 3) := by decide +kernel
theorem dL_late_77 : decode cL_late 77 = .ok (.iload 6, 2) := by decide +kernel
theorem dL_late_79 : decode cL_late 79 = .ok (.ldc 32, 2) := by decide +kernel
theorem dL_late_81 : decode cL_late 81 = .ok (.if_icmp .ne 36, 3) := by decide +kernel
theorem dL_late_84 : decode cL_late 84 = .ok (.goto 29, 3) := by decide +kernel
theorem dL_late_87 : decode cL_late 87 = .ok (.iload 6, 2) := by decide +kernel
theorem dL_late_89 : decode cL_late 89 = .ok (.ldc 32, 2) := by decide +kernel
theorem dL_late_91 : decode cL_late 91 = .ok (.if_icmp .eq 22, 3) := by decide +kernel
theorem dL_late_94 : decode cL_late 94 = .ok (.aload_n 0, 1) := by decide +kernel
theorem dL_late_95 : decode cL_late 95 = .ok (.iload 6, 2) := by decide +kernel
theorem dL_late_97 : decode cL_late 97 = .ok (.invokevirtual 29, 3) := by decide +kernel
theorem dL_late_100 : decode cL_late 100 = .ok (.ifCond .ne 17, 3) := by decide +kernel
theorem dL_late_103 : decode cL_late 103 = .ok (.aload_n 0, 1) := by decide +kernel
theorem dL_late_104 : decode cL_late 104 = .ok (.iconst 4, 1) := by decide +kernel
theorem dL_late_105 : decode cL_late 105 = .ok (.invokevirtual 9, 3) := by decide +kernel
theorem dL_late_108 : decode cL_late 108 = .ok (.iload 6, 2) := by decide +kernel
theorem dL_late_110 : decode cL_late 110 = .ok (.if_icmp .ne 7, 3) := by decide +kernel
theorem dL_late_113 : decode cL_late 113 = .ok (.iconst 1, 1) := by decide +kernel
theorem dL_late_114 : decode cL_late 114 = .ok (.goto 4, 3) := by decide +kernel
theorem dL_late_117 : decode cL_late 117 = .ok (.iconst 0, 1) := by decide +kernel
theorem dL_late_118 : decode cL_late 118 = .ok (.istore 4, 2) := by decide +kernel
theorem dL_late_120 : decode cL_late 120 = .ok (.iload 5, 2) := by decide +kernel
theorem dL_late_122 : decode cL_late 122 = .ok (.ifCond .eq 8, 3) := by decide +kernel
theorem dL_late_125 : decode cL_late 125 = .ok (.iload 6, 2) := by decide +kernel
theorem dL_late_127 : decode cL_late 127 = .ok (.ifCond .le 7, 3) := by decide +kernel
theorem dL_late_130 : decode cL_late 130 = .ok (.iconst 1, 1) := by decide +kernel
theorem dL_late_131 : decode cL_late 131 = .ok (.goto 4, 3) := by decide +kernel
theorem dL_late_134 : decode cL_late 134 = .ok (.iconst 0, 1) := by decide +kernel
theorem dL_late_135 : decode cL_late 135 = .ok (.istore 7, 2) := by decide +kernel
theorem dL_late_137 : decode cL_late 137 = .ok (.iload 4, 2) := by decide +kernel
theorem dL_late_139 : decode cL_late 139 = .ok (.ifCond .eq 36, 3) := by decide +kernel
theorem dL_late_142 : decode cL_late 142 = .ok (.iload 7, 2) := by decide +kernel
theorem dL_late_144 : decode cL_late 144 = .ok (.ifCond .ne 12, 3) := by decide +kernel
theorem dL_late_147 : decode cL_late 147 = .ok (.aload_n 0, 1) := by decide +kernel
theorem dL_late_148 : decode cL_late 148 = .ok (.invokevirtual 51, 3) := by decide +kernel
theorem dL_late_151 : decode cL_late 151 = .ok (.ldc 32, 2) := by decide +kernel
theorem dL_late_153 : decode cL_late 153 = .ok (.if_icmp .ne 22, 3) := by decide +kernel
theorem dL_late_156 : decode cL_late 156 = .ok (.aload_n 0, 1) := by decide +kernel
theorem dL_late_157 : decode cL_late 157 = .ok (.invokevirtual 57, 3) := by decide +kernel
theorem dL_late_160 : decode cL_late 160 = .ok (.ifCond .le 15, 3) := by decide +kernel
theorem dL_late_163 : decode cL_late 163 = .ok (.aload_n 0, 1) := by decide +kernel
theorem dL_late_164 : decode cL_late 164 = .ok (.iconst 4, 1) := by decide +kernel
theorem dL_late_165 : decode cL_late 165 = .ok (.invokevirtual 9, 3) := by decide +kernel
theorem dL_late_168 : decode cL_late 168 = .ok (.ifCond .ne 7, 3) := by decide +kernel
theorem dL_late_171 : decode cL_late 171 = .ok (.iconst 1, 1) := by decide +kernel
theorem dL_late_172 : decode cL_late 172 = .ok (.goto 4, 3) := by decide +kernel
theorem dL_late_175 : decode cL_late 175 = .ok (.iconst 0, 1) := by decide +kernel
theorem dL_late_176 : decode cL_late 176 = .ok (.ireturn, 1) := by decide +kernel
theorem dL_law_0 : decode cL_law 0 = .ok (.new 10, 3) := by decide +kernel
theorem dL_law_3 : decode cL_law 3 = .ok (.dup, 1) := by decide +kernel
theorem dL_law_4 : decode cL_law 4 = .ok (.invokespecial 60, 3) := by decide +kernel
theorem dL_law_7 : decode cL_law 7 = .ok (.astore_n 1, 1) := by decide +kernel
theorem dL_law_8 : decode cL_law 8 = .ok (.aload_n 1, 1) := by decide +kernel
theorem dL_law_9 : decode cL_law 9 = .ok (.invokestatic 61, 3) := by decide +kernel
theorem dL_law_12 : decode cL_law 12 = .ok (.ifCond .eq 56, 3) := by decide +kernel
theorem dL_law_15 : decode cL_law 15 = .ok (.aload_n 1, 1) := by decide +kernel
theorem dL_law_16 : decode cL_law 16 = .ok (.invokevirtual 67, 3) := by decide +kernel
theorem dL_law_19 : decode cL_law 19 = .ok (.ldc 32, 2) := by decide +kernel
theorem dL_law_21 : decode cL_law 21 = .ok (.if_icmp .ne 47, 3) := by decide +kernel
theorem dL_law_24 : decode cL_law 24 = .ok (.aload_n 1, 1) := by decide +kernel
theorem dL_law_25 : decode cL_law 25 = .ok (.iconst 0, 1) := by decide +kernel
theorem dL_law_26 : decode cL_law 26 = .ok (.bipush 60, 2) := by decide +kernel
theorem dL_law_28 : decode cL_law 28 = .ok (.aload_n 0, 1) := by decide +kernel
theorem dL_law_29 : decode cL_law 29 = .ok (.iconst 0, 1) := by decide +kernel
theorem dL_law_30 : decode cL_law 30 = .ok (.invokestatic 70, 3) := by decide +kernel
theorem dL_law_33 : decode cL_law 33 = .ok (.sipush 200, 3) := by decide +kernel
theorem dL_law_36 : decode cL_law 36 = .ok (.irem, 1) := by decide +kernel
theorem dL_law_37 : decode cL_law 37 = .ok (.iadd, 1) := by decide +kernel
theorem dL_law_38 : decode cL_law 38 = .ok (.invokevirtual 74, 3) := by decide +kernel
theorem dL_law_41 : decode cL_law 41 = .ok (.sipush 300, 3) := by decide +kernel
theorem dL_law_44 : decode cL_law 44 = .ok (.if_icmp .ne 24, 3) := by decide +kernel
theorem dL_law_47 : decode cL_law 47 = .ok (.aload_n 1, 1) := by decide +kernel
theorem dL_law_48 : decode cL_law 48 = .ok (.iconst 1, 1) := by decide +kernel
theorem dL_law_49 : decode cL_law 49 = .ok (.aload_n 0, 1) := by decide +kernel
theorem dL_law_50 : decode cL_law 50 = .ok (.iconst 1, 1) := by decide +kernel
theorem dL_law_51 : decode cL_law 51 = .ok (.invokestatic 70, 3) := by decide +kernel
theorem dL_law_54 : decode cL_law 54 = .ok (.bipush 6, 2) := by decide +kernel
theorem dL_law_56 : decode cL_law 56 = .ok (.irem, 1) := by decide +kernel
theorem dL_law_57 : decode cL_law 57 = .ok (.invokevirtual 74, 3) := by decide +kernel
theorem dL_law_60 : decode cL_law 60 = .ok (.iconst 5, 1) := by decide +kernel
theorem dL_law_61 : decode cL_law 61 = .ok (.if_icmp .ne 7, 3) := by decide +kernel
theorem dL_law_64 : decode cL_law 64 = .ok (.iconst 1, 1) := by decide +kernel
theorem dL_law_65 : decode cL_law 65 = .ok (.goto 4, 3) := by decide +kernel
theorem dL_law_68 : decode cL_law 68 = .ok (.iconst 0, 1) := by decide +kernel
theorem dL_law_69 : decode cL_law 69 = .ok (.istore_n 2, 1) := by decide +kernel
theorem dL_law_70 : decode cL_law 70 = .ok (.iconst 0, 1) := by decide +kernel
theorem dL_law_71 : decode cL_law 71 = .ok (.istore_n 3, 1) := by decide +kernel
theorem dL_law_72 : decode cL_law 72 = .ok (.iload_n 3, 1) := by decide +kernel
theorem dL_law_73 : decode cL_law 73 = .ok (.bipush 7, 2) := by decide +kernel
theorem dL_law_75 : decode cL_law 75 = .ok (.if_icmp .ge 85, 3) := by decide +kernel
theorem dL_law_78 : decode cL_law 78 = .ok (.iload_n 2, 1) := by decide +kernel
theorem dL_law_79 : decode cL_law 79 = .ok (.ifCond .eq 81, 3) := by decide +kernel
theorem dL_law_82 : decode cL_law 82 = .ok (.aload_n 0, 1) := by decide +kernel
theorem dL_law_83 : decode cL_law 83 = .ok (.iconst 2, 1) := by decide +kernel
theorem dL_law_84 : decode cL_law 84 = .ok (.iload_n 3, 1) := by decide +kernel
theorem dL_law_85 : decode cL_law 85 = .ok (.iadd, 1) := by decide +kernel
theorem dL_law_86 : decode cL_law 86 = .ok (.invokestatic 70, 3) := by decide +kernel
theorem dL_law_89 : decode cL_law 89 = .ok (.istore 4, 2) := by decide +kernel
theorem dL_law_91 : decode cL_law 91 = .ok (.bipush 40, 2) := by decide +kernel
theorem dL_law_93 : decode cL_law 93 = .ok (.iload 4, 2) := by decide +kernel
theorem dL_law_95 : decode cL_law 95 = .ok (.sipush 150, 3) := by decide +kernel
theorem dL_law_98 : decode cL_law 98 = .ok (.irem, 1) := by decide +kernel
theorem dL_law_99 : decode cL_law 99 = .ok (.iadd, 1) := by decide +kernel
theorem dL_law_100 : decode cL_law 100 = .ok (.istore 5, 2) := by decide +kernel
theorem dL_law_102 : decode cL_law 102 = .ok (.aload_n 1, 1) := by decide +kernel
theorem dL_law_103 : decode cL_law 103 = .ok (.iload_n 3, 1) := by decide +kernel
theorem dL_law_104 : decode cL_law 104 = .ok (.iload 5, 2) := by decide +kernel
theorem dL_law_106 : decode cL_law 106 = .ok (.iload 4, 2) := by decide +kernel
theorem dL_law_108 : decode cL_law 108 = .ok (.sipush 256, 3) := by decide +kernel
theorem dL_law_111 : decode cL_law 111 = .ok (.idiv, 1) := by decide +kernel
theorem dL_law_112 : decode cL_law 112 = .ok (.iload 5, 2) := by decide +kernel
theorem dL_law_114 : decode cL_law 114 = .ok (.irem, 1) := by decide +kernel
theorem dL_law_115 : decode cL_law 115 = .ok (.iload 4, 2) := by decide +kernel
theorem dL_law_117 : decode cL_law 117 = .ok (.sipush 1024, 3) := by decide +kernel
theorem dL_law_120 : decode cL_law 120 = .ok (.idiv, 1) := by decide +kernel
theorem dL_law_121 : decode cL_law 121 = .ok (.iconst 4, 1) := by decide +kernel
theorem dL_law_122 : decode cL_law 122 = .ok (.irem, 1) := by decide +kernel
theorem dL_law_123 : decode cL_law 123 = .ok (.iload 4, 2) := by decide +kernel
theorem dL_law_125 : decode cL_law 125 = .ok (.sipush 8192, 3) := by decide +kernel
theorem dL_law_128 : decode cL_law 128 = .ok (.idiv, 1) := by decide +kernel
theorem dL_law_129 : decode cL_law 129 = .ok (.bipush 10, 2) := by decide +kernel
theorem dL_law_131 : decode cL_law 131 = .ok (.irem, 1) := by decide +kernel
theorem dL_law_132 : decode cL_law 132 = .ok (.invokevirtual 44, 3) := by decide +kernel
theorem dL_law_135 : decode cL_law 135 = .ok (.iload_n 3, 1) := by decide +kernel
theorem dL_law_136 : decode cL_law 136 = .ok (.iconst 1, 1) := by decide +kernel
theorem dL_law_137 : decode cL_law 137 = .ok (.iadd, 1) := by decide +kernel
theorem dL_law_138 : decode cL_law 138 = .ok (.if_icmp .ne 14, 3) := by decide +kernel
theorem dL_law_141 : decode cL_law 141 = .ok (.aload_n 1, 1) := by decide +kernel
theorem dL_law_142 : decode cL_law 142 = .ok (.invokestatic 61, 3) := by decide +kernel
theorem dL_law_145 : decode cL_law 145 = .ok (.ifCond .eq 7, 3) := by decide +kernel
theorem dL_law_148 : decode cL_law 148 = .ok (.iconst 1, 1) := by decide +kernel
theorem dL_law_149 : decode cL_law 149 = .ok (.goto 4, 3) := by decide +kernel
theorem dL_law_152 : decode cL_law 152 = .ok (.iconst 0, 1) := by decide +kernel
theorem dL_law_153 : decode cL_law 153 = .ok (.istore_n 2, 1) := by decide +kernel
theorem dL_law_154 : decode cL_law 154 = .ok (.iinc 3 1, 3) := by decide +kernel
theorem dL_law_157 : decode cL_law 157 = .ok (.goto (-85), 3) := by decide +kernel
theorem dL_law_160 : decode cL_law 160 = .ok (.iconst 0, 1) := by decide +kernel
theorem dL_law_161 : decode cL_law 161 = .ok (.istore_n 3, 1) := by decide +kernel
theorem dL_law_162 : decode cL_law 162 = .ok (.iload_n 3, 1) := by decide +kernel
theorem dL_law_163 : decode cL_law 163 = .ok (.bipush 26, 2) := by decide +kernel
theorem dL_law_165 : decode cL_law 165 = .ok (.if_icmp .ge 387, 3) := by decide +kernel
theorem dL_law_168 : decode cL_law 168 = .ok (.iload_n 2, 1) := by decide +kernel
theorem dL_law_169 : decode cL_law 169 = .ok (.ifCond .eq 383, 3) := by decide +kernel
theorem dL_law_172 : decode cL_law 172 = .ok (.aload_n 0, 1) := by decide +kernel
theorem dL_law_173 : decode cL_law 173 = .ok (.bipush 9, 2) := by decide +kernel
theorem dL_law_175 : decode cL_law 175 = .ok (.iload_n 3, 1) := by decide +kernel
theorem dL_law_176 : decode cL_law 176 = .ok (.iadd, 1) := by decide +kernel
theorem dL_law_177 : decode cL_law 177 = .ok (.invokestatic 70, 3) := by decide +kernel
theorem dL_law_180 : decode cL_law 180 = .ok (.istore 4, 2) := by decide +kernel
theorem dL_law_182 : decode cL_law 182 = .ok (.iload 4, 2) := by decide +kernel
theorem dL_law_184 : decode cL_law 184 = .ok (.bipush 8, 2) := by decide +kernel
theorem dL_law_186 : decode cL_law 186 = .ok (.idiv, 1) := by decide +kernel
theorem dL_law_187 : decode cL_law 187 = .ok (.istore 5, 2) := by decide +kernel
theorem dL_law_189 : decode cL_law 189 = .ok (.aload_n 1, 1) := by decide +kernel
theorem dL_law_190 : decode cL_law 190 = .ok (.iconst 1, 1) := by decide +kernel
theorem dL_law_191 : decode cL_law 191 = .ok (.invokevirtual 9, 3) := by decide +kernel
theorem dL_law_194 : decode cL_law 194 = .ok (.istore 6, 2) := by decide +kernel
theorem dL_law_196 : decode cL_law 196 = .ok (.iload 4, 2) := by decide +kernel
theorem dL_law_198 : decode cL_law 198 = .ok (.bipush 8, 2) := by decide +kernel
theorem dL_law_200 : decode cL_law 200 = .ok (.irem, 1) := by decide +kernel
theorem dL_law_201 : decode cL_law 201 = .ok (.tableswitch 278 0 6 #[43, 77, 122, 122, 136, 157, 217], 43) := by decide +kernel
theorem dL_law_244 : decode cL_law 244 = .ok (.aload_n 1, 1) := by decide +kernel
theorem dL_law_245 : decode cL_law 245 = .ok (.iload 5, 2) := by decide +kernel
theorem dL_law_247 : decode cL_law 247 = .ok (.iconst 3, 1) := by decide +kernel
theorem dL_law_248 : decode cL_law 248 = .ok (.irem, 1) := by decide +kernel
theorem dL_law_249 : decode cL_law 249 = .ok (.ifCond .ne 7, 3) := by decide +kernel
theorem dL_law_252 : decode cL_law 252 = .ok (.iconst 0, 1) := by decide +kernel
theorem dL_law_253 : decode cL_law 253 = .ok (.goto 10, 3) := by decide +kernel
theorem dL_law_256 : decode cL_law 256 = .ok (.iload 5, 2) := by decide +kernel
theorem dL_law_258 : decode cL_law 258 = .ok (.iconst 3, 1) := by decide +kernel
theorem dL_law_259 : decode cL_law 259 = .ok (.idiv, 1) := by decide +kernel
theorem dL_law_260 : decode cL_law 260 = .ok (.bipush 80, 2) := by decide +kernel
theorem dL_law_262 : decode cL_law 262 = .ok (.irem, 1) := by decide +kernel
theorem dL_law_263 : decode cL_law 263 = .ok (.invokevirtual 54, 3) := by decide +kernel
theorem dL_law_266 : decode cL_law 266 = .ok (.ifCond .lt 7, 3) := by decide +kernel
theorem dL_law_269 : decode cL_law 269 = .ok (.iconst 1, 1) := by decide +kernel
theorem dL_law_270 : decode cL_law 270 = .ok (.goto 4, 3) := by decide +kernel
theorem dL_law_273 : decode cL_law 273 = .ok (.iconst 0, 1) := by decide +kernel
theorem dL_law_274 : decode cL_law 274 = .ok (.istore_n 2, 1) := by decide +kernel
theorem dL_law_275 : decode cL_law 275 = .ok (.goto 254, 3) := by decide +kernel
theorem dL_law_278 : decode cL_law 278 = .ok (.aload_n 1, 1) := by decide +kernel
theorem dL_law_279 : decode cL_law 279 = .ok (.iconst 2, 1) := by decide +kernel
theorem dL_law_280 : decode cL_law 280 = .ok (.invokevirtual 9, 3) := by decide +kernel
theorem dL_law_283 : decode cL_law 283 = .ok (.bipush 30, 2) := by decide +kernel
theorem dL_law_285 : decode cL_law 285 = .ok (.if_icmp .eq 29, 3) := by decide +kernel
theorem dL_law_288 : decode cL_law 288 = .ok (.aload_n 1, 1) := by decide +kernel
theorem dL_law_289 : decode cL_law 289 = .ok (.aload_n 1, 1) := by decide +kernel
theorem dL_law_290 : decode cL_law 290 = .ok (.iconst 2, 1) := by decide +kernel
theorem dL_law_291 : decode cL_law 291 = .ok (.invokevirtual 9, 3) := by decide +kernel
theorem dL_law_294 : decode cL_law 294 = .ok (.iconst 1, 1) := by decide +kernel
theorem dL_law_295 : decode cL_law 295 = .ok (.iload 5, 2) := by decide +kernel
theorem dL_law_297 : decode cL_law 297 = .ok (.iconst 4, 1) := by decide +kernel
theorem dL_law_298 : decode cL_law 298 = .ok (.irem, 1) := by decide +kernel
theorem dL_law_299 : decode cL_law 299 = .ok (.iadd, 1) := by decide +kernel
theorem dL_law_300 : decode cL_law 300 = .ok (.iload 5, 2) := by decide +kernel
theorem dL_law_302 : decode cL_law 302 = .ok (.iconst 4, 1) := by decide +kernel
theorem dL_law_303 : decode cL_law 303 = .ok (.idiv, 1) := by decide +kernel
theorem dL_law_304 : decode cL_law 304 = .ok (.sipush 200, 3) := by decide +kernel
theorem dL_law_307 : decode cL_law 307 = .ok (.irem, 1) := by decide +kernel
theorem dL_law_308 : decode cL_law 308 = .ok (.invokevirtual 77, 3) := by decide +kernel
theorem dL_law_311 : decode cL_law 311 = .ok (.ifCond .lt 7, 3) := by decide +kernel
theorem dL_law_314 : decode cL_law 314 = .ok (.iconst 1, 1) := by decide +kernel
theorem dL_law_315 : decode cL_law 315 = .ok (.goto 4, 3) := by decide +kernel
theorem dL_law_318 : decode cL_law 318 = .ok (.iconst 0, 1) := by decide +kernel
theorem dL_law_319 : decode cL_law 319 = .ok (.istore_n 2, 1) := by decide +kernel
theorem dL_law_320 : decode cL_law 320 = .ok (.goto 209, 3) := by decide +kernel
theorem dL_law_323 : decode cL_law 323 = .ok (.aload_n 1, 1) := by decide +kernel
theorem dL_law_324 : decode cL_law 324 = .ok (.iconst 1, 1) := by decide +kernel
theorem dL_law_325 : decode cL_law 325 = .ok (.iload 5, 2) := by decide +kernel
theorem dL_law_327 : decode cL_law 327 = .ok (.iconst 4, 1) := by decide +kernel
theorem dL_law_328 : decode cL_law 328 = .ok (.irem, 1) := by decide +kernel
theorem dL_law_329 : decode cL_law 329 = .ok (.iadd, 1) := by decide +kernel
theorem dL_law_330 : decode cL_law 330 = .ok (.invokestatic 81, 3) := by decide +kernel
theorem dL_law_333 : decode cL_law 333 = .ok (.istore_n 2, 1) := by decide +kernel
theorem dL_law_334 : decode cL_law 334 = .ok (.goto 195, 3) := by decide +kernel
theorem dL_law_337 : decode cL_law 337 = .ok (.aload_n 1, 1) := by decide +kernel
theorem dL_law_338 : decode cL_law 338 = .ok (.iconst 1, 1) := by decide +kernel
theorem dL_law_339 : decode cL_law 339 = .ok (.iload 5, 2) := by decide +kernel
theorem dL_law_341 : decode cL_law 341 = .ok (.iconst 4, 1) := by decide +kernel
theorem dL_law_342 : decode cL_law 342 = .ok (.irem, 1) := by decide +kernel
theorem dL_law_343 : decode cL_law 343 = .ok (.iadd, 1) := by decide +kernel
theorem dL_law_344 : decode cL_law 344 = .ok (.iload 5, 2) := by decide +kernel
theorem dL_law_346 : decode cL_law 346 = .ok (.iconst 4, 1) := by decide +kernel
theorem dL_law_347 : decode cL_law 347 = .ok (.idiv, 1) := by decide +kernel
theorem dL_law_348 : decode cL_law 348 = .ok (.bipush 90, 2) := by decide +kernel
theorem dL_law_350 : decode cL_law 350 = .ok (.irem, 1) := by decide +kernel
theorem dL_law_351 : decode cL_law 351 = .ok (.invokestatic 85, 3) := by decide +kernel
theorem dL_law_354 : decode cL_law 354 = .ok (.istore_n 2, 1) := by decide +kernel
theorem dL_law_355 : decode cL_law 355 = .ok (.goto 174, 3) := by decide +kernel
theorem dL_law_358 : decode cL_law 358 = .ok (.aload_n 1, 1) := by decide +kernel
theorem dL_law_359 : decode cL_law 359 = .ok (.bipush 9, 2) := by decide +kernel
theorem dL_law_361 : decode cL_law 361 = .ok (.invokevirtual 9, 3) := by decide +kernel
theorem dL_law_364 : decode cL_law 364 = .ok (.istore 7, 2) := by decide +kernel
theorem dL_law_366 : decode cL_law 366 = .ok (.aload_n 1, 1) := by decide +kernel
theorem dL_law_367 : decode cL_law 367 = .ok (.iconst 2, 1) := by decide +kernel
theorem dL_law_368 : decode cL_law 368 = .ok (.invokevirtual 9, 3) := by decide +kernel
theorem dL_law_371 : decode cL_law 371 = .ok (.bipush 30, 2) := by decide +kernel
theorem dL_law_373 : decode cL_law 373 = .ok (.if_icmp .ne 20, 3) := by decide +kernel
theorem dL_law_376 : decode cL_law 376 = .ok (.aload_n 1, 1) := by decide +kernel
theorem dL_law_377 : decode cL_law 377 = .ok (.invokevirtual 41, 3) := by decide +kernel
theorem dL_law_380 : decode cL_law 380 = .ok (.ldc 32, 2) := by decide +kernel
theorem dL_law_382 : decode cL_law 382 = .ok (.if_icmp .ne 7, 3) := by decide +kernel
theorem dL_law_385 : decode cL_law 385 = .ok (.iconst 1, 1) := by decide +kernel
theorem dL_law_386 : decode cL_law 386 = .ok (.goto 28, 3) := by decide +kernel
theorem dL_law_389 : decode cL_law 389 = .ok (.iconst 0, 1) := by decide +kernel
theorem dL_law_390 : decode cL_law 390 = .ok (.goto 24, 3) := by decide +kernel
theorem dL_law_393 : decode cL_law 393 = .ok (.aload_n 1, 1) := by decide +kernel
theorem dL_law_394 : decode cL_law 394 = .ok (.invokevirtual 41, 3) := by decide +kernel
theorem dL_law_397 : decode cL_law 397 = .ok (.iload 7, 2) := by decide +kernel
theorem dL_law_399 : decode cL_law 399 = .ok (.aload_n 1, 1) := by decide +kernel
theorem dL_law_400 : decode cL_law 400 = .ok (.bipush 7, 2) := by decide +kernel
theorem dL_law_402 : decode cL_law 402 = .ok (.invokevirtual 9, 3) := by decide +kernel
theorem dL_law_405 : decode cL_law 405 = .ok (.iadd, 1) := by decide +kernel
theorem dL_law_406 : decode cL_law 406 = .ok (.if_icmp .ne 7, 3) := by decide +kernel
theorem dL_law_409 : decode cL_law 409 = .ok (.iconst 1, 1) := by decide +kernel
theorem dL_law_410 : decode cL_law 410 = .ok (.goto 4, 3) := by decide +kernel
theorem dL_law_413 : decode cL_law 413 = .ok (.iconst 0, 1) := by decide +kernel
theorem dL_law_414 : decode cL_law 414 = .ok (.istore_n 2, 1) := by decide +kernel
theorem dL_law_415 : decode cL_law 415 = .ok (.goto 114, 3) := by decide +kernel
theorem dL_law_418 : decode cL_law 418 = .ok (.aload_n 1, 1) := by decide +kernel
theorem dL_law_419 : decode cL_law 419 = .ok (.iconst 0, 1) := by decide +kernel
theorem dL_law_420 : decode cL_law 420 = .ok (.invokevirtual 9, 3) := by decide +kernel
theorem dL_law_423 : decode cL_law 423 = .ok (.bipush 20, 2) := by decide +kernel
theorem dL_law_425 : decode cL_law 425 = .ok (.if_icmp .eq 45, 3) := by decide +kernel
theorem dL_law_428 : decode cL_law 428 = .ok (.aload_n 1, 1) := by decide +kernel
theorem dL_law_429 : decode cL_law 429 = .ok (.iload 6, 2) := by decide +kernel
theorem dL_law_431 : decode cL_law 431 = .ok (.bipush 30, 2) := by decide +kernel
theorem dL_law_433 : decode cL_law 433 = .ok (.iload 5, 2) := by decide +kernel
theorem dL_law_435 : decode cL_law 435 = .ok (.bipush 90, 2) := by decide +kernel
theorem dL_law_437 : decode cL_law 437 = .ok (.irem, 1) := by decide +kernel
theorem dL_law_438 : decode cL_law 438 = .ok (.iadd, 1) := by decide +kernel
theorem dL_law_439 : decode cL_law 439 = .ok (.iload 5, 2) := by decide +kernel
theorem dL_law_441 : decode cL_law 441 = .ok (.sipush 128, 3) := by decide +kernel
theorem dL_law_444 : decode cL_law 444 = .ok (.idiv, 1) := by decide +kernel
theorem dL_law_445 : decode cL_law 445 = .ok (.bipush 20, 2) := by decide +kernel
theorem dL_law_447 : decode cL_law 447 = .ok (.irem, 1) := by decide +kernel
theorem dL_law_448 : decode cL_law 448 = .ok (.iload 5, 2) := by decide +kernel
theorem dL_law_450 : decode cL_law 450 = .ok (.sipush 4096, 3) := by decide +kernel
theorem dL_law_453 : decode cL_law 453 = .ok (.idiv, 1) := by decide +kernel
theorem dL_law_454 : decode cL_law 454 = .ok (.iconst 5, 1) := by decide +kernel
theorem dL_law_455 : decode cL_law 455 = .ok (.irem, 1) := by decide +kernel
theorem dL_law_456 : decode cL_law 456 = .ok (.iload 5, 2) := by decide +kernel
theorem dL_law_458 : decode cL_law 458 = .ok (.ldc 89, 2) := by decide +kernel
theorem dL_law_460 : decode cL_law 460 = .ok (.idiv, 1) := by decide +kernel
theorem dL_law_461 : decode cL_law 461 = .ok (.bipush 10, 2) := by decide +kernel
theorem dL_law_463 : decode cL_law 463 = .ok (.irem, 1) := by decide +kernel
theorem dL_law_464 : decode cL_law 464 = .ok (.invokevirtual 44, 3) := by decide +kernel
theorem dL_law_467 : decode cL_law 467 = .ok (.ifCond .le 7, 3) := by decide +kernel
theorem dL_law_470 : decode cL_law 470 = .ok (.iconst 1, 1) := by decide +kernel
theorem dL_law_471 : decode cL_law 471 = .ok (.goto 4, 3) := by decide +kernel
theorem dL_law_474 : decode cL_law 474 = .ok (.iconst 0, 1) := by decide +kernel
theorem dL_law_475 : decode cL_law 475 = .ok (.istore_n 2, 1) := by decide +kernel
theorem dL_law_476 : decode cL_law 476 = .ok (.goto 53, 3) := by decide +kernel
theorem dL_law_479 : decode cL_law 479 = .ok (.iload 6, 2) := by decide +kernel
theorem dL_law_481 : decode cL_law 481 = .ok (.aload_n 1, 1) := by decide +kernel
theorem dL_law_482 : decode cL_law 482 = .ok (.iconst 0, 1) := by decide +kernel
theorem dL_law_483 : decode cL_law 483 = .ok (.invokevirtual 9, 3) := by decide +kernel
theorem dL_law_486 : decode cL_law 486 = .ok (.if_icmp .ne 22, 3) := by decide +kernel
theorem dL_law_489 : decode cL_law 489 = .ok (.aload_n 1, 1) := by decide +kernel
theorem dL_law_490 : decode cL_law 490 = .ok (.iload 6, 2) := by decide +kernel
theorem dL_law_492 : decode cL_law 492 = .ok (.invokevirtual 90, 3) := by decide +kernel
theorem dL_law_495 : decode cL_law 495 = .ok (.ldc 36, 2) := by decide +kernel
theorem dL_law_497 : decode cL_law 497 = .ok (.if_icmp .ne 7, 3) := by decide +kernel
theorem dL_law_500 : decode cL_law 500 = .ok (.iconst 1, 1) := by decide +kernel
theorem dL_law_501 : decode cL_law 501 = .ok (.goto 27, 3) := by decide +kernel
theorem dL_law_504 : decode cL_law 504 = .ok (.iconst 0, 1) := by decide +kernel
theorem dL_law_505 : decode cL_law 505 = .ok (.goto 23, 3) := by decide +kernel
theorem dL_law_508 : decode cL_law 508 = .ok (.aload_n 1, 1) := by decide +kernel
theorem dL_law_509 : decode cL_law 509 = .ok (.iload 6, 2) := by decide +kernel
theorem dL_law_511 : decode cL_law 511 = .ok (.iconst 3, 1) := by decide +kernel
theorem dL_law_512 : decode cL_law 512 = .ok (.iload 5, 2) := by decide +kernel
theorem dL_law_514 : decode cL_law 514 = .ok (.bipush 10, 2) := by decide +kernel
theorem dL_law_516 : decode cL_law 516 = .ok (.irem, 1) := by decide +kernel
theorem dL_law_517 : decode cL_law 517 = .ok (.invokevirtual 93, 3) := by decide +kernel
theorem dL_law_520 : decode cL_law 520 = .ok (.ifCond .lt 7, 3) := by decide +kernel
theorem dL_law_523 : decode cL_law 523 = .ok (.iconst 1, 1) := by decide +kernel
theorem dL_law_524 : decode cL_law 524 = .ok (.goto 4, 3) := by decide +kernel
theorem dL_law_527 : decode cL_law 527 = .ok (.iconst 0, 1) := by decide +kernel
theorem dL_law_528 : decode cL_law 528 = .ok (.istore_n 2, 1) := by decide +kernel
theorem dL_law_529 : decode cL_law 529 = .ok (.iload_n 2, 1) := by decide +kernel
theorem dL_law_530 : decode cL_law 530 = .ok (.ifCond .eq 14, 3) := by decide +kernel
theorem dL_law_533 : decode cL_law 533 = .ok (.aload_n 1, 1) := by decide +kernel
theorem dL_law_534 : decode cL_law 534 = .ok (.invokestatic 61, 3) := by decide +kernel
theorem dL_law_537 : decode cL_law 537 = .ok (.ifCond .eq 7, 3) := by decide +kernel
theorem dL_law_540 : decode cL_law 540 = .ok (.iconst 1, 1) := by decide +kernel
theorem dL_law_541 : decode cL_law 541 = .ok (.goto 4, 3) := by decide +kernel
theorem dL_law_544 : decode cL_law 544 = .ok (.iconst 0, 1) := by decide +kernel
theorem dL_law_545 : decode cL_law 545 = .ok (.istore_n 2, 1) := by decide +kernel
theorem dL_law_546 : decode cL_law 546 = .ok (.iinc 3 1, 3) := by decide +kernel
theorem dL_law_549 : decode cL_law 549 = .ok (.goto (-387), 3) := by decide +kernel
theorem dL_law_552 : decode cL_law 552 = .ok (.aload_n 1, 1) := by decide +kernel
theorem dL_law_553 : decode cL_law 553 = .ok (.bipush 10, 2) := by decide +kernel
theorem dL_law_555 : decode cL_law 555 = .ok (.invokevirtual 9, 3) := by decide +kernel
theorem dL_law_558 : decode cL_law 558 = .ok (.istore_n 3, 1) := by decide +kernel
theorem dL_law_559 : decode cL_law 559 = .ok (.aload_n 1, 1) := by decide +kernel
theorem dL_law_560 : decode cL_law 560 = .ok (.iconst 2, 1) := by decide +kernel
theorem dL_law_561 : decode cL_law 561 = .ok (.invokevirtual 9, 3) := by decide +kernel
theorem dL_law_564 : decode cL_law 564 = .ok (.istore 4, 2) := by decide +kernel
theorem dL_law_566 : decode cL_law 566 = .ok (.iload_n 2, 1) := by decide +kernel
theorem dL_law_567 : decode cL_law 567 = .ok (.ifCond .eq 74, 3) := by decide +kernel
theorem dL_law_570 : decode cL_law 570 = .ok (.aload_n 1, 1) := by decide +kernel
theorem dL_law_571 : decode cL_law 571 = .ok (.iconst 1, 1) := by decide +kernel
theorem dL_law_572 : decode cL_law 572 = .ok (.invokevirtual 96, 3) := by decide +kernel
theorem dL_law_575 : decode cL_law 575 = .ok (.ifCond .lt 66, 3) := by decide +kernel
theorem dL_law_578 : decode cL_law 578 = .ok (.iload 4, 2) := by decide +kernel
theorem dL_law_580 : decode cL_law 580 = .ok (.bipush 30, 2) := by decide +kernel
theorem dL_law_582 : decode cL_law 582 = .ok (.if_icmp .eq 13, 3) := by decide +kernel
theorem dL_law_585 : decode cL_law 585 = .ok (.aload_n 1, 1) := by decide +kernel
theorem dL_law_586 : decode cL_law 586 = .ok (.invokevirtual 41, 3) := by decide +kernel
theorem dL_law_589 : decode cL_law 589 = .ok (.sipush (-1000), 3) := by decide +kernel
theorem dL_law_592 : decode cL_law 592 = .ok (.if_icmp .le 49, 3) := by decide +kernel
theorem dL_law_595 : decode cL_law 595 = .ok (.aload_n 1, 1) := by decide +kernel
theorem dL_law_596 : decode cL_law 596 = .ok (.iconst 1, 1) := by decide +kernel
theorem dL_law_597 : decode cL_law 597 = .ok (.invokevirtual 99, 3) := by decide +kernel
theorem dL_law_600 : decode cL_law 600 = .ok (.ifCond .lt 41, 3) := by decide +kernel
theorem dL_law_603 : decode cL_law 603 = .ok (.aload_n 1, 1) := by decide +kernel
theorem dL_law_604 : decode cL_law 604 = .ok (.iconst 2, 1) := by decide +kernel
theorem dL_law_605 : decode cL_law 605 = .ok (.invokevirtual 9, 3) := by decide +kernel
theorem dL_law_608 : decode cL_law 608 = .ok (.iload 4, 2) := by decide +kernel
theorem dL_law_610 : decode cL_law 610 = .ok (.if_icmp .ne 31, 3) := by decide +kernel
theorem dL_law_613 : decode cL_law 613 = .ok (.aload_n 1, 1) := by decide +kernel
theorem dL_law_614 : decode cL_law 614 = .ok (.bipush 10, 2) := by decide +kernel
theorem dL_law_616 : decode cL_law 616 = .ok (.invokevirtual 9, 3) := by decide +kernel
theorem dL_law_619 : decode cL_law 619 = .ok (.iload_n 3, 1) := by decide +kernel
theorem dL_law_620 : decode cL_law 620 = .ok (.if_icmp .ne 21, 3) := by decide +kernel
theorem dL_law_623 : decode cL_law 623 = .ok (.aload_n 1, 1) := by decide +kernel
theorem dL_law_624 : decode cL_law 624 = .ok (.invokevirtual 67, 3) := by decide +kernel
theorem dL_law_627 : decode cL_law 627 = .ok (.ifCond .lt 14, 3) := by decide +kernel
theorem dL_law_630 : decode cL_law 630 = .ok (.aload_n 1, 1) := by decide +kernel
theorem dL_law_631 : decode cL_law 631 = .ok (.invokestatic 61, 3) := by decide +kernel
theorem dL_law_634 : decode cL_law 634 = .ok (.ifCond .eq 7, 3) := by decide +kernel
theorem dL_law_637 : decode cL_law 637 = .ok (.iconst 1, 1) := by decide +kernel
theorem dL_law_638 : decode cL_law 638 = .ok (.goto 4, 3) := by decide +kernel
theorem dL_law_641 : decode cL_law 641 = .ok (.iconst 0, 1) := by decide +kernel
theorem dL_law_642 : decode cL_law 642 = .ok (.ireturn, 1) := by decide +kernel
