theorem dX0_init_0 : decode cX0_init 0 = .ok (.aload_n 0, 1) := by decide +kernel
theorem dX0_init_1 : decode cX0_init 1 = .ok (.invokespecial 3, 3) := by decide +kernel
theorem dX0_init_4 : decode cX0_init 4 = .ok (.aload_n 0, 1) := by decide +kernel
theorem dX0_init_5 : decode cX0_init 5 = .ok (.bipush 6, 2) := by decide +kernel
theorem dX0_init_7 : decode cX0_init 7 = .ok (.anewarray 9, 3) := by decide +kernel
theorem dX0_init_10 : decode cX0_init 10 = .ok (.putfield 11, 3) := by decide +kernel
theorem dX0_init_13 : decode cX0_init 13 = .ok (.aload_n 0, 1) := by decide +kernel
theorem dX0_init_14 : decode cX0_init 14 = .ok (.iconst 0, 1) := by decide +kernel
theorem dX0_init_15 : decode cX0_init 15 = .ok (.putfield 17, 3) := by decide +kernel
theorem dX0_init_18 : decode cX0_init 18 = .ok (.iconst 0, 1) := by decide +kernel
theorem dX0_init_19 : decode cX0_init 19 = .ok (.istore_n 1, 1) := by decide +kernel
theorem dX0_init_20 : decode cX0_init 20 = .ok (.iload_n 1, 1) := by decide +kernel
theorem dX0_init_21 : decode cX0_init 21 = .ok (.bipush 6, 2) := by decide +kernel
theorem dX0_init_23 : decode cX0_init 23 = .ok (.if_icmp .ge 22, 3) := by decide +kernel
theorem dX0_init_26 : decode cX0_init 26 = .ok (.aload_n 0, 1) := by decide +kernel
theorem dX0_init_27 : decode cX0_init 27 = .ok (.getfield 11, 3) := by decide +kernel
theorem dX0_init_30 : decode cX0_init 30 = .ok (.iload_n 1, 1) := by decide +kernel
theorem dX0_init_31 : decode cX0_init 31 = .ok (.new 9, 3) := by decide +kernel
theorem dX0_init_34 : decode cX0_init 34 = .ok (.dup, 1) := by decide +kernel
theorem dX0_init_35 : decode cX0_init 35 = .ok (.invokespecial 21, 3) := by decide +kernel
theorem dX0_init_38 : decode cX0_init 38 = .ok (.aastore, 1) := by decide +kernel
theorem dX0_init_39 : decode cX0_init 39 = .ok (.iinc 1 1, 3) := by decide +kernel
theorem dX0_init_42 : decode cX0_init 42 = .ok (.goto (-22), 3) := by decide +kernel
theorem dX0_init_45 : decode cX0_init 45 = .ok (.return_, 1) := by decide +kernel
theorem dX0_record_0 : decode cX0_record 0 = .ok (.aload_n 0, 1) := by decide +kernel
theorem dX0_record_1 : decode cX0_record 1 = .ok (.getfield 17, 3) := by decide +kernel
theorem dX0_record_4 : decode cX0_record 4 = .ok (.bipush 6, 2) := by decide +kernel
theorem dX0_record_6 : decode cX0_record 6 = .ok (.if_icmp .ne 7, 3) := by decide +kernel
theorem dX0_record_9 : decode cX0_record 9 = .ok (.aload_n 0, 1) := by decide +kernel
theorem dX0_record_10 : decode cX0_record 10 = .ok (.invokevirtual 22, 3) := by decide +kernel
theorem dX0_record_13 : decode cX0_record 13 = .ok (.aload_n 0, 1) := by decide +kernel
theorem dX0_record_14 : decode cX0_record 14 = .ok (.getfield 11, 3) := by decide +kernel
theorem dX0_record_17 : decode cX0_record 17 = .ok (.aload_n 0, 1) := by decide +kernel
theorem dX0_record_18 : decode cX0_record 18 = .ok (.getfield 17, 3) := by decide +kernel
theorem dX0_record_21 : decode cX0_record 21 = .ok (.aaload, 1) := by decide +kernel
theorem dX0_record_22 : decode cX0_record 22 = .ok (.aload_n 1, 1) := by decide +kernel
theorem dX0_record_23 : decode cX0_record 23 = .ok (.invokevirtual 25, 3) := by decide +kernel
theorem dX0_record_26 : decode cX0_record 26 = .ok (.aload_n 0, 1) := by decide +kernel
theorem dX0_record_27 : decode cX0_record 27 = .ok (.dup, 1) := by decide +kernel
theorem dX0_record_28 : decode cX0_record 28 = .ok (.getfield 17, 3) := by decide +kernel
theorem dX0_record_31 : decode cX0_record 31 = .ok (.iconst 1, 1) := by decide +kernel
theorem dX0_record_32 : decode cX0_record 32 = .ok (.iadd, 1) := by decide +kernel
theorem dX0_record_33 : decode cX0_record 33 = .ok (.putfield 17, 3) := by decide +kernel
theorem dX0_record_36 : decode cX0_record 36 = .ok (.return_, 1) := by decide +kernel
theorem dX0_dropOldest_0 : decode cX0_dropOldest 0 = .ok (.aload_n 0, 1) := by decide +kernel
theorem dX0_dropOldest_1 : decode cX0_dropOldest 1 = .ok (.getfield 11, 3) := by decide +kernel
theorem dX0_dropOldest_4 : decode cX0_dropOldest 4 = .ok (.iconst 0, 1) := by decide +kernel
theorem dX0_dropOldest_5 : decode cX0_dropOldest 5 = .ok (.aaload, 1) := by decide +kernel
theorem dX0_dropOldest_6 : decode cX0_dropOldest 6 = .ok (.astore_n 1, 1) := by decide +kernel
theorem dX0_dropOldest_7 : decode cX0_dropOldest 7 = .ok (.iconst 1, 1) := by decide +kernel
theorem dX0_dropOldest_8 : decode cX0_dropOldest 8 = .ok (.istore_n 2, 1) := by decide +kernel
theorem dX0_dropOldest_9 : decode cX0_dropOldest 9 = .ok (.iload_n 2, 1) := by decide +kernel
theorem dX0_dropOldest_10 : decode cX0_dropOldest 10 = .ok (.bipush 6, 2) := by decide +kernel
theorem dX0_dropOldest_12 : decode cX0_dropOldest 12 = .ok (.if_icmp .ge 23, 3) := by decide +kernel
theorem dX0_dropOldest_15 : decode cX0_dropOldest 15 = .ok (.aload_n 0, 1) := by decide +kernel
theorem dX0_dropOldest_16 : decode cX0_dropOldest 16 = .ok (.getfield 11, 3) := by decide +kernel
theorem dX0_dropOldest_19 : decode cX0_dropOldest 19 = .ok (.iload_n 2, 1) := by decide +kernel
theorem dX0_dropOldest_20 : decode cX0_dropOldest 20 = .ok (.iconst 1, 1) := by decide +kernel
theorem dX0_dropOldest_21 : decode cX0_dropOldest 21 = .ok (.isub, 1) := by decide +kernel
theorem dX0_dropOldest_22 : decode cX0_dropOldest 22 = .ok (.aload_n 0, 1) := by decide +kernel
theorem dX0_dropOldest_23 : decode cX0_dropOldest 23 = .ok (.getfield 11, 3) := by decide +kernel
theorem dX0_dropOldest_26 : decode cX0_dropOldest 26 = .ok (.iload_n 2, 1) := by decide +kernel
theorem dX0_dropOldest_27 : decode cX0_dropOldest 27 = .ok (.aaload, 1) := by decide +kernel
theorem dX0_dropOldest_28 : decode cX0_dropOldest 28 = .ok (.aastore, 1) := by decide +kernel
theorem dX0_dropOldest_29 : decode cX0_dropOldest 29 = .ok (.iinc 2 1, 3) := by decide +kernel
theorem dX0_dropOldest_32 : decode cX0_dropOldest 32 = .ok (.goto (-23), 3) := by decide +kernel
theorem dX0_dropOldest_35 : decode cX0_dropOldest 35 = .ok (.aload_n 0, 1) := by decide +kernel
theorem dX0_dropOldest_36 : decode cX0_dropOldest 36 = .ok (.getfield 11, 3) := by decide +kernel
theorem dX0_dropOldest_39 : decode cX0_dropOldest 39 = .ok (.iconst 5, 1) := by decide +kernel
theorem dX0_dropOldest_40 : decode cX0_dropOldest 40 = .ok (.aload_n 1, 1) := by decide +kernel
theorem dX0_dropOldest_41 : decode cX0_dropOldest 41 = .ok (.aastore, 1) := by decide +kernel
theorem dX0_dropOldest_42 : decode cX0_dropOldest 42 = .ok (.aload_n 0, 1) := by decide +kernel
theorem dX0_dropOldest_43 : decode cX0_dropOldest 43 = .ok (.dup, 1) := by decide +kernel
theorem dX0_dropOldest_44 : decode cX0_dropOldest 44 = .ok (.getfield 17, 3) := by decide +kernel
theorem dX0_dropOldest_47 : decode cX0_dropOldest 47 = .ok (.iconst 1, 1) := by decide +kernel
theorem dX0_dropOldest_48 : decode cX0_dropOldest 48 = .ok (.isub, 1) := by decide +kernel
theorem dX0_dropOldest_49 : decode cX0_dropOldest 49 = .ok (.putfield 17, 3) := by decide +kernel
theorem dX0_dropOldest_52 : decode cX0_dropOldest 52 = .ok (.return_, 1) := by decide +kernel
theorem dX0_goBack_0 : decode cX0_goBack 0 = .ok (.aload_n 0, 1) := by decide +kernel
theorem dX0_goBack_1 : decode cX0_goBack 1 = .ok (.dup, 1) := by decide +kernel
theorem dX0_goBack_2 : decode cX0_goBack 2 = .ok (.getfield 17, 3) := by decide +kernel
theorem dX0_goBack_5 : decode cX0_goBack 5 = .ok (.iconst 1, 1) := by decide +kernel
theorem dX0_goBack_6 : decode cX0_goBack 6 = .ok (.isub, 1) := by decide +kernel
theorem dX0_goBack_7 : decode cX0_goBack 7 = .ok (.putfield 17, 3) := by decide +kernel
theorem dX0_goBack_10 : decode cX0_goBack 10 = .ok (.aload_n 1, 1) := by decide +kernel
theorem dX0_goBack_11 : decode cX0_goBack 11 = .ok (.aload_n 0, 1) := by decide +kernel
theorem dX0_goBack_12 : decode cX0_goBack 12 = .ok (.getfield 11, 3) := by decide +kernel
theorem dX0_goBack_15 : decode cX0_goBack 15 = .ok (.aload_n 0, 1) := by decide +kernel
theorem dX0_goBack_16 : decode cX0_goBack 16 = .ok (.getfield 17, 3) := by decide +kernel
theorem dX0_goBack_19 : decode cX0_goBack 19 = .ok (.aaload, 1) := by decide +kernel
theorem dX0_goBack_20 : decode cX0_goBack 20 = .ok (.invokevirtual 25, 3) := by decide +kernel
theorem dX0_goBack_23 : decode cX0_goBack 23 = .ok (.return_, 1) := by decide +kernel
theorem dX1_init_0 : decode cX1_init 0 = .ok (.aload_n 0, 1) := by decide +kernel
theorem dX1_init_1 : decode cX1_init 1 = .ok (.invokespecial 3, 3) := by decide +kernel
theorem dX1_init_4 : decode cX1_init 4 = .ok (.aload_n 0, 1) := by decide +kernel
theorem dX1_init_5 : decode cX1_init 5 = .ok (.new 9, 3) := by decide +kernel
theorem dX1_init_8 : decode cX1_init 8 = .ok (.dup, 1) := by decide +kernel
theorem dX1_init_9 : decode cX1_init 9 = .ok (.invokespecial 11, 3) := by decide +kernel
theorem dX1_init_12 : decode cX1_init 12 = .ok (.putfield 12, 3) := by decide +kernel
theorem dX1_init_15 : decode cX1_init 15 = .ok (.aload_n 0, 1) := by decide +kernel
theorem dX1_init_16 : decode cX1_init 16 = .ok (.iconst 2, 1) := by decide +kernel
theorem dX1_init_17 : decode cX1_init 17 = .ok (.anewarray 9, 3) := by decide +kernel
theorem dX1_init_20 : decode cX1_init 20 = .ok (.putfield 18, 3) := by decide +kernel
theorem dX1_init_23 : decode cX1_init 23 = .ok (.aload_n 0, 1) := by decide +kernel
theorem dX1_init_24 : decode cX1_init 24 = .ok (.iconst 2, 1) := by decide +kernel
theorem dX1_init_25 : decode cX1_init 25 = .ok (.newarray .boolean, 2) := by decide +kernel
theorem dX1_init_27 : decode cX1_init 27 = .ok (.putfield 22, 3) := by decide +kernel
theorem dX1_init_30 : decode cX1_init 30 = .ok (.iconst 0, 1) := by decide +kernel
theorem dX1_init_31 : decode cX1_init 31 = .ok (.istore_n 1, 1) := by decide +kernel
theorem dX1_init_32 : decode cX1_init 32 = .ok (.iload_n 1, 1) := by decide +kernel
theorem dX1_init_33 : decode cX1_init 33 = .ok (.iconst 2, 1) := by decide +kernel
theorem dX1_init_34 : decode cX1_init 34 = .ok (.if_icmp .ge 22, 3) := by decide +kernel
theorem dX1_init_37 : decode cX1_init 37 = .ok (.aload_n 0, 1) := by decide +kernel
theorem dX1_init_38 : decode cX1_init 38 = .ok (.getfield 18, 3) := by decide +kernel
theorem dX1_init_41 : decode cX1_init 41 = .ok (.iload_n 1, 1) := by decide +kernel
theorem dX1_init_42 : decode cX1_init 42 = .ok (.new 9, 3) := by decide +kernel
theorem dX1_init_45 : decode cX1_init 45 = .ok (.dup, 1) := by decide +kernel
theorem dX1_init_46 : decode cX1_init 46 = .ok (.invokespecial 11, 3) := by decide +kernel
theorem dX1_init_49 : decode cX1_init 49 = .ok (.aastore, 1) := by decide +kernel
theorem dX1_init_50 : decode cX1_init 50 = .ok (.iinc 1 1, 3) := by decide +kernel
theorem dX1_init_53 : decode cX1_init 53 = .ok (.goto (-21), 3) := by decide +kernel
theorem dX1_init_56 : decode cX1_init 56 = .ok (.return_, 1) := by decide +kernel
theorem dX1_copyFrom_0 : decode cX1_copyFrom 0 = .ok (.aload_n 0, 1) := by decide +kernel
theorem dX1_copyFrom_1 : decode cX1_copyFrom 1 = .ok (.getfield 12, 3) := by decide +kernel
theorem dX1_copyFrom_4 : decode cX1_copyFrom 4 = .ok (.aload_n 1, 1) := by decide +kernel
theorem dX1_copyFrom_5 : decode cX1_copyFrom 5 = .ok (.getfield 12, 3) := by decide +kernel
theorem dX1_copyFrom_8 : decode cX1_copyFrom 8 = .ok (.invokevirtual 26, 3) := by decide +kernel
theorem dX1_copyFrom_11 : decode cX1_copyFrom 11 = .ok (.iconst 0, 1) := by decide +kernel
theorem dX1_copyFrom_12 : decode cX1_copyFrom 12 = .ok (.istore_n 2, 1) := by decide +kernel
theorem dX1_copyFrom_13 : decode cX1_copyFrom 13 = .ok (.iload_n 2, 1) := by decide +kernel
theorem dX1_copyFrom_14 : decode cX1_copyFrom 14 = .ok (.iconst 2, 1) := by decide +kernel
theorem dX1_copyFrom_15 : decode cX1_copyFrom 15 = .ok (.if_icmp .ge 36, 3) := by decide +kernel
theorem dX1_copyFrom_18 : decode cX1_copyFrom 18 = .ok (.aload_n 0, 1) := by decide +kernel
theorem dX1_copyFrom_19 : decode cX1_copyFrom 19 = .ok (.getfield 18, 3) := by decide +kernel
theorem dX1_copyFrom_22 : decode cX1_copyFrom 22 = .ok (.iload_n 2, 1) := by decide +kernel
theorem dX1_copyFrom_23 : decode cX1_copyFrom 23 = .ok (.aaload, 1) := by decide +kernel
theorem dX1_copyFrom_24 : decode cX1_copyFrom 24 = .ok (.aload_n 1, 1) := by decide +kernel
theorem dX1_copyFrom_25 : decode cX1_copyFrom 25 = .ok (.getfield 18, 3) := by decide +kernel
theorem dX1_copyFrom_28 : decode cX1_copyFrom 28 = .ok (.iload_n 2, 1) := by decide +kernel
theorem dX1_copyFrom_29 : decode cX1_copyFrom 29 = .ok (.aaload, 1) := by decide +kernel
theorem dX1_copyFrom_30 : decode cX1_copyFrom 30 = .ok (.invokevirtual 26, 3) := by decide +kernel
theorem dX1_copyFrom_33 : decode cX1_copyFrom 33 = .ok (.aload_n 0, 1) := by decide +kernel
theorem dX1_copyFrom_34 : decode cX1_copyFrom 34 = .ok (.getfield 22, 3) := by decide +kernel
theorem dX1_copyFrom_37 : decode cX1_copyFrom 37 = .ok (.iload_n 2, 1) := by decide +kernel
theorem dX1_copyFrom_38 : decode cX1_copyFrom 38 = .ok (.aload_n 1, 1) := by decide +kernel
theorem dX1_copyFrom_39 : decode cX1_copyFrom 39 = .ok (.getfield 22, 3) := by decide +kernel
theorem dX1_copyFrom_42 : decode cX1_copyFrom 42 = .ok (.iload_n 2, 1) := by decide +kernel
theorem dX1_copyFrom_43 : decode cX1_copyFrom 43 = .ok (.baload, 1) := by decide +kernel
theorem dX1_copyFrom_44 : decode cX1_copyFrom 44 = .ok (.bastore, 1) := by decide +kernel
theorem dX1_copyFrom_45 : decode cX1_copyFrom 45 = .ok (.iinc 2 1, 3) := by decide +kernel
theorem dX1_copyFrom_48 : decode cX1_copyFrom 48 = .ok (.goto (-35), 3) := by decide +kernel
theorem dX1_copyFrom_51 : decode cX1_copyFrom 51 = .ok (.return_, 1) := by decide +kernel
theorem dX1_snapshots_0 : decode cX1_snapshots 0 = .ok (.iconst 0, 1) := by decide +kernel
theorem dX1_snapshots_1 : decode cX1_snapshots 1 = .ok (.istore_n 1, 1) := by decide +kernel
theorem dX1_snapshots_2 : decode cX1_snapshots 2 = .ok (.iconst 0, 1) := by decide +kernel
theorem dX1_snapshots_3 : decode cX1_snapshots 3 = .ok (.istore_n 2, 1) := by decide +kernel
theorem dX1_snapshots_4 : decode cX1_snapshots 4 = .ok (.iload_n 2, 1) := by decide +kernel
theorem dX1_snapshots_5 : decode cX1_snapshots 5 = .ok (.iconst 2, 1) := by decide +kernel
theorem dX1_snapshots_6 : decode cX1_snapshots 6 = .ok (.if_icmp .ge 26, 3) := by decide +kernel
theorem dX1_snapshots_9 : decode cX1_snapshots 9 = .ok (.iload_n 1, 1) := by decide +kernel
theorem dX1_snapshots_10 : decode cX1_snapshots 10 = .ok (.aload_n 0, 1) := by decide +kernel
theorem dX1_snapshots_11 : decode cX1_snapshots 11 = .ok (.getfield 22, 3) := by decide +kernel
theorem dX1_snapshots_14 : decode cX1_snapshots 14 = .ok (.iload_n 2, 1) := by decide +kernel
theorem dX1_snapshots_15 : decode cX1_snapshots 15 = .ok (.baload, 1) := by decide +kernel
theorem dX1_snapshots_16 : decode cX1_snapshots 16 = .ok (.ifCond .eq 7, 3) := by decide +kernel
theorem dX1_snapshots_19 : decode cX1_snapshots 19 = .ok (.iconst 1, 1) := by decide +kernel
theorem dX1_snapshots_20 : decode cX1_snapshots 20 = .ok (.goto 4, 3) := by decide +kernel
theorem dX1_snapshots_23 : decode cX1_snapshots 23 = .ok (.iconst 0, 1) := by decide +kernel
theorem dX1_snapshots_24 : decode cX1_snapshots 24 = .ok (.iadd, 1) := by decide +kernel
theorem dX1_snapshots_25 : decode cX1_snapshots 25 = .ok (.istore_n 1, 1) := by decide +kernel
theorem dX1_snapshots_26 : decode cX1_snapshots 26 = .ok (.iinc 2 1, 3) := by decide +kernel
theorem dX1_snapshots_29 : decode cX1_snapshots 29 = .ok (.goto (-25), 3) := by decide +kernel
theorem dX1_snapshots_32 : decode cX1_snapshots 32 = .ok (.iload_n 1, 1) := by decide +kernel
theorem dX1_snapshots_33 : decode cX1_snapshots 33 = .ok (.ireturn, 1) := by decide +kernel
theorem dX2_init_0 : decode cX2_init 0 = .ok (.aload_n 0, 1) := by decide +kernel
theorem dX2_init_1 : decode cX2_init 1 = .ok (.invokespecial 3, 3) := by decide +kernel
theorem dX2_init_4 : decode cX2_init 4 = .ok (.aload_n 0, 1) := by decide +kernel
theorem dX2_init_5 : decode cX2_init 5 = .ok (.bipush 17, 2) := by decide +kernel
theorem dX2_init_7 : decode cX2_init 7 = .ok (.newarray .int, 2) := by decide +kernel
theorem dX2_init_9 : decode cX2_init 9 = .ok (.putfield 9, 3) := by decide +kernel
theorem dX2_init_12 : decode cX2_init 12 = .ok (.aload_n 0, 1) := by decide +kernel
theorem dX2_init_13 : decode cX2_init 13 = .ok (.bipush 6, 2) := by decide +kernel
theorem dX2_init_15 : decode cX2_init 15 = .ok (.bipush 20, 2) := by decide +kernel
theorem dX2_init_17 : decode cX2_init 17 = .ok (.multianewarray 15 2, 4) := by decide +kernel
theorem dX2_init_21 : decode cX2_init 21 = .ok (.putfield 17, 3) := by decide +kernel
theorem dX2_init_24 : decode cX2_init 24 = .ok (.aload_n 0, 1) := by decide +kernel
theorem dX2_init_25 : decode cX2_init 25 = .ok (.iconst 4, 1) := by decide +kernel
theorem dX2_init_26 : decode cX2_init 26 = .ok (.bipush 30, 2) := by decide +kernel
theorem dX2_init_28 : decode cX2_init 28 = .ok (.multianewarray 15 2, 4) := by decide +kernel
theorem dX2_init_32 : decode cX2_init 32 = .ok (.putfield 20, 3) := by decide +kernel
theorem dX2_init_35 : decode cX2_init 35 = .ok (.aload_n 0, 1) := by decide +kernel
theorem dX2_init_36 : decode cX2_init 36 = .ok (.getfield 9, 3) := by decide +kernel
theorem dX2_init_39 : decode cX2_init 39 = .ok (.iconst 5, 1) := by decide +kernel
theorem dX2_init_40 : decode cX2_init 40 = .ok (.sipush 300, 3) := by decide +kernel
theorem dX2_init_43 : decode cX2_init 43 = .ok (.iastore, 1) := by decide +kernel
theorem dX2_init_44 : decode cX2_init 44 = .ok (.aload_n 0, 1) := by decide +kernel
theorem dX2_init_45 : decode cX2_init 45 = .ok (.getfield 9, 3) := by decide +kernel
theorem dX2_init_48 : decode cX2_init 48 = .ok (.bipush 6, 2) := by decide +kernel
theorem dX2_init_50 : decode cX2_init 50 = .ok (.iconst 5, 1) := by decide +kernel
theorem dX2_init_51 : decode cX2_init 51 = .ok (.iastore, 1) := by decide +kernel
theorem dX2_init_52 : decode cX2_init 52 = .ok (.aload_n 0, 1) := by decide +kernel
theorem dX2_init_53 : decode cX2_init 53 = .ok (.getfield 9, 3) := by decide +kernel
theorem dX2_init_56 : decode cX2_init 56 = .ok (.bipush 7, 2) := by decide +kernel
theorem dX2_init_58 : decode cX2_init 58 = .ok (.sipush 400, 3) := by decide +kernel
theorem dX2_init_61 : decode cX2_init 61 = .ok (.iastore, 1) := by decide +kernel
theorem dX2_init_62 : decode cX2_init 62 = .ok (.aload_n 0, 1) := by decide +kernel
theorem dX2_init_63 : decode cX2_init 63 = .ok (.getfield 9, 3) := by decide +kernel
theorem dX2_init_66 : decode cX2_init 66 = .ok (.bipush 8, 2) := by decide +kernel
theorem dX2_init_68 : decode cX2_init 68 = .ok (.iconst 2, 1) := by decide +kernel
theorem dX2_init_69 : decode cX2_init 69 = .ok (.iastore, 1) := by decide +kernel
theorem dX2_init_70 : decode cX2_init 70 = .ok (.iconst 0, 1) := by decide +kernel
theorem dX2_init_71 : decode cX2_init 71 = .ok (.istore_n 1, 1) := by decide +kernel
theorem dX2_init_72 : decode cX2_init 72 = .ok (.iload_n 1, 1) := by decide +kernel
theorem dX2_init_73 : decode cX2_init 73 = .ok (.bipush 30, 2) := by decide +kernel
theorem dX2_init_75 : decode cX2_init 75 = .ok (.if_icmp .ge 38, 3) := by decide +kernel
theorem dX2_init_78 : decode cX2_init 78 = .ok (.aload_n 0, 1) := by decide +kernel
theorem dX2_init_79 : decode cX2_init 79 = .ok (.getfield 20, 3) := by decide +kernel
theorem dX2_init_82 : decode cX2_init 82 = .ok (.iconst 0, 1) := by decide +kernel
theorem dX2_init_83 : decode cX2_init 83 = .ok (.aaload, 1) := by decide +kernel
theorem dX2_init_84 : decode cX2_init 84 = .ok (.iload_n 1, 1) := by decide +kernel
theorem dX2_init_85 : decode cX2_init 85 = .ok (.iconst 2, 1) := by decide +kernel
theorem dX2_init_86 : decode cX2_init 86 = .ok (.iastore, 1) := by decide +kernel
theorem dX2_init_87 : decode cX2_init 87 = .ok (.aload_n 0, 1) := by decide +kernel
theorem dX2_init_88 : decode cX2_init 88 = .ok (.getfield 20, 3) := by decide +kernel
theorem dX2_init_91 : decode cX2_init 91 = .ok (.iconst 2, 1) := by decide +kernel
theorem dX2_init_92 : decode cX2_init 92 = .ok (.aaload, 1) := by decide +kernel
theorem dX2_init_93 : decode cX2_init 93 = .ok (.iload_n 1, 1) := by decide +kernel
theorem dX2_init_94 : decode cX2_init 94 = .ok (.ldc 23, 2) := by decide +kernel
theorem dX2_init_96 : decode cX2_init 96 = .ok (.iastore, 1) := by decide +kernel
theorem dX2_init_97 : decode cX2_init 97 = .ok (.aload_n 0, 1) := by decide +kernel
theorem dX2_init_98 : decode cX2_init 98 = .ok (.getfield 20, 3) := by decide +kernel
theorem dX2_init_101 : decode cX2_init 101 = .ok (.iconst 3, 1) := by decide +kernel
theorem dX2_init_102 : decode cX2_init 102 = .ok (.aaload, 1) := by decide +kernel
theorem dX2_init_103 : decode cX2_init 103 = .ok (.iload_n 1, 1) := by decide +kernel
theorem dX2_init_104 : decode cX2_init 104 = .ok (.ldc 23, 2) := by decide +kernel
theorem dX2_init_106 : decode cX2_init 106 = .ok (.iastore, 1) := by decide +kernel
theorem dX2_init_107 : decode cX2_init 107 = .ok (.iinc 1 1, 3) := by decide +kernel
theorem dX2_init_110 : decode cX2_init 110 = .ok (.goto (-38), 3) := by decide +kernel
theorem dX2_init_113 : decode cX2_init 113 = .ok (.return_, 1) := by decide +kernel
theorem dX2_copyFrom_0 : decode cX2_copyFrom 0 = .ok (.aload_n 1, 1) := by decide +kernel
theorem dX2_copyFrom_1 : decode cX2_copyFrom 1 = .ok (.getfield 9, 3) := by decide +kernel
theorem dX2_copyFrom_4 : decode cX2_copyFrom 4 = .ok (.iconst 0, 1) := by decide +kernel
theorem dX2_copyFrom_5 : decode cX2_copyFrom 5 = .ok (.aload_n 0, 1) := by decide +kernel
theorem dX2_copyFrom_6 : decode cX2_copyFrom 6 = .ok (.getfield 9, 3) := by decide +kernel
theorem dX2_copyFrom_9 : decode cX2_copyFrom 9 = .ok (.iconst 0, 1) := by decide +kernel
theorem dX2_copyFrom_10 : decode cX2_copyFrom 10 = .ok (.bipush 17, 2) := by decide +kernel
theorem dX2_copyFrom_12 : decode cX2_copyFrom 12 = .ok (.invokestatic 24, 3) := by decide +kernel
theorem dX2_copyFrom_15 : decode cX2_copyFrom 15 = .ok (.iconst 0, 1) := by decide +kernel
theorem dX2_copyFrom_16 : decode cX2_copyFrom 16 = .ok (.istore_n 2, 1) := by decide +kernel
theorem dX2_copyFrom_17 : decode cX2_copyFrom 17 = .ok (.iload_n 2, 1) := by decide +kernel
theorem dX2_copyFrom_18 : decode cX2_copyFrom 18 = .ok (.bipush 6, 2) := by decide +kernel
theorem dX2_copyFrom_20 : decode cX2_copyFrom 20 = .ok (.if_icmp .ge 28, 3) := by decide +kernel
theorem dX2_copyFrom_23 : decode cX2_copyFrom 23 = .ok (.aload_n 1, 1) := by decide +kernel
theorem dX2_copyFrom_24 : decode cX2_copyFrom 24 = .ok (.getfield 17, 3) := by decide +kernel
theorem dX2_copyFrom_27 : decode cX2_copyFrom 27 = .ok (.iload_n 2, 1) := by decide +kernel
theorem dX2_copyFrom_28 : decode cX2_copyFrom 28 = .ok (.aaload, 1) := by decide +kernel
theorem dX2_copyFrom_29 : decode cX2_copyFrom 29 = .ok (.iconst 0, 1) := by decide +kernel
theorem dX2_copyFrom_30 : decode cX2_copyFrom 30 = .ok (.aload_n 0, 1) := by decide +kernel
theorem dX2_copyFrom_31 : decode cX2_copyFrom 31 = .ok (.getfield 17, 3) := by decide +kernel
theorem dX2_copyFrom_34 : decode cX2_copyFrom 34 = .ok (.iload_n 2, 1) := by decide +kernel
theorem dX2_copyFrom_35 : decode cX2_copyFrom 35 = .ok (.aaload, 1) := by decide +kernel
theorem dX2_copyFrom_36 : decode cX2_copyFrom 36 = .ok (.iconst 0, 1) := by decide +kernel
theorem dX2_copyFrom_37 : decode cX2_copyFrom 37 = .ok (.bipush 20, 2) := by decide +kernel
theorem dX2_copyFrom_39 : decode cX2_copyFrom 39 = .ok (.invokestatic 24, 3) := by decide +kernel
theorem dX2_copyFrom_42 : decode cX2_copyFrom 42 = .ok (.iinc 2 1, 3) := by decide +kernel
theorem dX2_copyFrom_45 : decode cX2_copyFrom 45 = .ok (.goto (-28), 3) := by decide +kernel
theorem dX2_copyFrom_48 : decode cX2_copyFrom 48 = .ok (.iconst 0, 1) := by decide +kernel
theorem dX2_copyFrom_49 : decode cX2_copyFrom 49 = .ok (.istore_n 2, 1) := by decide +kernel
theorem dX2_copyFrom_50 : decode cX2_copyFrom 50 = .ok (.iload_n 2, 1) := by decide +kernel
theorem dX2_copyFrom_51 : decode cX2_copyFrom 51 = .ok (.iconst 4, 1) := by decide +kernel
theorem dX2_copyFrom_52 : decode cX2_copyFrom 52 = .ok (.if_icmp .ge 28, 3) := by decide +kernel
theorem dX2_copyFrom_55 : decode cX2_copyFrom 55 = .ok (.aload_n 1, 1) := by decide +kernel
theorem dX2_copyFrom_56 : decode cX2_copyFrom 56 = .ok (.getfield 20, 3) := by decide +kernel
theorem dX2_copyFrom_59 : decode cX2_copyFrom 59 = .ok (.iload_n 2, 1) := by decide +kernel
theorem dX2_copyFrom_60 : decode cX2_copyFrom 60 = .ok (.aaload, 1) := by decide +kernel
theorem dX2_copyFrom_61 : decode cX2_copyFrom 61 = .ok (.iconst 0, 1) := by decide +kernel
theorem dX2_copyFrom_62 : decode cX2_copyFrom 62 = .ok (.aload_n 0, 1) := by decide +kernel
theorem dX2_copyFrom_63 : decode cX2_copyFrom 63 = .ok (.getfield 20, 3) := by decide +kernel
theorem dX2_copyFrom_66 : decode cX2_copyFrom 66 = .ok (.iload_n 2, 1) := by decide +kernel
theorem dX2_copyFrom_67 : decode cX2_copyFrom 67 = .ok (.aaload, 1) := by decide +kernel
theorem dX2_copyFrom_68 : decode cX2_copyFrom 68 = .ok (.iconst 0, 1) := by decide +kernel
theorem dX2_copyFrom_69 : decode cX2_copyFrom 69 = .ok (.bipush 30, 2) := by decide +kernel
theorem dX2_copyFrom_71 : decode cX2_copyFrom 71 = .ok (.invokestatic 24, 3) := by decide +kernel
theorem dX2_copyFrom_74 : decode cX2_copyFrom 74 = .ok (.iinc 2 1, 3) := by decide +kernel
theorem dX2_copyFrom_77 : decode cX2_copyFrom 77 = .ok (.goto (-27), 3) := by decide +kernel
theorem dX2_copyFrom_80 : decode cX2_copyFrom 80 = .ok (.return_, 1) := by decide +kernel
theorem dX2_toCome_0 : decode cX2_toCome 0 = .ok (.aload_n 0, 1) := by decide +kernel
theorem dX2_toCome_1 : decode cX2_toCome 1 = .ok (.getfield 9, 3) := by decide +kernel
theorem dX2_toCome_4 : decode cX2_toCome 4 = .ok (.iconst 0, 1) := by decide +kernel
theorem dX2_toCome_5 : decode cX2_toCome 5 = .ok (.iaload, 1) := by decide +kernel
theorem dX2_toCome_6 : decode cX2_toCome 6 = .ok (.aload_n 0, 1) := by decide +kernel
theorem dX2_toCome_7 : decode cX2_toCome 7 = .ok (.getfield 9, 3) := by decide +kernel
theorem dX2_toCome_10 : decode cX2_toCome 10 = .ok (.iconst 1, 1) := by decide +kernel
theorem dX2_toCome_11 : decode cX2_toCome 11 = .ok (.iaload, 1) := by decide +kernel
theorem dX2_toCome_12 : decode cX2_toCome 12 = .ok (.isub, 1) := by decide +kernel
theorem dX2_toCome_13 : decode cX2_toCome 13 = .ok (.ireturn, 1) := by decide +kernel
theorem dX2_isToCome_0 : decode cX2_isToCome 0 = .ok (.iload_n 1, 1) := by decide +kernel
theorem dX2_isToCome_1 : decode cX2_isToCome 1 = .ok (.aload_n 0, 1) := by decide +kernel
theorem dX2_isToCome_2 : decode cX2_isToCome 2 = .ok (.getfield 9, 3) := by decide +kernel
theorem dX2_isToCome_5 : decode cX2_isToCome 5 = .ok (.iconst 1, 1) := by decide +kernel
theorem dX2_isToCome_6 : decode cX2_isToCome 6 = .ok (.iaload, 1) := by decide +kernel
theorem dX2_isToCome_7 : decode cX2_isToCome 7 = .ok (.if_icmp .lt 17, 3) := by decide +kernel
theorem dX2_isToCome_10 : decode cX2_isToCome 10 = .ok (.iload_n 1, 1) := by decide +kernel
theorem dX2_isToCome_11 : decode cX2_isToCome 11 = .ok (.aload_n 0, 1) := by decide +kernel
theorem dX2_isToCome_12 : decode cX2_isToCome 12 = .ok (.getfield 9, 3) := by decide +kernel
theorem dX2_isToCome_15 : decode cX2_isToCome 15 = .ok (.iconst 0, 1) := by decide +kernel
theorem dX2_isToCome_16 : decode cX2_isToCome 16 = .ok (.iaload, 1) := by decide +kernel
theorem dX2_isToCome_17 : decode cX2_isToCome 17 = .ok (.if_icmp .ge 7, 3) := by decide +kernel
theorem dX2_isToCome_20 : decode cX2_isToCome 20 = .ok (.iconst 1, 1) := by decide +kernel
theorem dX2_isToCome_21 : decode cX2_isToCome 21 = .ok (.goto 4, 3) := by decide +kernel
theorem dX2_isToCome_24 : decode cX2_isToCome 24 = .ok (.iconst 0, 1) := by decide +kernel
theorem dX2_isToCome_25 : decode cX2_isToCome 25 = .ok (.ireturn, 1) := by decide +kernel
theorem dX2_addScene_0 : decode cX2_addScene 0 = .ok (.iconst 0, 1) := by decide +kernel
theorem dX2_addScene_1 : decode cX2_addScene 1 = .ok (.istore 6, 2) := by decide +kernel
theorem dX2_addScene_3 : decode cX2_addScene 3 = .ok (.iload 6, 2) := by decide +kernel
theorem dX2_addScene_5 : decode cX2_addScene 5 = .ok (.bipush 6, 2) := by decide +kernel
theorem dX2_addScene_7 : decode cX2_addScene 7 = .ok (.if_icmp .ge 51, 3) := by decide +kernel
theorem dX2_addScene_10 : decode cX2_addScene 10 = .ok (.aload_n 0, 1) := by decide +kernel
theorem dX2_addScene_11 : decode cX2_addScene 11 = .ok (.getfield 9, 3) := by decide +kernel
theorem dX2_addScene_14 : decode cX2_addScene 14 = .ok (.iconst 0, 1) := by decide +kernel
theorem dX2_addScene_15 : decode cX2_addScene 15 = .ok (.iaload, 1) := by decide +kernel
theorem dX2_addScene_16 : decode cX2_addScene 16 = .ok (.istore 7, 2) := by decide +kernel
theorem dX2_addScene_18 : decode cX2_addScene 18 = .ok (.iload 7, 2) := by decide +kernel
theorem dX2_addScene_20 : decode cX2_addScene 20 = .ok (.iload_n 1, 1) := by decide +kernel
theorem dX2_addScene_21 : decode cX2_addScene 21 = .ok (.if_icmp .le 31, 3) := by decide +kernel
theorem dX2_addScene_24 : decode cX2_addScene 24 = .ok (.aload_n 0, 1) := by decide +kernel
theorem dX2_addScene_25 : decode cX2_addScene 25 = .ok (.getfield 17, 3) := by decide +kernel
theorem dX2_addScene_28 : decode cX2_addScene 28 = .ok (.iload 6, 2) := by decide +kernel
theorem dX2_addScene_30 : decode cX2_addScene 30 = .ok (.aaload, 1) := by decide +kernel
theorem dX2_addScene_31 : decode cX2_addScene 31 = .ok (.iload 7, 2) := by decide +kernel
theorem dX2_addScene_33 : decode cX2_addScene 33 = .ok (.aload_n 0, 1) := by decide +kernel
theorem dX2_addScene_34 : decode cX2_addScene 34 = .ok (.getfield 17, 3) := by decide +kernel
theorem dX2_addScene_37 : decode cX2_addScene 37 = .ok (.iload 6, 2) := by decide +kernel
theorem dX2_addScene_39 : decode cX2_addScene 39 = .ok (.aaload, 1) := by decide +kernel
theorem dX2_addScene_40 : decode cX2_addScene 40 = .ok (.iload 7, 2) := by decide +kernel
theorem dX2_addScene_42 : decode cX2_addScene 42 = .ok (.iconst 1, 1) := by decide +kernel
theorem dX2_addScene_43 : decode cX2_addScene 43 = .ok (.isub, 1) := by decide +kernel
theorem dX2_addScene_44 : decode cX2_addScene 44 = .ok (.iaload, 1) := by decide +kernel
theorem dX2_addScene_45 : decode cX2_addScene 45 = .ok (.iastore, 1) := by decide +kernel
theorem dX2_addScene_46 : decode cX2_addScene 46 = .ok (.iinc 7 (-1), 3) := by decide +kernel
theorem dX2_addScene_49 : decode cX2_addScene 49 = .ok (.goto (-31), 3) := by decide +kernel
theorem dX2_addScene_52 : decode cX2_addScene 52 = .ok (.iinc 6 1, 3) := by decide +kernel
theorem dX2_addScene_55 : decode cX2_addScene 55 = .ok (.goto (-52), 3) := by decide +kernel
theorem dX2_addScene_58 : decode cX2_addScene 58 = .ok (.aload_n 0, 1) := by decide +kernel
theorem dX2_addScene_59 : decode cX2_addScene 59 = .ok (.getfield 17, 3) := by decide +kernel
theorem dX2_addScene_62 : decode cX2_addScene 62 = .ok (.iconst 0, 1) := by decide +kernel
theorem dX2_addScene_63 : decode cX2_addScene 63 = .ok (.aaload, 1) := by decide +kernel
theorem dX2_addScene_64 : decode cX2_addScene 64 = .ok (.iload_n 1, 1) := by decide +kernel
theorem dX2_addScene_65 : decode cX2_addScene 65 = .ok (.iload_n 2, 1) := by decide +kernel
theorem dX2_addScene_66 : decode cX2_addScene 66 = .ok (.iastore, 1) := by decide +kernel
theorem dX2_addScene_67 : decode cX2_addScene 67 = .ok (.aload_n 0, 1) := by decide +kernel
theorem dX2_addScene_68 : decode cX2_addScene 68 = .ok (.getfield 17, 3) := by decide +kernel
theorem dX2_addScene_71 : decode cX2_addScene 71 = .ok (.iconst 1, 1) := by decide +kernel
theorem dX2_addScene_72 : decode cX2_addScene 72 = .ok (.aaload, 1) := by decide +kernel
theorem dX2_addScene_73 : decode cX2_addScene 73 = .ok (.iload_n 1, 1) := by decide +kernel
theorem dX2_addScene_74 : decode cX2_addScene 74 = .ok (.iload_n 3, 1) := by decide +kernel
theorem dX2_addScene_75 : decode cX2_addScene 75 = .ok (.iastore, 1) := by decide +kernel
theorem dX2_addScene_76 : decode cX2_addScene 76 = .ok (.aload_n 0, 1) := by decide +kernel
theorem dX2_addScene_77 : decode cX2_addScene 77 = .ok (.getfield 17, 3) := by decide +kernel
theorem dX2_addScene_80 : decode cX2_addScene 80 = .ok (.iconst 2, 1) := by decide +kernel
theorem dX2_addScene_81 : decode cX2_addScene 81 = .ok (.aaload, 1) := by decide +kernel
theorem dX2_addScene_82 : decode cX2_addScene 82 = .ok (.iload_n 1, 1) := by decide +kernel
theorem dX2_addScene_83 : decode cX2_addScene 83 = .ok (.iload 4, 2) := by decide +kernel
theorem dX2_addScene_85 : decode cX2_addScene 85 = .ok (.iastore, 1) := by decide +kernel
theorem dX2_addScene_86 : decode cX2_addScene 86 = .ok (.aload_n 0, 1) := by decide +kernel
theorem dX2_addScene_87 : decode cX2_addScene 87 = .ok (.getfield 17, 3) := by decide +kernel
theorem dX2_addScene_90 : decode cX2_addScene 90 = .ok (.iconst 3, 1) := by decide +kernel
theorem dX2_addScene_91 : decode cX2_addScene 91 = .ok (.aaload, 1) := by decide +kernel
theorem dX2_addScene_92 : decode cX2_addScene 92 = .ok (.iload_n 1, 1) := by decide +kernel
theorem dX2_addScene_93 : decode cX2_addScene 93 = .ok (.iload 5, 2) := by decide +kernel
theorem dX2_addScene_95 : decode cX2_addScene 95 = .ok (.iastore, 1) := by decide +kernel
theorem dX2_addScene_96 : decode cX2_addScene 96 = .ok (.aload_n 0, 1) := by decide +kernel
theorem dX2_addScene_97 : decode cX2_addScene 97 = .ok (.getfield 17, 3) := by decide +kernel
theorem dX2_addScene_100 : decode cX2_addScene 100 = .ok (.iconst 4, 1) := by decide +kernel
theorem dX2_addScene_101 : decode cX2_addScene 101 = .ok (.aaload, 1) := by decide +kernel
theorem dX2_addScene_102 : decode cX2_addScene 102 = .ok (.iload_n 1, 1) := by decide +kernel
theorem dX2_addScene_103 : decode cX2_addScene 103 = .ok (.iconst 0, 1) := by decide +kernel
theorem dX2_addScene_104 : decode cX2_addScene 104 = .ok (.iastore, 1) := by decide +kernel
theorem dX2_addScene_105 : decode cX2_addScene 105 = .ok (.aload_n 0, 1) := by decide +kernel
theorem dX2_addScene_106 : decode cX2_addScene 106 = .ok (.getfield 17, 3) := by decide +kernel
theorem dX2_addScene_109 : decode cX2_addScene 109 = .ok (.iconst 5, 1) := by decide +kernel
theorem dX2_addScene_110 : decode cX2_addScene 110 = .ok (.aaload, 1) := by decide +kernel
theorem dX2_addScene_111 : decode cX2_addScene 111 = .ok (.iload_n 1, 1) := by decide +kernel
theorem dX2_addScene_112 : decode cX2_addScene 112 = .ok (.ldc 23, 2) := by decide +kernel
theorem dX2_addScene_114 : decode cX2_addScene 114 = .ok (.iastore, 1) := by decide +kernel
theorem dX2_addScene_115 : decode cX2_addScene 115 = .ok (.aload_n 0, 1) := by decide +kernel
theorem dX2_addScene_116 : decode cX2_addScene 116 = .ok (.getfield 9, 3) := by decide +kernel
theorem dX2_addScene_119 : decode cX2_addScene 119 = .ok (.iconst 0, 1) := by decide +kernel
theorem dX2_addScene_120 : decode cX2_addScene 120 = .ok (.dup2, 1) := by decide +kernel
theorem dX2_addScene_121 : decode cX2_addScene 121 = .ok (.iaload, 1) := by decide +kernel
theorem dX2_addScene_122 : decode cX2_addScene 122 = .ok (.iconst 1, 1) := by decide +kernel
theorem dX2_addScene_123 : decode cX2_addScene 123 = .ok (.iadd, 1) := by decide +kernel
theorem dX2_addScene_124 : decode cX2_addScene 124 = .ok (.iastore, 1) := by decide +kernel
theorem dX2_addScene_125 : decode cX2_addScene 125 = .ok (.return_, 1) := by decide +kernel
theorem dX2_dropScene_0 : decode cX2_dropScene 0 = .ok (.iconst 0, 1) := by decide +kernel
theorem dX2_dropScene_1 : decode cX2_dropScene 1 = .ok (.istore_n 2, 1) := by decide +kernel
theorem dX2_dropScene_2 : decode cX2_dropScene 2 = .ok (.iload_n 2, 1) := by decide +kernel
theorem dX2_dropScene_3 : decode cX2_dropScene 3 = .ok (.bipush 6, 2) := by decide +kernel
theorem dX2_dropScene_5 : decode cX2_dropScene 5 = .ok (.if_icmp .ge 47, 3) := by decide +kernel
theorem dX2_dropScene_8 : decode cX2_dropScene 8 = .ok (.iload_n 1, 1) := by decide +kernel
theorem dX2_dropScene_9 : decode cX2_dropScene 9 = .ok (.iconst 1, 1) := by decide +kernel
theorem dX2_dropScene_10 : decode cX2_dropScene 10 = .ok (.iadd, 1) := by decide +kernel
theorem dX2_dropScene_11 : decode cX2_dropScene 11 = .ok (.istore_n 3, 1) := by decide +kernel
theorem dX2_dropScene_12 : decode cX2_dropScene 12 = .ok (.iload_n 3, 1) := by decide +kernel
theorem dX2_dropScene_13 : decode cX2_dropScene 13 = .ok (.aload_n 0, 1) := by decide +kernel
theorem dX2_dropScene_14 : decode cX2_dropScene 14 = .ok (.getfield 9, 3) := by decide +kernel
theorem dX2_dropScene_17 : decode cX2_dropScene 17 = .ok (.iconst 0, 1) := by decide +kernel
theorem dX2_dropScene_18 : decode cX2_dropScene 18 = .ok (.iaload, 1) := by decide +kernel
theorem dX2_dropScene_19 : decode cX2_dropScene 19 = .ok (.if_icmp .ge 27, 3) := by decide +kernel
theorem dX2_dropScene_22 : decode cX2_dropScene 22 = .ok (.aload_n 0, 1) := by decide +kernel
theorem dX2_dropScene_23 : decode cX2_dropScene 23 = .ok (.getfield 17, 3) := by decide +kernel
theorem dX2_dropScene_26 : decode cX2_dropScene 26 = .ok (.iload_n 2, 1) := by decide +kernel
theorem dX2_dropScene_27 : decode cX2_dropScene 27 = .ok (.aaload, 1) := by decide +kernel
theorem dX2_dropScene_28 : decode cX2_dropScene 28 = .ok (.iload_n 3, 1) := by decide +kernel
theorem dX2_dropScene_29 : decode cX2_dropScene 29 = .ok (.iconst 1, 1) := by decide +kernel
theorem dX2_dropScene_30 : decode cX2_dropScene 30 = .ok (.isub, 1) := by decide +kernel
theorem dX2_dropScene_31 : decode cX2_dropScene 31 = .ok (.aload_n 0, 1) := by decide +kernel
theorem dX2_dropScene_32 : decode cX2_dropScene 32 = .ok (.getfield 17, 3) := by decide +kernel
theorem dX2_dropScene_35 : decode cX2_dropScene 35 = .ok (.iload_n 2, 1) := by decide +kernel
theorem dX2_dropScene_36 : decode cX2_dropScene 36 = .ok (.aaload, 1) := by decide +kernel
theorem dX2_dropScene_37 : decode cX2_dropScene 37 = .ok (.iload_n 3, 1) := by decide +kernel
theorem dX2_dropScene_38 : decode cX2_dropScene 38 = .ok (.iaload, 1) := by decide +kernel
theorem dX2_dropScene_39 : decode cX2_dropScene 39 = .ok (.iastore, 1) := by decide +kernel
theorem dX2_dropScene_40 : decode cX2_dropScene 40 = .ok (.iinc 3 1, 3) := by decide +kernel
theorem dX2_dropScene_43 : decode cX2_dropScene 43 = .ok (.goto (-31), 3) := by decide +kernel
theorem dX2_dropScene_46 : decode cX2_dropScene 46 = .ok (.iinc 2 1, 3) := by decide +kernel
theorem dX2_dropScene_49 : decode cX2_dropScene 49 = .ok (.goto (-47), 3) := by decide +kernel
theorem dX2_dropScene_52 : decode cX2_dropScene 52 = .ok (.aload_n 0, 1) := by decide +kernel
theorem dX2_dropScene_53 : decode cX2_dropScene 53 = .ok (.getfield 9, 3) := by decide +kernel
theorem dX2_dropScene_56 : decode cX2_dropScene 56 = .ok (.iconst 0, 1) := by decide +kernel
theorem dX2_dropScene_57 : decode cX2_dropScene 57 = .ok (.dup2, 1) := by decide +kernel
theorem dX2_dropScene_58 : decode cX2_dropScene 58 = .ok (.iaload, 1) := by decide +kernel
theorem dX2_dropScene_59 : decode cX2_dropScene 59 = .ok (.iconst 1, 1) := by decide +kernel
theorem dX2_dropScene_60 : decode cX2_dropScene 60 = .ok (.isub, 1) := by decide +kernel
theorem dX2_dropScene_61 : decode cX2_dropScene 61 = .ok (.iastore, 1) := by decide +kernel
theorem dX2_dropScene_62 : decode cX2_dropScene 62 = .ok (.return_, 1) := by decide +kernel
theorem dX2_roomOf_0 : decode cX2_roomOf 0 = .ok (.iconst 0, 1) := by decide +kernel
theorem dX2_roomOf_1 : decode cX2_roomOf 1 = .ok (.aload_n 0, 1) := by decide +kernel
theorem dX2_roomOf_2 : decode cX2_roomOf 2 = .ok (.getfield 20, 3) := by decide +kernel
theorem dX2_roomOf_5 : decode cX2_roomOf 5 = .ok (.iconst 0, 1) := by decide +kernel
theorem dX2_roomOf_6 : decode cX2_roomOf 6 = .ok (.aaload, 1) := by decide +kernel
theorem dX2_roomOf_7 : decode cX2_roomOf 7 = .ok (.iload_n 1, 1) := by decide +kernel
theorem dX2_roomOf_8 : decode cX2_roomOf 8 = .ok (.iaload, 1) := by decide +kernel
theorem dX2_roomOf_9 : decode cX2_roomOf 9 = .ok (.aload_n 0, 1) := by decide +kernel
theorem dX2_roomOf_10 : decode cX2_roomOf 10 = .ok (.getfield 9, 3) := by decide +kernel
theorem dX2_roomOf_13 : decode cX2_roomOf 13 = .ok (.iconst 5, 1) := by decide +kernel
theorem dX2_roomOf_14 : decode cX2_roomOf 14 = .ok (.iaload, 1) := by decide +kernel
theorem dX2_roomOf_15 : decode cX2_roomOf 15 = .ok (.imul, 1) := by decide +kernel
theorem dX2_roomOf_16 : decode cX2_roomOf 16 = .ok (.aload_n 0, 1) := by decide +kernel
theorem dX2_roomOf_17 : decode cX2_roomOf 17 = .ok (.getfield 20, 3) := by decide +kernel
theorem dX2_roomOf_20 : decode cX2_roomOf 20 = .ok (.iconst 1, 1) := by decide +kernel
theorem dX2_roomOf_21 : decode cX2_roomOf 21 = .ok (.aaload, 1) := by decide +kernel
theorem dX2_roomOf_22 : decode cX2_roomOf 22 = .ok (.iload_n 1, 1) := by decide +kernel
theorem dX2_roomOf_23 : decode cX2_roomOf 23 = .ok (.iaload, 1) := by decide +kernel
theorem dX2_roomOf_24 : decode cX2_roomOf 24 = .ok (.isub, 1) := by decide +kernel
theorem dX2_roomOf_25 : decode cX2_roomOf 25 = .ok (.invokestatic 30, 3) := by decide +kernel
theorem dX2_roomOf_28 : decode cX2_roomOf 28 = .ok (.ireturn, 1) := by decide +kernel
theorem dX2_sum_0 : decode cX2_sum 0 = .ok (.iconst 0, 1) := by decide +kernel
theorem dX2_sum_1 : decode cX2_sum 1 = .ok (.istore 4, 2) := by decide +kernel
theorem dX2_sum_3 : decode cX2_sum 3 = .ok (.iload_n 2, 1) := by decide +kernel
theorem dX2_sum_4 : decode cX2_sum 4 = .ok (.istore 5, 2) := by decide +kernel
theorem dX2_sum_6 : decode cX2_sum 6 = .ok (.iload 5, 2) := by decide +kernel
theorem dX2_sum_8 : decode cX2_sum 8 = .ok (.iload_n 3, 1) := by decide +kernel
theorem dX2_sum_9 : decode cX2_sum 9 = .ok (.if_icmp .ge 23, 3) := by decide +kernel
theorem dX2_sum_12 : decode cX2_sum 12 = .ok (.iload 4, 2) := by decide +kernel
theorem dX2_sum_14 : decode cX2_sum 14 = .ok (.aload_n 0, 1) := by decide +kernel
theorem dX2_sum_15 : decode cX2_sum 15 = .ok (.getfield 17, 3) := by decide +kernel
theorem dX2_sum_18 : decode cX2_sum 18 = .ok (.iload_n 1, 1) := by decide +kernel
theorem dX2_sum_19 : decode cX2_sum 19 = .ok (.aaload, 1) := by decide +kernel
theorem dX2_sum_20 : decode cX2_sum 20 = .ok (.iload 5, 2) := by decide +kernel
theorem dX2_sum_22 : decode cX2_sum 22 = .ok (.iaload, 1) := by decide +kernel
theorem dX2_sum_23 : decode cX2_sum 23 = .ok (.iadd, 1) := by decide +kernel
theorem dX2_sum_24 : decode cX2_sum 24 = .ok (.istore 4, 2) := by decide +kernel
theorem dX2_sum_26 : decode cX2_sum 26 = .ok (.iinc 5 1, 3) := by decide +kernel
theorem dX2_sum_29 : decode cX2_sum 29 = .ok (.goto (-23), 3) := by decide +kernel
theorem dX2_sum_32 : decode cX2_sum 32 = .ok (.iload 4, 2) := by decide +kernel
theorem dX2_sum_34 : decode cX2_sum 34 = .ok (.ireturn, 1) := by decide +kernel
theorem dX2_wordsOfStrand_0 : decode cX2_wordsOfStrand 0 = .ok (.iconst 0, 1) := by decide +kernel
theorem dX2_wordsOfStrand_1 : decode cX2_wordsOfStrand 1 = .ok (.istore 4, 2) := by decide +kernel
theorem dX2_wordsOfStrand_3 : decode cX2_wordsOfStrand 3 = .ok (.iload_n 2, 1) := by decide +kernel
theorem dX2_wordsOfStrand_4 : decode cX2_wordsOfStrand 4 = .ok (.istore 5, 2) := by decide +kernel
theorem dX2_wordsOfStrand_6 : decode cX2_wordsOfStrand 6 = .ok (.iload 5, 2) := by decide +kernel
theorem dX2_wordsOfStrand_8 : decode cX2_wordsOfStrand 8 = .ok (.iload_n 3, 1) := by decide +kernel
theorem dX2_wordsOfStrand_9 : decode cX2_wordsOfStrand 9 = .ok (.if_icmp .ge 46, 3) := by decide +kernel
theorem dX2_wordsOfStrand_12 : decode cX2_wordsOfStrand 12 = .ok (.aload_n 0, 1) := by decide +kernel
theorem dX2_wordsOfStrand_13 : decode cX2_wordsOfStrand 13 = .ok (.getfield 17, 3) := by decide +kernel
theorem dX2_wordsOfStrand_16 : decode cX2_wordsOfStrand 16 = .ok (.iconst 2, 1) := by decide +kernel
theorem dX2_wordsOfStrand_17 : decode cX2_wordsOfStrand 17 = .ok (.aaload, 1) := by decide +kernel
theorem dX2_wordsOfStrand_18 : decode cX2_wordsOfStrand 18 = .ok (.iload 5, 2) := by decide +kernel
theorem dX2_wordsOfStrand_20 : decode cX2_wordsOfStrand 20 = .ok (.iaload, 1) := by decide +kernel
theorem dX2_wordsOfStrand_21 : decode cX2_wordsOfStrand 21 = .ok (.iload_n 1, 1) := by decide +kernel
theorem dX2_wordsOfStrand_22 : decode cX2_wordsOfStrand 22 = .ok (.if_icmp .ne 27, 3) := by decide +kernel
theorem dX2_wordsOfStrand_25 : decode cX2_wordsOfStrand 25 = .ok (.iload 4, 2) := by decide +kernel
theorem dX2_wordsOfStrand_27 : decode cX2_wordsOfStrand 27 = .ok (.aload_n 0, 1) := by decide +kernel
theorem dX2_wordsOfStrand_28 : decode cX2_wordsOfStrand 28 = .ok (.getfield 17, 3) := by decide +kernel
theorem dX2_wordsOfStrand_31 : decode cX2_wordsOfStrand 31 = .ok (.iconst 0, 1) := by decide +kernel
theorem dX2_wordsOfStrand_32 : decode cX2_wordsOfStrand 32 = .ok (.aaload, 1) := by decide +kernel
theorem dX2_wordsOfStrand_33 : decode cX2_wordsOfStrand 33 = .ok (.iload 5, 2) := by decide +kernel
theorem dX2_wordsOfStrand_35 : decode cX2_wordsOfStrand 35 = .ok (.iaload, 1) := by decide +kernel
theorem dX2_wordsOfStrand_36 : decode cX2_wordsOfStrand 36 = .ok (.aload_n 0, 1) := by decide +kernel
theorem dX2_wordsOfStrand_37 : decode cX2_wordsOfStrand 37 = .ok (.getfield 17, 3) := by decide +kernel
theorem dX2_wordsOfStrand_40 : decode cX2_wordsOfStrand 40 = .ok (.iconst 4, 1) := by decide +kernel
theorem dX2_wordsOfStrand_41 : decode cX2_wordsOfStrand 41 = .ok (.aaload, 1) := by decide +kernel
theorem dX2_wordsOfStrand_42 : decode cX2_wordsOfStrand 42 = .ok (.iload 5, 2) := by decide +kernel
theorem dX2_wordsOfStrand_44 : decode cX2_wordsOfStrand 44 = .ok (.iaload, 1) := by decide +kernel
theorem dX2_wordsOfStrand_45 : decode cX2_wordsOfStrand 45 = .ok (.isub, 1) := by decide +kernel
theorem dX2_wordsOfStrand_46 : decode cX2_wordsOfStrand 46 = .ok (.iadd, 1) := by decide +kernel
theorem dX2_wordsOfStrand_47 : decode cX2_wordsOfStrand 47 = .ok (.istore 4, 2) := by decide +kernel
theorem dX2_wordsOfStrand_49 : decode cX2_wordsOfStrand 49 = .ok (.iinc 5 1, 3) := by decide +kernel
theorem dX2_wordsOfStrand_52 : decode cX2_wordsOfStrand 52 = .ok (.goto (-46), 3) := by decide +kernel
theorem dX2_wordsOfStrand_55 : decode cX2_wordsOfStrand 55 = .ok (.iload 4, 2) := by decide +kernel
theorem dX2_wordsOfStrand_57 : decode cX2_wordsOfStrand 57 = .ok (.ireturn, 1) := by decide +kernel
theorem dX2_wordsOfNext_0 : decode cX2_wordsOfNext 0 = .ok (.aload_n 0, 1) := by decide +kernel
theorem dX2_wordsOfNext_1 : decode cX2_wordsOfNext 1 = .ok (.getfield 9, 3) := by decide +kernel
theorem dX2_wordsOfNext_4 : decode cX2_wordsOfNext 4 = .ok (.iconst 1, 1) := by decide +kernel
theorem dX2_wordsOfNext_5 : decode cX2_wordsOfNext 5 = .ok (.iaload, 1) := by decide +kernel
theorem dX2_wordsOfNext_6 : decode cX2_wordsOfNext 6 = .ok (.istore_n 2, 1) := by decide +kernel
theorem dX2_wordsOfNext_7 : decode cX2_wordsOfNext 7 = .ok (.aload_n 0, 1) := by decide +kernel
theorem dX2_wordsOfNext_8 : decode cX2_wordsOfNext 8 = .ok (.iconst 0, 1) := by decide +kernel
theorem dX2_wordsOfNext_9 : decode cX2_wordsOfNext 9 = .ok (.iload_n 2, 1) := by decide +kernel
theorem dX2_wordsOfNext_10 : decode cX2_wordsOfNext 10 = .ok (.iload_n 2, 1) := by decide +kernel
theorem dX2_wordsOfNext_11 : decode cX2_wordsOfNext 11 = .ok (.iload_n 1, 1) := by decide +kernel
theorem dX2_wordsOfNext_12 : decode cX2_wordsOfNext 12 = .ok (.iadd, 1) := by decide +kernel
theorem dX2_wordsOfNext_13 : decode cX2_wordsOfNext 13 = .ok (.invokevirtual 36, 3) := by decide +kernel
theorem dX2_wordsOfNext_16 : decode cX2_wordsOfNext 16 = .ok (.aload_n 0, 1) := by decide +kernel
theorem dX2_wordsOfNext_17 : decode cX2_wordsOfNext 17 = .ok (.getfield 9, 3) := by decide +kernel
theorem dX2_wordsOfNext_20 : decode cX2_wordsOfNext 20 = .ok (.iconst 3, 1) := by decide +kernel
theorem dX2_wordsOfNext_21 : decode cX2_wordsOfNext 21 = .ok (.iaload, 1) := by decide +kernel
theorem dX2_wordsOfNext_22 : decode cX2_wordsOfNext 22 = .ok (.isub, 1) := by decide +kernel
theorem dX2_wordsOfNext_23 : decode cX2_wordsOfNext 23 = .ok (.ireturn, 1) := by decide +kernel
theorem dX2_strandBefore_0 : decode cX2_strandBefore 0 = .ok (.iload_n 1, 1) := by decide +kernel
theorem dX2_strandBefore_1 : decode cX2_strandBefore 1 = .ok (.ifCond .le 16, 3) := by decide +kernel
theorem dX2_strandBefore_4 : decode cX2_strandBefore 4 = .ok (.aload_n 0, 1) := by decide +kernel
theorem dX2_strandBefore_5 : decode cX2_strandBefore 5 = .ok (.getfield 17, 3) := by decide +kernel
theorem dX2_strandBefore_8 : decode cX2_strandBefore 8 = .ok (.iconst 2, 1) := by decide +kernel
theorem dX2_strandBefore_9 : decode cX2_strandBefore 9 = .ok (.aaload, 1) := by decide +kernel
theorem dX2_strandBefore_10 : decode cX2_strandBefore 10 = .ok (.iload_n 1, 1) := by decide +kernel
theorem dX2_strandBefore_11 : decode cX2_strandBefore 11 = .ok (.iconst 1, 1) := by decide +kernel
theorem dX2_strandBefore_12 : decode cX2_strandBefore 12 = .ok (.isub, 1) := by decide +kernel
theorem dX2_strandBefore_13 : decode cX2_strandBefore 13 = .ok (.iaload, 1) := by decide +kernel
theorem dX2_strandBefore_14 : decode cX2_strandBefore 14 = .ok (.goto 5, 3) := by decide +kernel
theorem dX2_strandBefore_17 : decode cX2_strandBefore 17 = .ok (.ldc 23, 2) := by decide +kernel
theorem dX2_strandBefore_19 : decode cX2_strandBefore 19 = .ok (.ireturn, 1) := by decide +kernel
theorem dX2_cutOf_0 : decode cX2_cutOf 0 = .ok (.iconst 0, 1) := by decide +kernel
theorem dX2_cutOf_1 : decode cX2_cutOf 1 = .ok (.iload_n 3, 1) := by decide +kernel
theorem dX2_cutOf_2 : decode cX2_cutOf 2 = .ok (.aload_n 0, 1) := by decide +kernel
theorem dX2_cutOf_3 : decode cX2_cutOf 3 = .ok (.iconst 1, 1) := by decide +kernel
theorem dX2_cutOf_4 : decode cX2_cutOf 4 = .ok (.iload_n 1, 1) := by decide +kernel
theorem dX2_cutOf_5 : decode cX2_cutOf 5 = .ok (.iconst 1, 1) := by decide +kernel
theorem dX2_cutOf_6 : decode cX2_cutOf 6 = .ok (.iadd, 1) := by decide +kernel
theorem dX2_cutOf_7 : decode cX2_cutOf 7 = .ok (.iload_n 2, 1) := by decide +kernel
theorem dX2_cutOf_8 : decode cX2_cutOf 8 = .ok (.invokevirtual 36, 3) := by decide +kernel
theorem dX2_cutOf_11 : decode cX2_cutOf 11 = .ok (.isub, 1) := by decide +kernel
theorem dX2_cutOf_12 : decode cX2_cutOf 12 = .ok (.invokestatic 30, 3) := by decide +kernel
theorem dX2_cutOf_15 : decode cX2_cutOf 15 = .ok (.istore 4, 2) := by decide +kernel
theorem dX2_cutOf_17 : decode cX2_cutOf 17 = .ok (.iload 4, 2) := by decide +kernel
theorem dX2_cutOf_19 : decode cX2_cutOf 19 = .ok (.aload_n 0, 1) := by decide +kernel
theorem dX2_cutOf_20 : decode cX2_cutOf 20 = .ok (.getfield 17, 3) := by decide +kernel
theorem dX2_cutOf_23 : decode cX2_cutOf 23 = .ok (.iconst 1, 1) := by decide +kernel
theorem dX2_cutOf_24 : decode cX2_cutOf 24 = .ok (.aaload, 1) := by decide +kernel
theorem dX2_cutOf_25 : decode cX2_cutOf 25 = .ok (.iload_n 1, 1) := by decide +kernel
theorem dX2_cutOf_26 : decode cX2_cutOf 26 = .ok (.iaload, 1) := by decide +kernel
theorem dX2_cutOf_27 : decode cX2_cutOf 27 = .ok (.invokestatic 40, 3) := by decide +kernel
theorem dX2_cutOf_30 : decode cX2_cutOf 30 = .ok (.ireturn, 1) := by decide +kernel
theorem dX2_tensionAfter_0 : decode cX2_tensionAfter 0 = .ok (.aload_n 0, 1) := by decide +kernel
theorem dX2_tensionAfter_1 : decode cX2_tensionAfter 1 = .ok (.getfield 17, 3) := by decide +kernel
theorem dX2_tensionAfter_4 : decode cX2_tensionAfter 4 = .ok (.iconst 3, 1) := by decide +kernel
theorem dX2_tensionAfter_5 : decode cX2_tensionAfter 5 = .ok (.aaload, 1) := by decide +kernel
theorem dX2_tensionAfter_6 : decode cX2_tensionAfter 6 = .ok (.iload_n 1, 1) := by decide +kernel
theorem dX2_tensionAfter_7 : decode cX2_tensionAfter 7 = .ok (.iaload, 1) := by decide +kernel
theorem dX2_tensionAfter_8 : decode cX2_tensionAfter 8 = .ok (.istore_n 3, 1) := by decide +kernel
theorem dX2_tensionAfter_9 : decode cX2_tensionAfter 9 = .ok (.iconst 2, 1) := by decide +kernel
theorem dX2_tensionAfter_10 : decode cX2_tensionAfter 10 = .ok (.iload_n 2, 1) := by decide +kernel
theorem dX2_tensionAfter_11 : decode cX2_tensionAfter 11 = .ok (.imul, 1) := by decide +kernel
theorem dX2_tensionAfter_12 : decode cX2_tensionAfter 12 = .ok (.aload_n 0, 1) := by decide +kernel
theorem dX2_tensionAfter_13 : decode cX2_tensionAfter 13 = .ok (.getfield 17, 3) := by decide +kernel
theorem dX2_tensionAfter_16 : decode cX2_tensionAfter 16 = .ok (.iconst 1, 1) := by decide +kernel
theorem dX2_tensionAfter_17 : decode cX2_tensionAfter 17 = .ok (.aaload, 1) := by decide +kernel
theorem dX2_tensionAfter_18 : decode cX2_tensionAfter 18 = .ok (.iload_n 1, 1) := by decide +kernel
theorem dX2_tensionAfter_19 : decode cX2_tensionAfter 19 = .ok (.iaload, 1) := by decide +kernel
theorem dX2_tensionAfter_20 : decode cX2_tensionAfter 20 = .ok (.if_icmp .gt 5, 3) := by decide +kernel
theorem dX2_tensionAfter_23 : decode cX2_tensionAfter 23 = .ok (.iload_n 3, 1) := by decide +kernel
theorem dX2_tensionAfter_24 : decode cX2_tensionAfter 24 = .ok (.ireturn, 1) := by decide +kernel
theorem dX2_tensionAfter_25 : decode cX2_tensionAfter 25 = .ok (.iload_n 3, 1) := by decide +kernel
theorem dX2_tensionAfter_26 : decode cX2_tensionAfter 26 = .ok (.iconst 2, 1) := by decide +kernel
theorem dX2_tensionAfter_27 : decode cX2_tensionAfter 27 = .ok (.if_icmp .le 9, 3) := by decide +kernel
theorem dX2_tensionAfter_30 : decode cX2_tensionAfter 30 = .ok (.iload_n 3, 1) := by decide +kernel
theorem dX2_tensionAfter_31 : decode cX2_tensionAfter 31 = .ok (.iconst 2, 1) := by decide +kernel
theorem dX2_tensionAfter_32 : decode cX2_tensionAfter 32 = .ok (.isub, 1) := by decide +kernel
theorem dX2_tensionAfter_33 : decode cX2_tensionAfter 33 = .ok (.goto 4, 3) := by decide +kernel
theorem dX2_tensionAfter_36 : decode cX2_tensionAfter 36 = .ok (.iconst 0, 1) := by decide +kernel
theorem dX2_tensionAfter_37 : decode cX2_tensionAfter 37 = .ok (.ireturn, 1) := by decide +kernel
theorem dX2_lastTension_0 : decode cX2_lastTension 0 = .ok (.aload_n 0, 1) := by decide +kernel
theorem dX2_lastTension_1 : decode cX2_lastTension 1 = .ok (.iload_n 1, 1) := by decide +kernel
theorem dX2_lastTension_2 : decode cX2_lastTension 2 = .ok (.iconst 1, 1) := by decide +kernel
theorem dX2_lastTension_3 : decode cX2_lastTension 3 = .ok (.isub, 1) := by decide +kernel
theorem dX2_lastTension_4 : decode cX2_lastTension 4 = .ok (.iload_n 2, 1) := by decide +kernel
theorem dX2_lastTension_5 : decode cX2_lastTension 5 = .ok (.aload_n 0, 1) := by decide +kernel
theorem dX2_lastTension_6 : decode cX2_lastTension 6 = .ok (.getfield 17, 3) := by decide +kernel
theorem dX2_lastTension_9 : decode cX2_lastTension 9 = .ok (.iconst 1, 1) := by decide +kernel
theorem dX2_lastTension_10 : decode cX2_lastTension 10 = .ok (.aaload, 1) := by decide +kernel
theorem dX2_lastTension_11 : decode cX2_lastTension 11 = .ok (.iload_n 1, 1) := by decide +kernel
theorem dX2_lastTension_12 : decode cX2_lastTension 12 = .ok (.iconst 1, 1) := by decide +kernel
theorem dX2_lastTension_13 : decode cX2_lastTension 13 = .ok (.isub, 1) := by decide +kernel
theorem dX2_lastTension_14 : decode cX2_lastTension 14 = .ok (.iaload, 1) := by decide +kernel
theorem dX2_lastTension_15 : decode cX2_lastTension 15 = .ok (.invokestatic 40, 3) := by decide +kernel
theorem dX2_lastTension_18 : decode cX2_lastTension 18 = .ok (.invokevirtual 43, 3) := by decide +kernel
theorem dX2_lastTension_21 : decode cX2_lastTension 21 = .ok (.ireturn, 1) := by decide +kernel
theorem dX2_isCliff_0 : decode cX2_isCliff 0 = .ok (.iload_n 1, 1) := by decide +kernel
theorem dX2_isCliff_1 : decode cX2_isCliff 1 = .ok (.iconst 1, 1) := by decide +kernel
theorem dX2_isCliff_2 : decode cX2_isCliff 2 = .ok (.iadd, 1) := by decide +kernel
theorem dX2_isCliff_3 : decode cX2_isCliff 3 = .ok (.istore 4, 2) := by decide +kernel
theorem dX2_isCliff_5 : decode cX2_isCliff 5 = .ok (.iload_n 2, 1) := by decide +kernel
theorem dX2_isCliff_6 : decode cX2_isCliff 6 = .ok (.iload_n 3, 1) := by decide +kernel
theorem dX2_isCliff_7 : decode cX2_isCliff 7 = .ok (.if_icmp .lt 51, 3) := by decide +kernel
theorem dX2_isCliff_10 : decode cX2_isCliff 10 = .ok (.iload 4, 2) := by decide +kernel
theorem dX2_isCliff_12 : decode cX2_isCliff 12 = .ok (.aload_n 0, 1) := by decide +kernel
theorem dX2_isCliff_13 : decode cX2_isCliff 13 = .ok (.getfield 9, 3) := by decide +kernel
theorem dX2_isCliff_16 : decode cX2_isCliff 16 = .ok (.iconst 0, 1) := by decide +kernel
theorem dX2_isCliff_17 : decode cX2_isCliff 17 = .ok (.iaload, 1) := by decide +kernel
theorem dX2_isCliff_18 : decode cX2_isCliff 18 = .ok (.if_icmp .ge 40, 3) := by decide +kernel
theorem dX2_isCliff_21 : decode cX2_isCliff 21 = .ok (.aload_n 0, 1) := by decide +kernel
theorem dX2_isCliff_22 : decode cX2_isCliff 22 = .ok (.getfield 17, 3) := by decide +kernel
theorem dX2_isCliff_25 : decode cX2_isCliff 25 = .ok (.iconst 2, 1) := by decide +kernel
theorem dX2_isCliff_26 : decode cX2_isCliff 26 = .ok (.aaload, 1) := by decide +kernel
theorem dX2_isCliff_27 : decode cX2_isCliff 27 = .ok (.iload 4, 2) := by decide +kernel
theorem dX2_isCliff_29 : decode cX2_isCliff 29 = .ok (.iaload, 1) := by decide +kernel
theorem dX2_isCliff_30 : decode cX2_isCliff 30 = .ok (.aload_n 0, 1) := by decide +kernel
theorem dX2_isCliff_31 : decode cX2_isCliff 31 = .ok (.getfield 17, 3) := by decide +kernel
theorem dX2_isCliff_34 : decode cX2_isCliff 34 = .ok (.iconst 2, 1) := by decide +kernel
theorem dX2_isCliff_35 : decode cX2_isCliff 35 = .ok (.aaload, 1) := by decide +kernel
theorem dX2_isCliff_36 : decode cX2_isCliff 36 = .ok (.iload_n 1, 1) := by decide +kernel
theorem dX2_isCliff_37 : decode cX2_isCliff 37 = .ok (.iaload, 1) := by decide +kernel
theorem dX2_isCliff_38 : decode cX2_isCliff 38 = .ok (.if_icmp .ne 16, 3) := by decide +kernel
theorem dX2_isCliff_41 : decode cX2_isCliff 41 = .ok (.aload_n 0, 1) := by decide +kernel
theorem dX2_isCliff_42 : decode cX2_isCliff 42 = .ok (.getfield 17, 3) := by decide +kernel
theorem dX2_isCliff_45 : decode cX2_isCliff 45 = .ok (.iconst 3, 1) := by decide +kernel
theorem dX2_isCliff_46 : decode cX2_isCliff 46 = .ok (.aaload, 1) := by decide +kernel
theorem dX2_isCliff_47 : decode cX2_isCliff 47 = .ok (.iload 4, 2) := by decide +kernel
theorem dX2_isCliff_49 : decode cX2_isCliff 49 = .ok (.iaload, 1) := by decide +kernel
theorem dX2_isCliff_50 : decode cX2_isCliff 50 = .ok (.iload_n 2, 1) := by decide +kernel
theorem dX2_isCliff_51 : decode cX2_isCliff 51 = .ok (.if_icmp .ge 7, 3) := by decide +kernel
theorem dX2_isCliff_54 : decode cX2_isCliff 54 = .ok (.iconst 1, 1) := by decide +kernel
theorem dX2_isCliff_55 : decode cX2_isCliff 55 = .ok (.goto 4, 3) := by decide +kernel
theorem dX2_isCliff_58 : decode cX2_isCliff 58 = .ok (.iconst 0, 1) := by decide +kernel
theorem dX2_isCliff_59 : decode cX2_isCliff 59 = .ok (.ireturn, 1) := by decide +kernel
theorem dX2_reason_0 : decode cX2_reason 0 = .ok (.iload_n 2, 1) := by decide +kernel
theorem dX2_reason_1 : decode cX2_reason 1 = .ok (.iconst 1, 1) := by decide +kernel
theorem dX2_reason_2 : decode cX2_reason 2 = .ok (.if_icmp .lt 15, 3) := by decide +kernel
theorem dX2_reason_5 : decode cX2_reason 5 = .ok (.iload_n 2, 1) := by decide +kernel
theorem dX2_reason_6 : decode cX2_reason 6 = .ok (.aload_n 0, 1) := by decide +kernel
theorem dX2_reason_7 : decode cX2_reason 7 = .ok (.getfield 9, 3) := by decide +kernel
theorem dX2_reason_10 : decode cX2_reason 10 = .ok (.iconst 0, 1) := by decide +kernel
theorem dX2_reason_11 : decode cX2_reason 11 = .ok (.iaload, 1) := by decide +kernel
theorem dX2_reason_12 : decode cX2_reason 12 = .ok (.iload_n 1, 1) := by decide +kernel
theorem dX2_reason_13 : decode cX2_reason 13 = .ok (.isub, 1) := by decide +kernel
theorem dX2_reason_14 : decode cX2_reason 14 = .ok (.if_icmp .le 5, 3) := by decide +kernel
theorem dX2_reason_17 : decode cX2_reason 17 = .ok (.iconst 1, 1) := by decide +kernel
theorem dX2_reason_18 : decode cX2_reason 18 = .ok (.ireturn, 1) := by decide +kernel
theorem dX2_reason_19 : decode cX2_reason 19 = .ok (.iload_n 1, 1) := by decide +kernel
theorem dX2_reason_20 : decode cX2_reason 20 = .ok (.iload_n 2, 1) := by decide +kernel
theorem dX2_reason_21 : decode cX2_reason 21 = .ok (.iadd, 1) := by decide +kernel
theorem dX2_reason_22 : decode cX2_reason 22 = .ok (.istore 6, 2) := by decide +kernel
theorem dX2_reason_24 : decode cX2_reason 24 = .ok (.aload_n 0, 1) := by decide +kernel
theorem dX2_reason_25 : decode cX2_reason 25 = .ok (.iconst 1, 1) := by decide +kernel
theorem dX2_reason_26 : decode cX2_reason 26 = .ok (.iload_n 1, 1) := by decide +kernel
theorem dX2_reason_27 : decode cX2_reason 27 = .ok (.iload 6, 2) := by decide +kernel
theorem dX2_reason_29 : decode cX2_reason 29 = .ok (.invokevirtual 36, 3) := by decide +kernel
theorem dX2_reason_32 : decode cX2_reason 32 = .ok (.iload 4, 2) := by decide +kernel
theorem dX2_reason_34 : decode cX2_reason 34 = .ok (.if_icmp .ge 5, 3) := by decide +kernel
theorem dX2_reason_37 : decode cX2_reason 37 = .ok (.iconst 2, 1) := by decide +kernel
theorem dX2_reason_38 : decode cX2_reason 38 = .ok (.ireturn, 1) := by decide +kernel
theorem dX2_reason_39 : decode cX2_reason 39 = .ok (.aload_n 0, 1) := by decide +kernel
theorem dX2_reason_40 : decode cX2_reason 40 = .ok (.iconst 0, 1) := by decide +kernel
theorem dX2_reason_41 : decode cX2_reason 41 = .ok (.iload_n 1, 1) := by decide +kernel
theorem dX2_reason_42 : decode cX2_reason 42 = .ok (.iload 6, 2) := by decide +kernel
theorem dX2_reason_44 : decode cX2_reason 44 = .ok (.invokevirtual 36, 3) := by decide +kernel
theorem dX2_reason_47 : decode cX2_reason 47 = .ok (.iload 4, 2) := by decide +kernel
theorem dX2_reason_49 : decode cX2_reason 49 = .ok (.isub, 1) := by decide +kernel
theorem dX2_reason_50 : decode cX2_reason 50 = .ok (.istore 7, 2) := by decide +kernel
theorem dX2_reason_52 : decode cX2_reason 52 = .ok (.iload 7, 2) := by decide +kernel
theorem dX2_reason_54 : decode cX2_reason 54 = .ok (.aload_n 0, 1) := by decide +kernel
theorem dX2_reason_55 : decode cX2_reason 55 = .ok (.iload_n 3, 1) := by decide +kernel
theorem dX2_reason_56 : decode cX2_reason 56 = .ok (.invokevirtual 46, 3) := by decide +kernel
theorem dX2_reason_59 : decode cX2_reason 59 = .ok (.if_icmp .le 5, 3) := by decide +kernel
theorem dX2_reason_62 : decode cX2_reason 62 = .ok (.iconst 3, 1) := by decide +kernel
theorem dX2_reason_63 : decode cX2_reason 63 = .ok (.ireturn, 1) := by decide +kernel
theorem dX2_reason_64 : decode cX2_reason 64 = .ok (.iload 7, 2) := by decide +kernel
theorem dX2_reason_66 : decode cX2_reason 66 = .ok (.aload_n 0, 1) := by decide +kernel
theorem dX2_reason_67 : decode cX2_reason 67 = .ok (.iload_n 3, 1) := by decide +kernel
theorem dX2_reason_68 : decode cX2_reason 68 = .ok (.invokevirtual 46, 3) := by decide +kernel
theorem dX2_reason_71 : decode cX2_reason 71 = .ok (.aload_n 0, 1) := by decide +kernel
theorem dX2_reason_72 : decode cX2_reason 72 = .ok (.getfield 9, 3) := by decide +kernel
theorem dX2_reason_75 : decode cX2_reason 75 = .ok (.iconst 5, 1) := by decide +kernel
theorem dX2_reason_76 : decode cX2_reason 76 = .ok (.iaload, 1) := by decide +kernel
theorem dX2_reason_77 : decode cX2_reason 77 = .ok (.isub, 1) := by decide +kernel
theorem dX2_reason_78 : decode cX2_reason 78 = .ok (.if_icmp .gt 5, 3) := by decide +kernel
theorem dX2_reason_81 : decode cX2_reason 81 = .ok (.iconst 4, 1) := by decide +kernel
theorem dX2_reason_82 : decode cX2_reason 82 = .ok (.ireturn, 1) := by decide +kernel
theorem dX2_reason_83 : decode cX2_reason 83 = .ok (.iload 6, 2) := by decide +kernel
theorem dX2_reason_85 : decode cX2_reason 85 = .ok (.aload_n 0, 1) := by decide +kernel
theorem dX2_reason_86 : decode cX2_reason 86 = .ok (.getfield 9, 3) := by decide +kernel
theorem dX2_reason_89 : decode cX2_reason 89 = .ok (.iconst 0, 1) := by decide +kernel
theorem dX2_reason_90 : decode cX2_reason 90 = .ok (.iaload, 1) := by decide +kernel
theorem dX2_reason_91 : decode cX2_reason 91 = .ok (.if_icmp .ne 5, 3) := by decide +kernel
theorem dX2_reason_94 : decode cX2_reason 94 = .ok (.iconst 0, 1) := by decide +kernel
theorem dX2_reason_95 : decode cX2_reason 95 = .ok (.ireturn, 1) := by decide +kernel
theorem dX2_reason_96 : decode cX2_reason 96 = .ok (.aload_n 0, 1) := by decide +kernel
theorem dX2_reason_97 : decode cX2_reason 97 = .ok (.iload 6, 2) := by decide +kernel
theorem dX2_reason_99 : decode cX2_reason 99 = .ok (.iconst 1, 1) := by decide +kernel
theorem dX2_reason_100 : decode cX2_reason 100 = .ok (.isub, 1) := by decide +kernel
theorem dX2_reason_101 : decode cX2_reason 101 = .ok (.aload_n 0, 1) := by decide +kernel
theorem dX2_reason_102 : decode cX2_reason 102 = .ok (.iload 6, 2) := by decide +kernel
theorem dX2_reason_104 : decode cX2_reason 104 = .ok (.iload 4, 2) := by decide +kernel
theorem dX2_reason_106 : decode cX2_reason 106 = .ok (.invokevirtual 50, 3) := by decide +kernel
theorem dX2_reason_109 : decode cX2_reason 109 = .ok (.iload 5, 2) := by decide +kernel
theorem dX2_reason_111 : decode cX2_reason 111 = .ok (.invokevirtual 53, 3) := by decide +kernel
theorem dX2_reason_114 : decode cX2_reason 114 = .ok (.ifCond .ne 5, 3) := by decide +kernel
theorem dX2_reason_117 : decode cX2_reason 117 = .ok (.iconst 5, 1) := by decide +kernel
theorem dX2_reason_118 : decode cX2_reason 118 = .ok (.ireturn, 1) := by decide +kernel
theorem dX2_reason_119 : decode cX2_reason 119 = .ok (.aload_n 0, 1) := by decide +kernel
theorem dX2_reason_120 : decode cX2_reason 120 = .ok (.getfield 17, 3) := by decide +kernel
theorem dX2_reason_123 : decode cX2_reason 123 = .ok (.iconst 2, 1) := by decide +kernel
theorem dX2_reason_124 : decode cX2_reason 124 = .ok (.aaload, 1) := by decide +kernel
theorem dX2_reason_125 : decode cX2_reason 125 = .ok (.iload 6, 2) := by decide +kernel
theorem dX2_reason_127 : decode cX2_reason 127 = .ok (.iconst 1, 1) := by decide +kernel
theorem dX2_reason_128 : decode cX2_reason 128 = .ok (.isub, 1) := by decide +kernel
theorem dX2_reason_129 : decode cX2_reason 129 = .ok (.iaload, 1) := by decide +kernel
theorem dX2_reason_130 : decode cX2_reason 130 = .ok (.aload_n 0, 1) := by decide +kernel
theorem dX2_reason_131 : decode cX2_reason 131 = .ok (.iload_n 1, 1) := by decide +kernel
theorem dX2_reason_132 : decode cX2_reason 132 = .ok (.invokevirtual 57, 3) := by decide +kernel
theorem dX2_reason_135 : decode cX2_reason 135 = .ok (.if_icmp .ne 8, 3) := by decide +kernel
theorem dX2_reason_138 : decode cX2_reason 138 = .ok (.bipush 6, 2) := by decide +kernel
theorem dX2_reason_140 : decode cX2_reason 140 = .ok (.goto 4, 3) := by decide +kernel
theorem dX2_reason_143 : decode cX2_reason 143 = .ok (.iconst 0, 1) := by decide +kernel
theorem dX2_reason_144 : decode cX2_reason 144 = .ok (.ireturn, 1) := by decide +kernel
theorem dX2_reasonNow_0 : decode cX2_reasonNow 0 = .ok (.aload_n 0, 1) := by decide +kernel
theorem dX2_reasonNow_1 : decode cX2_reasonNow 1 = .ok (.aload_n 0, 1) := by decide +kernel
theorem dX2_reasonNow_2 : decode cX2_reasonNow 2 = .ok (.getfield 9, 3) := by decide +kernel
theorem dX2_reasonNow_5 : decode cX2_reasonNow 5 = .ok (.iconst 1, 1) := by decide +kernel
theorem dX2_reasonNow_6 : decode cX2_reasonNow 6 = .ok (.iaload, 1) := by decide +kernel
theorem dX2_reasonNow_7 : decode cX2_reasonNow 7 = .ok (.iload_n 1, 1) := by decide +kernel
theorem dX2_reasonNow_8 : decode cX2_reasonNow 8 = .ok (.aload_n 0, 1) := by decide +kernel
theorem dX2_reasonNow_9 : decode cX2_reasonNow 9 = .ok (.getfield 9, 3) := by decide +kernel
theorem dX2_reasonNow_12 : decode cX2_reasonNow 12 = .ok (.iconst 2, 1) := by decide +kernel
theorem dX2_reasonNow_13 : decode cX2_reasonNow 13 = .ok (.iaload, 1) := by decide +kernel
theorem dX2_reasonNow_14 : decode cX2_reasonNow 14 = .ok (.iload_n 2, 1) := by decide +kernel
theorem dX2_reasonNow_15 : decode cX2_reasonNow 15 = .ok (.aload_n 0, 1) := by decide +kernel
theorem dX2_reasonNow_16 : decode cX2_reasonNow 16 = .ok (.getfield 9, 3) := by decide +kernel
theorem dX2_reasonNow_19 : decode cX2_reasonNow 19 = .ok (.bipush 6, 2) := by decide +kernel
theorem dX2_reasonNow_21 : decode cX2_reasonNow 21 = .ok (.iaload, 1) := by decide +kernel
theorem dX2_reasonNow_22 : decode cX2_reasonNow 22 = .ok (.invokevirtual 60, 3) := by decide +kernel
theorem dX2_reasonNow_25 : decode cX2_reasonNow 25 = .ok (.ireturn, 1) := by decide +kernel
theorem dX2_isGood_0 : decode cX2_isGood 0 = .ok (.aload_n 0, 1) := by decide +kernel
theorem dX2_isGood_1 : decode cX2_isGood 1 = .ok (.getfield 9, 3) := by decide +kernel
theorem dX2_isGood_4 : decode cX2_isGood 4 = .ok (.iconst 2, 1) := by decide +kernel
theorem dX2_isGood_5 : decode cX2_isGood 5 = .ok (.iaload, 1) := by decide +kernel
theorem dX2_isGood_6 : decode cX2_isGood 6 = .ok (.bipush 30, 2) := by decide +kernel
theorem dX2_isGood_8 : decode cX2_isGood 8 = .ok (.if_icmp .ge 21, 3) := by decide +kernel
theorem dX2_isGood_11 : decode cX2_isGood 11 = .ok (.aload_n 0, 1) := by decide +kernel
theorem dX2_isGood_12 : decode cX2_isGood 12 = .ok (.iload_n 1, 1) := by decide +kernel
theorem dX2_isGood_13 : decode cX2_isGood 13 = .ok (.aload_n 0, 1) := by decide +kernel
theorem dX2_isGood_14 : decode cX2_isGood 14 = .ok (.getfield 9, 3) := by decide +kernel
theorem dX2_isGood_17 : decode cX2_isGood 17 = .ok (.iconst 3, 1) := by decide +kernel
theorem dX2_isGood_18 : decode cX2_isGood 18 = .ok (.iaload, 1) := by decide +kernel
theorem dX2_isGood_19 : decode cX2_isGood 19 = .ok (.invokevirtual 64, 3) := by decide +kernel
theorem dX2_isGood_22 : decode cX2_isGood 22 = .ok (.ifCond .ne 7, 3) := by decide +kernel
theorem dX2_isGood_25 : decode cX2_isGood 25 = .ok (.iconst 1, 1) := by decide +kernel
theorem dX2_isGood_26 : decode cX2_isGood 26 = .ok (.goto 4, 3) := by decide +kernel
theorem dX2_isGood_29 : decode cX2_isGood 29 = .ok (.iconst 0, 1) := by decide +kernel
theorem dX2_isGood_30 : decode cX2_isGood 30 = .ok (.ireturn, 1) := by decide +kernel
theorem dX2_mostGoodCut_0 : decode cX2_mostGoodCut 0 = .ok (.aload_n 0, 1) := by decide +kernel
theorem dX2_mostGoodCut_1 : decode cX2_mostGoodCut 1 = .ok (.getfield 9, 3) := by decide +kernel
theorem dX2_mostGoodCut_4 : decode cX2_mostGoodCut 4 = .ok (.iconst 1, 1) := by decide +kernel
theorem dX2_mostGoodCut_5 : decode cX2_mostGoodCut 5 = .ok (.iaload, 1) := by decide +kernel
theorem dX2_mostGoodCut_6 : decode cX2_mostGoodCut 6 = .ok (.istore_n 2, 1) := by decide +kernel
theorem dX2_mostGoodCut_7 : decode cX2_mostGoodCut 7 = .ok (.iload_n 2, 1) := by decide +kernel
theorem dX2_mostGoodCut_8 : decode cX2_mostGoodCut 8 = .ok (.iload_n 1, 1) := by decide +kernel
theorem dX2_mostGoodCut_9 : decode cX2_mostGoodCut 9 = .ok (.iadd, 1) := by decide +kernel
theorem dX2_mostGoodCut_10 : decode cX2_mostGoodCut 10 = .ok (.istore_n 3, 1) := by decide +kernel
theorem dX2_mostGoodCut_11 : decode cX2_mostGoodCut 11 = .ok (.aload_n 0, 1) := by decide +kernel
theorem dX2_mostGoodCut_12 : decode cX2_mostGoodCut 12 = .ok (.iconst 0, 1) := by decide +kernel
theorem dX2_mostGoodCut_13 : decode cX2_mostGoodCut 13 = .ok (.iload_n 2, 1) := by decide +kernel
theorem dX2_mostGoodCut_14 : decode cX2_mostGoodCut 14 = .ok (.iload_n 3, 1) := by decide +kernel
theorem dX2_mostGoodCut_15 : decode cX2_mostGoodCut 15 = .ok (.invokevirtual 36, 3) := by decide +kernel
theorem dX2_mostGoodCut_18 : decode cX2_mostGoodCut 18 = .ok (.aload_n 0, 1) := by decide +kernel
theorem dX2_mostGoodCut_19 : decode cX2_mostGoodCut 19 = .ok (.aload_n 0, 1) := by decide +kernel
theorem dX2_mostGoodCut_20 : decode cX2_mostGoodCut 20 = .ok (.getfield 9, 3) := by decide +kernel
theorem dX2_mostGoodCut_23 : decode cX2_mostGoodCut 23 = .ok (.iconst 2, 1) := by decide +kernel
theorem dX2_mostGoodCut_24 : decode cX2_mostGoodCut 24 = .ok (.iaload, 1) := by decide +kernel
theorem dX2_mostGoodCut_25 : decode cX2_mostGoodCut 25 = .ok (.invokevirtual 46, 3) := by decide +kernel
theorem dX2_mostGoodCut_28 : decode cX2_mostGoodCut 28 = .ok (.isub, 1) := by decide +kernel
theorem dX2_mostGoodCut_29 : decode cX2_mostGoodCut 29 = .ok (.istore 4, 2) := by decide +kernel
theorem dX2_mostGoodCut_31 : decode cX2_mostGoodCut 31 = .ok (.iload 4, 2) := by decide +kernel
theorem dX2_mostGoodCut_33 : decode cX2_mostGoodCut 33 = .ok (.aload_n 0, 1) := by decide +kernel
theorem dX2_mostGoodCut_34 : decode cX2_mostGoodCut 34 = .ok (.getfield 9, 3) := by decide +kernel
theorem dX2_mostGoodCut_37 : decode cX2_mostGoodCut 37 = .ok (.iconst 5, 1) := by decide +kernel
theorem dX2_mostGoodCut_38 : decode cX2_mostGoodCut 38 = .ok (.iaload, 1) := by decide +kernel
theorem dX2_mostGoodCut_39 : decode cX2_mostGoodCut 39 = .ok (.iadd, 1) := by decide +kernel
theorem dX2_mostGoodCut_40 : decode cX2_mostGoodCut 40 = .ok (.iconst 1, 1) := by decide +kernel
theorem dX2_mostGoodCut_41 : decode cX2_mostGoodCut 41 = .ok (.isub, 1) := by decide +kernel
theorem dX2_mostGoodCut_42 : decode cX2_mostGoodCut 42 = .ok (.aload_n 0, 1) := by decide +kernel
theorem dX2_mostGoodCut_43 : decode cX2_mostGoodCut 43 = .ok (.iconst 1, 1) := by decide +kernel
theorem dX2_mostGoodCut_44 : decode cX2_mostGoodCut 44 = .ok (.iload_n 2, 1) := by decide +kernel
theorem dX2_mostGoodCut_45 : decode cX2_mostGoodCut 45 = .ok (.iload_n 3, 1) := by decide +kernel
theorem dX2_mostGoodCut_46 : decode cX2_mostGoodCut 46 = .ok (.invokevirtual 36, 3) := by decide +kernel
theorem dX2_mostGoodCut_49 : decode cX2_mostGoodCut 49 = .ok (.invokestatic 40, 3) := by decide +kernel
theorem dX2_mostGoodCut_52 : decode cX2_mostGoodCut 52 = .ok (.istore 5, 2) := by decide +kernel
theorem dX2_mostGoodCut_54 : decode cX2_mostGoodCut 54 = .ok (.iload 5, 2) := by decide +kernel
theorem dX2_mostGoodCut_56 : decode cX2_mostGoodCut 56 = .ok (.sipush 999, 3) := by decide +kernel
theorem dX2_mostGoodCut_59 : decode cX2_mostGoodCut 59 = .ok (.invokestatic 40, 3) := by decide +kernel
theorem dX2_mostGoodCut_62 : decode cX2_mostGoodCut 62 = .ok (.istore 5, 2) := by decide +kernel
theorem dX2_mostGoodCut_64 : decode cX2_mostGoodCut 64 = .ok (.iload 5, 2) := by decide +kernel
theorem dX2_mostGoodCut_66 : decode cX2_mostGoodCut 66 = .ok (.ifCond .lt 16, 3) := by decide +kernel
theorem dX2_mostGoodCut_69 : decode cX2_mostGoodCut 69 = .ok (.aload_n 0, 1) := by decide +kernel
theorem dX2_mostGoodCut_70 : decode cX2_mostGoodCut 70 = .ok (.iload_n 1, 1) := by decide +kernel
theorem dX2_mostGoodCut_71 : decode cX2_mostGoodCut 71 = .ok (.iload 5, 2) := by decide +kernel
theorem dX2_mostGoodCut_73 : decode cX2_mostGoodCut 73 = .ok (.invokevirtual 64, 3) := by decide +kernel
theorem dX2_mostGoodCut_76 : decode cX2_mostGoodCut 76 = .ok (.ifCond .ne 6, 3) := by decide +kernel
theorem dX2_mostGoodCut_79 : decode cX2_mostGoodCut 79 = .ok (.iload 5, 2) := by decide +kernel
theorem dX2_mostGoodCut_81 : decode cX2_mostGoodCut 81 = .ok (.ireturn, 1) := by decide +kernel
theorem dX2_mostGoodCut_82 : decode cX2_mostGoodCut 82 = .ok (.iload 5, 2) := by decide +kernel
theorem dX2_mostGoodCut_84 : decode cX2_mostGoodCut 84 = .ok (.aload_n 0, 1) := by decide +kernel
theorem dX2_mostGoodCut_85 : decode cX2_mostGoodCut 85 = .ok (.getfield 17, 3) := by decide +kernel
theorem dX2_mostGoodCut_88 : decode cX2_mostGoodCut 88 = .ok (.iconst 1, 1) := by decide +kernel
theorem dX2_mostGoodCut_89 : decode cX2_mostGoodCut 89 = .ok (.aaload, 1) := by decide +kernel
theorem dX2_mostGoodCut_90 : decode cX2_mostGoodCut 90 = .ok (.iload_n 3, 1) := by decide +kernel
theorem dX2_mostGoodCut_91 : decode cX2_mostGoodCut 91 = .ok (.iconst 1, 1) := by decide +kernel
theorem dX2_mostGoodCut_92 : decode cX2_mostGoodCut 92 = .ok (.isub, 1) := by decide +kernel
theorem dX2_mostGoodCut_93 : decode cX2_mostGoodCut 93 = .ok (.iaload, 1) := by decide +kernel
theorem dX2_mostGoodCut_94 : decode cX2_mostGoodCut 94 = .ok (.iconst 2, 1) := by decide +kernel
theorem dX2_mostGoodCut_95 : decode cX2_mostGoodCut 95 = .ok (.idiv, 1) := by decide +kernel
theorem dX2_mostGoodCut_96 : decode cX2_mostGoodCut 96 = .ok (.invokestatic 40, 3) := by decide +kernel
theorem dX2_mostGoodCut_99 : decode cX2_mostGoodCut 99 = .ok (.istore 5, 2) := by decide +kernel
theorem dX2_mostGoodCut_101 : decode cX2_mostGoodCut 101 = .ok (.iload 5, 2) := by decide +kernel
theorem dX2_mostGoodCut_103 : decode cX2_mostGoodCut 103 = .ok (.ifCond .lt 18, 3) := by decide +kernel
theorem dX2_mostGoodCut_106 : decode cX2_mostGoodCut 106 = .ok (.aload_n 0, 1) := by decide +kernel
theorem dX2_mostGoodCut_107 : decode cX2_mostGoodCut 107 = .ok (.iload_n 1, 1) := by decide +kernel
theorem dX2_mostGoodCut_108 : decode cX2_mostGoodCut 108 = .ok (.iload 5, 2) := by decide +kernel
theorem dX2_mostGoodCut_110 : decode cX2_mostGoodCut 110 = .ok (.invokevirtual 64, 3) := by decide +kernel
theorem dX2_mostGoodCut_113 : decode cX2_mostGoodCut 113 = .ok (.ifCond .ne 8, 3) := by decide +kernel
theorem dX2_mostGoodCut_116 : decode cX2_mostGoodCut 116 = .ok (.iload 5, 2) := by decide +kernel
theorem dX2_mostGoodCut_118 : decode cX2_mostGoodCut 118 = .ok (.goto 5, 3) := by decide +kernel
theorem dX2_mostGoodCut_121 : decode cX2_mostGoodCut 121 = .ok (.ldc 23, 2) := by decide +kernel
theorem dX2_mostGoodCut_123 : decode cX2_mostGoodCut 123 = .ok (.ireturn, 1) := by decide +kernel
theorem dX2_owedAfter_0 : decode cX2_owedAfter 0 = .ok (.iload_n 1, 1) := by decide +kernel
theorem dX2_owedAfter_1 : decode cX2_owedAfter 1 = .ok (.aload_n 0, 1) := by decide +kernel
theorem dX2_owedAfter_2 : decode cX2_owedAfter 2 = .ok (.getfield 9, 3) := by decide +kernel
theorem dX2_owedAfter_5 : decode cX2_owedAfter 5 = .ok (.bipush 7, 2) := by decide +kernel
theorem dX2_owedAfter_7 : decode cX2_owedAfter 7 = .ok (.iaload, 1) := by decide +kernel
theorem dX2_owedAfter_8 : decode cX2_owedAfter 8 = .ok (.iadd, 1) := by decide +kernel
theorem dX2_owedAfter_9 : decode cX2_owedAfter 9 = .ok (.iload_n 2, 1) := by decide +kernel
theorem dX2_owedAfter_10 : decode cX2_owedAfter 10 = .ok (.isub, 1) := by decide +kernel
theorem dX2_owedAfter_11 : decode cX2_owedAfter 11 = .ok (.aload_n 0, 1) := by decide +kernel
theorem dX2_owedAfter_12 : decode cX2_owedAfter 12 = .ok (.getfield 9, 3) := by decide +kernel
theorem dX2_owedAfter_15 : decode cX2_owedAfter 15 = .ok (.bipush 7, 2) := by decide +kernel
theorem dX2_owedAfter_17 : decode cX2_owedAfter 17 = .ok (.iaload, 1) := by decide +kernel
theorem dX2_owedAfter_18 : decode cX2_owedAfter 18 = .ok (.ineg, 1) := by decide +kernel
theorem dX2_owedAfter_19 : decode cX2_owedAfter 19 = .ok (.invokestatic 30, 3) := by decide +kernel
theorem dX2_owedAfter_22 : decode cX2_owedAfter 22 = .ok (.ireturn, 1) := by decide +kernel
theorem dX2_payFor_0 : decode cX2_payFor 0 = .ok (.aload_n 0, 1) := by decide +kernel
theorem dX2_payFor_1 : decode cX2_payFor 1 = .ok (.getfield 9, 3) := by decide +kernel
theorem dX2_payFor_4 : decode cX2_payFor 4 = .ok (.bipush 8, 2) := by decide +kernel
theorem dX2_payFor_6 : decode cX2_payFor 6 = .ok (.iaload, 1) := by decide +kernel
theorem dX2_payFor_7 : decode cX2_payFor 7 = .ok (.iload_n 1, 1) := by decide +kernel
theorem dX2_payFor_8 : decode cX2_payFor 8 = .ok (.imul, 1) := by decide +kernel
theorem dX2_payFor_9 : decode cX2_payFor 9 = .ok (.bipush 10, 2) := by decide +kernel
theorem dX2_payFor_11 : decode cX2_payFor 11 = .ok (.iload_n 2, 1) := by decide +kernel
theorem dX2_payFor_12 : decode cX2_payFor 12 = .ok (.imul, 1) := by decide +kernel
theorem dX2_payFor_13 : decode cX2_payFor 13 = .ok (.iadd, 1) := by decide +kernel
theorem dX2_payFor_14 : decode cX2_payFor 14 = .ok (.ireturn, 1) := by decide +kernel
theorem dX2_printInstalment_0 : decode cX2_printInstalment 0 = .ok (.aload_n 0, 1) := by decide +kernel
theorem dX2_printInstalment_1 : decode cX2_printInstalment 1 = .ok (.getfield 9, 3) := by decide +kernel
theorem dX2_printInstalment_4 : decode cX2_printInstalment 4 = .ok (.iconst 1, 1) := by decide +kernel
theorem dX2_printInstalment_5 : decode cX2_printInstalment 5 = .ok (.iaload, 1) := by decide +kernel
theorem dX2_printInstalment_6 : decode cX2_printInstalment 6 = .ok (.istore_n 2, 1) := by decide +kernel
theorem dX2_printInstalment_7 : decode cX2_printInstalment 7 = .ok (.iload_n 2, 1) := by decide +kernel
theorem dX2_printInstalment_8 : decode cX2_printInstalment 8 = .ok (.iload_n 1, 1) := by decide +kernel
theorem dX2_printInstalment_9 : decode cX2_printInstalment 9 = .ok (.iadd, 1) := by decide +kernel
theorem dX2_printInstalment_10 : decode cX2_printInstalment 10 = .ok (.istore_n 3, 1) := by decide +kernel
theorem dX2_printInstalment_11 : decode cX2_printInstalment 11 = .ok (.aload_n 0, 1) := by decide +kernel
theorem dX2_printInstalment_12 : decode cX2_printInstalment 12 = .ok (.iload_n 1, 1) := by decide +kernel
theorem dX2_printInstalment_13 : decode cX2_printInstalment 13 = .ok (.invokevirtual 67, 3) := by decide +kernel
theorem dX2_printInstalment_16 : decode cX2_printInstalment 16 = .ok (.istore 4, 2) := by decide +kernel
theorem dX2_printInstalment_18 : decode cX2_printInstalment 18 = .ok (.iload_n 2, 1) := by decide +kernel
theorem dX2_printInstalment_19 : decode cX2_printInstalment 19 = .ok (.istore 5, 2) := by decide +kernel
theorem dX2_printInstalment_21 : decode cX2_printInstalment 21 = .ok (.iload 5, 2) := by decide +kernel
theorem dX2_printInstalment_23 : decode cX2_printInstalment 23 = .ok (.iload_n 3, 1) := by decide +kernel
theorem dX2_printInstalment_24 : decode cX2_printInstalment 24 = .ok (.if_icmp .ge 67, 3) := by decide +kernel
theorem dX2_printInstalment_27 : decode cX2_printInstalment 27 = .ok (.aload_n 0, 1) := by decide +kernel
theorem dX2_printInstalment_28 : decode cX2_printInstalment 28 = .ok (.iload 5, 2) := by decide +kernel
theorem dX2_printInstalment_30 : decode cX2_printInstalment 30 = .ok (.iload_n 3, 1) := by decide +kernel
theorem dX2_printInstalment_31 : decode cX2_printInstalment 31 = .ok (.aload_n 0, 1) := by decide +kernel
theorem dX2_printInstalment_32 : decode cX2_printInstalment 32 = .ok (.getfield 9, 3) := by decide +kernel
theorem dX2_printInstalment_35 : decode cX2_printInstalment 35 = .ok (.iconst 3, 1) := by decide +kernel
theorem dX2_printInstalment_36 : decode cX2_printInstalment 36 = .ok (.iaload, 1) := by decide +kernel
theorem dX2_printInstalment_37 : decode cX2_printInstalment 37 = .ok (.invokevirtual 70, 3) := by decide +kernel
theorem dX2_printInstalment_40 : decode cX2_printInstalment 40 = .ok (.istore 6, 2) := by decide +kernel
theorem dX2_printInstalment_42 : decode cX2_printInstalment 42 = .ok (.aload_n 0, 1) := by decide +kernel
theorem dX2_printInstalment_43 : decode cX2_printInstalment 43 = .ok (.getfield 17, 3) := by decide +kernel
theorem dX2_printInstalment_46 : decode cX2_printInstalment 46 = .ok (.iconst 3, 1) := by decide +kernel
theorem dX2_printInstalment_47 : decode cX2_printInstalment 47 = .ok (.aaload, 1) := by decide +kernel
theorem dX2_printInstalment_48 : decode cX2_printInstalment 48 = .ok (.iload 5, 2) := by decide +kernel
theorem dX2_printInstalment_50 : decode cX2_printInstalment 50 = .ok (.aload_n 0, 1) := by decide +kernel
theorem dX2_printInstalment_51 : decode cX2_printInstalment 51 = .ok (.iload 5, 2) := by decide +kernel
theorem dX2_printInstalment_53 : decode cX2_printInstalment 53 = .ok (.iload 6, 2) := by decide +kernel
theorem dX2_printInstalment_55 : decode cX2_printInstalment 55 = .ok (.invokevirtual 43, 3) := by decide +kernel
theorem dX2_printInstalment_58 : decode cX2_printInstalment 58 = .ok (.iastore, 1) := by decide +kernel
theorem dX2_printInstalment_59 : decode cX2_printInstalment 59 = .ok (.aload_n 0, 1) := by decide +kernel
theorem dX2_printInstalment_60 : decode cX2_printInstalment 60 = .ok (.getfield 17, 3) := by decide +kernel
theorem dX2_printInstalment_63 : decode cX2_printInstalment 63 = .ok (.iconst 4, 1) := by decide +kernel
theorem dX2_printInstalment_64 : decode cX2_printInstalment 64 = .ok (.aaload, 1) := by decide +kernel
theorem dX2_printInstalment_65 : decode cX2_printInstalment 65 = .ok (.iload 5, 2) := by decide +kernel
theorem dX2_printInstalment_67 : decode cX2_printInstalment 67 = .ok (.iload 6, 2) := by decide +kernel
theorem dX2_printInstalment_69 : decode cX2_printInstalment 69 = .ok (.iastore, 1) := by decide +kernel
theorem dX2_printInstalment_70 : decode cX2_printInstalment 70 = .ok (.aload_n 0, 1) := by decide +kernel
theorem dX2_printInstalment_71 : decode cX2_printInstalment 71 = .ok (.getfield 17, 3) := by decide +kernel
theorem dX2_printInstalment_74 : decode cX2_printInstalment 74 = .ok (.iconst 5, 1) := by decide +kernel
theorem dX2_printInstalment_75 : decode cX2_printInstalment 75 = .ok (.aaload, 1) := by decide +kernel
theorem dX2_printInstalment_76 : decode cX2_printInstalment 76 = .ok (.iload 5, 2) := by decide +kernel
theorem dX2_printInstalment_78 : decode cX2_printInstalment 78 = .ok (.aload_n 0, 1) := by decide +kernel
theorem dX2_printInstalment_79 : decode cX2_printInstalment 79 = .ok (.getfield 9, 3) := by decide +kernel
theorem dX2_printInstalment_82 : decode cX2_printInstalment 82 = .ok (.iconst 2, 1) := by decide +kernel
theorem dX2_printInstalment_83 : decode cX2_printInstalment 83 = .ok (.iaload, 1) := by decide +kernel
theorem dX2_printInstalment_84 : decode cX2_printInstalment 84 = .ok (.iastore, 1) := by decide +kernel
theorem dX2_printInstalment_85 : decode cX2_printInstalment 85 = .ok (.iinc 5 1, 3) := by decide +kernel
theorem dX2_printInstalment_88 : decode cX2_printInstalment 88 = .ok (.goto (-67), 3) := by decide +kernel
theorem dX2_printInstalment_91 : decode cX2_printInstalment 91 = .ok (.aload_n 0, 1) := by decide +kernel
theorem dX2_printInstalment_92 : decode cX2_printInstalment 92 = .ok (.getfield 9, 3) := by decide +kernel
theorem dX2_printInstalment_95 : decode cX2_printInstalment 95 = .ok (.iconst 1, 1) := by decide +kernel
theorem dX2_printInstalment_96 : decode cX2_printInstalment 96 = .ok (.iload_n 3, 1) := by decide +kernel
theorem dX2_printInstalment_97 : decode cX2_printInstalment 97 = .ok (.iastore, 1) := by decide +kernel
theorem dX2_printInstalment_98 : decode cX2_printInstalment 98 = .ok (.aload_n 0, 1) := by decide +kernel
theorem dX2_printInstalment_99 : decode cX2_printInstalment 99 = .ok (.getfield 9, 3) := by decide +kernel
theorem dX2_printInstalment_102 : decode cX2_printInstalment 102 = .ok (.iconst 4, 1) := by decide +kernel
theorem dX2_printInstalment_103 : decode cX2_printInstalment 103 = .ok (.iconst 0, 1) := by decide +kernel
theorem dX2_printInstalment_104 : decode cX2_printInstalment 104 = .ok (.iastore, 1) := by decide +kernel
theorem dX2_printInstalment_105 : decode cX2_printInstalment 105 = .ok (.aload_n 0, 1) := by decide +kernel
theorem dX2_printInstalment_106 : decode cX2_printInstalment 106 = .ok (.getfield 9, 3) := by decide +kernel
theorem dX2_printInstalment_109 : decode cX2_printInstalment 109 = .ok (.bipush 10, 2) := by decide +kernel
theorem dX2_printInstalment_111 : decode cX2_printInstalment 111 = .ok (.dup2, 1) := by decide +kernel
theorem dX2_printInstalment_112 : decode cX2_printInstalment 112 = .ok (.iaload, 1) := by decide +kernel
theorem dX2_printInstalment_113 : decode cX2_printInstalment 113 = .ok (.iload 4, 2) := by decide +kernel
theorem dX2_printInstalment_115 : decode cX2_printInstalment 115 = .ok (.iadd, 1) := by decide +kernel
theorem dX2_printInstalment_116 : decode cX2_printInstalment 116 = .ok (.iastore, 1) := by decide +kernel
theorem dX2_printInstalment_117 : decode cX2_printInstalment 117 = .ok (.aload_n 0, 1) := by decide +kernel
theorem dX2_printInstalment_118 : decode cX2_printInstalment 118 = .ok (.getfield 9, 3) := by decide +kernel
theorem dX2_printInstalment_121 : decode cX2_printInstalment 121 = .ok (.bipush 11, 2) := by decide +kernel
theorem dX2_printInstalment_123 : decode cX2_printInstalment 123 = .ok (.dup2, 1) := by decide +kernel
theorem dX2_printInstalment_124 : decode cX2_printInstalment 124 = .ok (.iaload, 1) := by decide +kernel
theorem dX2_printInstalment_125 : decode cX2_printInstalment 125 = .ok (.aload_n 0, 1) := by decide +kernel
theorem dX2_printInstalment_126 : decode cX2_printInstalment 126 = .ok (.getfield 9, 3) := by decide +kernel
theorem dX2_printInstalment_129 : decode cX2_printInstalment 129 = .ok (.iconst 3, 1) := by decide +kernel
theorem dX2_printInstalment_130 : decode cX2_printInstalment 130 = .ok (.iaload, 1) := by decide +kernel
theorem dX2_printInstalment_131 : decode cX2_printInstalment 131 = .ok (.iadd, 1) := by decide +kernel
theorem dX2_printInstalment_132 : decode cX2_printInstalment 132 = .ok (.iastore, 1) := by decide +kernel
theorem dX2_printInstalment_133 : decode cX2_printInstalment 133 = .ok (.aload_n 0, 1) := by decide +kernel
theorem dX2_printInstalment_134 : decode cX2_printInstalment 134 = .ok (.getfield 9, 3) := by decide +kernel
theorem dX2_printInstalment_137 : decode cX2_printInstalment 137 = .ok (.bipush 12, 2) := by decide +kernel
theorem dX2_printInstalment_139 : decode cX2_printInstalment 139 = .ok (.dup2, 1) := by decide +kernel
theorem dX2_printInstalment_140 : decode cX2_printInstalment 140 = .ok (.iaload, 1) := by decide +kernel
theorem dX2_printInstalment_141 : decode cX2_printInstalment 141 = .ok (.iconst 1, 1) := by decide +kernel
theorem dX2_printInstalment_142 : decode cX2_printInstalment 142 = .ok (.iadd, 1) := by decide +kernel
theorem dX2_printInstalment_143 : decode cX2_printInstalment 143 = .ok (.iastore, 1) := by decide +kernel
theorem dX2_printInstalment_144 : decode cX2_printInstalment 144 = .ok (.aload_n 0, 1) := by decide +kernel
theorem dX2_printInstalment_145 : decode cX2_printInstalment 145 = .ok (.getfield 9, 3) := by decide +kernel
theorem dX2_printInstalment_148 : decode cX2_printInstalment 148 = .ok (.bipush 15, 2) := by decide +kernel
theorem dX2_printInstalment_150 : decode cX2_printInstalment 150 = .ok (.dup2, 1) := by decide +kernel
theorem dX2_printInstalment_151 : decode cX2_printInstalment 151 = .ok (.iaload, 1) := by decide +kernel
theorem dX2_printInstalment_152 : decode cX2_printInstalment 152 = .ok (.aload_n 0, 1) := by decide +kernel
theorem dX2_printInstalment_153 : decode cX2_printInstalment 153 = .ok (.iload 4, 2) := by decide +kernel
theorem dX2_printInstalment_155 : decode cX2_printInstalment 155 = .ok (.aload_n 0, 1) := by decide +kernel
theorem dX2_printInstalment_156 : decode cX2_printInstalment 156 = .ok (.getfield 17, 3) := by decide +kernel
theorem dX2_printInstalment_159 : decode cX2_printInstalment 159 = .ok (.iconst 3, 1) := by decide +kernel
theorem dX2_printInstalment_160 : decode cX2_printInstalment 160 = .ok (.aaload, 1) := by decide +kernel
theorem dX2_printInstalment_161 : decode cX2_printInstalment 161 = .ok (.iload_n 3, 1) := by decide +kernel
theorem dX2_printInstalment_162 : decode cX2_printInstalment 162 = .ok (.iconst 1, 1) := by decide +kernel
theorem dX2_printInstalment_163 : decode cX2_printInstalment 163 = .ok (.isub, 1) := by decide +kernel
theorem dX2_printInstalment_164 : decode cX2_printInstalment 164 = .ok (.iaload, 1) := by decide +kernel
theorem dX2_printInstalment_165 : decode cX2_printInstalment 165 = .ok (.invokevirtual 73, 3) := by decide +kernel
theorem dX2_printInstalment_168 : decode cX2_printInstalment 168 = .ok (.iadd, 1) := by decide +kernel
theorem dX2_printInstalment_169 : decode cX2_printInstalment 169 = .ok (.iastore, 1) := by decide +kernel
theorem dX2_printInstalment_170 : decode cX2_printInstalment 170 = .ok (.aload_n 0, 1) := by decide +kernel
theorem dX2_printInstalment_171 : decode cX2_printInstalment 171 = .ok (.iload 4, 2) := by decide +kernel
theorem dX2_printInstalment_173 : decode cX2_printInstalment 173 = .ok (.iload_n 1, 1) := by decide +kernel
theorem dX2_printInstalment_174 : decode cX2_printInstalment 174 = .ok (.invokevirtual 76, 3) := by decide +kernel
theorem dX2_printInstalment_177 : decode cX2_printInstalment 177 = .ok (.iload 4, 2) := by decide +kernel
theorem dX2_printInstalment_179 : decode cX2_printInstalment 179 = .ok (.ireturn, 1) := by decide +kernel
theorem dX2_passWeek_0 : decode cX2_passWeek 0 = .ok (.aload_n 0, 1) := by decide +kernel
theorem dX2_passWeek_1 : decode cX2_passWeek 1 = .ok (.getfield 9, 3) := by decide +kernel
theorem dX2_passWeek_4 : decode cX2_passWeek 4 = .ok (.iconst 2, 1) := by decide +kernel
theorem dX2_passWeek_5 : decode cX2_passWeek 5 = .ok (.iaload, 1) := by decide +kernel
theorem dX2_passWeek_6 : decode cX2_passWeek 6 = .ok (.istore_n 3, 1) := by decide +kernel
theorem dX2_passWeek_7 : decode cX2_passWeek 7 = .ok (.aload_n 0, 1) := by decide +kernel
theorem dX2_passWeek_8 : decode cX2_passWeek 8 = .ok (.getfield 20, 3) := by decide +kernel
theorem dX2_passWeek_11 : decode cX2_passWeek 11 = .ok (.iconst 2, 1) := by decide +kernel
theorem dX2_passWeek_12 : decode cX2_passWeek 12 = .ok (.aaload, 1) := by decide +kernel
theorem dX2_passWeek_13 : decode cX2_passWeek 13 = .ok (.iload_n 3, 1) := by decide +kernel
theorem dX2_passWeek_14 : decode cX2_passWeek 14 = .ok (.iload_n 1, 1) := by decide +kernel
theorem dX2_passWeek_15 : decode cX2_passWeek 15 = .ok (.iastore, 1) := by decide +kernel
theorem dX2_passWeek_16 : decode cX2_passWeek 16 = .ok (.aload_n 0, 1) := by decide +kernel
theorem dX2_passWeek_17 : decode cX2_passWeek 17 = .ok (.getfield 20, 3) := by decide +kernel
theorem dX2_passWeek_20 : decode cX2_passWeek 20 = .ok (.iconst 3, 1) := by decide +kernel
theorem dX2_passWeek_21 : decode cX2_passWeek 21 = .ok (.aaload, 1) := by decide +kernel
theorem dX2_passWeek_22 : decode cX2_passWeek 22 = .ok (.iload_n 3, 1) := by decide +kernel
theorem dX2_passWeek_23 : decode cX2_passWeek 23 = .ok (.iload_n 2, 1) := by decide +kernel
theorem dX2_passWeek_24 : decode cX2_passWeek 24 = .ok (.iastore, 1) := by decide +kernel
theorem dX2_passWeek_25 : decode cX2_passWeek 25 = .ok (.aload_n 0, 1) := by decide +kernel
theorem dX2_passWeek_26 : decode cX2_passWeek 26 = .ok (.getfield 9, 3) := by decide +kernel
theorem dX2_passWeek_29 : decode cX2_passWeek 29 = .ok (.bipush 9, 2) := by decide +kernel
theorem dX2_passWeek_31 : decode cX2_passWeek 31 = .ok (.aload_n 0, 1) := by decide +kernel
theorem dX2_passWeek_32 : decode cX2_passWeek 32 = .ok (.aload_n 0, 1) := by decide +kernel
theorem dX2_passWeek_33 : decode cX2_passWeek 33 = .ok (.getfield 9, 3) := by decide +kernel
theorem dX2_passWeek_36 : decode cX2_passWeek 36 = .ok (.bipush 9, 2) := by decide +kernel
theorem dX2_passWeek_38 : decode cX2_passWeek 38 = .ok (.iaload, 1) := by decide +kernel
theorem dX2_passWeek_39 : decode cX2_passWeek 39 = .ok (.iload_n 1, 1) := by decide +kernel
theorem dX2_passWeek_40 : decode cX2_passWeek 40 = .ok (.invokevirtual 80, 3) := by decide +kernel
theorem dX2_passWeek_43 : decode cX2_passWeek 43 = .ok (.iastore, 1) := by decide +kernel
theorem dX2_passWeek_44 : decode cX2_passWeek 44 = .ok (.aload_n 0, 1) := by decide +kernel
theorem dX2_passWeek_45 : decode cX2_passWeek 45 = .ok (.getfield 9, 3) := by decide +kernel
theorem dX2_passWeek_48 : decode cX2_passWeek 48 = .ok (.bipush 16, 2) := by decide +kernel
theorem dX2_passWeek_50 : decode cX2_passWeek 50 = .ok (.dup2, 1) := by decide +kernel
theorem dX2_passWeek_51 : decode cX2_passWeek 51 = .ok (.iaload, 1) := by decide +kernel
theorem dX2_passWeek_52 : decode cX2_passWeek 52 = .ok (.aload_n 0, 1) := by decide +kernel
theorem dX2_passWeek_53 : decode cX2_passWeek 53 = .ok (.getfield 9, 3) := by decide +kernel
theorem dX2_passWeek_56 : decode cX2_passWeek 56 = .ok (.bipush 9, 2) := by decide +kernel
theorem dX2_passWeek_58 : decode cX2_passWeek 58 = .ok (.iaload, 1) := by decide +kernel
theorem dX2_passWeek_59 : decode cX2_passWeek 59 = .ok (.invokestatic 83, 3) := by decide +kernel
theorem dX2_passWeek_62 : decode cX2_passWeek 62 = .ok (.iadd, 1) := by decide +kernel
theorem dX2_passWeek_63 : decode cX2_passWeek 63 = .ok (.iastore, 1) := by decide +kernel
theorem dX2_passWeek_64 : decode cX2_passWeek 64 = .ok (.aload_n 0, 1) := by decide +kernel
theorem dX2_passWeek_65 : decode cX2_passWeek 65 = .ok (.getfield 9, 3) := by decide +kernel
theorem dX2_passWeek_68 : decode cX2_passWeek 68 = .ok (.iconst 3, 1) := by decide +kernel
theorem dX2_passWeek_69 : decode cX2_passWeek 69 = .ok (.iconst 0, 1) := by decide +kernel
theorem dX2_passWeek_70 : decode cX2_passWeek 70 = .ok (.iastore, 1) := by decide +kernel
theorem dX2_passWeek_71 : decode cX2_passWeek 71 = .ok (.aload_n 0, 1) := by decide +kernel
theorem dX2_passWeek_72 : decode cX2_passWeek 72 = .ok (.getfield 9, 3) := by decide +kernel
theorem dX2_passWeek_75 : decode cX2_passWeek 75 = .ok (.iconst 2, 1) := by decide +kernel
theorem dX2_passWeek_76 : decode cX2_passWeek 76 = .ok (.dup2, 1) := by decide +kernel
theorem dX2_passWeek_77 : decode cX2_passWeek 77 = .ok (.iaload, 1) := by decide +kernel
theorem dX2_passWeek_78 : decode cX2_passWeek 78 = .ok (.iconst 1, 1) := by decide +kernel
theorem dX2_passWeek_79 : decode cX2_passWeek 79 = .ok (.iadd, 1) := by decide +kernel
theorem dX2_passWeek_80 : decode cX2_passWeek 80 = .ok (.iastore, 1) := by decide +kernel
theorem dX2_passWeek_81 : decode cX2_passWeek 81 = .ok (.return_, 1) := by decide +kernel
theorem dX3_init_0 : decode cX3_init 0 = .ok (.aload_n 0, 1) := by decide +kernel
theorem dX3_init_1 : decode cX3_init 1 = .ok (.invokespecial 3, 3) := by decide +kernel
theorem dX3_init_4 : decode cX3_init 4 = .ok (.aload_n 0, 1) := by decide +kernel
theorem dX3_init_5 : decode cX3_init 5 = .ok (.bipush 21, 2) := by decide +kernel
theorem dX3_init_7 : decode cX3_init 7 = .ok (.bipush 21, 2) := by decide +kernel
theorem dX3_init_9 : decode cX3_init 9 = .ok (.multianewarray 9 2, 4) := by decide +kernel
theorem dX3_init_13 : decode cX3_init 13 = .ok (.putfield 11, 3) := by decide +kernel
theorem dX3_init_16 : decode cX3_init 16 = .ok (.aload_n 0, 1) := by decide +kernel
theorem dX3_init_17 : decode cX3_init 17 = .ok (.bipush 21, 2) := by decide +kernel
theorem dX3_init_19 : decode cX3_init 19 = .ok (.bipush 21, 2) := by decide +kernel
theorem dX3_init_21 : decode cX3_init 21 = .ok (.multianewarray 9 2, 4) := by decide +kernel
theorem dX3_init_25 : decode cX3_init 25 = .ok (.putfield 16, 3) := by decide +kernel
theorem dX3_init_28 : decode cX3_init 28 = .ok (.aload_n 0, 1) := by decide +kernel
theorem dX3_init_29 : decode cX3_init 29 = .ok (.bipush 21, 2) := by decide +kernel
theorem dX3_init_31 : decode cX3_init 31 = .ok (.bipush 21, 2) := by decide +kernel
theorem dX3_init_33 : decode cX3_init 33 = .ok (.multianewarray 9 2, 4) := by decide +kernel
theorem dX3_init_37 : decode cX3_init 37 = .ok (.putfield 19, 3) := by decide +kernel
theorem dX3_init_40 : decode cX3_init 40 = .ok (.aload_n 0, 1) := by decide +kernel
theorem dX3_init_41 : decode cX3_init 41 = .ok (.bipush 21, 2) := by decide +kernel
theorem dX3_init_43 : decode cX3_init 43 = .ok (.bipush 21, 2) := by decide +kernel
theorem dX3_init_45 : decode cX3_init 45 = .ok (.multianewarray 9 2, 4) := by decide +kernel
theorem dX3_init_49 : decode cX3_init 49 = .ok (.putfield 22, 3) := by decide +kernel
theorem dX3_init_52 : decode cX3_init 52 = .ok (.aload_n 0, 1) := by decide +kernel
theorem dX3_init_53 : decode cX3_init 53 = .ok (.iconst 0, 1) := by decide +kernel
theorem dX3_init_54 : decode cX3_init 54 = .ok (.putfield 25, 3) := by decide +kernel
theorem dX3_init_57 : decode cX3_init 57 = .ok (.aload_n 0, 1) := by decide +kernel
theorem dX3_init_58 : decode cX3_init 58 = .ok (.iconst 0, 1) := by decide +kernel
theorem dX3_init_59 : decode cX3_init 59 = .ok (.putfield 29, 3) := by decide +kernel
theorem dX3_init_62 : decode cX3_init 62 = .ok (.return_, 1) := by decide +kernel
theorem dX3_fill_0 : decode cX3_fill 0 = .ok (.aload_n 0, 1) := by decide +kernel
theorem dX3_fill_1 : decode cX3_fill 1 = .ok (.aload_n 1, 1) := by decide +kernel
theorem dX3_fill_2 : decode cX3_fill 2 = .ok (.getfield 32, 3) := by decide +kernel
theorem dX3_fill_5 : decode cX3_fill 5 = .ok (.iconst 1, 1) := by decide +kernel
theorem dX3_fill_6 : decode cX3_fill 6 = .ok (.iaload, 1) := by decide +kernel
theorem dX3_fill_7 : decode cX3_fill 7 = .ok (.putfield 25, 3) := by decide +kernel
theorem dX3_fill_10 : decode cX3_fill 10 = .ok (.aload_n 0, 1) := by decide +kernel
theorem dX3_fill_11 : decode cX3_fill 11 = .ok (.aload_n 1, 1) := by decide +kernel
theorem dX3_fill_12 : decode cX3_fill 12 = .ok (.getfield 32, 3) := by decide +kernel
theorem dX3_fill_15 : decode cX3_fill 15 = .ok (.iconst 0, 1) := by decide +kernel
theorem dX3_fill_16 : decode cX3_fill 16 = .ok (.iaload, 1) := by decide +kernel
theorem dX3_fill_17 : decode cX3_fill 17 = .ok (.putfield 29, 3) := by decide +kernel
theorem dX3_fill_20 : decode cX3_fill 20 = .ok (.aload_n 0, 1) := by decide +kernel
theorem dX3_fill_21 : decode cX3_fill 21 = .ok (.getfield 29, 3) := by decide +kernel
theorem dX3_fill_24 : decode cX3_fill 24 = .ok (.aload_n 0, 1) := by decide +kernel
theorem dX3_fill_25 : decode cX3_fill 25 = .ok (.getfield 25, 3) := by decide +kernel
theorem dX3_fill_28 : decode cX3_fill 28 = .ok (.isub, 1) := by decide +kernel
theorem dX3_fill_29 : decode cX3_fill 29 = .ok (.bipush 30, 2) := by decide +kernel
theorem dX3_fill_31 : decode cX3_fill 31 = .ok (.aload_n 1, 1) := by decide +kernel
theorem dX3_fill_32 : decode cX3_fill 32 = .ok (.getfield 32, 3) := by decide +kernel
theorem dX3_fill_35 : decode cX3_fill 35 = .ok (.iconst 2, 1) := by decide +kernel
theorem dX3_fill_36 : decode cX3_fill 36 = .ok (.iaload, 1) := by decide +kernel
theorem dX3_fill_37 : decode cX3_fill 37 = .ok (.isub, 1) := by decide +kernel
theorem dX3_fill_38 : decode cX3_fill 38 = .ok (.invokestatic 38, 3) := by decide +kernel
theorem dX3_fill_41 : decode cX3_fill 41 = .ok (.istore 4, 2) := by decide +kernel
theorem dX3_fill_43 : decode cX3_fill 43 = .ok (.iload 4, 2) := by decide +kernel
theorem dX3_fill_45 : decode cX3_fill 45 = .ok (.istore 5, 2) := by decide +kernel
theorem dX3_fill_47 : decode cX3_fill 47 = .ok (.iload 5, 2) := by decide +kernel
theorem dX3_fill_49 : decode cX3_fill 49 = .ok (.ifCond .lt 83, 3) := by decide +kernel
theorem dX3_fill_52 : decode cX3_fill 52 = .ok (.aload_n 0, 1) := by decide +kernel
theorem dX3_fill_53 : decode cX3_fill 53 = .ok (.getfield 25, 3) := by decide +kernel
theorem dX3_fill_56 : decode cX3_fill 56 = .ok (.iload 5, 2) := by decide +kernel
theorem dX3_fill_58 : decode cX3_fill 58 = .ok (.iadd, 1) := by decide +kernel
theorem dX3_fill_59 : decode cX3_fill 59 = .ok (.istore 6, 2) := by decide +kernel
theorem dX3_fill_61 : decode cX3_fill 61 = .ok (.iload 6, 2) := by decide +kernel
theorem dX3_fill_63 : decode cX3_fill 63 = .ok (.aload_n 0, 1) := by decide +kernel
theorem dX3_fill_64 : decode cX3_fill 64 = .ok (.getfield 29, 3) := by decide +kernel
theorem dX3_fill_67 : decode cX3_fill 67 = .ok (.if_icmp .ge 20, 3) := by decide +kernel
theorem dX3_fill_70 : decode cX3_fill 70 = .ok (.aload_n 0, 1) := by decide +kernel
theorem dX3_fill_71 : decode cX3_fill 71 = .ok (.getfield 11, 3) := by decide +kernel
theorem dX3_fill_74 : decode cX3_fill 74 = .ok (.iload 5, 2) := by decide +kernel
theorem dX3_fill_76 : decode cX3_fill 76 = .ok (.aaload, 1) := by decide +kernel
theorem dX3_fill_77 : decode cX3_fill 77 = .ok (.iload 6, 2) := by decide +kernel
theorem dX3_fill_79 : decode cX3_fill 79 = .ok (.iconst 0, 1) := by decide +kernel
theorem dX3_fill_80 : decode cX3_fill 80 = .ok (.iastore, 1) := by decide +kernel
theorem dX3_fill_81 : decode cX3_fill 81 = .ok (.iinc 6 1, 3) := by decide +kernel
theorem dX3_fill_84 : decode cX3_fill 84 = .ok (.goto (-23), 3) := by decide +kernel
theorem dX3_fill_87 : decode cX3_fill 87 = .ok (.aload_n 0, 1) := by decide +kernel
theorem dX3_fill_88 : decode cX3_fill 88 = .ok (.getfield 11, 3) := by decide +kernel
theorem dX3_fill_91 : decode cX3_fill 91 = .ok (.iload 5, 2) := by decide +kernel
theorem dX3_fill_93 : decode cX3_fill 93 = .ok (.aaload, 1) := by decide +kernel
theorem dX3_fill_94 : decode cX3_fill 94 = .ok (.aload_n 0, 1) := by decide +kernel
theorem dX3_fill_95 : decode cX3_fill 95 = .ok (.getfield 29, 3) := by decide +kernel
theorem dX3_fill_98 : decode cX3_fill 98 = .ok (.iconst 1, 1) := by decide +kernel
theorem dX3_fill_99 : decode cX3_fill 99 = .ok (.iastore, 1) := by decide +kernel
theorem dX3_fill_100 : decode cX3_fill 100 = .ok (.aload_n 0, 1) := by decide +kernel
theorem dX3_fill_101 : decode cX3_fill 101 = .ok (.getfield 16, 3) := by decide +kernel
theorem dX3_fill_104 : decode cX3_fill 104 = .ok (.iload 5, 2) := by decide +kernel
theorem dX3_fill_106 : decode cX3_fill 106 = .ok (.aaload, 1) := by decide +kernel
theorem dX3_fill_107 : decode cX3_fill 107 = .ok (.aload_n 0, 1) := by decide +kernel
theorem dX3_fill_108 : decode cX3_fill 108 = .ok (.getfield 29, 3) := by decide +kernel
theorem dX3_fill_111 : decode cX3_fill 111 = .ok (.iconst 0, 1) := by decide +kernel
theorem dX3_fill_112 : decode cX3_fill 112 = .ok (.iastore, 1) := by decide +kernel
theorem dX3_fill_113 : decode cX3_fill 113 = .ok (.aload_n 0, 1) := by decide +kernel
theorem dX3_fill_114 : decode cX3_fill 114 = .ok (.getfield 19, 3) := by decide +kernel
theorem dX3_fill_117 : decode cX3_fill 117 = .ok (.iload 5, 2) := by decide +kernel
theorem dX3_fill_119 : decode cX3_fill 119 = .ok (.aaload, 1) := by decide +kernel
theorem dX3_fill_120 : decode cX3_fill 120 = .ok (.aload_n 0, 1) := by decide +kernel
theorem dX3_fill_121 : decode cX3_fill 121 = .ok (.getfield 29, 3) := by decide +kernel
theorem dX3_fill_124 : decode cX3_fill 124 = .ok (.iconst 0, 1) := by decide +kernel
theorem dX3_fill_125 : decode cX3_fill 125 = .ok (.iastore, 1) := by decide +kernel
theorem dX3_fill_126 : decode cX3_fill 126 = .ok (.iinc 5 (-1), 3) := by decide +kernel
theorem dX3_fill_129 : decode cX3_fill 129 = .ok (.goto (-82), 3) := by decide +kernel
theorem dX3_fill_132 : decode cX3_fill 132 = .ok (.iload 4, 2) := by decide +kernel
theorem dX3_fill_134 : decode cX3_fill 134 = .ok (.iconst 1, 1) := by decide +kernel
theorem dX3_fill_135 : decode cX3_fill 135 = .ok (.isub, 1) := by decide +kernel
theorem dX3_fill_136 : decode cX3_fill 136 = .ok (.istore 5, 2) := by decide +kernel
theorem dX3_fill_138 : decode cX3_fill 138 = .ok (.iload 5, 2) := by decide +kernel
theorem dX3_fill_140 : decode cX3_fill 140 = .ok (.ifCond .le 44, 3) := by decide +kernel
theorem dX3_fill_143 : decode cX3_fill 143 = .ok (.aload_n 0, 1) := by decide +kernel
theorem dX3_fill_144 : decode cX3_fill 144 = .ok (.getfield 25, 3) := by decide +kernel
theorem dX3_fill_147 : decode cX3_fill 147 = .ok (.iload 5, 2) := by decide +kernel
theorem dX3_fill_149 : decode cX3_fill 149 = .ok (.iadd, 1) := by decide +kernel
theorem dX3_fill_150 : decode cX3_fill 150 = .ok (.istore 6, 2) := by decide +kernel
theorem dX3_fill_152 : decode cX3_fill 152 = .ok (.iload 6, 2) := by decide +kernel
theorem dX3_fill_154 : decode cX3_fill 154 = .ok (.aload_n 0, 1) := by decide +kernel
theorem dX3_fill_155 : decode cX3_fill 155 = .ok (.getfield 29, 3) := by decide +kernel
theorem dX3_fill_158 : decode cX3_fill 158 = .ok (.if_icmp .ge 20, 3) := by decide +kernel
theorem dX3_fill_161 : decode cX3_fill 161 = .ok (.aload_n 0, 1) := by decide +kernel
theorem dX3_fill_162 : decode cX3_fill 162 = .ok (.aload_n 1, 1) := by decide +kernel
theorem dX3_fill_163 : decode cX3_fill 163 = .ok (.iload 5, 2) := by decide +kernel
theorem dX3_fill_165 : decode cX3_fill 165 = .ok (.iload 6, 2) := by decide +kernel
theorem dX3_fill_167 : decode cX3_fill 167 = .ok (.iconst 0, 1) := by decide +kernel
theorem dX3_fill_168 : decode cX3_fill 168 = .ok (.iload_n 3, 1) := by decide +kernel
theorem dX3_fill_169 : decode cX3_fill 169 = .ok (.invokevirtual 44, 3) := by decide +kernel
theorem dX3_fill_172 : decode cX3_fill 172 = .ok (.iinc 6 1, 3) := by decide +kernel
theorem dX3_fill_175 : decode cX3_fill 175 = .ok (.goto (-23), 3) := by decide +kernel
theorem dX3_fill_178 : decode cX3_fill 178 = .ok (.iinc 5 (-1), 3) := by decide +kernel
theorem dX3_fill_181 : decode cX3_fill 181 = .ok (.goto (-43), 3) := by decide +kernel
theorem dX3_fill_184 : decode cX3_fill 184 = .ok (.iload 4, 2) := by decide +kernel
theorem dX3_fill_186 : decode cX3_fill 186 = .ok (.ifCond .le 15, 3) := by decide +kernel
theorem dX3_fill_189 : decode cX3_fill 189 = .ok (.aload_n 0, 1) := by decide +kernel
theorem dX3_fill_190 : decode cX3_fill 190 = .ok (.aload_n 1, 1) := by decide +kernel
theorem dX3_fill_191 : decode cX3_fill 191 = .ok (.iconst 0, 1) := by decide +kernel
theorem dX3_fill_192 : decode cX3_fill 192 = .ok (.aload_n 0, 1) := by decide +kernel
theorem dX3_fill_193 : decode cX3_fill 193 = .ok (.getfield 25, 3) := by decide +kernel
theorem dX3_fill_196 : decode cX3_fill 196 = .ok (.iload_n 2, 1) := by decide +kernel
theorem dX3_fill_197 : decode cX3_fill 197 = .ok (.iload_n 3, 1) := by decide +kernel
theorem dX3_fill_198 : decode cX3_fill 198 = .ok (.invokevirtual 44, 3) := by decide +kernel
theorem dX3_fill_201 : decode cX3_fill 201 = .ok (.return_, 1) := by decide +kernel
theorem dX3_fillPlace_0 : decode cX3_fillPlace 0 = .ok (.aload_n 1, 1) := by decide +kernel
theorem dX3_fillPlace_1 : decode cX3_fillPlace 1 = .ok (.getfield 32, 3) := by decide +kernel
theorem dX3_fillPlace_4 : decode cX3_fillPlace 4 = .ok (.iconst 2, 1) := by decide +kernel
theorem dX3_fillPlace_5 : decode cX3_fillPlace 5 = .ok (.iaload, 1) := by decide +kernel
theorem dX3_fillPlace_6 : decode cX3_fillPlace 6 = .ok (.iload_n 2, 1) := by decide +kernel
theorem dX3_fillPlace_7 : decode cX3_fillPlace 7 = .ok (.iadd, 1) := by decide +kernel
theorem dX3_fillPlace_8 : decode cX3_fillPlace 8 = .ok (.istore 6, 2) := by decide +kernel
theorem dX3_fillPlace_10 : decode cX3_fillPlace 10 = .ok (.iconst 1, 1) := by decide +kernel
theorem dX3_fillPlace_11 : decode cX3_fillPlace 11 = .ok (.istore 7, 2) := by decide +kernel
theorem dX3_fillPlace_13 : decode cX3_fillPlace 13 = .ok (.iload 7, 2) := by decide +kernel
theorem dX3_fillPlace_15 : decode cX3_fillPlace 15 = .ok (.aload_n 0, 1) := by decide +kernel
theorem dX3_fillPlace_16 : decode cX3_fillPlace 16 = .ok (.getfield 29, 3) := by decide +kernel
theorem dX3_fillPlace_19 : decode cX3_fillPlace 19 = .ok (.iload_n 3, 1) := by decide +kernel
theorem dX3_fillPlace_20 : decode cX3_fillPlace 20 = .ok (.isub, 1) := by decide +kernel
theorem dX3_fillPlace_21 : decode cX3_fillPlace 21 = .ok (.if_icmp .gt 83, 3) := by decide +kernel
theorem dX3_fillPlace_24 : decode cX3_fillPlace 24 = .ok (.iload_n 3, 1) := by decide +kernel
theorem dX3_fillPlace_25 : decode cX3_fillPlace 25 = .ok (.iload 7, 2) := by decide +kernel
theorem dX3_fillPlace_27 : decode cX3_fillPlace 27 = .ok (.iadd, 1) := by decide +kernel
theorem dX3_fillPlace_28 : decode cX3_fillPlace 28 = .ok (.istore 8, 2) := by decide +kernel
theorem dX3_fillPlace_30 : decode cX3_fillPlace 30 = .ok (.aload_n 0, 1) := by decide +kernel
theorem dX3_fillPlace_31 : decode cX3_fillPlace 31 = .ok (.getfield 11, 3) := by decide +kernel
theorem dX3_fillPlace_34 : decode cX3_fillPlace 34 = .ok (.iload_n 2, 1) := by decide +kernel
theorem dX3_fillPlace_35 : decode cX3_fillPlace 35 = .ok (.iconst 1, 1) := by decide +kernel
theorem dX3_fillPlace_36 : decode cX3_fillPlace 36 = .ok (.iadd, 1) := by decide +kernel
theorem dX3_fillPlace_37 : decode cX3_fillPlace 37 = .ok (.aaload, 1) := by decide +kernel
theorem dX3_fillPlace_38 : decode cX3_fillPlace 38 = .ok (.iload 8, 2) := by decide +kernel
theorem dX3_fillPlace_40 : decode cX3_fillPlace 40 = .ok (.iaload, 1) := by decide +kernel
theorem dX3_fillPlace_41 : decode cX3_fillPlace 41 = .ok (.ifCond .le 57, 3) := by decide +kernel
theorem dX3_fillPlace_44 : decode cX3_fillPlace 44 = .ok (.aload_n 1, 1) := by decide +kernel
theorem dX3_fillPlace_45 : decode cX3_fillPlace 45 = .ok (.iload_n 3, 1) := by decide +kernel
theorem dX3_fillPlace_46 : decode cX3_fillPlace 46 = .ok (.iload 7, 2) := by decide +kernel
theorem dX3_fillPlace_48 : decode cX3_fillPlace 48 = .ok (.iload 6, 2) := by decide +kernel
theorem dX3_fillPlace_50 : decode cX3_fillPlace 50 = .ok (.iload 4, 2) := by decide +kernel
theorem dX3_fillPlace_52 : decode cX3_fillPlace 52 = .ok (.iload 5, 2) := by decide +kernel
theorem dX3_fillPlace_54 : decode cX3_fillPlace 54 = .ok (.invokevirtual 48, 3) := by decide +kernel
theorem dX3_fillPlace_57 : decode cX3_fillPlace 57 = .ok (.ifCond .ne 41, 3) := by decide +kernel
theorem dX3_fillPlace_60 : decode cX3_fillPlace 60 = .ok (.aload_n 0, 1) := by decide +kernel
theorem dX3_fillPlace_61 : decode cX3_fillPlace 61 = .ok (.iload_n 2, 1) := by decide +kernel
theorem dX3_fillPlace_62 : decode cX3_fillPlace 62 = .ok (.iload_n 3, 1) := by decide +kernel
theorem dX3_fillPlace_63 : decode cX3_fillPlace 63 = .ok (.iload 7, 2) := by decide +kernel
theorem dX3_fillPlace_65 : decode cX3_fillPlace 65 = .ok (.aload_n 1, 1) := by decide +kernel
theorem dX3_fillPlace_66 : decode cX3_fillPlace 66 = .ok (.iload 8, 2) := by decide +kernel
theorem dX3_fillPlace_68 : decode cX3_fillPlace 68 = .ok (.iload 4, 2) := by decide +kernel
theorem dX3_fillPlace_70 : decode cX3_fillPlace 70 = .ok (.invokevirtual 52, 3) := by decide +kernel
theorem dX3_fillPlace_73 : decode cX3_fillPlace 73 = .ok (.invokevirtual 55, 3) := by decide +kernel
theorem dX3_fillPlace_76 : decode cX3_fillPlace 76 = .ok (.aload_n 0, 1) := by decide +kernel
theorem dX3_fillPlace_77 : decode cX3_fillPlace 77 = .ok (.getfield 11, 3) := by decide +kernel
theorem dX3_fillPlace_80 : decode cX3_fillPlace 80 = .ok (.iload_n 2, 1) := by decide +kernel
theorem dX3_fillPlace_81 : decode cX3_fillPlace 81 = .ok (.aaload, 1) := by decide +kernel
theorem dX3_fillPlace_82 : decode cX3_fillPlace 82 = .ok (.iload_n 3, 1) := by decide +kernel
theorem dX3_fillPlace_83 : decode cX3_fillPlace 83 = .ok (.dup2, 1) := by decide +kernel
theorem dX3_fillPlace_84 : decode cX3_fillPlace 84 = .ok (.iaload, 1) := by decide +kernel
theorem dX3_fillPlace_85 : decode cX3_fillPlace 85 = .ok (.aload_n 0, 1) := by decide +kernel
theorem dX3_fillPlace_86 : decode cX3_fillPlace 86 = .ok (.getfield 11, 3) := by decide +kernel
theorem dX3_fillPlace_89 : decode cX3_fillPlace 89 = .ok (.iload_n 2, 1) := by decide +kernel
theorem dX3_fillPlace_90 : decode cX3_fillPlace 90 = .ok (.iconst 1, 1) := by decide +kernel
theorem dX3_fillPlace_91 : decode cX3_fillPlace 91 = .ok (.iadd, 1) := by decide +kernel
theorem dX3_fillPlace_92 : decode cX3_fillPlace 92 = .ok (.aaload, 1) := by decide +kernel
theorem dX3_fillPlace_93 : decode cX3_fillPlace 93 = .ok (.iload 8, 2) := by decide +kernel
theorem dX3_fillPlace_95 : decode cX3_fillPlace 95 = .ok (.iaload, 1) := by decide +kernel
theorem dX3_fillPlace_96 : decode cX3_fillPlace 96 = .ok (.iadd, 1) := by decide +kernel
theorem dX3_fillPlace_97 : decode cX3_fillPlace 97 = .ok (.iastore, 1) := by decide +kernel
theorem dX3_fillPlace_98 : decode cX3_fillPlace 98 = .ok (.iinc 7 1, 3) := by decide +kernel
theorem dX3_fillPlace_101 : decode cX3_fillPlace 101 = .ok (.goto (-88), 3) := by decide +kernel
theorem dX3_fillPlace_104 : decode cX3_fillPlace 104 = .ok (.return_, 1) := by decide +kernel
theorem dX3_offer_0 : decode cX3_offer 0 = .ok (.aload_n 0, 1) := by decide +kernel
theorem dX3_offer_1 : decode cX3_offer 1 = .ok (.getfield 16, 3) := by decide +kernel
theorem dX3_offer_4 : decode cX3_offer 4 = .ok (.iload_n 1, 1) := by decide +kernel
theorem dX3_offer_5 : decode cX3_offer 5 = .ok (.iconst 1, 1) := by decide +kernel
theorem dX3_offer_6 : decode cX3_offer 6 = .ok (.iadd, 1) := by decide +kernel
theorem dX3_offer_7 : decode cX3_offer 7 = .ok (.aaload, 1) := by decide +kernel
theorem dX3_offer_8 : decode cX3_offer 8 = .ok (.iload_n 2, 1) := by decide +kernel
theorem dX3_offer_9 : decode cX3_offer 9 = .ok (.iload_n 3, 1) := by decide +kernel
theorem dX3_offer_10 : decode cX3_offer 10 = .ok (.iadd, 1) := by decide +kernel
theorem dX3_offer_11 : decode cX3_offer 11 = .ok (.iaload, 1) := by decide +kernel
theorem dX3_offer_12 : decode cX3_offer 12 = .ok (.iconst 1, 1) := by decide +kernel
theorem dX3_offer_13 : decode cX3_offer 13 = .ok (.iadd, 1) := by decide +kernel
theorem dX3_offer_14 : decode cX3_offer 14 = .ok (.istore 5, 2) := by decide +kernel
theorem dX3_offer_16 : decode cX3_offer 16 = .ok (.aload_n 0, 1) := by decide +kernel
theorem dX3_offer_17 : decode cX3_offer 17 = .ok (.getfield 19, 3) := by decide +kernel
theorem dX3_offer_20 : decode cX3_offer 20 = .ok (.iload_n 1, 1) := by decide +kernel
theorem dX3_offer_21 : decode cX3_offer 21 = .ok (.iconst 1, 1) := by decide +kernel
theorem dX3_offer_22 : decode cX3_offer 22 = .ok (.iadd, 1) := by decide +kernel
theorem dX3_offer_23 : decode cX3_offer 23 = .ok (.aaload, 1) := by decide +kernel
theorem dX3_offer_24 : decode cX3_offer 24 = .ok (.iload_n 2, 1) := by decide +kernel
theorem dX3_offer_25 : decode cX3_offer 25 = .ok (.iload_n 3, 1) := by decide +kernel
theorem dX3_offer_26 : decode cX3_offer 26 = .ok (.iadd, 1) := by decide +kernel
theorem dX3_offer_27 : decode cX3_offer 27 = .ok (.iaload, 1) := by decide +kernel
theorem dX3_offer_28 : decode cX3_offer 28 = .ok (.iload 4, 2) := by decide +kernel
theorem dX3_offer_30 : decode cX3_offer 30 = .ok (.iadd, 1) := by decide +kernel
theorem dX3_offer_31 : decode cX3_offer 31 = .ok (.istore 6, 2) := by decide +kernel
theorem dX3_offer_33 : decode cX3_offer 33 = .ok (.aload_n 0, 1) := by decide +kernel
theorem dX3_offer_34 : decode cX3_offer 34 = .ok (.getfield 11, 3) := by decide +kernel
theorem dX3_offer_37 : decode cX3_offer 37 = .ok (.iload_n 1, 1) := by decide +kernel
theorem dX3_offer_38 : decode cX3_offer 38 = .ok (.aaload, 1) := by decide +kernel
theorem dX3_offer_39 : decode cX3_offer 39 = .ok (.iload_n 2, 1) := by decide +kernel
theorem dX3_offer_40 : decode cX3_offer 40 = .ok (.iaload, 1) := by decide +kernel
theorem dX3_offer_41 : decode cX3_offer 41 = .ok (.ifCond .eq 42, 3) := by decide +kernel
theorem dX3_offer_44 : decode cX3_offer 44 = .ok (.iload 5, 2) := by decide +kernel
theorem dX3_offer_46 : decode cX3_offer 46 = .ok (.aload_n 0, 1) := by decide +kernel
theorem dX3_offer_47 : decode cX3_offer 47 = .ok (.getfield 16, 3) := by decide +kernel
theorem dX3_offer_50 : decode cX3_offer 50 = .ok (.iload_n 1, 1) := by decide +kernel
theorem dX3_offer_51 : decode cX3_offer 51 = .ok (.aaload, 1) := by decide +kernel
theorem dX3_offer_52 : decode cX3_offer 52 = .ok (.iload_n 2, 1) := by decide +kernel
theorem dX3_offer_53 : decode cX3_offer 53 = .ok (.iaload, 1) := by decide +kernel
theorem dX3_offer_54 : decode cX3_offer 54 = .ok (.if_icmp .lt 29, 3) := by decide +kernel
theorem dX3_offer_57 : decode cX3_offer 57 = .ok (.iload 5, 2) := by decide +kernel
theorem dX3_offer_59 : decode cX3_offer 59 = .ok (.aload_n 0, 1) := by decide +kernel
theorem dX3_offer_60 : decode cX3_offer 60 = .ok (.getfield 16, 3) := by decide +kernel
theorem dX3_offer_63 : decode cX3_offer 63 = .ok (.iload_n 1, 1) := by decide +kernel
theorem dX3_offer_64 : decode cX3_offer 64 = .ok (.aaload, 1) := by decide +kernel
theorem dX3_offer_65 : decode cX3_offer 65 = .ok (.iload_n 2, 1) := by decide +kernel
theorem dX3_offer_66 : decode cX3_offer 66 = .ok (.iaload, 1) := by decide +kernel
theorem dX3_offer_67 : decode cX3_offer 67 = .ok (.if_icmp .ne 45, 3) := by decide +kernel
theorem dX3_offer_70 : decode cX3_offer 70 = .ok (.iload 6, 2) := by decide +kernel
theorem dX3_offer_72 : decode cX3_offer 72 = .ok (.aload_n 0, 1) := by decide +kernel
theorem dX3_offer_73 : decode cX3_offer 73 = .ok (.getfield 19, 3) := by decide +kernel
theorem dX3_offer_76 : decode cX3_offer 76 = .ok (.iload_n 1, 1) := by decide +kernel
theorem dX3_offer_77 : decode cX3_offer 77 = .ok (.aaload, 1) := by decide +kernel
theorem dX3_offer_78 : decode cX3_offer 78 = .ok (.iload_n 2, 1) := by decide +kernel
theorem dX3_offer_79 : decode cX3_offer 79 = .ok (.iaload, 1) := by decide +kernel
theorem dX3_offer_80 : decode cX3_offer 80 = .ok (.if_icmp .le 32, 3) := by decide +kernel
theorem dX3_offer_83 : decode cX3_offer 83 = .ok (.aload_n 0, 1) := by decide +kernel
theorem dX3_offer_84 : decode cX3_offer 84 = .ok (.getfield 16, 3) := by decide +kernel
theorem dX3_offer_87 : decode cX3_offer 87 = .ok (.iload_n 1, 1) := by decide +kernel
theorem dX3_offer_88 : decode cX3_offer 88 = .ok (.aaload, 1) := by decide +kernel
theorem dX3_offer_89 : decode cX3_offer 89 = .ok (.iload_n 2, 1) := by decide +kernel
theorem dX3_offer_90 : decode cX3_offer 90 = .ok (.iload 5, 2) := by decide +kernel
theorem dX3_offer_92 : decode cX3_offer 92 = .ok (.iastore, 1) := by decide +kernel
theorem dX3_offer_93 : decode cX3_offer 93 = .ok (.aload_n 0, 1) := by decide +kernel
theorem dX3_offer_94 : decode cX3_offer 94 = .ok (.getfield 19, 3) := by decide +kernel
theorem dX3_offer_97 : decode cX3_offer 97 = .ok (.iload_n 1, 1) := by decide +kernel
theorem dX3_offer_98 : decode cX3_offer 98 = .ok (.aaload, 1) := by decide +kernel
theorem dX3_offer_99 : decode cX3_offer 99 = .ok (.iload_n 2, 1) := by decide +kernel
theorem dX3_offer_100 : decode cX3_offer 100 = .ok (.iload 6, 2) := by decide +kernel
theorem dX3_offer_102 : decode cX3_offer 102 = .ok (.iastore, 1) := by decide +kernel
theorem dX3_offer_103 : decode cX3_offer 103 = .ok (.aload_n 0, 1) := by decide +kernel
theorem dX3_offer_104 : decode cX3_offer 104 = .ok (.getfield 22, 3) := by decide +kernel
theorem dX3_offer_107 : decode cX3_offer 107 = .ok (.iload_n 1, 1) := by decide +kernel
theorem dX3_offer_108 : decode cX3_offer 108 = .ok (.aaload, 1) := by decide +kernel
theorem dX3_offer_109 : decode cX3_offer 109 = .ok (.iload_n 2, 1) := by decide +kernel
theorem dX3_offer_110 : decode cX3_offer 110 = .ok (.iload_n 3, 1) := by decide +kernel
theorem dX3_offer_111 : decode cX3_offer 111 = .ok (.iastore, 1) := by decide +kernel
theorem dX3_offer_112 : decode cX3_offer 112 = .ok (.return_, 1) := by decide +kernel
theorem dX3_plansFound_0 : decode cX3_plansFound 0 = .ok (.aload_n 0, 1) := by decide +kernel
theorem dX3_plansFound_1 : decode cX3_plansFound 1 = .ok (.getfield 25, 3) := by decide +kernel
theorem dX3_plansFound_4 : decode cX3_plansFound 4 = .ok (.aload_n 0, 1) := by decide +kernel
theorem dX3_plansFound_5 : decode cX3_plansFound 5 = .ok (.getfield 29, 3) := by decide +kernel
theorem dX3_plansFound_8 : decode cX3_plansFound 8 = .ok (.if_icmp .ge 17, 3) := by decide +kernel
theorem dX3_plansFound_11 : decode cX3_plansFound 11 = .ok (.aload_n 0, 1) := by decide +kernel
theorem dX3_plansFound_12 : decode cX3_plansFound 12 = .ok (.getfield 11, 3) := by decide +kernel
theorem dX3_plansFound_15 : decode cX3_plansFound 15 = .ok (.iconst 0, 1) := by decide +kernel
theorem dX3_plansFound_16 : decode cX3_plansFound 16 = .ok (.aaload, 1) := by decide +kernel
theorem dX3_plansFound_17 : decode cX3_plansFound 17 = .ok (.aload_n 0, 1) := by decide +kernel
theorem dX3_plansFound_18 : decode cX3_plansFound 18 = .ok (.getfield 25, 3) := by decide +kernel
theorem dX3_plansFound_21 : decode cX3_plansFound 21 = .ok (.iaload, 1) := by decide +kernel
theorem dX3_plansFound_22 : decode cX3_plansFound 22 = .ok (.goto 4, 3) := by decide +kernel
theorem dX3_plansFound_25 : decode cX3_plansFound 25 = .ok (.iconst 0, 1) := by decide +kernel
theorem dX3_plansFound_26 : decode cX3_plansFound 26 = .ok (.ireturn, 1) := by decide +kernel
theorem dX3_plansBehindFirst_0 : decode cX3_plansBehindFirst 0 = .ok (.aload_n 0, 1) := by decide +kernel
theorem dX3_plansBehindFirst_1 : decode cX3_plansBehindFirst 1 = .ok (.getfield 11, 3) := by decide +kernel
theorem dX3_plansBehindFirst_4 : decode cX3_plansBehindFirst 4 = .ok (.iconst 1, 1) := by decide +kernel
theorem dX3_plansBehindFirst_5 : decode cX3_plansBehindFirst 5 = .ok (.aaload, 1) := by decide +kernel
theorem dX3_plansBehindFirst_6 : decode cX3_plansBehindFirst 6 = .ok (.aload_n 0, 1) := by decide +kernel
theorem dX3_plansBehindFirst_7 : decode cX3_plansBehindFirst 7 = .ok (.getfield 25, 3) := by decide +kernel
theorem dX3_plansBehindFirst_10 : decode cX3_plansBehindFirst 10 = .ok (.iload_n 1, 1) := by decide +kernel
theorem dX3_plansBehindFirst_11 : decode cX3_plansBehindFirst 11 = .ok (.iadd, 1) := by decide +kernel
theorem dX3_plansBehindFirst_12 : decode cX3_plansBehindFirst 12 = .ok (.iaload, 1) := by decide +kernel
theorem dX3_plansBehindFirst_13 : decode cX3_plansBehindFirst 13 = .ok (.ireturn, 1) := by decide +kernel
theorem dX3_instalments_0 : decode cX3_instalments 0 = .ok (.aload_n 0, 1) := by decide +kernel
theorem dX3_instalments_1 : decode cX3_instalments 1 = .ok (.getfield 16, 3) := by decide +kernel
theorem dX3_instalments_4 : decode cX3_instalments 4 = .ok (.iconst 0, 1) := by decide +kernel
theorem dX3_instalments_5 : decode cX3_instalments 5 = .ok (.aaload, 1) := by decide +kernel
theorem dX3_instalments_6 : decode cX3_instalments 6 = .ok (.aload_n 0, 1) := by decide +kernel
theorem dX3_instalments_7 : decode cX3_instalments 7 = .ok (.getfield 25, 3) := by decide +kernel
theorem dX3_instalments_10 : decode cX3_instalments 10 = .ok (.iaload, 1) := by decide +kernel
theorem dX3_instalments_11 : decode cX3_instalments 11 = .ok (.ireturn, 1) := by decide +kernel
theorem dX3_tensions_0 : decode cX3_tensions 0 = .ok (.aload_n 0, 1) := by decide +kernel
theorem dX3_tensions_1 : decode cX3_tensions 1 = .ok (.getfield 19, 3) := by decide +kernel
theorem dX3_tensions_4 : decode cX3_tensions 4 = .ok (.iconst 0, 1) := by decide +kernel
theorem dX3_tensions_5 : decode cX3_tensions 5 = .ok (.aaload, 1) := by decide +kernel
theorem dX3_tensions_6 : decode cX3_tensions 6 = .ok (.aload_n 0, 1) := by decide +kernel
theorem dX3_tensions_7 : decode cX3_tensions 7 = .ok (.getfield 25, 3) := by decide +kernel
theorem dX3_tensions_10 : decode cX3_tensions 10 = .ok (.iaload, 1) := by decide +kernel
theorem dX3_tensions_11 : decode cX3_tensions 11 = .ok (.ireturn, 1) := by decide +kernel
theorem dX3_startOf_0 : decode cX3_startOf 0 = .ok (.aload_n 0, 1) := by decide +kernel
theorem dX3_startOf_1 : decode cX3_startOf 1 = .ok (.getfield 25, 3) := by decide +kernel
theorem dX3_startOf_4 : decode cX3_startOf 4 = .ok (.istore_n 2, 1) := by decide +kernel
theorem dX3_startOf_5 : decode cX3_startOf 5 = .ok (.iconst 0, 1) := by decide +kernel
theorem dX3_startOf_6 : decode cX3_startOf 6 = .ok (.istore_n 3, 1) := by decide +kernel
theorem dX3_startOf_7 : decode cX3_startOf 7 = .ok (.iload_n 3, 1) := by decide +kernel
theorem dX3_startOf_8 : decode cX3_startOf 8 = .ok (.iload_n 1, 1) := by decide +kernel
theorem dX3_startOf_9 : decode cX3_startOf 9 = .ok (.if_icmp .ge 20, 3) := by decide +kernel
theorem dX3_startOf_12 : decode cX3_startOf 12 = .ok (.iload_n 2, 1) := by decide +kernel
theorem dX3_startOf_13 : decode cX3_startOf 13 = .ok (.aload_n 0, 1) := by decide +kernel
theorem dX3_startOf_14 : decode cX3_startOf 14 = .ok (.getfield 22, 3) := by decide +kernel
theorem dX3_startOf_17 : decode cX3_startOf 17 = .ok (.iload_n 3, 1) := by decide +kernel
theorem dX3_startOf_18 : decode cX3_startOf 18 = .ok (.aaload, 1) := by decide +kernel
theorem dX3_startOf_19 : decode cX3_startOf 19 = .ok (.iload_n 2, 1) := by decide +kernel
theorem dX3_startOf_20 : decode cX3_startOf 20 = .ok (.iaload, 1) := by decide +kernel
theorem dX3_startOf_21 : decode cX3_startOf 21 = .ok (.iadd, 1) := by decide +kernel
theorem dX3_startOf_22 : decode cX3_startOf 22 = .ok (.istore_n 2, 1) := by decide +kernel
theorem dX3_startOf_23 : decode cX3_startOf 23 = .ok (.iinc 3 1, 3) := by decide +kernel
theorem dX3_startOf_26 : decode cX3_startOf 26 = .ok (.goto (-19), 3) := by decide +kernel
theorem dX3_startOf_29 : decode cX3_startOf 29 = .ok (.iload_n 2, 1) := by decide +kernel
theorem dX3_startOf_30 : decode cX3_startOf 30 = .ok (.ireturn, 1) := by decide +kernel
theorem dX4_init_0 : decode cX4_init 0 = .ok (.aload_n 0, 1) := by decide +kernel
theorem dX4_init_1 : decode cX4_init 1 = .ok (.invokespecial 3, 3) := by decide +kernel
theorem dX4_init_4 : decode cX4_init 4 = .ok (.aload_n 0, 1) := by decide +kernel
theorem dX4_init_5 : decode cX4_init 5 = .ok (.bipush 100, 2) := by decide +kernel
theorem dX4_init_7 : decode cX4_init 7 = .ok (.newarray .int, 2) := by decide +kernel
theorem dX4_init_9 : decode cX4_init 9 = .ok (.putfield 9, 3) := by decide +kernel
theorem dX4_init_12 : decode cX4_init 12 = .ok (.aload_n 0, 1) := by decide +kernel
theorem dX4_init_13 : decode cX4_init 13 = .ok (.iconst 4, 1) := by decide +kernel
theorem dX4_init_14 : decode cX4_init 14 = .ok (.bipush 20, 2) := by decide +kernel
theorem dX4_init_16 : decode cX4_init 16 = .ok (.multianewarray 15 2, 4) := by decide +kernel
theorem dX4_init_20 : decode cX4_init 20 = .ok (.putfield 17, 3) := by decide +kernel
theorem dX4_init_23 : decode cX4_init 23 = .ok (.aload_n 0, 1) := by decide +kernel
theorem dX4_init_24 : decode cX4_init 24 = .ok (.iconst 0, 1) := by decide +kernel
theorem dX4_init_25 : decode cX4_init 25 = .ok (.putfield 20, 3) := by decide +kernel
theorem dX4_init_28 : decode cX4_init 28 = .ok (.aload_n 0, 1) := by decide +kernel
theorem dX4_init_29 : decode cX4_init 29 = .ok (.iconst 0, 1) := by decide +kernel
theorem dX4_init_30 : decode cX4_init 30 = .ok (.putfield 24, 3) := by decide +kernel
theorem dX4_init_33 : decode cX4_init 33 = .ok (.aload_n 0, 1) := by decide +kernel
theorem dX4_init_34 : decode cX4_init 34 = .ok (.iconst 0, 1) := by decide +kernel
theorem dX4_init_35 : decode cX4_init 35 = .ok (.putfield 27, 3) := by decide +kernel
theorem dX4_init_38 : decode cX4_init 38 = .ok (.return_, 1) := by decide +kernel
theorem dX4_findFault_0 : decode cX4_findFault 0 = .ok (.aload_n 0, 1) := by decide +kernel
theorem dX4_findFault_1 : decode cX4_findFault 1 = .ok (.iconst 0, 1) := by decide +kernel
theorem dX4_findFault_2 : decode cX4_findFault 2 = .ok (.putfield 27, 3) := by decide +kernel
theorem dX4_findFault_5 : decode cX4_findFault 5 = .ok (.aload_n 0, 1) := by decide +kernel
theorem dX4_findFault_6 : decode cX4_findFault 6 = .ok (.iconst 0, 1) := by decide +kernel
theorem dX4_findFault_7 : decode cX4_findFault 7 = .ok (.putfield 24, 3) := by decide +kernel
theorem dX4_findFault_10 : decode cX4_findFault 10 = .ok (.aload_n 0, 1) := by decide +kernel
theorem dX4_findFault_11 : decode cX4_findFault 11 = .ok (.getfield 24, 3) := by decide +kernel
theorem dX4_findFault_14 : decode cX4_findFault 14 = .ok (.bipush 20, 2) := by decide +kernel
theorem dX4_findFault_16 : decode cX4_findFault 16 = .ok (.if_icmp .ge 76, 3) := by decide +kernel
theorem dX4_findFault_19 : decode cX4_findFault 19 = .ok (.aload_n 0, 1) := by decide +kernel
theorem dX4_findFault_20 : decode cX4_findFault 20 = .ok (.invokevirtual 30, 3) := by decide +kernel
theorem dX4_findFault_23 : decode cX4_findFault 23 = .ok (.ifCond .ne 8, 3) := by decide +kernel
theorem dX4_findFault_26 : decode cX4_findFault 26 = .ok (.aload_n 0, 1) := by decide +kernel
theorem dX4_findFault_27 : decode cX4_findFault 27 = .ok (.getfield 27, 3) := by decide +kernel
theorem dX4_findFault_30 : decode cX4_findFault 30 = .ok (.ireturn, 1) := by decide +kernel
theorem dX4_findFault_31 : decode cX4_findFault 31 = .ok (.aload_n 0, 1) := by decide +kernel
theorem dX4_findFault_32 : decode cX4_findFault 32 = .ok (.getfield 27, 3) := by decide +kernel
theorem dX4_findFault_35 : decode cX4_findFault 35 = .ok (.aload_n 0, 1) := by decide +kernel
theorem dX4_findFault_36 : decode cX4_findFault 36 = .ok (.getfield 20, 3) := by decide +kernel
theorem dX4_findFault_39 : decode cX4_findFault 39 = .ok (.if_icmp .ne 16, 3) := by decide +kernel
theorem dX4_findFault_42 : decode cX4_findFault 42 = .ok (.aload_n 0, 1) := by decide +kernel
theorem dX4_findFault_43 : decode cX4_findFault 43 = .ok (.dup, 1) := by decide +kernel
theorem dX4_findFault_44 : decode cX4_findFault 44 = .ok (.getfield 24, 3) := by decide +kernel
theorem dX4_findFault_47 : decode cX4_findFault 47 = .ok (.iconst 1, 1) := by decide +kernel
theorem dX4_findFault_48 : decode cX4_findFault 48 = .ok (.iadd, 1) := by decide +kernel
theorem dX4_findFault_49 : decode cX4_findFault 49 = .ok (.putfield 24, 3) := by decide +kernel
theorem dX4_findFault_52 : decode cX4_findFault 52 = .ok (.ldc 34, 2) := by decide +kernel
theorem dX4_findFault_54 : decode cX4_findFault 54 = .ok (.ireturn, 1) := by decide +kernel
theorem dX4_findFault_55 : decode cX4_findFault 55 = .ok (.aload_n 0, 1) := by decide +kernel
theorem dX4_findFault_56 : decode cX4_findFault 56 = .ok (.invokevirtual 35, 3) := by decide +kernel
theorem dX4_findFault_59 : decode cX4_findFault 59 = .ok (.bipush 59, 2) := by decide +kernel
theorem dX4_findFault_61 : decode cX4_findFault 61 = .ok (.if_icmp .eq 8, 3) := by decide +kernel
theorem dX4_findFault_64 : decode cX4_findFault 64 = .ok (.aload_n 0, 1) := by decide +kernel
theorem dX4_findFault_65 : decode cX4_findFault 65 = .ok (.getfield 27, 3) := by decide +kernel
theorem dX4_findFault_68 : decode cX4_findFault 68 = .ok (.ireturn, 1) := by decide +kernel
theorem dX4_findFault_69 : decode cX4_findFault 69 = .ok (.aload_n 0, 1) := by decide +kernel
theorem dX4_findFault_70 : decode cX4_findFault 70 = .ok (.dup, 1) := by decide +kernel
theorem dX4_findFault_71 : decode cX4_findFault 71 = .ok (.getfield 27, 3) := by decide +kernel
theorem dX4_findFault_74 : decode cX4_findFault 74 = .ok (.iconst 1, 1) := by decide +kernel
theorem dX4_findFault_75 : decode cX4_findFault 75 = .ok (.iadd, 1) := by decide +kernel
theorem dX4_findFault_76 : decode cX4_findFault 76 = .ok (.putfield 27, 3) := by decide +kernel
theorem dX4_findFault_79 : decode cX4_findFault 79 = .ok (.aload_n 0, 1) := by decide +kernel
theorem dX4_findFault_80 : decode cX4_findFault 80 = .ok (.dup, 1) := by decide +kernel
theorem dX4_findFault_81 : decode cX4_findFault 81 = .ok (.getfield 24, 3) := by decide +kernel
theorem dX4_findFault_84 : decode cX4_findFault 84 = .ok (.iconst 1, 1) := by decide +kernel
theorem dX4_findFault_85 : decode cX4_findFault 85 = .ok (.iadd, 1) := by decide +kernel
theorem dX4_findFault_86 : decode cX4_findFault 86 = .ok (.putfield 24, 3) := by decide +kernel
theorem dX4_findFault_89 : decode cX4_findFault 89 = .ok (.goto (-79), 3) := by decide +kernel
theorem dX4_findFault_92 : decode cX4_findFault 92 = .ok (.aload_n 0, 1) := by decide +kernel
theorem dX4_findFault_93 : decode cX4_findFault 93 = .ok (.getfield 27, 3) := by decide +kernel
theorem dX4_findFault_96 : decode cX4_findFault 96 = .ok (.ireturn, 1) := by decide +kernel
theorem dX4_slacksFit_0 : decode cX4_slacksFit 0 = .ok (.iconst 0, 1) := by decide +kernel
theorem dX4_slacksFit_1 : decode cX4_slacksFit 1 = .ok (.istore_n 1, 1) := by decide +kernel
theorem dX4_slacksFit_2 : decode cX4_slacksFit 2 = .ok (.iload_n 1, 1) := by decide +kernel
theorem dX4_slacksFit_3 : decode cX4_slacksFit 3 = .ok (.aload_n 0, 1) := by decide +kernel
theorem dX4_slacksFit_4 : decode cX4_slacksFit 4 = .ok (.getfield 24, 3) := by decide +kernel
theorem dX4_slacksFit_7 : decode cX4_slacksFit 7 = .ok (.if_icmp .ge 30, 3) := by decide +kernel
theorem dX4_slacksFit_10 : decode cX4_slacksFit 10 = .ok (.aload_n 0, 1) := by decide +kernel
theorem dX4_slacksFit_11 : decode cX4_slacksFit 11 = .ok (.getfield 17, 3) := by decide +kernel
theorem dX4_slacksFit_14 : decode cX4_slacksFit 14 = .ok (.iconst 1, 1) := by decide +kernel
theorem dX4_slacksFit_15 : decode cX4_slacksFit 15 = .ok (.aaload, 1) := by decide +kernel
theorem dX4_slacksFit_16 : decode cX4_slacksFit 16 = .ok (.iload_n 1, 1) := by decide +kernel
theorem dX4_slacksFit_17 : decode cX4_slacksFit 17 = .ok (.iaload, 1) := by decide +kernel
theorem dX4_slacksFit_18 : decode cX4_slacksFit 18 = .ok (.aload_n 0, 1) := by decide +kernel
theorem dX4_slacksFit_19 : decode cX4_slacksFit 19 = .ok (.getfield 17, 3) := by decide +kernel
theorem dX4_slacksFit_22 : decode cX4_slacksFit 22 = .ok (.iconst 0, 1) := by decide +kernel
theorem dX4_slacksFit_23 : decode cX4_slacksFit 23 = .ok (.aaload, 1) := by decide +kernel
theorem dX4_slacksFit_24 : decode cX4_slacksFit 24 = .ok (.iload_n 1, 1) := by decide +kernel
theorem dX4_slacksFit_25 : decode cX4_slacksFit 25 = .ok (.iaload, 1) := by decide +kernel
theorem dX4_slacksFit_26 : decode cX4_slacksFit 26 = .ok (.if_icmp .lt 5, 3) := by decide +kernel
theorem dX4_slacksFit_29 : decode cX4_slacksFit 29 = .ok (.iconst 0, 1) := by decide +kernel
theorem dX4_slacksFit_30 : decode cX4_slacksFit 30 = .ok (.ireturn, 1) := by decide +kernel
theorem dX4_slacksFit_31 : decode cX4_slacksFit 31 = .ok (.iinc 1 1, 3) := by decide +kernel
theorem dX4_slacksFit_34 : decode cX4_slacksFit 34 = .ok (.goto (-32), 3) := by decide +kernel
theorem dX4_slacksFit_37 : decode cX4_slacksFit 37 = .ok (.iconst 1, 1) := by decide +kernel
theorem dX4_slacksFit_38 : decode cX4_slacksFit 38 = .ok (.ireturn, 1) := by decide +kernel
theorem dX4_character_0 : decode cX4_character 0 = .ok (.aload_n 0, 1) := by decide +kernel
theorem dX4_character_1 : decode cX4_character 1 = .ok (.getfield 27, 3) := by decide +kernel
theorem dX4_character_4 : decode cX4_character 4 = .ok (.aload_n 0, 1) := by decide +kernel
theorem dX4_character_5 : decode cX4_character 5 = .ok (.getfield 20, 3) := by decide +kernel
theorem dX4_character_8 : decode cX4_character 8 = .ok (.if_icmp .ge 15, 3) := by decide +kernel
theorem dX4_character_11 : decode cX4_character 11 = .ok (.aload_n 0, 1) := by decide +kernel
theorem dX4_character_12 : decode cX4_character 12 = .ok (.getfield 9, 3) := by decide +kernel
theorem dX4_character_15 : decode cX4_character 15 = .ok (.aload_n 0, 1) := by decide +kernel
theorem dX4_character_16 : decode cX4_character 16 = .ok (.getfield 27, 3) := by decide +kernel
theorem dX4_character_19 : decode cX4_character 19 = .ok (.iaload, 1) := by decide +kernel
theorem dX4_character_20 : decode cX4_character 20 = .ok (.goto 4, 3) := by decide +kernel
theorem dX4_character_23 : decode cX4_character 23 = .ok (.iconst 0, 1) := by decide +kernel
theorem dX4_character_24 : decode cX4_character 24 = .ok (.ireturn, 1) := by decide +kernel
theorem dX4_findScene_0 : decode cX4_findScene 0 = .ok (.aload_n 0, 1) := by decide +kernel
theorem dX4_findScene_1 : decode cX4_findScene 1 = .ok (.invokevirtual 35, 3) := by decide +kernel
theorem dX4_findScene_4 : decode cX4_findScene 4 = .ok (.istore_n 1, 1) := by decide +kernel
theorem dX4_findScene_5 : decode cX4_findScene 5 = .ok (.iload_n 1, 1) := by decide +kernel
theorem dX4_findScene_6 : decode cX4_findScene 6 = .ok (.bipush 97, 2) := by decide +kernel
theorem dX4_findScene_8 : decode cX4_findScene 8 = .ok (.if_icmp .lt 9, 3) := by decide +kernel
theorem dX4_findScene_11 : decode cX4_findScene 11 = .ok (.iload_n 1, 1) := by decide +kernel
theorem dX4_findScene_12 : decode cX4_findScene 12 = .ok (.bipush 102, 2) := by decide +kernel
theorem dX4_findScene_14 : decode cX4_findScene 14 = .ok (.if_icmp .le 5, 3) := by decide +kernel
theorem dX4_findScene_17 : decode cX4_findScene 17 = .ok (.iconst 0, 1) := by decide +kernel
theorem dX4_findScene_18 : decode cX4_findScene 18 = .ok (.ireturn, 1) := by decide +kernel
theorem dX4_findScene_19 : decode cX4_findScene 19 = .ok (.aload_n 0, 1) := by decide +kernel
theorem dX4_findScene_20 : decode cX4_findScene 20 = .ok (.dup, 1) := by decide +kernel
theorem dX4_findScene_21 : decode cX4_findScene 21 = .ok (.getfield 27, 3) := by decide +kernel
theorem dX4_findScene_24 : decode cX4_findScene 24 = .ok (.iconst 1, 1) := by decide +kernel
theorem dX4_findScene_25 : decode cX4_findScene 25 = .ok (.iadd, 1) := by decide +kernel
theorem dX4_findScene_26 : decode cX4_findScene 26 = .ok (.putfield 27, 3) := by decide +kernel
theorem dX4_findScene_29 : decode cX4_findScene 29 = .ok (.aload_n 0, 1) := by decide +kernel
theorem dX4_findScene_30 : decode cX4_findScene 30 = .ok (.getfield 17, 3) := by decide +kernel
theorem dX4_findScene_33 : decode cX4_findScene 33 = .ok (.iconst 2, 1) := by decide +kernel
theorem dX4_findScene_34 : decode cX4_findScene 34 = .ok (.aaload, 1) := by decide +kernel
theorem dX4_findScene_35 : decode cX4_findScene 35 = .ok (.aload_n 0, 1) := by decide +kernel
theorem dX4_findScene_36 : decode cX4_findScene 36 = .ok (.getfield 24, 3) := by decide +kernel
theorem dX4_findScene_39 : decode cX4_findScene 39 = .ok (.iload_n 1, 1) := by decide +kernel
theorem dX4_findScene_40 : decode cX4_findScene 40 = .ok (.bipush 97, 2) := by decide +kernel
theorem dX4_findScene_42 : decode cX4_findScene 42 = .ok (.isub, 1) := by decide +kernel
theorem dX4_findScene_43 : decode cX4_findScene 43 = .ok (.iastore, 1) := by decide +kernel
theorem dX4_findScene_44 : decode cX4_findScene 44 = .ok (.aload_n 0, 1) := by decide +kernel
theorem dX4_findScene_45 : decode cX4_findScene 45 = .ok (.getfield 17, 3) := by decide +kernel
theorem dX4_findScene_48 : decode cX4_findScene 48 = .ok (.iconst 0, 1) := by decide +kernel
theorem dX4_findScene_49 : decode cX4_findScene 49 = .ok (.aaload, 1) := by decide +kernel
theorem dX4_findScene_50 : decode cX4_findScene 50 = .ok (.aload_n 0, 1) := by decide +kernel
theorem dX4_findScene_51 : decode cX4_findScene 51 = .ok (.getfield 24, 3) := by decide +kernel
theorem dX4_findScene_54 : decode cX4_findScene 54 = .ok (.aload_n 0, 1) := by decide +kernel
theorem dX4_findScene_55 : decode cX4_findScene 55 = .ok (.invokevirtual 39, 3) := by decide +kernel
theorem dX4_findScene_58 : decode cX4_findScene 58 = .ok (.iastore, 1) := by decide +kernel
theorem dX4_findScene_59 : decode cX4_findScene 59 = .ok (.aload_n 0, 1) := by decide +kernel
theorem dX4_findScene_60 : decode cX4_findScene 60 = .ok (.getfield 17, 3) := by decide +kernel
theorem dX4_findScene_63 : decode cX4_findScene 63 = .ok (.iconst 0, 1) := by decide +kernel
theorem dX4_findScene_64 : decode cX4_findScene 64 = .ok (.aaload, 1) := by decide +kernel
theorem dX4_findScene_65 : decode cX4_findScene 65 = .ok (.aload_n 0, 1) := by decide +kernel
theorem dX4_findScene_66 : decode cX4_findScene 66 = .ok (.getfield 24, 3) := by decide +kernel
theorem dX4_findScene_69 : decode cX4_findScene 69 = .ok (.iaload, 1) := by decide +kernel
theorem dX4_findScene_70 : decode cX4_findScene 70 = .ok (.ifCond .ne 5, 3) := by decide +kernel
theorem dX4_findScene_73 : decode cX4_findScene 73 = .ok (.iconst 0, 1) := by decide +kernel
theorem dX4_findScene_74 : decode cX4_findScene 74 = .ok (.ireturn, 1) := by decide +kernel
theorem dX4_findScene_75 : decode cX4_findScene 75 = .ok (.aload_n 0, 1) := by decide +kernel
theorem dX4_findScene_76 : decode cX4_findScene 76 = .ok (.invokevirtual 42, 3) := by decide +kernel
theorem dX4_findScene_79 : decode cX4_findScene 79 = .ok (.ifCond .eq 14, 3) := by decide +kernel
theorem dX4_findScene_82 : decode cX4_findScene 82 = .ok (.aload_n 0, 1) := by decide +kernel
theorem dX4_findScene_83 : decode cX4_findScene 83 = .ok (.invokevirtual 45, 3) := by decide +kernel
theorem dX4_findScene_86 : decode cX4_findScene 86 = .ok (.ifCond .eq 7, 3) := by decide +kernel
theorem dX4_findScene_89 : decode cX4_findScene 89 = .ok (.iconst 1, 1) := by decide +kernel
theorem dX4_findScene_90 : decode cX4_findScene 90 = .ok (.goto 4, 3) := by decide +kernel
theorem dX4_findScene_93 : decode cX4_findScene 93 = .ok (.iconst 0, 1) := by decide +kernel
theorem dX4_findScene_94 : decode cX4_findScene 94 = .ok (.ireturn, 1) := by decide +kernel
theorem dX4_findSlack_0 : decode cX4_findSlack 0 = .ok (.aload_n 0, 1) := by decide +kernel
theorem dX4_findSlack_1 : decode cX4_findSlack 1 = .ok (.getfield 17, 3) := by decide +kernel
theorem dX4_findSlack_4 : decode cX4_findSlack 4 = .ok (.iconst 1, 1) := by decide +kernel
theorem dX4_findSlack_5 : decode cX4_findSlack 5 = .ok (.aaload, 1) := by decide +kernel
theorem dX4_findSlack_6 : decode cX4_findSlack 6 = .ok (.aload_n 0, 1) := by decide +kernel
theorem dX4_findSlack_7 : decode cX4_findSlack 7 = .ok (.getfield 24, 3) := by decide +kernel
theorem dX4_findSlack_10 : decode cX4_findSlack 10 = .ok (.iconst 0, 1) := by decide +kernel
theorem dX4_findSlack_11 : decode cX4_findSlack 11 = .ok (.iastore, 1) := by decide +kernel
theorem dX4_findSlack_12 : decode cX4_findSlack 12 = .ok (.aload_n 0, 1) := by decide +kernel
theorem dX4_findSlack_13 : decode cX4_findSlack 13 = .ok (.invokevirtual 35, 3) := by decide +kernel
theorem dX4_findSlack_16 : decode cX4_findSlack 16 = .ok (.bipush 45, 2) := by decide +kernel
theorem dX4_findSlack_18 : decode cX4_findSlack 18 = .ok (.if_icmp .eq 5, 3) := by decide +kernel
theorem dX4_findSlack_21 : decode cX4_findSlack 21 = .ok (.iconst 1, 1) := by decide +kernel
theorem dX4_findSlack_22 : decode cX4_findSlack 22 = .ok (.ireturn, 1) := by decide +kernel
theorem dX4_findSlack_23 : decode cX4_findSlack 23 = .ok (.aload_n 0, 1) := by decide +kernel
theorem dX4_findSlack_24 : decode cX4_findSlack 24 = .ok (.dup, 1) := by decide +kernel
theorem dX4_findSlack_25 : decode cX4_findSlack 25 = .ok (.getfield 27, 3) := by decide +kernel
theorem dX4_findSlack_28 : decode cX4_findSlack 28 = .ok (.iconst 1, 1) := by decide +kernel
theorem dX4_findSlack_29 : decode cX4_findSlack 29 = .ok (.iadd, 1) := by decide +kernel
theorem dX4_findSlack_30 : decode cX4_findSlack 30 = .ok (.putfield 27, 3) := by decide +kernel
theorem dX4_findSlack_33 : decode cX4_findSlack 33 = .ok (.aload_n 0, 1) := by decide +kernel
theorem dX4_findSlack_34 : decode cX4_findSlack 34 = .ok (.getfield 17, 3) := by decide +kernel
theorem dX4_findSlack_37 : decode cX4_findSlack 37 = .ok (.iconst 1, 1) := by decide +kernel
theorem dX4_findSlack_38 : decode cX4_findSlack 38 = .ok (.aaload, 1) := by decide +kernel
theorem dX4_findSlack_39 : decode cX4_findSlack 39 = .ok (.aload_n 0, 1) := by decide +kernel
theorem dX4_findSlack_40 : decode cX4_findSlack 40 = .ok (.getfield 24, 3) := by decide +kernel
theorem dX4_findSlack_43 : decode cX4_findSlack 43 = .ok (.aload_n 0, 1) := by decide +kernel
theorem dX4_findSlack_44 : decode cX4_findSlack 44 = .ok (.invokevirtual 39, 3) := by decide +kernel
theorem dX4_findSlack_47 : decode cX4_findSlack 47 = .ok (.iastore, 1) := by decide +kernel
theorem dX4_findSlack_48 : decode cX4_findSlack 48 = .ok (.aload_n 0, 1) := by decide +kernel
theorem dX4_findSlack_49 : decode cX4_findSlack 49 = .ok (.getfield 17, 3) := by decide +kernel
theorem dX4_findSlack_52 : decode cX4_findSlack 52 = .ok (.iconst 1, 1) := by decide +kernel
theorem dX4_findSlack_53 : decode cX4_findSlack 53 = .ok (.aaload, 1) := by decide +kernel
theorem dX4_findSlack_54 : decode cX4_findSlack 54 = .ok (.aload_n 0, 1) := by decide +kernel
theorem dX4_findSlack_55 : decode cX4_findSlack 55 = .ok (.getfield 24, 3) := by decide +kernel
theorem dX4_findSlack_58 : decode cX4_findSlack 58 = .ok (.iaload, 1) := by decide +kernel
theorem dX4_findSlack_59 : decode cX4_findSlack 59 = .ok (.ifCond .le 7, 3) := by decide +kernel
theorem dX4_findSlack_62 : decode cX4_findSlack 62 = .ok (.iconst 1, 1) := by decide +kernel
theorem dX4_findSlack_63 : decode cX4_findSlack 63 = .ok (.goto 4, 3) := by decide +kernel
theorem dX4_findSlack_66 : decode cX4_findSlack 66 = .ok (.iconst 0, 1) := by decide +kernel
theorem dX4_findSlack_67 : decode cX4_findSlack 67 = .ok (.ireturn, 1) := by decide +kernel
theorem dX4_findTension_0 : decode cX4_findTension 0 = .ok (.aload_n 0, 1) := by decide +kernel
theorem dX4_findTension_1 : decode cX4_findTension 1 = .ok (.invokevirtual 35, 3) := by decide +kernel
theorem dX4_findTension_4 : decode cX4_findTension 4 = .ok (.bipush 33, 2) := by decide +kernel
theorem dX4_findTension_6 : decode cX4_findTension 6 = .ok (.if_icmp .eq 5, 3) := by decide +kernel
theorem dX4_findTension_9 : decode cX4_findTension 9 = .ok (.iconst 0, 1) := by decide +kernel
theorem dX4_findTension_10 : decode cX4_findTension 10 = .ok (.ireturn, 1) := by decide +kernel
theorem dX4_findTension_11 : decode cX4_findTension 11 = .ok (.aload_n 0, 1) := by decide +kernel
theorem dX4_findTension_12 : decode cX4_findTension 12 = .ok (.dup, 1) := by decide +kernel
theorem dX4_findTension_13 : decode cX4_findTension 13 = .ok (.getfield 27, 3) := by decide +kernel
theorem dX4_findTension_16 : decode cX4_findTension 16 = .ok (.iconst 1, 1) := by decide +kernel
theorem dX4_findTension_17 : decode cX4_findTension 17 = .ok (.iadd, 1) := by decide +kernel
theorem dX4_findTension_18 : decode cX4_findTension 18 = .ok (.putfield 27, 3) := by decide +kernel
theorem dX4_findTension_21 : decode cX4_findTension 21 = .ok (.aload_n 0, 1) := by decide +kernel
theorem dX4_findTension_22 : decode cX4_findTension 22 = .ok (.invokevirtual 35, 3) := by decide +kernel
theorem dX4_findTension_25 : decode cX4_findTension 25 = .ok (.istore_n 1, 1) := by decide +kernel
theorem dX4_findTension_26 : decode cX4_findTension 26 = .ok (.iload_n 1, 1) := by decide +kernel
theorem dX4_findTension_27 : decode cX4_findTension 27 = .ok (.bipush 48, 2) := by decide +kernel
theorem dX4_findTension_29 : decode cX4_findTension 29 = .ok (.if_icmp .lt 9, 3) := by decide +kernel
theorem dX4_findTension_32 : decode cX4_findTension 32 = .ok (.iload_n 1, 1) := by decide +kernel
theorem dX4_findTension_33 : decode cX4_findTension 33 = .ok (.bipush 57, 2) := by decide +kernel
theorem dX4_findTension_35 : decode cX4_findTension 35 = .ok (.if_icmp .le 5, 3) := by decide +kernel
theorem dX4_findTension_38 : decode cX4_findTension 38 = .ok (.iconst 0, 1) := by decide +kernel
theorem dX4_findTension_39 : decode cX4_findTension 39 = .ok (.ireturn, 1) := by decide +kernel
theorem dX4_findTension_40 : decode cX4_findTension 40 = .ok (.aload_n 0, 1) := by decide +kernel
theorem dX4_findTension_41 : decode cX4_findTension 41 = .ok (.dup, 1) := by decide +kernel
theorem dX4_findTension_42 : decode cX4_findTension 42 = .ok (.getfield 27, 3) := by decide +kernel
theorem dX4_findTension_45 : decode cX4_findTension 45 = .ok (.iconst 1, 1) := by decide +kernel
theorem dX4_findTension_46 : decode cX4_findTension 46 = .ok (.iadd, 1) := by decide +kernel
theorem dX4_findTension_47 : decode cX4_findTension 47 = .ok (.putfield 27, 3) := by decide +kernel
theorem dX4_findTension_50 : decode cX4_findTension 50 = .ok (.aload_n 0, 1) := by decide +kernel
theorem dX4_findTension_51 : decode cX4_findTension 51 = .ok (.getfield 17, 3) := by decide +kernel
theorem dX4_findTension_54 : decode cX4_findTension 54 = .ok (.iconst 3, 1) := by decide +kernel
theorem dX4_findTension_55 : decode cX4_findTension 55 = .ok (.aaload, 1) := by decide +kernel
theorem dX4_findTension_56 : decode cX4_findTension 56 = .ok (.aload_n 0, 1) := by decide +kernel
theorem dX4_findTension_57 : decode cX4_findTension 57 = .ok (.getfield 24, 3) := by decide +kernel
theorem dX4_findTension_60 : decode cX4_findTension 60 = .ok (.iload_n 1, 1) := by decide +kernel
theorem dX4_findTension_61 : decode cX4_findTension 61 = .ok (.bipush 48, 2) := by decide +kernel
theorem dX4_findTension_63 : decode cX4_findTension 63 = .ok (.isub, 1) := by decide +kernel
theorem dX4_findTension_64 : decode cX4_findTension 64 = .ok (.iastore, 1) := by decide +kernel
theorem dX4_findTension_65 : decode cX4_findTension 65 = .ok (.iconst 1, 1) := by decide +kernel
theorem dX4_findTension_66 : decode cX4_findTension 66 = .ok (.ireturn, 1) := by decide +kernel
theorem dX4_findNumber_0 : decode cX4_findNumber 0 = .ok (.iconst 0, 1) := by decide +kernel
theorem dX4_findNumber_1 : decode cX4_findNumber 1 = .ok (.istore_n 1, 1) := by decide +kernel
theorem dX4_findNumber_2 : decode cX4_findNumber 2 = .ok (.iconst 0, 1) := by decide +kernel
theorem dX4_findNumber_3 : decode cX4_findNumber 3 = .ok (.istore_n 2, 1) := by decide +kernel
theorem dX4_findNumber_4 : decode cX4_findNumber 4 = .ok (.iload_n 2, 1) := by decide +kernel
theorem dX4_findNumber_5 : decode cX4_findNumber 5 = .ok (.iconst 3, 1) := by decide +kernel
theorem dX4_findNumber_6 : decode cX4_findNumber 6 = .ok (.if_icmp .ge 57, 3) := by decide +kernel
theorem dX4_findNumber_9 : decode cX4_findNumber 9 = .ok (.aload_n 0, 1) := by decide +kernel
theorem dX4_findNumber_10 : decode cX4_findNumber 10 = .ok (.invokevirtual 35, 3) := by decide +kernel
theorem dX4_findNumber_13 : decode cX4_findNumber 13 = .ok (.istore_n 3, 1) := by decide +kernel
theorem dX4_findNumber_14 : decode cX4_findNumber 14 = .ok (.iload_n 3, 1) := by decide +kernel
theorem dX4_findNumber_15 : decode cX4_findNumber 15 = .ok (.iload_n 2, 1) := by decide +kernel
theorem dX4_findNumber_16 : decode cX4_findNumber 16 = .ok (.ifCond .ne 8, 3) := by decide +kernel
theorem dX4_findNumber_19 : decode cX4_findNumber 19 = .ok (.bipush 49, 2) := by decide +kernel
theorem dX4_findNumber_21 : decode cX4_findNumber 21 = .ok (.goto 5, 3) := by decide +kernel
theorem dX4_findNumber_24 : decode cX4_findNumber 24 = .ok (.bipush 48, 2) := by decide +kernel
theorem dX4_findNumber_26 : decode cX4_findNumber 26 = .ok (.if_icmp .lt 9, 3) := by decide +kernel
theorem dX4_findNumber_29 : decode cX4_findNumber 29 = .ok (.iload_n 3, 1) := by decide +kernel
theorem dX4_findNumber_30 : decode cX4_findNumber 30 = .ok (.bipush 57, 2) := by decide +kernel
theorem dX4_findNumber_32 : decode cX4_findNumber 32 = .ok (.if_icmp .le 5, 3) := by decide +kernel
theorem dX4_findNumber_35 : decode cX4_findNumber 35 = .ok (.iload_n 1, 1) := by decide +kernel
theorem dX4_findNumber_36 : decode cX4_findNumber 36 = .ok (.ireturn, 1) := by decide +kernel
theorem dX4_findNumber_37 : decode cX4_findNumber 37 = .ok (.bipush 10, 2) := by decide +kernel
theorem dX4_findNumber_39 : decode cX4_findNumber 39 = .ok (.iload_n 1, 1) := by decide +kernel
theorem dX4_findNumber_40 : decode cX4_findNumber 40 = .ok (.imul, 1) := by decide +kernel
theorem dX4_findNumber_41 : decode cX4_findNumber 41 = .ok (.iload_n 3, 1) := by decide +kernel
theorem dX4_findNumber_42 : decode cX4_findNumber 42 = .ok (.iadd, 1) := by decide +kernel
theorem dX4_findNumber_43 : decode cX4_findNumber 43 = .ok (.bipush 48, 2) := by decide +kernel
theorem dX4_findNumber_45 : decode cX4_findNumber 45 = .ok (.isub, 1) := by decide +kernel
theorem dX4_findNumber_46 : decode cX4_findNumber 46 = .ok (.istore_n 1, 1) := by decide +kernel
theorem dX4_findNumber_47 : decode cX4_findNumber 47 = .ok (.aload_n 0, 1) := by decide +kernel
theorem dX4_findNumber_48 : decode cX4_findNumber 48 = .ok (.dup, 1) := by decide +kernel
theorem dX4_findNumber_49 : decode cX4_findNumber 49 = .ok (.getfield 27, 3) := by decide +kernel
theorem dX4_findNumber_52 : decode cX4_findNumber 52 = .ok (.iconst 1, 1) := by decide +kernel
theorem dX4_findNumber_53 : decode cX4_findNumber 53 = .ok (.iadd, 1) := by decide +kernel
theorem dX4_findNumber_54 : decode cX4_findNumber 54 = .ok (.putfield 27, 3) := by decide +kernel
theorem dX4_findNumber_57 : decode cX4_findNumber 57 = .ok (.iinc 2 1, 3) := by decide +kernel
theorem dX4_findNumber_60 : decode cX4_findNumber 60 = .ok (.goto (-56), 3) := by decide +kernel
theorem dX4_findNumber_63 : decode cX4_findNumber 63 = .ok (.iload_n 1, 1) := by decide +kernel
theorem dX4_findNumber_64 : decode cX4_findNumber 64 = .ok (.ireturn, 1) := by decide +kernel
theorem dX5_init_0 : decode cX5_init 0 = .ok (.aload_n 0, 1) := by decide +kernel
theorem dX5_init_1 : decode cX5_init 1 = .ok (.invokespecial 1, 3) := by decide +kernel
theorem dX5_init_4 : decode cX5_init 4 = .ok (.aload_n 0, 1) := by decide +kernel
theorem dX5_init_5 : decode cX5_init 5 = .ok (.new 7, 3) := by decide +kernel
theorem dX5_init_8 : decode cX5_init 8 = .ok (.dup, 1) := by decide +kernel
theorem dX5_init_9 : decode cX5_init 9 = .ok (.invokespecial 9, 3) := by decide +kernel
theorem dX5_init_12 : decode cX5_init 12 = .ok (.putfield 10, 3) := by decide +kernel
theorem dX5_init_15 : decode cX5_init 15 = .ok (.aload_n 0, 1) := by decide +kernel
theorem dX5_init_16 : decode cX5_init 16 = .ok (.new 16, 3) := by decide +kernel
theorem dX5_init_19 : decode cX5_init 19 = .ok (.dup, 1) := by decide +kernel
theorem dX5_init_20 : decode cX5_init 20 = .ok (.invokespecial 18, 3) := by decide +kernel
theorem dX5_init_23 : decode cX5_init 23 = .ok (.putfield 19, 3) := by decide +kernel
theorem dX5_init_26 : decode cX5_init 26 = .ok (.aload_n 0, 1) := by decide +kernel
theorem dX5_init_27 : decode cX5_init 27 = .ok (.new 23, 3) := by decide +kernel
theorem dX5_init_30 : decode cX5_init 30 = .ok (.dup, 1) := by decide +kernel
theorem dX5_init_31 : decode cX5_init 31 = .ok (.invokespecial 25, 3) := by decide +kernel
theorem dX5_init_34 : decode cX5_init 34 = .ok (.putfield 26, 3) := by decide +kernel
theorem dX5_init_37 : decode cX5_init 37 = .ok (.aload_n 0, 1) := by decide +kernel
theorem dX5_init_38 : decode cX5_init 38 = .ok (.new 30, 3) := by decide +kernel
theorem dX5_init_41 : decode cX5_init 41 = .ok (.dup, 1) := by decide +kernel
theorem dX5_init_42 : decode cX5_init 42 = .ok (.invokespecial 32, 3) := by decide +kernel
theorem dX5_init_45 : decode cX5_init 45 = .ok (.putfield 33, 3) := by decide +kernel
theorem dX5_init_48 : decode cX5_init 48 = .ok (.return_, 1) := by decide +kernel
theorem dX5_insert_0 : decode cX5_insert 0 = .ok (.aload_n 0, 1) := by decide +kernel
theorem dX5_insert_1 : decode cX5_insert 1 = .ok (.getfield 10, 3) := by decide +kernel
theorem dX5_insert_4 : decode cX5_insert 4 = .ok (.getfield 37, 3) := by decide +kernel
theorem dX5_insert_7 : decode cX5_insert 7 = .ok (.getfield 41, 3) := by decide +kernel
theorem dX5_insert_10 : decode cX5_insert 10 = .ok (.astore 6, 2) := by decide +kernel
theorem dX5_insert_12 : decode cX5_insert 12 = .ok (.iload_n 1, 1) := by decide +kernel
theorem dX5_insert_13 : decode cX5_insert 13 = .ok (.aload 6, 2) := by decide +kernel
theorem dX5_insert_15 : decode cX5_insert 15 = .ok (.iconst 1, 1) := by decide +kernel
theorem dX5_insert_16 : decode cX5_insert 16 = .ok (.iaload, 1) := by decide +kernel
theorem dX5_insert_17 : decode cX5_insert 17 = .ok (.if_icmp .lt 23, 3) := by decide +kernel
theorem dX5_insert_20 : decode cX5_insert 20 = .ok (.iload_n 1, 1) := by decide +kernel
theorem dX5_insert_21 : decode cX5_insert 21 = .ok (.aload 6, 2) := by decide +kernel
theorem dX5_insert_23 : decode cX5_insert 23 = .ok (.iconst 0, 1) := by decide +kernel
theorem dX5_insert_24 : decode cX5_insert 24 = .ok (.iaload, 1) := by decide +kernel
theorem dX5_insert_25 : decode cX5_insert 25 = .ok (.if_icmp .gt 15, 3) := by decide +kernel
theorem dX5_insert_28 : decode cX5_insert 28 = .ok (.iload_n 2, 1) := by decide +kernel
theorem dX5_insert_29 : decode cX5_insert 29 = .ok (.iload_n 3, 1) := by decide +kernel
theorem dX5_insert_30 : decode cX5_insert 30 = .ok (.iload 4, 2) := by decide +kernel
theorem dX5_insert_32 : decode cX5_insert 32 = .ok (.iload 5, 2) := by decide +kernel
theorem dX5_insert_34 : decode cX5_insert 34 = .ok (.invokestatic 47, 3) := by decide +kernel
theorem dX5_insert_37 : decode cX5_insert 37 = .ok (.ifCond .ne 6, 3) := by decide +kernel
theorem dX5_insert_40 : decode cX5_insert 40 = .ok (.ldc 51, 2) := by decide +kernel
theorem dX5_insert_42 : decode cX5_insert 42 = .ok (.ireturn, 1) := by decide +kernel
theorem dX5_insert_43 : decode cX5_insert 43 = .ok (.aload_n 0, 1) := by decide +kernel
theorem dX5_insert_44 : decode cX5_insert 44 = .ok (.invokevirtual 52, 3) := by decide +kernel
theorem dX5_insert_47 : decode cX5_insert 47 = .ok (.ifCond .eq 6, 3) := by decide +kernel
theorem dX5_insert_50 : decode cX5_insert 50 = .ok (.ldc 56, 2) := by decide +kernel
theorem dX5_insert_52 : decode cX5_insert 52 = .ok (.ireturn, 1) := by decide +kernel
theorem dX5_insert_53 : decode cX5_insert 53 = .ok (.aload 6, 2) := by decide +kernel
theorem dX5_insert_55 : decode cX5_insert 55 = .ok (.iconst 0, 1) := by decide +kernel
theorem dX5_insert_56 : decode cX5_insert 56 = .ok (.iaload, 1) := by decide +kernel
theorem dX5_insert_57 : decode cX5_insert 57 = .ok (.bipush 20, 2) := by decide +kernel
theorem dX5_insert_59 : decode cX5_insert 59 = .ok (.if_icmp .lt 6, 3) := by decide +kernel
theorem dX5_insert_62 : decode cX5_insert 62 = .ok (.ldc 57, 2) := by decide +kernel
theorem dX5_insert_64 : decode cX5_insert 64 = .ok (.ireturn, 1) := by decide +kernel
theorem dX5_insert_65 : decode cX5_insert 65 = .ok (.aload_n 0, 1) := by decide +kernel
theorem dX5_insert_66 : decode cX5_insert 66 = .ok (.getfield 19, 3) := by decide +kernel
theorem dX5_insert_69 : decode cX5_insert 69 = .ok (.aload_n 0, 1) := by decide +kernel
theorem dX5_insert_70 : decode cX5_insert 70 = .ok (.getfield 10, 3) := by decide +kernel
theorem dX5_insert_73 : decode cX5_insert 73 = .ok (.invokevirtual 58, 3) := by decide +kernel
theorem dX5_insert_76 : decode cX5_insert 76 = .ok (.aload_n 0, 1) := by decide +kernel
theorem dX5_insert_77 : decode cX5_insert 77 = .ok (.getfield 10, 3) := by decide +kernel
theorem dX5_insert_80 : decode cX5_insert 80 = .ok (.getfield 37, 3) := by decide +kernel
theorem dX5_insert_83 : decode cX5_insert 83 = .ok (.iload_n 1, 1) := by decide +kernel
theorem dX5_insert_84 : decode cX5_insert 84 = .ok (.iload_n 2, 1) := by decide +kernel
theorem dX5_insert_85 : decode cX5_insert 85 = .ok (.iload_n 3, 1) := by decide +kernel
theorem dX5_insert_86 : decode cX5_insert 86 = .ok (.iload 4, 2) := by decide +kernel
theorem dX5_insert_88 : decode cX5_insert 88 = .ok (.iload 5, 2) := by decide +kernel
theorem dX5_insert_90 : decode cX5_insert 90 = .ok (.invokevirtual 62, 3) := by decide +kernel
theorem dX5_insert_93 : decode cX5_insert 93 = .ok (.aload 6, 2) := by decide +kernel
theorem dX5_insert_95 : decode cX5_insert 95 = .ok (.iconst 0, 1) := by decide +kernel
theorem dX5_insert_96 : decode cX5_insert 96 = .ok (.iaload, 1) := by decide +kernel
theorem dX5_insert_97 : decode cX5_insert 97 = .ok (.ireturn, 1) := by decide +kernel
theorem dX5_remove_0 : decode cX5_remove 0 = .ok (.aload_n 0, 1) := by decide +kernel
theorem dX5_remove_1 : decode cX5_remove 1 = .ok (.getfield 10, 3) := by decide +kernel
theorem dX5_remove_4 : decode cX5_remove 4 = .ok (.getfield 37, 3) := by decide +kernel
theorem dX5_remove_7 : decode cX5_remove 7 = .ok (.iload_n 1, 1) := by decide +kernel
theorem dX5_remove_8 : decode cX5_remove 8 = .ok (.invokevirtual 66, 3) := by decide +kernel
theorem dX5_remove_11 : decode cX5_remove 11 = .ok (.ifCond .ne 6, 3) := by decide +kernel
theorem dX5_remove_14 : decode cX5_remove 14 = .ok (.ldc 51, 2) := by decide +kernel
theorem dX5_remove_16 : decode cX5_remove 16 = .ok (.ireturn, 1) := by decide +kernel
theorem dX5_remove_17 : decode cX5_remove 17 = .ok (.aload_n 0, 1) := by decide +kernel
theorem dX5_remove_18 : decode cX5_remove 18 = .ok (.invokevirtual 52, 3) := by decide +kernel
theorem dX5_remove_21 : decode cX5_remove 21 = .ok (.ifCond .eq 6, 3) := by decide +kernel
theorem dX5_remove_24 : decode cX5_remove 24 = .ok (.ldc 56, 2) := by decide +kernel
theorem dX5_remove_26 : decode cX5_remove 26 = .ok (.ireturn, 1) := by decide +kernel
theorem dX5_remove_27 : decode cX5_remove 27 = .ok (.aload_n 0, 1) := by decide +kernel
theorem dX5_remove_28 : decode cX5_remove 28 = .ok (.getfield 19, 3) := by decide +kernel
theorem dX5_remove_31 : decode cX5_remove 31 = .ok (.aload_n 0, 1) := by decide +kernel
theorem dX5_remove_32 : decode cX5_remove 32 = .ok (.getfield 10, 3) := by decide +kernel
theorem dX5_remove_35 : decode cX5_remove 35 = .ok (.invokevirtual 58, 3) := by decide +kernel
theorem dX5_remove_38 : decode cX5_remove 38 = .ok (.aload_n 0, 1) := by decide +kernel
theorem dX5_remove_39 : decode cX5_remove 39 = .ok (.getfield 10, 3) := by decide +kernel
theorem dX5_remove_42 : decode cX5_remove 42 = .ok (.getfield 37, 3) := by decide +kernel
theorem dX5_remove_45 : decode cX5_remove 45 = .ok (.iload_n 1, 1) := by decide +kernel
theorem dX5_remove_46 : decode cX5_remove 46 = .ok (.invokevirtual 70, 3) := by decide +kernel
theorem dX5_remove_49 : decode cX5_remove 49 = .ok (.aload_n 0, 1) := by decide +kernel
theorem dX5_remove_50 : decode cX5_remove 50 = .ok (.getfield 10, 3) := by decide +kernel
theorem dX5_remove_53 : decode cX5_remove 53 = .ok (.getfield 37, 3) := by decide +kernel
theorem dX5_remove_56 : decode cX5_remove 56 = .ok (.getfield 41, 3) := by decide +kernel
theorem dX5_remove_59 : decode cX5_remove 59 = .ok (.iconst 0, 1) := by decide +kernel
theorem dX5_remove_60 : decode cX5_remove 60 = .ok (.iaload, 1) := by decide +kernel
theorem dX5_remove_61 : decode cX5_remove 61 = .ok (.ireturn, 1) := by decide +kernel
theorem dX5_change_0 : decode cX5_change 0 = .ok (.aload_n 0, 1) := by decide +kernel
theorem dX5_change_1 : decode cX5_change 1 = .ok (.getfield 10, 3) := by decide +kernel
theorem dX5_change_4 : decode cX5_change 4 = .ok (.getfield 37, 3) := by decide +kernel
theorem dX5_change_7 : decode cX5_change 7 = .ok (.iload_n 1, 1) := by decide +kernel
theorem dX5_change_8 : decode cX5_change 8 = .ok (.invokevirtual 66, 3) := by decide +kernel
theorem dX5_change_11 : decode cX5_change 11 = .ok (.ifCond .eq 22, 3) := by decide +kernel
theorem dX5_change_14 : decode cX5_change 14 = .ok (.iload_n 2, 1) := by decide +kernel
theorem dX5_change_15 : decode cX5_change 15 = .ok (.ifCond .lt 18, 3) := by decide +kernel
theorem dX5_change_18 : decode cX5_change 18 = .ok (.iload_n 2, 1) := by decide +kernel
theorem dX5_change_19 : decode cX5_change 19 = .ok (.iconst 3, 1) := by decide +kernel
theorem dX5_change_20 : decode cX5_change 20 = .ok (.if_icmp .gt 13, 3) := by decide +kernel
theorem dX5_change_23 : decode cX5_change 23 = .ok (.aload_n 0, 1) := by decide +kernel
theorem dX5_change_24 : decode cX5_change 24 = .ok (.iload_n 1, 1) := by decide +kernel
theorem dX5_change_25 : decode cX5_change 25 = .ok (.iload_n 2, 1) := by decide +kernel
theorem dX5_change_26 : decode cX5_change 26 = .ok (.iload_n 3, 1) := by decide +kernel
theorem dX5_change_27 : decode cX5_change 27 = .ok (.invokevirtual 74, 3) := by decide +kernel
theorem dX5_change_30 : decode cX5_change 30 = .ok (.ifCond .ne 6, 3) := by decide +kernel
theorem dX5_change_33 : decode cX5_change 33 = .ok (.ldc 51, 2) := by decide +kernel
theorem dX5_change_35 : decode cX5_change 35 = .ok (.ireturn, 1) := by decide +kernel
theorem dX5_change_36 : decode cX5_change 36 = .ok (.aload_n 0, 1) := by decide +kernel
theorem dX5_change_37 : decode cX5_change 37 = .ok (.invokevirtual 52, 3) := by decide +kernel
theorem dX5_change_40 : decode cX5_change 40 = .ok (.ifCond .eq 6, 3) := by decide +kernel
theorem dX5_change_43 : decode cX5_change 43 = .ok (.ldc 56, 2) := by decide +kernel
theorem dX5_change_45 : decode cX5_change 45 = .ok (.ireturn, 1) := by decide +kernel
theorem dX5_change_46 : decode cX5_change 46 = .ok (.aload_n 0, 1) := by decide +kernel
theorem dX5_change_47 : decode cX5_change 47 = .ok (.getfield 19, 3) := by decide +kernel
theorem dX5_change_50 : decode cX5_change 50 = .ok (.aload_n 0, 1) := by decide +kernel
theorem dX5_change_51 : decode cX5_change 51 = .ok (.getfield 10, 3) := by decide +kernel
theorem dX5_change_54 : decode cX5_change 54 = .ok (.invokevirtual 58, 3) := by decide +kernel
theorem dX5_change_57 : decode cX5_change 57 = .ok (.aload_n 0, 1) := by decide +kernel
theorem dX5_change_58 : decode cX5_change 58 = .ok (.getfield 10, 3) := by decide +kernel
theorem dX5_change_61 : decode cX5_change 61 = .ok (.getfield 37, 3) := by decide +kernel
theorem dX5_change_64 : decode cX5_change 64 = .ok (.getfield 78, 3) := by decide +kernel
theorem dX5_change_67 : decode cX5_change 67 = .ok (.iload_n 2, 1) := by decide +kernel
theorem dX5_change_68 : decode cX5_change 68 = .ok (.aaload, 1) := by decide +kernel
theorem dX5_change_69 : decode cX5_change 69 = .ok (.iload_n 1, 1) := by decide +kernel
theorem dX5_change_70 : decode cX5_change 70 = .ok (.iaload, 1) := by decide +kernel
theorem dX5_change_71 : decode cX5_change 71 = .ok (.istore 4, 2) := by decide +kernel
theorem dX5_change_73 : decode cX5_change 73 = .ok (.aload_n 0, 1) := by decide +kernel
theorem dX5_change_74 : decode cX5_change 74 = .ok (.getfield 10, 3) := by decide +kernel
theorem dX5_change_77 : decode cX5_change 77 = .ok (.getfield 37, 3) := by decide +kernel
theorem dX5_change_80 : decode cX5_change 80 = .ok (.getfield 78, 3) := by decide +kernel
theorem dX5_change_83 : decode cX5_change 83 = .ok (.iload_n 2, 1) := by decide +kernel
theorem dX5_change_84 : decode cX5_change 84 = .ok (.aaload, 1) := by decide +kernel
theorem dX5_change_85 : decode cX5_change 85 = .ok (.iload_n 1, 1) := by decide +kernel
theorem dX5_change_86 : decode cX5_change 86 = .ok (.iload_n 3, 1) := by decide +kernel
theorem dX5_change_87 : decode cX5_change 87 = .ok (.iastore, 1) := by decide +kernel
theorem dX5_change_88 : decode cX5_change 88 = .ok (.iload 4, 2) := by decide +kernel
theorem dX5_change_90 : decode cX5_change 90 = .ok (.ireturn, 1) := by decide +kernel
theorem dX5_isSet_0 : decode cX5_isSet 0 = .ok (.aload_n 0, 1) := by decide +kernel
theorem dX5_isSet_1 : decode cX5_isSet 1 = .ok (.getfield 10, 3) := by decide +kernel
theorem dX5_isSet_4 : decode cX5_isSet 4 = .ok (.getfield 37, 3) := by decide +kernel
theorem dX5_isSet_7 : decode cX5_isSet 7 = .ok (.getfield 41, 3) := by decide +kernel
theorem dX5_isSet_10 : decode cX5_isSet 10 = .ok (.iconst 4, 1) := by decide +kernel
theorem dX5_isSet_11 : decode cX5_isSet 11 = .ok (.iaload, 1) := by decide +kernel
theorem dX5_isSet_12 : decode cX5_isSet 12 = .ok (.ifCond .le 7, 3) := by decide +kernel
theorem dX5_isSet_15 : decode cX5_isSet 15 = .ok (.iconst 1, 1) := by decide +kernel
theorem dX5_isSet_16 : decode cX5_isSet 16 = .ok (.goto 4, 3) := by decide +kernel
theorem dX5_isSet_19 : decode cX5_isSet 19 = .ok (.iconst 0, 1) := by decide +kernel
theorem dX5_isSet_20 : decode cX5_isSet 20 = .ok (.ireturn, 1) := by decide +kernel
theorem dX5_isScene_0 : decode cX5_isScene 0 = .ok (.iconst 0, 1) := by decide +kernel
theorem dX5_isScene_1 : decode cX5_isScene 1 = .ok (.iload_n 0, 1) := by decide +kernel
theorem dX5_isScene_2 : decode cX5_isScene 2 = .ok (.invokestatic 82, 3) := by decide +kernel
theorem dX5_isScene_5 : decode cX5_isScene 5 = .ok (.ifCond .eq 36, 3) := by decide +kernel
theorem dX5_isScene_8 : decode cX5_isScene 8 = .ok (.iconst 1, 1) := by decide +kernel
theorem dX5_isScene_9 : decode cX5_isScene 9 = .ok (.iload_n 1, 1) := by decide +kernel
theorem dX5_isScene_10 : decode cX5_isScene 10 = .ok (.invokestatic 82, 3) := by decide +kernel
theorem dX5_isScene_13 : decode cX5_isScene 13 = .ok (.ifCond .eq 28, 3) := by decide +kernel
theorem dX5_isScene_16 : decode cX5_isScene 16 = .ok (.iconst 2, 1) := by decide +kernel
theorem dX5_isScene_17 : decode cX5_isScene 17 = .ok (.iload_n 2, 1) := by decide +kernel
theorem dX5_isScene_18 : decode cX5_isScene 18 = .ok (.invokestatic 82, 3) := by decide +kernel
theorem dX5_isScene_21 : decode cX5_isScene 21 = .ok (.ifCond .eq 20, 3) := by decide +kernel
theorem dX5_isScene_24 : decode cX5_isScene 24 = .ok (.iconst 3, 1) := by decide +kernel
theorem dX5_isScene_25 : decode cX5_isScene 25 = .ok (.iload_n 3, 1) := by decide +kernel
theorem dX5_isScene_26 : decode cX5_isScene 26 = .ok (.invokestatic 82, 3) := by decide +kernel
theorem dX5_isScene_29 : decode cX5_isScene 29 = .ok (.ifCond .eq 12, 3) := by decide +kernel
theorem dX5_isScene_32 : decode cX5_isScene 32 = .ok (.iload_n 1, 1) := by decide +kernel
theorem dX5_isScene_33 : decode cX5_isScene 33 = .ok (.iload_n 0, 1) := by decide +kernel
theorem dX5_isScene_34 : decode cX5_isScene 34 = .ok (.if_icmp .ge 7, 3) := by decide +kernel
theorem dX5_isScene_37 : decode cX5_isScene 37 = .ok (.iconst 1, 1) := by decide +kernel
theorem dX5_isScene_38 : decode cX5_isScene 38 = .ok (.goto 4, 3) := by decide +kernel
theorem dX5_isScene_41 : decode cX5_isScene 41 = .ok (.iconst 0, 1) := by decide +kernel
theorem dX5_isScene_42 : decode cX5_isScene 42 = .ok (.ireturn, 1) := by decide +kernel
theorem dX5_isOfScene_0 : decode cX5_isOfScene 0 = .ok (.iload_n 1, 1) := by decide +kernel
theorem dX5_isOfScene_1 : decode cX5_isOfScene 1 = .ok (.getstatic 86, 3) := by decide +kernel
theorem dX5_isOfScene_4 : decode cX5_isOfScene 4 = .ok (.iload_n 0, 1) := by decide +kernel
theorem dX5_isOfScene_5 : decode cX5_isOfScene 5 = .ok (.iaload, 1) := by decide +kernel
theorem dX5_isOfScene_6 : decode cX5_isOfScene 6 = .ok (.if_icmp .lt 16, 3) := by decide +kernel
theorem dX5_isOfScene_9 : decode cX5_isOfScene 9 = .ok (.iload_n 1, 1) := by decide +kernel
theorem dX5_isOfScene_10 : decode cX5_isOfScene 10 = .ok (.getstatic 89, 3) := by decide +kernel
theorem dX5_isOfScene_13 : decode cX5_isOfScene 13 = .ok (.iload_n 0, 1) := by decide +kernel
theorem dX5_isOfScene_14 : decode cX5_isOfScene 14 = .ok (.iaload, 1) := by decide +kernel
theorem dX5_isOfScene_15 : decode cX5_isOfScene 15 = .ok (.if_icmp .gt 7, 3) := by decide +kernel
theorem dX5_isOfScene_18 : decode cX5_isOfScene 18 = .ok (.iconst 1, 1) := by decide +kernel
theorem dX5_isOfScene_19 : decode cX5_isOfScene 19 = .ok (.goto 4, 3) := by decide +kernel
theorem dX5_isOfScene_22 : decode cX5_isOfScene 22 = .ok (.iconst 0, 1) := by decide +kernel
theorem dX5_isOfScene_23 : decode cX5_isOfScene 23 = .ok (.ireturn, 1) := by decide +kernel
theorem dX5_fits_0 : decode cX5_fits 0 = .ok (.iload_n 2, 1) := by decide +kernel
theorem dX5_fits_1 : decode cX5_fits 1 = .ok (.ifCond .ne 23, 3) := by decide +kernel
theorem dX5_fits_4 : decode cX5_fits 4 = .ok (.iload_n 3, 1) := by decide +kernel
theorem dX5_fits_5 : decode cX5_fits 5 = .ok (.aload_n 0, 1) := by decide +kernel
theorem dX5_fits_6 : decode cX5_fits 6 = .ok (.getfield 10, 3) := by decide +kernel
theorem dX5_fits_9 : decode cX5_fits 9 = .ok (.getfield 37, 3) := by decide +kernel
theorem dX5_fits_12 : decode cX5_fits 12 = .ok (.getfield 78, 3) := by decide +kernel
theorem dX5_fits_15 : decode cX5_fits 15 = .ok (.iconst 1, 1) := by decide +kernel
theorem dX5_fits_16 : decode cX5_fits 16 = .ok (.aaload, 1) := by decide +kernel
theorem dX5_fits_17 : decode cX5_fits 17 = .ok (.iload_n 1, 1) := by decide +kernel
theorem dX5_fits_18 : decode cX5_fits 18 = .ok (.iaload, 1) := by decide +kernel
theorem dX5_fits_19 : decode cX5_fits 19 = .ok (.if_icmp .gt 5, 3) := by decide +kernel
theorem dX5_fits_22 : decode cX5_fits 22 = .ok (.iconst 0, 1) := by decide +kernel
theorem dX5_fits_23 : decode cX5_fits 23 = .ok (.ireturn, 1) := by decide +kernel
theorem dX5_fits_24 : decode cX5_fits 24 = .ok (.iload_n 2, 1) := by decide +kernel
theorem dX5_fits_25 : decode cX5_fits 25 = .ok (.iconst 1, 1) := by decide +kernel
theorem dX5_fits_26 : decode cX5_fits 26 = .ok (.if_icmp .ne 23, 3) := by decide +kernel
theorem dX5_fits_29 : decode cX5_fits 29 = .ok (.iload_n 3, 1) := by decide +kernel
theorem dX5_fits_30 : decode cX5_fits 30 = .ok (.aload_n 0, 1) := by decide +kernel
theorem dX5_fits_31 : decode cX5_fits 31 = .ok (.getfield 10, 3) := by decide +kernel
theorem dX5_fits_34 : decode cX5_fits 34 = .ok (.getfield 37, 3) := by decide +kernel
theorem dX5_fits_37 : decode cX5_fits 37 = .ok (.getfield 78, 3) := by decide +kernel
theorem dX5_fits_40 : decode cX5_fits 40 = .ok (.iconst 0, 1) := by decide +kernel
theorem dX5_fits_41 : decode cX5_fits 41 = .ok (.aaload, 1) := by decide +kernel
theorem dX5_fits_42 : decode cX5_fits 42 = .ok (.iload_n 1, 1) := by decide +kernel
theorem dX5_fits_43 : decode cX5_fits 43 = .ok (.iaload, 1) := by decide +kernel
theorem dX5_fits_44 : decode cX5_fits 44 = .ok (.if_icmp .lt 5, 3) := by decide +kernel
theorem dX5_fits_47 : decode cX5_fits 47 = .ok (.iconst 0, 1) := by decide +kernel
theorem dX5_fits_48 : decode cX5_fits 48 = .ok (.ireturn, 1) := by decide +kernel
theorem dX5_fits_49 : decode cX5_fits 49 = .ok (.iload_n 2, 1) := by decide +kernel
theorem dX5_fits_50 : decode cX5_fits 50 = .ok (.iload_n 3, 1) := by decide +kernel
theorem dX5_fits_51 : decode cX5_fits 51 = .ok (.invokestatic 82, 3) := by decide +kernel
theorem dX5_fits_54 : decode cX5_fits 54 = .ok (.ireturn, 1) := by decide +kernel
theorem dX5_setWeek_0 : decode cX5_setWeek 0 = .ok (.iload_n 1, 1) := by decide +kernel
theorem dX5_setWeek_1 : decode cX5_setWeek 1 = .ok (.aload_n 0, 1) := by decide +kernel
theorem dX5_setWeek_2 : decode cX5_setWeek 2 = .ok (.getfield 10, 3) := by decide +kernel
theorem dX5_setWeek_5 : decode cX5_setWeek 5 = .ok (.getfield 37, 3) := by decide +kernel
theorem dX5_setWeek_8 : decode cX5_setWeek 8 = .ok (.getfield 41, 3) := by decide +kernel
theorem dX5_setWeek_11 : decode cX5_setWeek 11 = .ok (.iconst 2, 1) := by decide +kernel
theorem dX5_setWeek_12 : decode cX5_setWeek 12 = .ok (.iaload, 1) := by decide +kernel
theorem dX5_setWeek_13 : decode cX5_setWeek 13 = .ok (.if_icmp .lt 30, 3) := by decide +kernel
theorem dX5_setWeek_16 : decode cX5_setWeek 16 = .ok (.iload_n 1, 1) := by decide +kernel
theorem dX5_setWeek_17 : decode cX5_setWeek 17 = .ok (.bipush 30, 2) := by decide +kernel
theorem dX5_setWeek_19 : decode cX5_setWeek 19 = .ok (.if_icmp .ge 24, 3) := by decide +kernel
theorem dX5_setWeek_22 : decode cX5_setWeek 22 = .ok (.iload_n 2, 1) := by decide +kernel
theorem dX5_setWeek_23 : decode cX5_setWeek 23 = .ok (.iconst 1, 1) := by decide +kernel
theorem dX5_setWeek_24 : decode cX5_setWeek 24 = .ok (.if_icmp .lt 19, 3) := by decide +kernel
theorem dX5_setWeek_27 : decode cX5_setWeek 27 = .ok (.iload_n 2, 1) := by decide +kernel
theorem dX5_setWeek_28 : decode cX5_setWeek 28 = .ok (.iconst 4, 1) := by decide +kernel
theorem dX5_setWeek_29 : decode cX5_setWeek 29 = .ok (.if_icmp .gt 14, 3) := by decide +kernel
theorem dX5_setWeek_32 : decode cX5_setWeek 32 = .ok (.iload_n 3, 1) := by decide +kernel
theorem dX5_setWeek_33 : decode cX5_setWeek 33 = .ok (.ifCond .lt 10, 3) := by decide +kernel
theorem dX5_setWeek_36 : decode cX5_setWeek 36 = .ok (.iload_n 3, 1) := by decide +kernel
theorem dX5_setWeek_37 : decode cX5_setWeek 37 = .ok (.sipush 999, 3) := by decide +kernel
theorem dX5_setWeek_40 : decode cX5_setWeek 40 = .ok (.if_icmp .le 6, 3) := by decide +kernel
theorem dX5_setWeek_43 : decode cX5_setWeek 43 = .ok (.ldc 51, 2) := by decide +kernel
theorem dX5_setWeek_45 : decode cX5_setWeek 45 = .ok (.ireturn, 1) := by decide +kernel
theorem dX5_setWeek_46 : decode cX5_setWeek 46 = .ok (.aload_n 0, 1) := by decide +kernel
theorem dX5_setWeek_47 : decode cX5_setWeek 47 = .ok (.getfield 19, 3) := by decide +kernel
theorem dX5_setWeek_50 : decode cX5_setWeek 50 = .ok (.aload_n 0, 1) := by decide +kernel
theorem dX5_setWeek_51 : decode cX5_setWeek 51 = .ok (.getfield 10, 3) := by decide +kernel
theorem dX5_setWeek_54 : decode cX5_setWeek 54 = .ok (.invokevirtual 58, 3) := by decide +kernel
theorem dX5_setWeek_57 : decode cX5_setWeek 57 = .ok (.aload_n 0, 1) := by decide +kernel
theorem dX5_setWeek_58 : decode cX5_setWeek 58 = .ok (.getfield 10, 3) := by decide +kernel
theorem dX5_setWeek_61 : decode cX5_setWeek 61 = .ok (.getfield 37, 3) := by decide +kernel
theorem dX5_setWeek_64 : decode cX5_setWeek 64 = .ok (.getfield 92, 3) := by decide +kernel
theorem dX5_setWeek_67 : decode cX5_setWeek 67 = .ok (.iconst 0, 1) := by decide +kernel
theorem dX5_setWeek_68 : decode cX5_setWeek 68 = .ok (.aaload, 1) := by decide +kernel
theorem dX5_setWeek_69 : decode cX5_setWeek 69 = .ok (.iload_n 1, 1) := by decide +kernel
theorem dX5_setWeek_70 : decode cX5_setWeek 70 = .ok (.iload_n 2, 1) := by decide +kernel
theorem dX5_setWeek_71 : decode cX5_setWeek 71 = .ok (.iastore, 1) := by decide +kernel
theorem dX5_setWeek_72 : decode cX5_setWeek 72 = .ok (.aload_n 0, 1) := by decide +kernel
theorem dX5_setWeek_73 : decode cX5_setWeek 73 = .ok (.getfield 10, 3) := by decide +kernel
theorem dX5_setWeek_76 : decode cX5_setWeek 76 = .ok (.getfield 37, 3) := by decide +kernel
theorem dX5_setWeek_79 : decode cX5_setWeek 79 = .ok (.getfield 92, 3) := by decide +kernel
theorem dX5_setWeek_82 : decode cX5_setWeek 82 = .ok (.iconst 1, 1) := by decide +kernel
theorem dX5_setWeek_83 : decode cX5_setWeek 83 = .ok (.aaload, 1) := by decide +kernel
theorem dX5_setWeek_84 : decode cX5_setWeek 84 = .ok (.iload_n 1, 1) := by decide +kernel
theorem dX5_setWeek_85 : decode cX5_setWeek 85 = .ok (.iload_n 3, 1) := by decide +kernel
theorem dX5_setWeek_86 : decode cX5_setWeek 86 = .ok (.iastore, 1) := by decide +kernel
theorem dX5_setWeek_87 : decode cX5_setWeek 87 = .ok (.aload_n 0, 1) := by decide +kernel
theorem dX5_setWeek_88 : decode cX5_setWeek 88 = .ok (.getfield 10, 3) := by decide +kernel
theorem dX5_setWeek_91 : decode cX5_setWeek 91 = .ok (.getfield 37, 3) := by decide +kernel
theorem dX5_setWeek_94 : decode cX5_setWeek 94 = .ok (.iload_n 1, 1) := by decide +kernel
theorem dX5_setWeek_95 : decode cX5_setWeek 95 = .ok (.invokevirtual 95, 3) := by decide +kernel
theorem dX5_setWeek_98 : decode cX5_setWeek 98 = .ok (.ireturn, 1) := by decide +kernel
theorem dX5_setNumber_0 : decode cX5_setNumber 0 = .ok (.iload_n 1, 1) := by decide +kernel
theorem dX5_setNumber_1 : decode cX5_setNumber 1 = .ok (.ifCond .lt 29, 3) := by decide +kernel
theorem dX5_setNumber_4 : decode cX5_setNumber 4 = .ok (.iload_n 1, 1) := by decide +kernel
theorem dX5_setNumber_5 : decode cX5_setNumber 5 = .ok (.getstatic 99, 3) := by decide +kernel
theorem dX5_setNumber_8 : decode cX5_setNumber 8 = .ok (.arraylength, 1) := by decide +kernel
theorem dX5_setNumber_9 : decode cX5_setNumber 9 = .ok (.if_icmp .ge 21, 3) := by decide +kernel
theorem dX5_setNumber_12 : decode cX5_setNumber 12 = .ok (.iload_n 2, 1) := by decide +kernel
theorem dX5_setNumber_13 : decode cX5_setNumber 13 = .ok (.getstatic 99, 3) := by decide +kernel
theorem dX5_setNumber_16 : decode cX5_setNumber 16 = .ok (.iload_n 1, 1) := by decide +kernel
theorem dX5_setNumber_17 : decode cX5_setNumber 17 = .ok (.iaload, 1) := by decide +kernel
theorem dX5_setNumber_18 : decode cX5_setNumber 18 = .ok (.if_icmp .lt 12, 3) := by decide +kernel
theorem dX5_setNumber_21 : decode cX5_setNumber 21 = .ok (.iload_n 2, 1) := by decide +kernel
theorem dX5_setNumber_22 : decode cX5_setNumber 22 = .ok (.getstatic 102, 3) := by decide +kernel
theorem dX5_setNumber_25 : decode cX5_setNumber 25 = .ok (.iload_n 1, 1) := by decide +kernel
theorem dX5_setNumber_26 : decode cX5_setNumber 26 = .ok (.iaload, 1) := by decide +kernel
theorem dX5_setNumber_27 : decode cX5_setNumber 27 = .ok (.if_icmp .le 6, 3) := by decide +kernel
theorem dX5_setNumber_30 : decode cX5_setNumber 30 = .ok (.ldc 51, 2) := by decide +kernel
theorem dX5_setNumber_32 : decode cX5_setNumber 32 = .ok (.ireturn, 1) := by decide +kernel
theorem dX5_setNumber_33 : decode cX5_setNumber 33 = .ok (.aload_n 0, 1) := by decide +kernel
theorem dX5_setNumber_34 : decode cX5_setNumber 34 = .ok (.getfield 19, 3) := by decide +kernel
theorem dX5_setNumber_37 : decode cX5_setNumber 37 = .ok (.aload_n 0, 1) := by decide +kernel
theorem dX5_setNumber_38 : decode cX5_setNumber 38 = .ok (.getfield 10, 3) := by decide +kernel
theorem dX5_setNumber_41 : decode cX5_setNumber 41 = .ok (.invokevirtual 58, 3) := by decide +kernel
theorem dX5_setNumber_44 : decode cX5_setNumber 44 = .ok (.aload_n 0, 1) := by decide +kernel
theorem dX5_setNumber_45 : decode cX5_setNumber 45 = .ok (.getfield 10, 3) := by decide +kernel
theorem dX5_setNumber_48 : decode cX5_setNumber 48 = .ok (.getfield 37, 3) := by decide +kernel
theorem dX5_setNumber_51 : decode cX5_setNumber 51 = .ok (.getfield 41, 3) := by decide +kernel
theorem dX5_setNumber_54 : decode cX5_setNumber 54 = .ok (.iconst 5, 1) := by decide +kernel
theorem dX5_setNumber_55 : decode cX5_setNumber 55 = .ok (.iload_n 1, 1) := by decide +kernel
theorem dX5_setNumber_56 : decode cX5_setNumber 56 = .ok (.iadd, 1) := by decide +kernel
theorem dX5_setNumber_57 : decode cX5_setNumber 57 = .ok (.iaload, 1) := by decide +kernel
theorem dX5_setNumber_58 : decode cX5_setNumber 58 = .ok (.istore_n 3, 1) := by decide +kernel
theorem dX5_setNumber_59 : decode cX5_setNumber 59 = .ok (.aload_n 0, 1) := by decide +kernel
theorem dX5_setNumber_60 : decode cX5_setNumber 60 = .ok (.getfield 10, 3) := by decide +kernel
theorem dX5_setNumber_63 : decode cX5_setNumber 63 = .ok (.getfield 37, 3) := by decide +kernel
theorem dX5_setNumber_66 : decode cX5_setNumber 66 = .ok (.getfield 41, 3) := by decide +kernel
theorem dX5_setNumber_69 : decode cX5_setNumber 69 = .ok (.iconst 5, 1) := by decide +kernel
theorem dX5_setNumber_70 : decode cX5_setNumber 70 = .ok (.iload_n 1, 1) := by decide +kernel
theorem dX5_setNumber_71 : decode cX5_setNumber 71 = .ok (.iadd, 1) := by decide +kernel
theorem dX5_setNumber_72 : decode cX5_setNumber 72 = .ok (.iload_n 2, 1) := by decide +kernel
theorem dX5_setNumber_73 : decode cX5_setNumber 73 = .ok (.iastore, 1) := by decide +kernel
theorem dX5_setNumber_74 : decode cX5_setNumber 74 = .ok (.iload_n 3, 1) := by decide +kernel
theorem dX5_setNumber_75 : decode cX5_setNumber 75 = .ok (.ireturn, 1) := by decide +kernel
theorem dX5_ask_0 : decode cX5_ask 0 = .ok (.iload_n 1, 1) := by decide +kernel
theorem dX5_ask_1 : decode cX5_ask 1 = .ok (.ifCond .lt 10, 3) := by decide +kernel
theorem dX5_ask_4 : decode cX5_ask 4 = .ok (.iload_n 1, 1) := by decide +kernel
theorem dX5_ask_5 : decode cX5_ask 5 = .ok (.sipush 999, 3) := by decide +kernel
theorem dX5_ask_8 : decode cX5_ask 8 = .ok (.if_icmp .le 6, 3) := by decide +kernel
theorem dX5_ask_11 : decode cX5_ask 11 = .ok (.ldc 51, 2) := by decide +kernel
theorem dX5_ask_13 : decode cX5_ask 13 = .ok (.ireturn, 1) := by decide +kernel
theorem dX5_ask_14 : decode cX5_ask 14 = .ok (.aload_n 0, 1) := by decide +kernel
theorem dX5_ask_15 : decode cX5_ask 15 = .ok (.getfield 19, 3) := by decide +kernel
theorem dX5_ask_18 : decode cX5_ask 18 = .ok (.aload_n 0, 1) := by decide +kernel
theorem dX5_ask_19 : decode cX5_ask 19 = .ok (.getfield 10, 3) := by decide +kernel
theorem dX5_ask_22 : decode cX5_ask 22 = .ok (.invokevirtual 58, 3) := by decide +kernel
theorem dX5_ask_25 : decode cX5_ask 25 = .ok (.aload_n 0, 1) := by decide +kernel
theorem dX5_ask_26 : decode cX5_ask 26 = .ok (.getfield 10, 3) := by decide +kernel
theorem dX5_ask_29 : decode cX5_ask 29 = .ok (.getfield 37, 3) := by decide +kernel
theorem dX5_ask_32 : decode cX5_ask 32 = .ok (.getfield 41, 3) := by decide +kernel
theorem dX5_ask_35 : decode cX5_ask 35 = .ok (.iconst 3, 1) := by decide +kernel
theorem dX5_ask_36 : decode cX5_ask 36 = .ok (.iaload, 1) := by decide +kernel
theorem dX5_ask_37 : decode cX5_ask 37 = .ok (.istore_n 2, 1) := by decide +kernel
theorem dX5_ask_38 : decode cX5_ask 38 = .ok (.aload_n 0, 1) := by decide +kernel
theorem dX5_ask_39 : decode cX5_ask 39 = .ok (.getfield 10, 3) := by decide +kernel
theorem dX5_ask_42 : decode cX5_ask 42 = .ok (.getfield 37, 3) := by decide +kernel
theorem dX5_ask_45 : decode cX5_ask 45 = .ok (.getfield 41, 3) := by decide +kernel
theorem dX5_ask_48 : decode cX5_ask 48 = .ok (.iconst 3, 1) := by decide +kernel
theorem dX5_ask_49 : decode cX5_ask 49 = .ok (.iload_n 1, 1) := by decide +kernel
theorem dX5_ask_50 : decode cX5_ask 50 = .ok (.iastore, 1) := by decide +kernel
theorem dX5_ask_51 : decode cX5_ask 51 = .ok (.aload_n 0, 1) := by decide +kernel
theorem dX5_ask_52 : decode cX5_ask 52 = .ok (.invokevirtual 52, 3) := by decide +kernel
theorem dX5_ask_55 : decode cX5_ask 55 = .ok (.ifCond .eq 20, 3) := by decide +kernel
theorem dX5_ask_58 : decode cX5_ask 58 = .ok (.aload_n 0, 1) := by decide +kernel
theorem dX5_ask_59 : decode cX5_ask 59 = .ok (.getfield 10, 3) := by decide +kernel
theorem dX5_ask_62 : decode cX5_ask 62 = .ok (.getfield 37, 3) := by decide +kernel
theorem dX5_ask_65 : decode cX5_ask 65 = .ok (.getfield 41, 3) := by decide +kernel
theorem dX5_ask_68 : decode cX5_ask 68 = .ok (.bipush 14, 2) := by decide +kernel
theorem dX5_ask_70 : decode cX5_ask 70 = .ok (.dup2, 1) := by decide +kernel
theorem dX5_ask_71 : decode cX5_ask 71 = .ok (.iaload, 1) := by decide +kernel
theorem dX5_ask_72 : decode cX5_ask 72 = .ok (.iconst 1, 1) := by decide +kernel
theorem dX5_ask_73 : decode cX5_ask 73 = .ok (.iadd, 1) := by decide +kernel
theorem dX5_ask_74 : decode cX5_ask 74 = .ok (.iastore, 1) := by decide +kernel
theorem dX5_ask_75 : decode cX5_ask 75 = .ok (.iload_n 2, 1) := by decide +kernel
theorem dX5_ask_76 : decode cX5_ask 76 = .ok (.ireturn, 1) := by decide +kernel
theorem dX5_set_0 : decode cX5_set 0 = .ok (.iload_n 1, 1) := by decide +kernel
theorem dX5_set_1 : decode cX5_set 1 = .ok (.iconst 1, 1) := by decide +kernel
theorem dX5_set_2 : decode cX5_set 2 = .ok (.if_icmp .lt 17, 3) := by decide +kernel
theorem dX5_set_5 : decode cX5_set 5 = .ok (.iload_n 1, 1) := by decide +kernel
theorem dX5_set_6 : decode cX5_set 6 = .ok (.aload_n 0, 1) := by decide +kernel
theorem dX5_set_7 : decode cX5_set 7 = .ok (.getfield 10, 3) := by decide +kernel
theorem dX5_set_10 : decode cX5_set 10 = .ok (.getfield 37, 3) := by decide +kernel
theorem dX5_set_13 : decode cX5_set 13 = .ok (.invokevirtual 105, 3) := by decide +kernel
theorem dX5_set_16 : decode cX5_set 16 = .ok (.if_icmp .le 6, 3) := by decide +kernel
theorem dX5_set_19 : decode cX5_set 19 = .ok (.ldc 51, 2) := by decide +kernel
theorem dX5_set_21 : decode cX5_set 21 = .ok (.ireturn, 1) := by decide +kernel
theorem dX5_set_22 : decode cX5_set 22 = .ok (.aload_n 0, 1) := by decide +kernel
theorem dX5_set_23 : decode cX5_set 23 = .ok (.invokevirtual 52, 3) := by decide +kernel
theorem dX5_set_26 : decode cX5_set 26 = .ok (.ifCond .ne 17, 3) := by decide +kernel
theorem dX5_set_29 : decode cX5_set 29 = .ok (.aload_n 0, 1) := by decide +kernel
theorem dX5_set_30 : decode cX5_set 30 = .ok (.getfield 10, 3) := by decide +kernel
theorem dX5_set_33 : decode cX5_set 33 = .ok (.getfield 37, 3) := by decide +kernel
theorem dX5_set_36 : decode cX5_set 36 = .ok (.iload_n 1, 1) := by decide +kernel
theorem dX5_set_37 : decode cX5_set 37 = .ok (.invokevirtual 109, 3) := by decide +kernel
theorem dX5_set_40 : decode cX5_set 40 = .ok (.ifCond .ne 6, 3) := by decide +kernel
theorem dX5_set_43 : decode cX5_set 43 = .ok (.ldc 56, 2) := by decide +kernel
theorem dX5_set_45 : decode cX5_set 45 = .ok (.ireturn, 1) := by decide +kernel
theorem dX5_set_46 : decode cX5_set 46 = .ok (.aload_n 0, 1) := by decide +kernel
theorem dX5_set_47 : decode cX5_set 47 = .ok (.getfield 19, 3) := by decide +kernel
theorem dX5_set_50 : decode cX5_set 50 = .ok (.aload_n 0, 1) := by decide +kernel
theorem dX5_set_51 : decode cX5_set 51 = .ok (.getfield 10, 3) := by decide +kernel
theorem dX5_set_54 : decode cX5_set 54 = .ok (.invokevirtual 58, 3) := by decide +kernel
theorem dX5_set_57 : decode cX5_set 57 = .ok (.aload_n 0, 1) := by decide +kernel
theorem dX5_set_58 : decode cX5_set 58 = .ok (.getfield 10, 3) := by decide +kernel
theorem dX5_set_61 : decode cX5_set 61 = .ok (.getfield 37, 3) := by decide +kernel
theorem dX5_set_64 : decode cX5_set 64 = .ok (.getfield 41, 3) := by decide +kernel
theorem dX5_set_67 : decode cX5_set 67 = .ok (.iconst 4, 1) := by decide +kernel
theorem dX5_set_68 : decode cX5_set 68 = .ok (.iload_n 1, 1) := by decide +kernel
theorem dX5_set_69 : decode cX5_set 69 = .ok (.iastore, 1) := by decide +kernel
theorem dX5_set_70 : decode cX5_set 70 = .ok (.aload_n 0, 1) := by decide +kernel
theorem dX5_set_71 : decode cX5_set 71 = .ok (.getfield 10, 3) := by decide +kernel
theorem dX5_set_74 : decode cX5_set 74 = .ok (.getfield 37, 3) := by decide +kernel
theorem dX5_set_77 : decode cX5_set 77 = .ok (.iload_n 1, 1) := by decide +kernel
theorem dX5_set_78 : decode cX5_set 78 = .ok (.invokevirtual 112, 3) := by decide +kernel
theorem dX5_set_81 : decode cX5_set 81 = .ok (.ireturn, 1) := by decide +kernel
theorem dX5_unset_0 : decode cX5_unset 0 = .ok (.aload_n 0, 1) := by decide +kernel
theorem dX5_unset_1 : decode cX5_unset 1 = .ok (.invokevirtual 52, 3) := by decide +kernel
theorem dX5_unset_4 : decode cX5_unset 4 = .ok (.ifCond .ne 6, 3) := by decide +kernel
theorem dX5_unset_7 : decode cX5_unset 7 = .ok (.ldc 56, 2) := by decide +kernel
theorem dX5_unset_9 : decode cX5_unset 9 = .ok (.ireturn, 1) := by decide +kernel
theorem dX5_unset_10 : decode cX5_unset 10 = .ok (.aload_n 0, 1) := by decide +kernel
theorem dX5_unset_11 : decode cX5_unset 11 = .ok (.getfield 19, 3) := by decide +kernel
theorem dX5_unset_14 : decode cX5_unset 14 = .ok (.aload_n 0, 1) := by decide +kernel
theorem dX5_unset_15 : decode cX5_unset 15 = .ok (.getfield 10, 3) := by decide +kernel
theorem dX5_unset_18 : decode cX5_unset 18 = .ok (.invokevirtual 58, 3) := by decide +kernel
theorem dX5_unset_21 : decode cX5_unset 21 = .ok (.aload_n 0, 1) := by decide +kernel
theorem dX5_unset_22 : decode cX5_unset 22 = .ok (.getfield 10, 3) := by decide +kernel
theorem dX5_unset_25 : decode cX5_unset 25 = .ok (.getfield 37, 3) := by decide +kernel
theorem dX5_unset_28 : decode cX5_unset 28 = .ok (.getfield 41, 3) := by decide +kernel
theorem dX5_unset_31 : decode cX5_unset 31 = .ok (.iconst 4, 1) := by decide +kernel
theorem dX5_unset_32 : decode cX5_unset 32 = .ok (.iaload, 1) := by decide +kernel
theorem dX5_unset_33 : decode cX5_unset 33 = .ok (.istore_n 1, 1) := by decide +kernel
theorem dX5_unset_34 : decode cX5_unset 34 = .ok (.aload_n 0, 1) := by decide +kernel
theorem dX5_unset_35 : decode cX5_unset 35 = .ok (.getfield 10, 3) := by decide +kernel
theorem dX5_unset_38 : decode cX5_unset 38 = .ok (.getfield 37, 3) := by decide +kernel
theorem dX5_unset_41 : decode cX5_unset 41 = .ok (.getfield 41, 3) := by decide +kernel
theorem dX5_unset_44 : decode cX5_unset 44 = .ok (.iconst 4, 1) := by decide +kernel
theorem dX5_unset_45 : decode cX5_unset 45 = .ok (.iconst 0, 1) := by decide +kernel
theorem dX5_unset_46 : decode cX5_unset 46 = .ok (.iastore, 1) := by decide +kernel
theorem dX5_unset_47 : decode cX5_unset 47 = .ok (.iload_n 1, 1) := by decide +kernel
theorem dX5_unset_48 : decode cX5_unset 48 = .ok (.ireturn, 1) := by decide +kernel
theorem dX5_mend_0 : decode cX5_mend 0 = .ok (.aload_n 0, 1) := by decide +kernel
theorem dX5_mend_1 : decode cX5_mend 1 = .ok (.invokevirtual 52, 3) := by decide +kernel
theorem dX5_mend_4 : decode cX5_mend 4 = .ok (.ifCond .eq 28, 3) := by decide +kernel
theorem dX5_mend_7 : decode cX5_mend 7 = .ok (.aload_n 0, 1) := by decide +kernel
theorem dX5_mend_8 : decode cX5_mend 8 = .ok (.getfield 10, 3) := by decide +kernel
theorem dX5_mend_11 : decode cX5_mend 11 = .ok (.getfield 37, 3) := by decide +kernel
theorem dX5_mend_14 : decode cX5_mend 14 = .ok (.aload_n 0, 1) := by decide +kernel
theorem dX5_mend_15 : decode cX5_mend 15 = .ok (.getfield 10, 3) := by decide +kernel
theorem dX5_mend_18 : decode cX5_mend 18 = .ok (.getfield 37, 3) := by decide +kernel
theorem dX5_mend_21 : decode cX5_mend 21 = .ok (.getfield 41, 3) := by decide +kernel
theorem dX5_mend_24 : decode cX5_mend 24 = .ok (.iconst 4, 1) := by decide +kernel
theorem dX5_mend_25 : decode cX5_mend 25 = .ok (.iaload, 1) := by decide +kernel
theorem dX5_mend_26 : decode cX5_mend 26 = .ok (.invokevirtual 109, 3) := by decide +kernel
theorem dX5_mend_29 : decode cX5_mend 29 = .ok (.ifCond .eq 6, 3) := by decide +kernel
theorem dX5_mend_32 : decode cX5_mend 32 = .ok (.ldc 56, 2) := by decide +kernel
theorem dX5_mend_34 : decode cX5_mend 34 = .ok (.ireturn, 1) := by decide +kernel
theorem dX5_mend_35 : decode cX5_mend 35 = .ok (.aload_n 0, 1) := by decide +kernel
theorem dX5_mend_36 : decode cX5_mend 36 = .ok (.aload_n 0, 1) := by decide +kernel
theorem dX5_mend_37 : decode cX5_mend 37 = .ok (.getfield 10, 3) := by decide +kernel
theorem dX5_mend_40 : decode cX5_mend 40 = .ok (.getfield 37, 3) := by decide +kernel
theorem dX5_mend_43 : decode cX5_mend 43 = .ok (.getfield 41, 3) := by decide +kernel
theorem dX5_mend_46 : decode cX5_mend 46 = .ok (.iconst 4, 1) := by decide +kernel
theorem dX5_mend_47 : decode cX5_mend 47 = .ok (.iaload, 1) := by decide +kernel
theorem dX5_mend_48 : decode cX5_mend 48 = .ok (.invokevirtual 115, 3) := by decide +kernel
theorem dX5_mend_51 : decode cX5_mend 51 = .ok (.istore_n 1, 1) := by decide +kernel
theorem dX5_mend_52 : decode cX5_mend 52 = .ok (.iload_n 1, 1) := by decide +kernel
theorem dX5_mend_53 : decode cX5_mend 53 = .ok (.ifCond .ne 6, 3) := by decide +kernel
theorem dX5_mend_56 : decode cX5_mend 56 = .ok (.ldc 56, 2) := by decide +kernel
theorem dX5_mend_58 : decode cX5_mend 58 = .ok (.ireturn, 1) := by decide +kernel
theorem dX5_mend_59 : decode cX5_mend 59 = .ok (.aload_n 0, 1) := by decide +kernel
theorem dX5_mend_60 : decode cX5_mend 60 = .ok (.getfield 19, 3) := by decide +kernel
theorem dX5_mend_63 : decode cX5_mend 63 = .ok (.aload_n 0, 1) := by decide +kernel
theorem dX5_mend_64 : decode cX5_mend 64 = .ok (.getfield 10, 3) := by decide +kernel
theorem dX5_mend_67 : decode cX5_mend 67 = .ok (.invokevirtual 58, 3) := by decide +kernel
theorem dX5_mend_70 : decode cX5_mend 70 = .ok (.aload_n 0, 1) := by decide +kernel
theorem dX5_mend_71 : decode cX5_mend 71 = .ok (.getfield 10, 3) := by decide +kernel
theorem dX5_mend_74 : decode cX5_mend 74 = .ok (.getfield 37, 3) := by decide +kernel
theorem dX5_mend_77 : decode cX5_mend 77 = .ok (.getfield 41, 3) := by decide +kernel
theorem dX5_mend_80 : decode cX5_mend 80 = .ok (.iconst 4, 1) := by decide +kernel
theorem dX5_mend_81 : decode cX5_mend 81 = .ok (.iload_n 1, 1) := by decide +kernel
theorem dX5_mend_82 : decode cX5_mend 82 = .ok (.iastore, 1) := by decide +kernel
theorem dX5_mend_83 : decode cX5_mend 83 = .ok (.iload_n 1, 1) := by decide +kernel
theorem dX5_mend_84 : decode cX5_mend 84 = .ok (.ireturn, 1) := by decide +kernel
theorem dX5_nearestGood_0 : decode cX5_nearestGood 0 = .ok (.iconst 1, 1) := by decide +kernel
theorem dX5_nearestGood_1 : decode cX5_nearestGood 1 = .ok (.istore_n 2, 1) := by decide +kernel
theorem dX5_nearestGood_2 : decode cX5_nearestGood 2 = .ok (.iload_n 2, 1) := by decide +kernel
theorem dX5_nearestGood_3 : decode cX5_nearestGood 3 = .ok (.bipush 20, 2) := by decide +kernel
theorem dX5_nearestGood_5 : decode cX5_nearestGood 5 = .ok (.if_icmp .gt 49, 3) := by decide +kernel
theorem dX5_nearestGood_8 : decode cX5_nearestGood 8 = .ok (.aload_n 0, 1) := by decide +kernel
theorem dX5_nearestGood_9 : decode cX5_nearestGood 9 = .ok (.getfield 10, 3) := by decide +kernel
theorem dX5_nearestGood_12 : decode cX5_nearestGood 12 = .ok (.getfield 37, 3) := by decide +kernel
theorem dX5_nearestGood_15 : decode cX5_nearestGood 15 = .ok (.iload_n 1, 1) := by decide +kernel
theorem dX5_nearestGood_16 : decode cX5_nearestGood 16 = .ok (.iload_n 2, 1) := by decide +kernel
theorem dX5_nearestGood_17 : decode cX5_nearestGood 17 = .ok (.isub, 1) := by decide +kernel
theorem dX5_nearestGood_18 : decode cX5_nearestGood 18 = .ok (.invokevirtual 109, 3) := by decide +kernel
theorem dX5_nearestGood_21 : decode cX5_nearestGood 21 = .ok (.ifCond .eq 7, 3) := by decide +kernel
theorem dX5_nearestGood_24 : decode cX5_nearestGood 24 = .ok (.iload_n 1, 1) := by decide +kernel
theorem dX5_nearestGood_25 : decode cX5_nearestGood 25 = .ok (.iload_n 2, 1) := by decide +kernel
theorem dX5_nearestGood_26 : decode cX5_nearestGood 26 = .ok (.isub, 1) := by decide +kernel
theorem dX5_nearestGood_27 : decode cX5_nearestGood 27 = .ok (.ireturn, 1) := by decide +kernel
theorem dX5_nearestGood_28 : decode cX5_nearestGood 28 = .ok (.aload_n 0, 1) := by decide +kernel
theorem dX5_nearestGood_29 : decode cX5_nearestGood 29 = .ok (.getfield 10, 3) := by decide +kernel
theorem dX5_nearestGood_32 : decode cX5_nearestGood 32 = .ok (.getfield 37, 3) := by decide +kernel
theorem dX5_nearestGood_35 : decode cX5_nearestGood 35 = .ok (.iload_n 1, 1) := by decide +kernel
theorem dX5_nearestGood_36 : decode cX5_nearestGood 36 = .ok (.iload_n 2, 1) := by decide +kernel
theorem dX5_nearestGood_37 : decode cX5_nearestGood 37 = .ok (.iadd, 1) := by decide +kernel
theorem dX5_nearestGood_38 : decode cX5_nearestGood 38 = .ok (.invokevirtual 109, 3) := by decide +kernel
theorem dX5_nearestGood_41 : decode cX5_nearestGood 41 = .ok (.ifCond .eq 7, 3) := by decide +kernel
theorem dX5_nearestGood_44 : decode cX5_nearestGood 44 = .ok (.iload_n 1, 1) := by decide +kernel
theorem dX5_nearestGood_45 : decode cX5_nearestGood 45 = .ok (.iload_n 2, 1) := by decide +kernel
theorem dX5_nearestGood_46 : decode cX5_nearestGood 46 = .ok (.iadd, 1) := by decide +kernel
theorem dX5_nearestGood_47 : decode cX5_nearestGood 47 = .ok (.ireturn, 1) := by decide +kernel
theorem dX5_nearestGood_48 : decode cX5_nearestGood 48 = .ok (.iinc 2 1, 3) := by decide +kernel
theorem dX5_nearestGood_51 : decode cX5_nearestGood 51 = .ok (.goto (-49), 3) := by decide +kernel
theorem dX5_nearestGood_54 : decode cX5_nearestGood 54 = .ok (.iconst 0, 1) := by decide +kernel
theorem dX5_nearestGood_55 : decode cX5_nearestGood 55 = .ok (.ireturn, 1) := by decide +kernel
theorem dX5_print_0 : decode cX5_print 0 = .ok (.aload_n 0, 1) := by decide +kernel
theorem dX5_print_1 : decode cX5_print 1 = .ok (.invokevirtual 52, 3) := by decide +kernel
theorem dX5_print_4 : decode cX5_print 4 = .ok (.ifCond .eq 28, 3) := by decide +kernel
theorem dX5_print_7 : decode cX5_print 7 = .ok (.aload_n 0, 1) := by decide +kernel
theorem dX5_print_8 : decode cX5_print 8 = .ok (.getfield 10, 3) := by decide +kernel
theorem dX5_print_11 : decode cX5_print 11 = .ok (.getfield 37, 3) := by decide +kernel
theorem dX5_print_14 : decode cX5_print 14 = .ok (.aload_n 0, 1) := by decide +kernel
theorem dX5_print_15 : decode cX5_print 15 = .ok (.getfield 10, 3) := by decide +kernel
theorem dX5_print_18 : decode cX5_print 18 = .ok (.getfield 37, 3) := by decide +kernel
theorem dX5_print_21 : decode cX5_print 21 = .ok (.getfield 41, 3) := by decide +kernel
theorem dX5_print_24 : decode cX5_print 24 = .ok (.iconst 4, 1) := by decide +kernel
theorem dX5_print_25 : decode cX5_print 25 = .ok (.iaload, 1) := by decide +kernel
theorem dX5_print_26 : decode cX5_print 26 = .ok (.invokevirtual 109, 3) := by decide +kernel
theorem dX5_print_29 : decode cX5_print 29 = .ok (.ifCond .ne 6, 3) := by decide +kernel
theorem dX5_print_32 : decode cX5_print 32 = .ok (.ldc 56, 2) := by decide +kernel
theorem dX5_print_34 : decode cX5_print 34 = .ok (.ireturn, 1) := by decide +kernel
theorem dX5_print_35 : decode cX5_print 35 = .ok (.aload_n 0, 1) := by decide +kernel
theorem dX5_print_36 : decode cX5_print 36 = .ok (.getfield 19, 3) := by decide +kernel
theorem dX5_print_39 : decode cX5_print 39 = .ok (.aload_n 0, 1) := by decide +kernel
theorem dX5_print_40 : decode cX5_print 40 = .ok (.getfield 10, 3) := by decide +kernel
theorem dX5_print_43 : decode cX5_print 43 = .ok (.invokevirtual 58, 3) := by decide +kernel
theorem dX5_print_46 : decode cX5_print 46 = .ok (.aload_n 0, 1) := by decide +kernel
theorem dX5_print_47 : decode cX5_print 47 = .ok (.getfield 10, 3) := by decide +kernel
theorem dX5_print_50 : decode cX5_print 50 = .ok (.getfield 37, 3) := by decide +kernel
theorem dX5_print_53 : decode cX5_print 53 = .ok (.aload_n 0, 1) := by decide +kernel
theorem dX5_print_54 : decode cX5_print 54 = .ok (.getfield 10, 3) := by decide +kernel
theorem dX5_print_57 : decode cX5_print 57 = .ok (.getfield 37, 3) := by decide +kernel
theorem dX5_print_60 : decode cX5_print 60 = .ok (.getfield 41, 3) := by decide +kernel
theorem dX5_print_63 : decode cX5_print 63 = .ok (.iconst 4, 1) := by decide +kernel
theorem dX5_print_64 : decode cX5_print 64 = .ok (.iaload, 1) := by decide +kernel
theorem dX5_print_65 : decode cX5_print 65 = .ok (.invokevirtual 118, 3) := by decide +kernel
theorem dX5_print_68 : decode cX5_print 68 = .ok (.ireturn, 1) := by decide +kernel
theorem dX5_skip_0 : decode cX5_skip 0 = .ok (.aload_n 0, 1) := by decide +kernel
theorem dX5_skip_1 : decode cX5_skip 1 = .ok (.invokevirtual 52, 3) := by decide +kernel
theorem dX5_skip_4 : decode cX5_skip 4 = .ok (.ifCond .ne 20, 3) := by decide +kernel
theorem dX5_skip_7 : decode cX5_skip 7 = .ok (.aload_n 0, 1) := by decide +kernel
theorem dX5_skip_8 : decode cX5_skip 8 = .ok (.getfield 10, 3) := by decide +kernel
theorem dX5_skip_11 : decode cX5_skip 11 = .ok (.getfield 37, 3) := by decide +kernel
theorem dX5_skip_14 : decode cX5_skip 14 = .ok (.getfield 41, 3) := by decide +kernel
theorem dX5_skip_17 : decode cX5_skip 17 = .ok (.iconst 2, 1) := by decide +kernel
theorem dX5_skip_18 : decode cX5_skip 18 = .ok (.iaload, 1) := by decide +kernel
theorem dX5_skip_19 : decode cX5_skip 19 = .ok (.bipush 30, 2) := by decide +kernel
theorem dX5_skip_21 : decode cX5_skip 21 = .ok (.if_icmp .lt 6, 3) := by decide +kernel
theorem dX5_skip_24 : decode cX5_skip 24 = .ok (.ldc 56, 2) := by decide +kernel
theorem dX5_skip_26 : decode cX5_skip 26 = .ok (.ireturn, 1) := by decide +kernel
theorem dX5_skip_27 : decode cX5_skip 27 = .ok (.aload_n 0, 1) := by decide +kernel
theorem dX5_skip_28 : decode cX5_skip 28 = .ok (.getfield 19, 3) := by decide +kernel
theorem dX5_skip_31 : decode cX5_skip 31 = .ok (.aload_n 0, 1) := by decide +kernel
theorem dX5_skip_32 : decode cX5_skip 32 = .ok (.getfield 10, 3) := by decide +kernel
theorem dX5_skip_35 : decode cX5_skip 35 = .ok (.invokevirtual 58, 3) := by decide +kernel
theorem dX5_skip_38 : decode cX5_skip 38 = .ok (.aload_n 0, 1) := by decide +kernel
theorem dX5_skip_39 : decode cX5_skip 39 = .ok (.getfield 10, 3) := by decide +kernel
theorem dX5_skip_42 : decode cX5_skip 42 = .ok (.getfield 37, 3) := by decide +kernel
theorem dX5_skip_45 : decode cX5_skip 45 = .ok (.getfield 41, 3) := by decide +kernel
theorem dX5_skip_48 : decode cX5_skip 48 = .ok (.bipush 13, 2) := by decide +kernel
theorem dX5_skip_50 : decode cX5_skip 50 = .ok (.dup2, 1) := by decide +kernel
theorem dX5_skip_51 : decode cX5_skip 51 = .ok (.iaload, 1) := by decide +kernel
theorem dX5_skip_52 : decode cX5_skip 52 = .ok (.iconst 1, 1) := by decide +kernel
theorem dX5_skip_53 : decode cX5_skip 53 = .ok (.iadd, 1) := by decide +kernel
theorem dX5_skip_54 : decode cX5_skip 54 = .ok (.iastore, 1) := by decide +kernel
theorem dX5_skip_55 : decode cX5_skip 55 = .ok (.aload_n 0, 1) := by decide +kernel
theorem dX5_skip_56 : decode cX5_skip 56 = .ok (.getfield 10, 3) := by decide +kernel
theorem dX5_skip_59 : decode cX5_skip 59 = .ok (.getfield 37, 3) := by decide +kernel
theorem dX5_skip_62 : decode cX5_skip 62 = .ok (.iconst 0, 1) := by decide +kernel
theorem dX5_skip_63 : decode cX5_skip 63 = .ok (.iconst 0, 1) := by decide +kernel
theorem dX5_skip_64 : decode cX5_skip 64 = .ok (.invokevirtual 121, 3) := by decide +kernel
theorem dX5_skip_67 : decode cX5_skip 67 = .ok (.aload_n 0, 1) := by decide +kernel
theorem dX5_skip_68 : decode cX5_skip 68 = .ok (.getfield 10, 3) := by decide +kernel
theorem dX5_skip_71 : decode cX5_skip 71 = .ok (.getfield 37, 3) := by decide +kernel
theorem dX5_skip_74 : decode cX5_skip 74 = .ok (.getfield 41, 3) := by decide +kernel
theorem dX5_skip_77 : decode cX5_skip 77 = .ok (.bipush 9, 2) := by decide +kernel
theorem dX5_skip_79 : decode cX5_skip 79 = .ok (.iaload, 1) := by decide +kernel
theorem dX5_skip_80 : decode cX5_skip 80 = .ok (.ireturn, 1) := by decide +kernel
theorem dX5_take_0 : decode cX5_take 0 = .ok (.iload_n 1, 1) := by decide +kernel
theorem dX5_take_1 : decode cX5_take 1 = .ok (.ifCond .lt 8, 3) := by decide +kernel
theorem dX5_take_4 : decode cX5_take 4 = .ok (.iload_n 1, 1) := by decide +kernel
theorem dX5_take_5 : decode cX5_take 5 = .ok (.iconst 2, 1) := by decide +kernel
theorem dX5_take_6 : decode cX5_take 6 = .ok (.if_icmp .lt 6, 3) := by decide +kernel
theorem dX5_take_9 : decode cX5_take 9 = .ok (.ldc 51, 2) := by decide +kernel
theorem dX5_take_11 : decode cX5_take 11 = .ok (.ireturn, 1) := by decide +kernel
theorem dX5_take_12 : decode cX5_take 12 = .ok (.aload_n 0, 1) := by decide +kernel
theorem dX5_take_13 : decode cX5_take 13 = .ok (.getfield 19, 3) := by decide +kernel
theorem dX5_take_16 : decode cX5_take 16 = .ok (.aload_n 0, 1) := by decide +kernel
theorem dX5_take_17 : decode cX5_take 17 = .ok (.getfield 10, 3) := by decide +kernel
theorem dX5_take_20 : decode cX5_take 20 = .ok (.invokevirtual 58, 3) := by decide +kernel
theorem dX5_take_23 : decode cX5_take 23 = .ok (.aload_n 0, 1) := by decide +kernel
theorem dX5_take_24 : decode cX5_take 24 = .ok (.getfield 10, 3) := by decide +kernel
theorem dX5_take_27 : decode cX5_take 27 = .ok (.getfield 125, 3) := by decide +kernel
theorem dX5_take_30 : decode cX5_take 30 = .ok (.iload_n 1, 1) := by decide +kernel
theorem dX5_take_31 : decode cX5_take 31 = .ok (.aaload, 1) := by decide +kernel
theorem dX5_take_32 : decode cX5_take 32 = .ok (.aload_n 0, 1) := by decide +kernel
theorem dX5_take_33 : decode cX5_take 33 = .ok (.getfield 10, 3) := by decide +kernel
theorem dX5_take_36 : decode cX5_take 36 = .ok (.getfield 37, 3) := by decide +kernel
theorem dX5_take_39 : decode cX5_take 39 = .ok (.invokevirtual 129, 3) := by decide +kernel
theorem dX5_take_42 : decode cX5_take 42 = .ok (.aload_n 0, 1) := by decide +kernel
theorem dX5_take_43 : decode cX5_take 43 = .ok (.getfield 10, 3) := by decide +kernel
theorem dX5_take_46 : decode cX5_take 46 = .ok (.getfield 133, 3) := by decide +kernel
theorem dX5_take_49 : decode cX5_take 49 = .ok (.iload_n 1, 1) := by decide +kernel
theorem dX5_take_50 : decode cX5_take 50 = .ok (.iconst 1, 1) := by decide +kernel
theorem dX5_take_51 : decode cX5_take 51 = .ok (.bastore, 1) := by decide +kernel
theorem dX5_take_52 : decode cX5_take 52 = .ok (.aload_n 0, 1) := by decide +kernel
theorem dX5_take_53 : decode cX5_take 53 = .ok (.getfield 10, 3) := by decide +kernel
theorem dX5_take_56 : decode cX5_take 56 = .ok (.getfield 37, 3) := by decide +kernel
theorem dX5_take_59 : decode cX5_take 59 = .ok (.invokevirtual 105, 3) := by decide +kernel
theorem dX5_take_62 : decode cX5_take 62 = .ok (.ireturn, 1) := by decide +kernel
theorem dX5_restore_0 : decode cX5_restore 0 = .ok (.iload_n 1, 1) := by decide +kernel
theorem dX5_restore_1 : decode cX5_restore 1 = .ok (.ifCond .lt 8, 3) := by decide +kernel
theorem dX5_restore_4 : decode cX5_restore 4 = .ok (.iload_n 1, 1) := by decide +kernel
theorem dX5_restore_5 : decode cX5_restore 5 = .ok (.iconst 2, 1) := by decide +kernel
theorem dX5_restore_6 : decode cX5_restore 6 = .ok (.if_icmp .lt 6, 3) := by decide +kernel
theorem dX5_restore_9 : decode cX5_restore 9 = .ok (.ldc 51, 2) := by decide +kernel
theorem dX5_restore_11 : decode cX5_restore 11 = .ok (.ireturn, 1) := by decide +kernel
theorem dX5_restore_12 : decode cX5_restore 12 = .ok (.aload_n 0, 1) := by decide +kernel
theorem dX5_restore_13 : decode cX5_restore 13 = .ok (.getfield 10, 3) := by decide +kernel
theorem dX5_restore_16 : decode cX5_restore 16 = .ok (.getfield 133, 3) := by decide +kernel
theorem dX5_restore_19 : decode cX5_restore 19 = .ok (.iload_n 1, 1) := by decide +kernel
theorem dX5_restore_20 : decode cX5_restore 20 = .ok (.baload, 1) := by decide +kernel
theorem dX5_restore_21 : decode cX5_restore 21 = .ok (.ifCond .ne 6, 3) := by decide +kernel
theorem dX5_restore_24 : decode cX5_restore 24 = .ok (.ldc 56, 2) := by decide +kernel
theorem dX5_restore_26 : decode cX5_restore 26 = .ok (.ireturn, 1) := by decide +kernel
theorem dX5_restore_27 : decode cX5_restore 27 = .ok (.aload_n 0, 1) := by decide +kernel
theorem dX5_restore_28 : decode cX5_restore 28 = .ok (.getfield 19, 3) := by decide +kernel
theorem dX5_restore_31 : decode cX5_restore 31 = .ok (.aload_n 0, 1) := by decide +kernel
theorem dX5_restore_32 : decode cX5_restore 32 = .ok (.getfield 10, 3) := by decide +kernel
theorem dX5_restore_35 : decode cX5_restore 35 = .ok (.invokevirtual 58, 3) := by decide +kernel
theorem dX5_restore_38 : decode cX5_restore 38 = .ok (.aload_n 0, 1) := by decide +kernel
theorem dX5_restore_39 : decode cX5_restore 39 = .ok (.getfield 10, 3) := by decide +kernel
theorem dX5_restore_42 : decode cX5_restore 42 = .ok (.getfield 37, 3) := by decide +kernel
theorem dX5_restore_45 : decode cX5_restore 45 = .ok (.aload_n 0, 1) := by decide +kernel
theorem dX5_restore_46 : decode cX5_restore 46 = .ok (.getfield 10, 3) := by decide +kernel
theorem dX5_restore_49 : decode cX5_restore 49 = .ok (.getfield 125, 3) := by decide +kernel
theorem dX5_restore_52 : decode cX5_restore 52 = .ok (.iload_n 1, 1) := by decide +kernel
theorem dX5_restore_53 : decode cX5_restore 53 = .ok (.aaload, 1) := by decide +kernel
theorem dX5_restore_54 : decode cX5_restore 54 = .ok (.invokevirtual 129, 3) := by decide +kernel
theorem dX5_restore_57 : decode cX5_restore 57 = .ok (.aload_n 0, 1) := by decide +kernel
theorem dX5_restore_58 : decode cX5_restore 58 = .ok (.getfield 10, 3) := by decide +kernel
theorem dX5_restore_61 : decode cX5_restore 61 = .ok (.getfield 37, 3) := by decide +kernel
theorem dX5_restore_64 : decode cX5_restore 64 = .ok (.invokevirtual 105, 3) := by decide +kernel
theorem dX5_restore_67 : decode cX5_restore 67 = .ok (.ireturn, 1) := by decide +kernel
theorem dX5_undo_0 : decode cX5_undo 0 = .ok (.aload_n 0, 1) := by decide +kernel
theorem dX5_undo_1 : decode cX5_undo 1 = .ok (.getfield 19, 3) := by decide +kernel
theorem dX5_undo_4 : decode cX5_undo 4 = .ok (.getfield 137, 3) := by decide +kernel
theorem dX5_undo_7 : decode cX5_undo 7 = .ok (.ifCond .ne 6, 3) := by decide +kernel
theorem dX5_undo_10 : decode cX5_undo 10 = .ok (.ldc 56, 2) := by decide +kernel
theorem dX5_undo_12 : decode cX5_undo 12 = .ok (.ireturn, 1) := by decide +kernel
theorem dX5_undo_13 : decode cX5_undo 13 = .ok (.aload_n 0, 1) := by decide +kernel
theorem dX5_undo_14 : decode cX5_undo 14 = .ok (.getfield 19, 3) := by decide +kernel
theorem dX5_undo_17 : decode cX5_undo 17 = .ok (.aload_n 0, 1) := by decide +kernel
theorem dX5_undo_18 : decode cX5_undo 18 = .ok (.getfield 10, 3) := by decide +kernel
theorem dX5_undo_21 : decode cX5_undo 21 = .ok (.invokevirtual 141, 3) := by decide +kernel
theorem dX5_undo_24 : decode cX5_undo 24 = .ok (.aload_n 0, 1) := by decide +kernel
theorem dX5_undo_25 : decode cX5_undo 25 = .ok (.getfield 19, 3) := by decide +kernel
theorem dX5_undo_28 : decode cX5_undo 28 = .ok (.getfield 137, 3) := by decide +kernel
theorem dX5_undo_31 : decode cX5_undo 31 = .ok (.ireturn, 1) := by decide +kernel
theorem dX5_append_0 : decode cX5_append 0 = .ok (.iload_n 1, 1) := by decide +kernel
theorem dX5_append_1 : decode cX5_append 1 = .ok (.iconst 1, 1) := by decide +kernel
theorem dX5_append_2 : decode cX5_append 2 = .ok (.if_icmp .lt 10, 3) := by decide +kernel
theorem dX5_append_5 : decode cX5_append 5 = .ok (.iload_n 1, 1) := by decide +kernel
theorem dX5_append_6 : decode cX5_append 6 = .ok (.sipush 255, 3) := by decide +kernel
theorem dX5_append_9 : decode cX5_append 9 = .ok (.if_icmp .le 6, 3) := by decide +kernel
theorem dX5_append_12 : decode cX5_append 12 = .ok (.ldc 51, 2) := by decide +kernel
theorem dX5_append_14 : decode cX5_append 14 = .ok (.ireturn, 1) := by decide +kernel
theorem dX5_append_15 : decode cX5_append 15 = .ok (.aload_n 0, 1) := by decide +kernel
theorem dX5_append_16 : decode cX5_append 16 = .ok (.getfield 26, 3) := by decide +kernel
theorem dX5_append_19 : decode cX5_append 19 = .ok (.getfield 144, 3) := by decide +kernel
theorem dX5_append_22 : decode cX5_append 22 = .ok (.bipush 100, 2) := by decide +kernel
theorem dX5_append_24 : decode cX5_append 24 = .ok (.if_icmp .lt 6, 3) := by decide +kernel
theorem dX5_append_27 : decode cX5_append 27 = .ok (.ldc 57, 2) := by decide +kernel
theorem dX5_append_29 : decode cX5_append 29 = .ok (.ireturn, 1) := by decide +kernel
theorem dX5_append_30 : decode cX5_append 30 = .ok (.aload_n 0, 1) := by decide +kernel
theorem dX5_append_31 : decode cX5_append 31 = .ok (.getfield 26, 3) := by decide +kernel
theorem dX5_append_34 : decode cX5_append 34 = .ok (.getfield 147, 3) := by decide +kernel
theorem dX5_append_37 : decode cX5_append 37 = .ok (.aload_n 0, 1) := by decide +kernel
theorem dX5_append_38 : decode cX5_append 38 = .ok (.getfield 26, 3) := by decide +kernel
theorem dX5_append_41 : decode cX5_append 41 = .ok (.getfield 144, 3) := by decide +kernel
theorem dX5_append_44 : decode cX5_append 44 = .ok (.iload_n 1, 1) := by decide +kernel
theorem dX5_append_45 : decode cX5_append 45 = .ok (.iastore, 1) := by decide +kernel
theorem dX5_append_46 : decode cX5_append 46 = .ok (.aload_n 0, 1) := by decide +kernel
theorem dX5_append_47 : decode cX5_append 47 = .ok (.getfield 26, 3) := by decide +kernel
theorem dX5_append_50 : decode cX5_append 50 = .ok (.dup, 1) := by decide +kernel
theorem dX5_append_51 : decode cX5_append 51 = .ok (.getfield 144, 3) := by decide +kernel
theorem dX5_append_54 : decode cX5_append 54 = .ok (.iconst 1, 1) := by decide +kernel
theorem dX5_append_55 : decode cX5_append 55 = .ok (.iadd, 1) := by decide +kernel
theorem dX5_append_56 : decode cX5_append 56 = .ok (.putfield 144, 3) := by decide +kernel
theorem dX5_append_59 : decode cX5_append 59 = .ok (.aload_n 0, 1) := by decide +kernel
theorem dX5_append_60 : decode cX5_append 60 = .ok (.getfield 26, 3) := by decide +kernel
theorem dX5_append_63 : decode cX5_append 63 = .ok (.getfield 144, 3) := by decide +kernel
theorem dX5_append_66 : decode cX5_append 66 = .ok (.ireturn, 1) := by decide +kernel
theorem dX5_clearText_0 : decode cX5_clearText 0 = .ok (.aload_n 0, 1) := by decide +kernel
theorem dX5_clearText_1 : decode cX5_clearText 1 = .ok (.getfield 26, 3) := by decide +kernel
theorem dX5_clearText_4 : decode cX5_clearText 4 = .ok (.getfield 144, 3) := by decide +kernel
theorem dX5_clearText_7 : decode cX5_clearText 7 = .ok (.istore_n 1, 1) := by decide +kernel
theorem dX5_clearText_8 : decode cX5_clearText 8 = .ok (.aload_n 0, 1) := by decide +kernel
theorem dX5_clearText_9 : decode cX5_clearText 9 = .ok (.getfield 26, 3) := by decide +kernel
theorem dX5_clearText_12 : decode cX5_clearText 12 = .ok (.iconst 0, 1) := by decide +kernel
theorem dX5_clearText_13 : decode cX5_clearText 13 = .ok (.putfield 144, 3) := by decide +kernel
theorem dX5_clearText_16 : decode cX5_clearText 16 = .ok (.iload_n 1, 1) := by decide +kernel
theorem dX5_clearText_17 : decode cX5_clearText 17 = .ok (.ireturn, 1) := by decide +kernel
theorem dX5_read_0 : decode cX5_read 0 = .ok (.aload_n 0, 1) := by decide +kernel
theorem dX5_read_1 : decode cX5_read 1 = .ok (.getfield 26, 3) := by decide +kernel
theorem dX5_read_4 : decode cX5_read 4 = .ok (.invokevirtual 150, 3) := by decide +kernel
theorem dX5_read_7 : decode cX5_read 7 = .ok (.istore_n 1, 1) := by decide +kernel
theorem dX5_read_8 : decode cX5_read 8 = .ok (.iload_n 1, 1) := by decide +kernel
theorem dX5_read_9 : decode cX5_read 9 = .ok (.ldc 153, 2) := by decide +kernel
theorem dX5_read_11 : decode cX5_read 11 = .ok (.if_icmp .eq 9, 3) := by decide +kernel
theorem dX5_read_14 : decode cX5_read 14 = .ok (.sipush (-1000), 3) := by decide +kernel
theorem dX5_read_17 : decode cX5_read 17 = .ok (.iload_n 1, 1) := by decide +kernel
theorem dX5_read_18 : decode cX5_read 18 = .ok (.isub, 1) := by decide +kernel
theorem dX5_read_19 : decode cX5_read 19 = .ok (.ireturn, 1) := by decide +kernel
theorem dX5_read_20 : decode cX5_read 20 = .ok (.aload_n 0, 1) := by decide +kernel
theorem dX5_read_21 : decode cX5_read 21 = .ok (.getfield 26, 3) := by decide +kernel
theorem dX5_read_24 : decode cX5_read 24 = .ok (.invokevirtual 154, 3) := by decide +kernel
theorem dX5_read_27 : decode cX5_read 27 = .ok (.ifCond .ne 6, 3) := by decide +kernel
theorem dX5_read_30 : decode cX5_read 30 = .ok (.ldc 51, 2) := by decide +kernel
theorem dX5_read_32 : decode cX5_read 32 = .ok (.ireturn, 1) := by decide +kernel
theorem dX5_read_33 : decode cX5_read 33 = .ok (.aload_n 0, 1) := by decide +kernel
theorem dX5_read_34 : decode cX5_read 34 = .ok (.invokevirtual 52, 3) := by decide +kernel
theorem dX5_read_37 : decode cX5_read 37 = .ok (.ifCond .eq 6, 3) := by decide +kernel
theorem dX5_read_40 : decode cX5_read 40 = .ok (.ldc 56, 2) := by decide +kernel
theorem dX5_read_42 : decode cX5_read 42 = .ok (.ireturn, 1) := by decide +kernel
theorem dX5_read_43 : decode cX5_read 43 = .ok (.aload_n 0, 1) := by decide +kernel
theorem dX5_read_44 : decode cX5_read 44 = .ok (.getfield 10, 3) := by decide +kernel
theorem dX5_read_47 : decode cX5_read 47 = .ok (.getfield 37, 3) := by decide +kernel
theorem dX5_read_50 : decode cX5_read 50 = .ok (.getfield 41, 3) := by decide +kernel
theorem dX5_read_53 : decode cX5_read 53 = .ok (.astore_n 2, 1) := by decide +kernel
theorem dX5_read_54 : decode cX5_read 54 = .ok (.aload_n 2, 1) := by decide +kernel
theorem dX5_read_55 : decode cX5_read 55 = .ok (.iconst 0, 1) := by decide +kernel
theorem dX5_read_56 : decode cX5_read 56 = .ok (.iaload, 1) := by decide +kernel
theorem dX5_read_57 : decode cX5_read 57 = .ok (.aload_n 0, 1) := by decide +kernel
theorem dX5_read_58 : decode cX5_read 58 = .ok (.getfield 26, 3) := by decide +kernel
theorem dX5_read_61 : decode cX5_read 61 = .ok (.getfield 157, 3) := by decide +kernel
theorem dX5_read_64 : decode cX5_read 64 = .ok (.iadd, 1) := by decide +kernel
theorem dX5_read_65 : decode cX5_read 65 = .ok (.bipush 20, 2) := by decide +kernel
theorem dX5_read_67 : decode cX5_read 67 = .ok (.if_icmp .le 6, 3) := by decide +kernel
theorem dX5_read_70 : decode cX5_read 70 = .ok (.ldc 57, 2) := by decide +kernel
theorem dX5_read_72 : decode cX5_read 72 = .ok (.ireturn, 1) := by decide +kernel
theorem dX5_read_73 : decode cX5_read 73 = .ok (.aload_n 0, 1) := by decide +kernel
theorem dX5_read_74 : decode cX5_read 74 = .ok (.getfield 19, 3) := by decide +kernel
theorem dX5_read_77 : decode cX5_read 77 = .ok (.aload_n 0, 1) := by decide +kernel
theorem dX5_read_78 : decode cX5_read 78 = .ok (.getfield 10, 3) := by decide +kernel
theorem dX5_read_81 : decode cX5_read 81 = .ok (.invokevirtual 58, 3) := by decide +kernel
theorem dX5_read_84 : decode cX5_read 84 = .ok (.aload_n 0, 1) := by decide +kernel
theorem dX5_read_85 : decode cX5_read 85 = .ok (.getfield 26, 3) := by decide +kernel
theorem dX5_read_88 : decode cX5_read 88 = .ok (.getfield 160, 3) := by decide +kernel
theorem dX5_read_91 : decode cX5_read 91 = .ok (.astore_n 3, 1) := by decide +kernel
theorem dX5_read_92 : decode cX5_read 92 = .ok (.iconst 0, 1) := by decide +kernel
theorem dX5_read_93 : decode cX5_read 93 = .ok (.istore 4, 2) := by decide +kernel
theorem dX5_read_95 : decode cX5_read 95 = .ok (.iload 4, 2) := by decide +kernel
theorem dX5_read_97 : decode cX5_read 97 = .ok (.aload_n 0, 1) := by decide +kernel
theorem dX5_read_98 : decode cX5_read 98 = .ok (.getfield 26, 3) := by decide +kernel
theorem dX5_read_101 : decode cX5_read 101 = .ok (.getfield 157, 3) := by decide +kernel
theorem dX5_read_104 : decode cX5_read 104 = .ok (.if_icmp .ge 46, 3) := by decide +kernel
theorem dX5_read_107 : decode cX5_read 107 = .ok (.aload_n 0, 1) := by decide +kernel
theorem dX5_read_108 : decode cX5_read 108 = .ok (.getfield 10, 3) := by decide +kernel
theorem dX5_read_111 : decode cX5_read 111 = .ok (.getfield 37, 3) := by decide +kernel
theorem dX5_read_114 : decode cX5_read 114 = .ok (.aload_n 2, 1) := by decide +kernel
theorem dX5_read_115 : decode cX5_read 115 = .ok (.iconst 0, 1) := by decide +kernel
theorem dX5_read_116 : decode cX5_read 116 = .ok (.iaload, 1) := by decide +kernel
theorem dX5_read_117 : decode cX5_read 117 = .ok (.aload_n 3, 1) := by decide +kernel
theorem dX5_read_118 : decode cX5_read 118 = .ok (.iconst 0, 1) := by decide +kernel
theorem dX5_read_119 : decode cX5_read 119 = .ok (.aaload, 1) := by decide +kernel
theorem dX5_read_120 : decode cX5_read 120 = .ok (.iload 4, 2) := by decide +kernel
theorem dX5_read_122 : decode cX5_read 122 = .ok (.iaload, 1) := by decide +kernel
theorem dX5_read_123 : decode cX5_read 123 = .ok (.aload_n 3, 1) := by decide +kernel
theorem dX5_read_124 : decode cX5_read 124 = .ok (.iconst 1, 1) := by decide +kernel
theorem dX5_read_125 : decode cX5_read 125 = .ok (.aaload, 1) := by decide +kernel
theorem dX5_read_126 : decode cX5_read 126 = .ok (.iload 4, 2) := by decide +kernel
theorem dX5_read_128 : decode cX5_read 128 = .ok (.iaload, 1) := by decide +kernel
theorem dX5_read_129 : decode cX5_read 129 = .ok (.aload_n 3, 1) := by decide +kernel
theorem dX5_read_130 : decode cX5_read 130 = .ok (.iconst 2, 1) := by decide +kernel
theorem dX5_read_131 : decode cX5_read 131 = .ok (.aaload, 1) := by decide +kernel
theorem dX5_read_132 : decode cX5_read 132 = .ok (.iload 4, 2) := by decide +kernel
theorem dX5_read_134 : decode cX5_read 134 = .ok (.iaload, 1) := by decide +kernel
theorem dX5_read_135 : decode cX5_read 135 = .ok (.aload_n 3, 1) := by decide +kernel
theorem dX5_read_136 : decode cX5_read 136 = .ok (.iconst 3, 1) := by decide +kernel
theorem dX5_read_137 : decode cX5_read 137 = .ok (.aaload, 1) := by decide +kernel
theorem dX5_read_138 : decode cX5_read 138 = .ok (.iload 4, 2) := by decide +kernel
theorem dX5_read_140 : decode cX5_read 140 = .ok (.iaload, 1) := by decide +kernel
theorem dX5_read_141 : decode cX5_read 141 = .ok (.invokevirtual 62, 3) := by decide +kernel
theorem dX5_read_144 : decode cX5_read 144 = .ok (.iinc 4 1, 3) := by decide +kernel
theorem dX5_read_147 : decode cX5_read 147 = .ok (.goto (-52), 3) := by decide +kernel
theorem dX5_read_150 : decode cX5_read 150 = .ok (.aload_n 0, 1) := by decide +kernel
theorem dX5_read_151 : decode cX5_read 151 = .ok (.getfield 26, 3) := by decide +kernel
theorem dX5_read_154 : decode cX5_read 154 = .ok (.iconst 0, 1) := by decide +kernel
theorem dX5_read_155 : decode cX5_read 155 = .ok (.putfield 144, 3) := by decide +kernel
theorem dX5_read_158 : decode cX5_read 158 = .ok (.aload_n 0, 1) := by decide +kernel
theorem dX5_read_159 : decode cX5_read 159 = .ok (.getfield 26, 3) := by decide +kernel
theorem dX5_read_162 : decode cX5_read 162 = .ok (.getfield 157, 3) := by decide +kernel
theorem dX5_read_165 : decode cX5_read 165 = .ok (.ireturn, 1) := by decide +kernel
theorem dX5_count_0 : decode cX5_count 0 = .ok (.iload_n 1, 1) := by decide +kernel
theorem dX5_count_1 : decode cX5_count 1 = .ok (.ifCond .lt 22, 3) := by decide +kernel
theorem dX5_count_4 : decode cX5_count 4 = .ok (.iload_n 1, 1) := by decide +kernel
theorem dX5_count_5 : decode cX5_count 5 = .ok (.bipush 17, 2) := by decide +kernel
theorem dX5_count_7 : decode cX5_count 7 = .ok (.if_icmp .ge 16, 3) := by decide +kernel
theorem dX5_count_10 : decode cX5_count 10 = .ok (.aload_n 0, 1) := by decide +kernel
theorem dX5_count_11 : decode cX5_count 11 = .ok (.getfield 10, 3) := by decide +kernel
theorem dX5_count_14 : decode cX5_count 14 = .ok (.getfield 37, 3) := by decide +kernel
theorem dX5_count_17 : decode cX5_count 17 = .ok (.getfield 41, 3) := by decide +kernel
theorem dX5_count_20 : decode cX5_count 20 = .ok (.iload_n 1, 1) := by decide +kernel
theorem dX5_count_21 : decode cX5_count 21 = .ok (.iaload, 1) := by decide +kernel
theorem dX5_count_22 : decode cX5_count 22 = .ok (.ireturn, 1) := by decide +kernel
theorem dX5_count_23 : decode cX5_count 23 = .ok (.iload_n 1, 1) := by decide +kernel
theorem dX5_count_24 : decode cX5_count 24 = .ok (.tableswitch 79 17 20 #[32, 55, 63, 71], 32) := by decide +kernel
theorem dX5_count_56 : decode cX5_count 56 = .ok (.aload_n 0, 1) := by decide +kernel
theorem dX5_count_57 : decode cX5_count 57 = .ok (.getfield 10, 3) := by decide +kernel
theorem dX5_count_60 : decode cX5_count 60 = .ok (.getfield 37, 3) := by decide +kernel
theorem dX5_count_63 : decode cX5_count 63 = .ok (.aload_n 0, 1) := by decide +kernel
theorem dX5_count_64 : decode cX5_count 64 = .ok (.getfield 10, 3) := by decide +kernel
theorem dX5_count_67 : decode cX5_count 67 = .ok (.getfield 37, 3) := by decide +kernel
theorem dX5_count_70 : decode cX5_count 70 = .ok (.getfield 41, 3) := by decide +kernel
theorem dX5_count_73 : decode cX5_count 73 = .ok (.iconst 1, 1) := by decide +kernel
theorem dX5_count_74 : decode cX5_count 74 = .ok (.iaload, 1) := by decide +kernel
theorem dX5_count_75 : decode cX5_count 75 = .ok (.invokevirtual 161, 3) := by decide +kernel
theorem dX5_count_78 : decode cX5_count 78 = .ok (.ireturn, 1) := by decide +kernel
theorem dX5_count_79 : decode cX5_count 79 = .ok (.aload_n 0, 1) := by decide +kernel
theorem dX5_count_80 : decode cX5_count 80 = .ok (.getfield 10, 3) := by decide +kernel
theorem dX5_count_83 : decode cX5_count 83 = .ok (.invokevirtual 164, 3) := by decide +kernel
theorem dX5_count_86 : decode cX5_count 86 = .ok (.ireturn, 1) := by decide +kernel
theorem dX5_count_87 : decode cX5_count 87 = .ok (.aload_n 0, 1) := by decide +kernel
theorem dX5_count_88 : decode cX5_count 88 = .ok (.getfield 19, 3) := by decide +kernel
theorem dX5_count_91 : decode cX5_count 91 = .ok (.getfield 137, 3) := by decide +kernel
theorem dX5_count_94 : decode cX5_count 94 = .ok (.ireturn, 1) := by decide +kernel
theorem dX5_count_95 : decode cX5_count 95 = .ok (.aload_n 0, 1) := by decide +kernel
theorem dX5_count_96 : decode cX5_count 96 = .ok (.getfield 26, 3) := by decide +kernel
theorem dX5_count_99 : decode cX5_count 99 = .ok (.getfield 144, 3) := by decide +kernel
theorem dX5_count_102 : decode cX5_count 102 = .ok (.ireturn, 1) := by decide +kernel
theorem dX5_count_103 : decode cX5_count 103 = .ok (.ldc 51, 2) := by decide +kernel
theorem dX5_count_105 : decode cX5_count 105 = .ok (.ireturn, 1) := by decide +kernel
theorem dX5_scene_0 : decode cX5_scene 0 = .ok (.aload_n 0, 1) := by decide +kernel
theorem dX5_scene_1 : decode cX5_scene 1 = .ok (.getfield 10, 3) := by decide +kernel
theorem dX5_scene_4 : decode cX5_scene 4 = .ok (.getfield 37, 3) := by decide +kernel
theorem dX5_scene_7 : decode cX5_scene 7 = .ok (.astore_n 3, 1) := by decide +kernel
theorem dX5_scene_8 : decode cX5_scene 8 = .ok (.iload_n 1, 1) := by decide +kernel
theorem dX5_scene_9 : decode cX5_scene 9 = .ok (.ifCond .lt 23, 3) := by decide +kernel
theorem dX5_scene_12 : decode cX5_scene 12 = .ok (.iload_n 1, 1) := by decide +kernel
theorem dX5_scene_13 : decode cX5_scene 13 = .ok (.aload_n 3, 1) := by decide +kernel
theorem dX5_scene_14 : decode cX5_scene 14 = .ok (.getfield 41, 3) := by decide +kernel
theorem dX5_scene_17 : decode cX5_scene 17 = .ok (.iconst 0, 1) := by decide +kernel
theorem dX5_scene_18 : decode cX5_scene 18 = .ok (.iaload, 1) := by decide +kernel
theorem dX5_scene_19 : decode cX5_scene 19 = .ok (.if_icmp .ge 13, 3) := by decide +kernel
theorem dX5_scene_22 : decode cX5_scene 22 = .ok (.iload_n 2, 1) := by decide +kernel
theorem dX5_scene_23 : decode cX5_scene 23 = .ok (.ifCond .lt 9, 3) := by decide +kernel
theorem dX5_scene_26 : decode cX5_scene 26 = .ok (.iload_n 2, 1) := by decide +kernel
theorem dX5_scene_27 : decode cX5_scene 27 = .ok (.bipush 6, 2) := by decide +kernel
theorem dX5_scene_29 : decode cX5_scene 29 = .ok (.if_icmp .le 6, 3) := by decide +kernel
theorem dX5_scene_32 : decode cX5_scene 32 = .ok (.ldc 51, 2) := by decide +kernel
theorem dX5_scene_34 : decode cX5_scene 34 = .ok (.ireturn, 1) := by decide +kernel
theorem dX5_scene_35 : decode cX5_scene 35 = .ok (.iload_n 2, 1) := by decide +kernel
theorem dX5_scene_36 : decode cX5_scene 36 = .ok (.bipush 6, 2) := by decide +kernel
theorem dX5_scene_38 : decode cX5_scene 38 = .ok (.if_icmp .ge 12, 3) := by decide +kernel
theorem dX5_scene_41 : decode cX5_scene 41 = .ok (.aload_n 3, 1) := by decide +kernel
theorem dX5_scene_42 : decode cX5_scene 42 = .ok (.getfield 78, 3) := by decide +kernel
theorem dX5_scene_45 : decode cX5_scene 45 = .ok (.iload_n 2, 1) := by decide +kernel
theorem dX5_scene_46 : decode cX5_scene 46 = .ok (.aaload, 1) := by decide +kernel
theorem dX5_scene_47 : decode cX5_scene 47 = .ok (.iload_n 1, 1) := by decide +kernel
theorem dX5_scene_48 : decode cX5_scene 48 = .ok (.iaload, 1) := by decide +kernel
theorem dX5_scene_49 : decode cX5_scene 49 = .ok (.ireturn, 1) := by decide +kernel
theorem dX5_scene_50 : decode cX5_scene 50 = .ok (.aload_n 3, 1) := by decide +kernel
theorem dX5_scene_51 : decode cX5_scene 51 = .ok (.getfield 78, 3) := by decide +kernel
theorem dX5_scene_54 : decode cX5_scene 54 = .ok (.iconst 3, 1) := by decide +kernel
theorem dX5_scene_55 : decode cX5_scene 55 = .ok (.aaload, 1) := by decide +kernel
theorem dX5_scene_56 : decode cX5_scene 56 = .ok (.iload_n 1, 1) := by decide +kernel
theorem dX5_scene_57 : decode cX5_scene 57 = .ok (.iaload, 1) := by decide +kernel
theorem dX5_scene_58 : decode cX5_scene 58 = .ok (.istore 4, 2) := by decide +kernel
theorem dX5_scene_60 : decode cX5_scene 60 = .ok (.aload_n 3, 1) := by decide +kernel
theorem dX5_scene_61 : decode cX5_scene 61 = .ok (.iload_n 1, 1) := by decide +kernel
theorem dX5_scene_62 : decode cX5_scene 62 = .ok (.iload 4, 2) := by decide +kernel
theorem dX5_scene_64 : decode cX5_scene 64 = .ok (.aload_n 3, 1) := by decide +kernel
theorem dX5_scene_65 : decode cX5_scene 65 = .ok (.getfield 41, 3) := by decide +kernel
theorem dX5_scene_68 : decode cX5_scene 68 = .ok (.bipush 6, 2) := by decide +kernel
theorem dX5_scene_70 : decode cX5_scene 70 = .ok (.iaload, 1) := by decide +kernel
theorem dX5_scene_71 : decode cX5_scene 71 = .ok (.invokevirtual 167, 3) := by decide +kernel
theorem dX5_scene_74 : decode cX5_scene 74 = .ok (.ifCond .eq 7, 3) := by decide +kernel
theorem dX5_scene_77 : decode cX5_scene 77 = .ok (.iconst 1, 1) := by decide +kernel
theorem dX5_scene_78 : decode cX5_scene 78 = .ok (.goto 4, 3) := by decide +kernel
theorem dX5_scene_81 : decode cX5_scene 81 = .ok (.iconst 0, 1) := by decide +kernel
theorem dX5_scene_82 : decode cX5_scene 82 = .ok (.ireturn, 1) := by decide +kernel
theorem dX5_week_0 : decode cX5_week 0 = .ok (.iload_n 1, 1) := by decide +kernel
theorem dX5_week_1 : decode cX5_week 1 = .ok (.ifCond .lt 9, 3) := by decide +kernel
theorem dX5_week_4 : decode cX5_week 4 = .ok (.iload_n 1, 1) := by decide +kernel
theorem dX5_week_5 : decode cX5_week 5 = .ok (.bipush 30, 2) := by decide +kernel
theorem dX5_week_7 : decode cX5_week 7 = .ok (.if_icmp .lt 6, 3) := by decide +kernel
theorem dX5_week_10 : decode cX5_week 10 = .ok (.ldc 51, 2) := by decide +kernel
theorem dX5_week_12 : decode cX5_week 12 = .ok (.ireturn, 1) := by decide +kernel
theorem dX5_week_13 : decode cX5_week 13 = .ok (.iload_n 2, 1) := by decide +kernel
theorem dX5_week_14 : decode cX5_week 14 = .ok (.tableswitch 106 0 4 #[34, 49, 64, 76, 91], 34) := by decide +kernel
theorem dX5_week_48 : decode cX5_week 48 = .ok (.aload_n 0, 1) := by decide +kernel
theorem dX5_week_49 : decode cX5_week 49 = .ok (.getfield 10, 3) := by decide +kernel
theorem dX5_week_52 : decode cX5_week 52 = .ok (.getfield 37, 3) := by decide +kernel
theorem dX5_week_55 : decode cX5_week 55 = .ok (.getfield 92, 3) := by decide +kernel
theorem dX5_week_58 : decode cX5_week 58 = .ok (.iconst 0, 1) := by decide +kernel
theorem dX5_week_59 : decode cX5_week 59 = .ok (.aaload, 1) := by decide +kernel
theorem dX5_week_60 : decode cX5_week 60 = .ok (.iload_n 1, 1) := by decide +kernel
theorem dX5_week_61 : decode cX5_week 61 = .ok (.iaload, 1) := by decide +kernel
theorem dX5_week_62 : decode cX5_week 62 = .ok (.ireturn, 1) := by decide +kernel
theorem dX5_week_63 : decode cX5_week 63 = .ok (.aload_n 0, 1) := by decide +kernel
theorem dX5_week_64 : decode cX5_week 64 = .ok (.getfield 10, 3) := by decide +kernel
theorem dX5_week_67 : decode cX5_week 67 = .ok (.getfield 37, 3) := by decide +kernel
theorem dX5_week_70 : decode cX5_week 70 = .ok (.getfield 92, 3) := by decide +kernel
theorem dX5_week_73 : decode cX5_week 73 = .ok (.iconst 1, 1) := by decide +kernel
theorem dX5_week_74 : decode cX5_week 74 = .ok (.aaload, 1) := by decide +kernel
theorem dX5_week_75 : decode cX5_week 75 = .ok (.iload_n 1, 1) := by decide +kernel
theorem dX5_week_76 : decode cX5_week 76 = .ok (.iaload, 1) := by decide +kernel
theorem dX5_week_77 : decode cX5_week 77 = .ok (.ireturn, 1) := by decide +kernel
theorem dX5_week_78 : decode cX5_week 78 = .ok (.aload_n 0, 1) := by decide +kernel
theorem dX5_week_79 : decode cX5_week 79 = .ok (.getfield 10, 3) := by decide +kernel
theorem dX5_week_82 : decode cX5_week 82 = .ok (.getfield 37, 3) := by decide +kernel
theorem dX5_week_85 : decode cX5_week 85 = .ok (.iload_n 1, 1) := by decide +kernel
theorem dX5_week_86 : decode cX5_week 86 = .ok (.invokevirtual 95, 3) := by decide +kernel
theorem dX5_week_89 : decode cX5_week 89 = .ok (.ireturn, 1) := by decide +kernel
theorem dX5_week_90 : decode cX5_week 90 = .ok (.aload_n 0, 1) := by decide +kernel
theorem dX5_week_91 : decode cX5_week 91 = .ok (.getfield 10, 3) := by decide +kernel
theorem dX5_week_94 : decode cX5_week 94 = .ok (.getfield 37, 3) := by decide +kernel
theorem dX5_week_97 : decode cX5_week 97 = .ok (.getfield 92, 3) := by decide +kernel
theorem dX5_week_100 : decode cX5_week 100 = .ok (.iconst 2, 1) := by decide +kernel
theorem dX5_week_101 : decode cX5_week 101 = .ok (.aaload, 1) := by decide +kernel
theorem dX5_week_102 : decode cX5_week 102 = .ok (.iload_n 1, 1) := by decide +kernel
theorem dX5_week_103 : decode cX5_week 103 = .ok (.iaload, 1) := by decide +kernel
theorem dX5_week_104 : decode cX5_week 104 = .ok (.ireturn, 1) := by decide +kernel
theorem dX5_week_105 : decode cX5_week 105 = .ok (.aload_n 0, 1) := by decide +kernel
theorem dX5_week_106 : decode cX5_week 106 = .ok (.getfield 10, 3) := by decide +kernel
theorem dX5_week_109 : decode cX5_week 109 = .ok (.getfield 37, 3) := by decide +kernel
theorem dX5_week_112 : decode cX5_week 112 = .ok (.getfield 92, 3) := by decide +kernel
theorem dX5_week_115 : decode cX5_week 115 = .ok (.iconst 3, 1) := by decide +kernel
theorem dX5_week_116 : decode cX5_week 116 = .ok (.aaload, 1) := by decide +kernel
theorem dX5_week_117 : decode cX5_week 117 = .ok (.iload_n 1, 1) := by decide +kernel
theorem dX5_week_118 : decode cX5_week 118 = .ok (.iaload, 1) := by decide +kernel
theorem dX5_week_119 : decode cX5_week 119 = .ok (.ireturn, 1) := by decide +kernel
theorem dX5_week_120 : decode cX5_week 120 = .ok (.ldc 51, 2) := by decide +kernel
theorem dX5_week_122 : decode cX5_week 122 = .ok (.ireturn, 1) := by decide +kernel
theorem dX5_why_0 : decode cX5_why 0 = .ok (.aload_n 0, 1) := by decide +kernel
theorem dX5_why_1 : decode cX5_why 1 = .ok (.getfield 10, 3) := by decide +kernel
theorem dX5_why_4 : decode cX5_why 4 = .ok (.getfield 37, 3) := by decide +kernel
theorem dX5_why_7 : decode cX5_why 7 = .ok (.getfield 41, 3) := by decide +kernel
theorem dX5_why_10 : decode cX5_why 10 = .ok (.iconst 2, 1) := by decide +kernel
theorem dX5_why_11 : decode cX5_why 11 = .ok (.iaload, 1) := by decide +kernel
theorem dX5_why_12 : decode cX5_why 12 = .ok (.bipush 30, 2) := by decide +kernel
theorem dX5_why_14 : decode cX5_why 14 = .ok (.if_icmp .lt 6, 3) := by decide +kernel
theorem dX5_why_17 : decode cX5_why 17 = .ok (.ldc 56, 2) := by decide +kernel
theorem dX5_why_19 : decode cX5_why 19 = .ok (.ireturn, 1) := by decide +kernel
theorem dX5_why_20 : decode cX5_why 20 = .ok (.aload_n 0, 1) := by decide +kernel
theorem dX5_why_21 : decode cX5_why 21 = .ok (.getfield 10, 3) := by decide +kernel
theorem dX5_why_24 : decode cX5_why 24 = .ok (.getfield 37, 3) := by decide +kernel
theorem dX5_why_27 : decode cX5_why 27 = .ok (.iload_n 1, 1) := by decide +kernel
theorem dX5_why_28 : decode cX5_why 28 = .ok (.aload_n 0, 1) := by decide +kernel
theorem dX5_why_29 : decode cX5_why 29 = .ok (.getfield 10, 3) := by decide +kernel
theorem dX5_why_32 : decode cX5_why 32 = .ok (.getfield 37, 3) := by decide +kernel
theorem dX5_why_35 : decode cX5_why 35 = .ok (.getfield 41, 3) := by decide +kernel
theorem dX5_why_38 : decode cX5_why 38 = .ok (.iconst 3, 1) := by decide +kernel
theorem dX5_why_39 : decode cX5_why 39 = .ok (.iaload, 1) := by decide +kernel
theorem dX5_why_40 : decode cX5_why 40 = .ok (.invokevirtual 170, 3) := by decide +kernel
theorem dX5_why_43 : decode cX5_why 43 = .ok (.ireturn, 1) := by decide +kernel
theorem dX5_cutFrom_0 : decode cX5_cutFrom 0 = .ok (.aload_n 0, 1) := by decide +kernel
theorem dX5_cutFrom_1 : decode cX5_cutFrom 1 = .ok (.getfield 10, 3) := by decide +kernel
theorem dX5_cutFrom_4 : decode cX5_cutFrom 4 = .ok (.getfield 37, 3) := by decide +kernel
theorem dX5_cutFrom_7 : decode cX5_cutFrom 7 = .ok (.getfield 41, 3) := by decide +kernel
theorem dX5_cutFrom_10 : decode cX5_cutFrom 10 = .ok (.iconst 1, 1) := by decide +kernel
theorem dX5_cutFrom_11 : decode cX5_cutFrom 11 = .ok (.iaload, 1) := by decide +kernel
theorem dX5_cutFrom_12 : decode cX5_cutFrom 12 = .ok (.istore_n 3, 1) := by decide +kernel
theorem dX5_cutFrom_13 : decode cX5_cutFrom 13 = .ok (.iload_n 1, 1) := by decide +kernel
theorem dX5_cutFrom_14 : decode cX5_cutFrom 14 = .ok (.iconst 1, 1) := by decide +kernel
theorem dX5_cutFrom_15 : decode cX5_cutFrom 15 = .ok (.if_icmp .lt 29, 3) := by decide +kernel
theorem dX5_cutFrom_18 : decode cX5_cutFrom 18 = .ok (.iload_n 1, 1) := by decide +kernel
theorem dX5_cutFrom_19 : decode cX5_cutFrom 19 = .ok (.aload_n 0, 1) := by decide +kernel
theorem dX5_cutFrom_20 : decode cX5_cutFrom 20 = .ok (.getfield 10, 3) := by decide +kernel
theorem dX5_cutFrom_23 : decode cX5_cutFrom 23 = .ok (.getfield 37, 3) := by decide +kernel
theorem dX5_cutFrom_26 : decode cX5_cutFrom 26 = .ok (.invokevirtual 105, 3) := by decide +kernel
theorem dX5_cutFrom_29 : decode cX5_cutFrom 29 = .ok (.if_icmp .gt 15, 3) := by decide +kernel
theorem dX5_cutFrom_32 : decode cX5_cutFrom 32 = .ok (.iload_n 2, 1) := by decide +kernel
theorem dX5_cutFrom_33 : decode cX5_cutFrom 33 = .ok (.iload_n 3, 1) := by decide +kernel
theorem dX5_cutFrom_34 : decode cX5_cutFrom 34 = .ok (.if_icmp .lt 10, 3) := by decide +kernel
theorem dX5_cutFrom_37 : decode cX5_cutFrom 37 = .ok (.iload_n 2, 1) := by decide +kernel
theorem dX5_cutFrom_38 : decode cX5_cutFrom 38 = .ok (.iload_n 3, 1) := by decide +kernel
theorem dX5_cutFrom_39 : decode cX5_cutFrom 39 = .ok (.iload_n 1, 1) := by decide +kernel
theorem dX5_cutFrom_40 : decode cX5_cutFrom 40 = .ok (.iadd, 1) := by decide +kernel
theorem dX5_cutFrom_41 : decode cX5_cutFrom 41 = .ok (.if_icmp .lt 6, 3) := by decide +kernel
theorem dX5_cutFrom_44 : decode cX5_cutFrom 44 = .ok (.ldc 51, 2) := by decide +kernel
theorem dX5_cutFrom_46 : decode cX5_cutFrom 46 = .ok (.ireturn, 1) := by decide +kernel
theorem dX5_cutFrom_47 : decode cX5_cutFrom 47 = .ok (.aload_n 0, 1) := by decide +kernel
theorem dX5_cutFrom_48 : decode cX5_cutFrom 48 = .ok (.getfield 10, 3) := by decide +kernel
theorem dX5_cutFrom_51 : decode cX5_cutFrom 51 = .ok (.getfield 37, 3) := by decide +kernel
theorem dX5_cutFrom_54 : decode cX5_cutFrom 54 = .ok (.getfield 41, 3) := by decide +kernel
theorem dX5_cutFrom_57 : decode cX5_cutFrom 57 = .ok (.iconst 3, 1) := by decide +kernel
theorem dX5_cutFrom_58 : decode cX5_cutFrom 58 = .ok (.iaload, 1) := by decide +kernel
theorem dX5_cutFrom_59 : decode cX5_cutFrom 59 = .ok (.istore 4, 2) := by decide +kernel
theorem dX5_cutFrom_61 : decode cX5_cutFrom 61 = .ok (.aload_n 0, 1) := by decide +kernel
theorem dX5_cutFrom_62 : decode cX5_cutFrom 62 = .ok (.getfield 10, 3) := by decide +kernel
theorem dX5_cutFrom_65 : decode cX5_cutFrom 65 = .ok (.getfield 37, 3) := by decide +kernel
theorem dX5_cutFrom_68 : decode cX5_cutFrom 68 = .ok (.iconst 1, 1) := by decide +kernel
theorem dX5_cutFrom_69 : decode cX5_cutFrom 69 = .ok (.iload_n 3, 1) := by decide +kernel
theorem dX5_cutFrom_70 : decode cX5_cutFrom 70 = .ok (.iload_n 3, 1) := by decide +kernel
theorem dX5_cutFrom_71 : decode cX5_cutFrom 71 = .ok (.iload_n 1, 1) := by decide +kernel
theorem dX5_cutFrom_72 : decode cX5_cutFrom 72 = .ok (.iadd, 1) := by decide +kernel
theorem dX5_cutFrom_73 : decode cX5_cutFrom 73 = .ok (.invokevirtual 174, 3) := by decide +kernel
theorem dX5_cutFrom_76 : decode cX5_cutFrom 76 = .ok (.iload 4, 2) := by decide +kernel
theorem dX5_cutFrom_78 : decode cX5_cutFrom 78 = .ok (.if_icmp .ge 6, 3) := by decide +kernel
theorem dX5_cutFrom_81 : decode cX5_cutFrom 81 = .ok (.ldc 153, 2) := by decide +kernel
theorem dX5_cutFrom_83 : decode cX5_cutFrom 83 = .ok (.ireturn, 1) := by decide +kernel
theorem dX5_cutFrom_84 : decode cX5_cutFrom 84 = .ok (.aload_n 0, 1) := by decide +kernel
theorem dX5_cutFrom_85 : decode cX5_cutFrom 85 = .ok (.getfield 10, 3) := by decide +kernel
theorem dX5_cutFrom_88 : decode cX5_cutFrom 88 = .ok (.getfield 37, 3) := by decide +kernel
theorem dX5_cutFrom_91 : decode cX5_cutFrom 91 = .ok (.iload_n 2, 1) := by decide +kernel
theorem dX5_cutFrom_92 : decode cX5_cutFrom 92 = .ok (.iload_n 3, 1) := by decide +kernel
theorem dX5_cutFrom_93 : decode cX5_cutFrom 93 = .ok (.iload_n 1, 1) := by decide +kernel
theorem dX5_cutFrom_94 : decode cX5_cutFrom 94 = .ok (.iadd, 1) := by decide +kernel
theorem dX5_cutFrom_95 : decode cX5_cutFrom 95 = .ok (.iload 4, 2) := by decide +kernel
theorem dX5_cutFrom_97 : decode cX5_cutFrom 97 = .ok (.invokevirtual 178, 3) := by decide +kernel
theorem dX5_cutFrom_100 : decode cX5_cutFrom 100 = .ok (.ireturn, 1) := by decide +kernel
theorem dX5_since_0 : decode cX5_since 0 = .ok (.iload_n 1, 1) := by decide +kernel
theorem dX5_since_1 : decode cX5_since 1 = .ok (.ifCond .lt 9, 3) := by decide +kernel
theorem dX5_since_4 : decode cX5_since 4 = .ok (.iload_n 1, 1) := by decide +kernel
theorem dX5_since_5 : decode cX5_since 5 = .ok (.bipush 6, 2) := by decide +kernel
theorem dX5_since_7 : decode cX5_since 7 = .ok (.if_icmp .lt 6, 3) := by decide +kernel
theorem dX5_since_10 : decode cX5_since 10 = .ok (.ldc 51, 2) := by decide +kernel
theorem dX5_since_12 : decode cX5_since 12 = .ok (.ireturn, 1) := by decide +kernel
theorem dX5_since_13 : decode cX5_since 13 = .ok (.aload_n 0, 1) := by decide +kernel
theorem dX5_since_14 : decode cX5_since 14 = .ok (.getfield 10, 3) := by decide +kernel
theorem dX5_since_17 : decode cX5_since 17 = .ok (.getfield 37, 3) := by decide +kernel
theorem dX5_since_20 : decode cX5_since 20 = .ok (.astore_n 2, 1) := by decide +kernel
theorem dX5_since_21 : decode cX5_since 21 = .ok (.aload_n 2, 1) := by decide +kernel
theorem dX5_since_22 : decode cX5_since 22 = .ok (.getfield 41, 3) := by decide +kernel
theorem dX5_since_25 : decode cX5_since 25 = .ok (.iconst 1, 1) := by decide +kernel
theorem dX5_since_26 : decode cX5_since 26 = .ok (.iaload, 1) := by decide +kernel
theorem dX5_since_27 : decode cX5_since 27 = .ok (.iconst 1, 1) := by decide +kernel
theorem dX5_since_28 : decode cX5_since 28 = .ok (.isub, 1) := by decide +kernel
theorem dX5_since_29 : decode cX5_since 29 = .ok (.istore_n 3, 1) := by decide +kernel
theorem dX5_since_30 : decode cX5_since 30 = .ok (.iload_n 3, 1) := by decide +kernel
theorem dX5_since_31 : decode cX5_since 31 = .ok (.ifCond .lt 39, 3) := by decide +kernel
theorem dX5_since_34 : decode cX5_since 34 = .ok (.aload_n 2, 1) := by decide +kernel
theorem dX5_since_35 : decode cX5_since 35 = .ok (.getfield 78, 3) := by decide +kernel
theorem dX5_since_38 : decode cX5_since 38 = .ok (.iconst 2, 1) := by decide +kernel
theorem dX5_since_39 : decode cX5_since 39 = .ok (.aaload, 1) := by decide +kernel
theorem dX5_since_40 : decode cX5_since 40 = .ok (.iload_n 3, 1) := by decide +kernel
theorem dX5_since_41 : decode cX5_since 41 = .ok (.iaload, 1) := by decide +kernel
theorem dX5_since_42 : decode cX5_since 42 = .ok (.iload_n 1, 1) := by decide +kernel
theorem dX5_since_43 : decode cX5_since 43 = .ok (.if_icmp .ne 21, 3) := by decide +kernel
theorem dX5_since_46 : decode cX5_since 46 = .ok (.aload_n 2, 1) := by decide +kernel
theorem dX5_since_47 : decode cX5_since 47 = .ok (.getfield 41, 3) := by decide +kernel
theorem dX5_since_50 : decode cX5_since 50 = .ok (.iconst 2, 1) := by decide +kernel
theorem dX5_since_51 : decode cX5_since 51 = .ok (.iaload, 1) := by decide +kernel
theorem dX5_since_52 : decode cX5_since 52 = .ok (.aload_n 2, 1) := by decide +kernel
theorem dX5_since_53 : decode cX5_since 53 = .ok (.getfield 78, 3) := by decide +kernel
theorem dX5_since_56 : decode cX5_since 56 = .ok (.iconst 5, 1) := by decide +kernel
theorem dX5_since_57 : decode cX5_since 57 = .ok (.aaload, 1) := by decide +kernel
theorem dX5_since_58 : decode cX5_since 58 = .ok (.iload_n 3, 1) := by decide +kernel
theorem dX5_since_59 : decode cX5_since 59 = .ok (.iaload, 1) := by decide +kernel
theorem dX5_since_60 : decode cX5_since 60 = .ok (.isub, 1) := by decide +kernel
theorem dX5_since_61 : decode cX5_since 61 = .ok (.iconst 1, 1) := by decide +kernel
theorem dX5_since_62 : decode cX5_since 62 = .ok (.isub, 1) := by decide +kernel
theorem dX5_since_63 : decode cX5_since 63 = .ok (.ireturn, 1) := by decide +kernel
theorem dX5_since_64 : decode cX5_since 64 = .ok (.iinc 3 (-1), 3) := by decide +kernel
theorem dX5_since_67 : decode cX5_since 67 = .ok (.goto (-37), 3) := by decide +kernel
theorem dX5_since_70 : decode cX5_since 70 = .ok (.ldc 153, 2) := by decide +kernel
theorem dX5_since_72 : decode cX5_since 72 = .ok (.ireturn, 1) := by decide +kernel
theorem dX5_strand_0 : decode cX5_strand 0 = .ok (.iload_n 1, 1) := by decide +kernel
theorem dX5_strand_1 : decode cX5_strand 1 = .ok (.ifCond .lt 18, 3) := by decide +kernel
theorem dX5_strand_4 : decode cX5_strand 4 = .ok (.iload_n 1, 1) := by decide +kernel
theorem dX5_strand_5 : decode cX5_strand 5 = .ok (.bipush 6, 2) := by decide +kernel
theorem dX5_strand_7 : decode cX5_strand 7 = .ok (.if_icmp .ge 12, 3) := by decide +kernel
theorem dX5_strand_10 : decode cX5_strand 10 = .ok (.iload_n 2, 1) := by decide +kernel
theorem dX5_strand_11 : decode cX5_strand 11 = .ok (.ifCond .lt 8, 3) := by decide +kernel
theorem dX5_strand_14 : decode cX5_strand 14 = .ok (.iload_n 2, 1) := by decide +kernel
theorem dX5_strand_15 : decode cX5_strand 15 = .ok (.iconst 1, 1) := by decide +kernel
theorem dX5_strand_16 : decode cX5_strand 16 = .ok (.if_icmp .le 6, 3) := by decide +kernel
theorem dX5_strand_19 : decode cX5_strand 19 = .ok (.ldc 51, 2) := by decide +kernel
theorem dX5_strand_21 : decode cX5_strand 21 = .ok (.ireturn, 1) := by decide +kernel
theorem dX5_strand_22 : decode cX5_strand 22 = .ok (.aload_n 0, 1) := by decide +kernel
theorem dX5_strand_23 : decode cX5_strand 23 = .ok (.getfield 10, 3) := by decide +kernel
theorem dX5_strand_26 : decode cX5_strand 26 = .ok (.getfield 37, 3) := by decide +kernel
theorem dX5_strand_29 : decode cX5_strand 29 = .ok (.getfield 41, 3) := by decide +kernel
theorem dX5_strand_32 : decode cX5_strand 32 = .ok (.astore_n 3, 1) := by decide +kernel
theorem dX5_strand_33 : decode cX5_strand 33 = .ok (.iload_n 2, 1) := by decide +kernel
theorem dX5_strand_34 : decode cX5_strand 34 = .ok (.ifCond .ne 21, 3) := by decide +kernel
theorem dX5_strand_37 : decode cX5_strand 37 = .ok (.aload_n 0, 1) := by decide +kernel
theorem dX5_strand_38 : decode cX5_strand 38 = .ok (.getfield 10, 3) := by decide +kernel
theorem dX5_strand_41 : decode cX5_strand 41 = .ok (.getfield 37, 3) := by decide +kernel
theorem dX5_strand_44 : decode cX5_strand 44 = .ok (.iload_n 1, 1) := by decide +kernel
theorem dX5_strand_45 : decode cX5_strand 45 = .ok (.iconst 0, 1) := by decide +kernel
theorem dX5_strand_46 : decode cX5_strand 46 = .ok (.aload_n 3, 1) := by decide +kernel
theorem dX5_strand_47 : decode cX5_strand 47 = .ok (.iconst 1, 1) := by decide +kernel
theorem dX5_strand_48 : decode cX5_strand 48 = .ok (.iaload, 1) := by decide +kernel
theorem dX5_strand_49 : decode cX5_strand 49 = .ok (.invokevirtual 181, 3) := by decide +kernel
theorem dX5_strand_52 : decode cX5_strand 52 = .ok (.goto 20, 3) := by decide +kernel
theorem dX5_strand_55 : decode cX5_strand 55 = .ok (.aload_n 0, 1) := by decide +kernel
theorem dX5_strand_56 : decode cX5_strand 56 = .ok (.getfield 10, 3) := by decide +kernel
theorem dX5_strand_59 : decode cX5_strand 59 = .ok (.getfield 37, 3) := by decide +kernel
theorem dX5_strand_62 : decode cX5_strand 62 = .ok (.iload_n 1, 1) := by decide +kernel
theorem dX5_strand_63 : decode cX5_strand 63 = .ok (.aload_n 3, 1) := by decide +kernel
theorem dX5_strand_64 : decode cX5_strand 64 = .ok (.iconst 1, 1) := by decide +kernel
theorem dX5_strand_65 : decode cX5_strand 65 = .ok (.iaload, 1) := by decide +kernel
theorem dX5_strand_66 : decode cX5_strand 66 = .ok (.aload_n 3, 1) := by decide +kernel
theorem dX5_strand_67 : decode cX5_strand 67 = .ok (.iconst 0, 1) := by decide +kernel
theorem dX5_strand_68 : decode cX5_strand 68 = .ok (.iaload, 1) := by decide +kernel
theorem dX5_strand_69 : decode cX5_strand 69 = .ok (.invokevirtual 181, 3) := by decide +kernel
theorem dX5_strand_72 : decode cX5_strand 72 = .ok (.ireturn, 1) := by decide +kernel
theorem dX5_plan_0 : decode cX5_plan 0 = .ok (.iload_n 1, 1) := by decide +kernel
theorem dX5_plan_1 : decode cX5_plan 1 = .ok (.ifCond .lt 8, 3) := by decide +kernel
theorem dX5_plan_4 : decode cX5_plan 4 = .ok (.iload_n 1, 1) := by decide +kernel
theorem dX5_plan_5 : decode cX5_plan 5 = .ok (.iconst 4, 1) := by decide +kernel
theorem dX5_plan_6 : decode cX5_plan 6 = .ok (.if_icmp .le 6, 3) := by decide +kernel
theorem dX5_plan_9 : decode cX5_plan 9 = .ok (.ldc 51, 2) := by decide +kernel
theorem dX5_plan_11 : decode cX5_plan 11 = .ok (.ireturn, 1) := by decide +kernel
theorem dX5_plan_12 : decode cX5_plan 12 = .ok (.aload_n 0, 1) := by decide +kernel
theorem dX5_plan_13 : decode cX5_plan 13 = .ok (.invokevirtual 184, 3) := by decide +kernel
theorem dX5_plan_16 : decode cX5_plan 16 = .ok (.aload_n 0, 1) := by decide +kernel
theorem dX5_plan_17 : decode cX5_plan 17 = .ok (.getfield 33, 3) := by decide +kernel
theorem dX5_plan_20 : decode cX5_plan 20 = .ok (.invokevirtual 187, 3) := by decide +kernel
theorem dX5_plan_23 : decode cX5_plan 23 = .ok (.ifCond .ne 6, 3) := by decide +kernel
theorem dX5_plan_26 : decode cX5_plan 26 = .ok (.ldc 153, 2) := by decide +kernel
theorem dX5_plan_28 : decode cX5_plan 28 = .ok (.ireturn, 1) := by decide +kernel
theorem dX5_plan_29 : decode cX5_plan 29 = .ok (.iload_n 1, 1) := by decide +kernel
theorem dX5_plan_30 : decode cX5_plan 30 = .ok (.lookupswitch 42 #[(0, 26), (1, 34)], 26) := by decide +kernel
theorem dX5_plan_56 : decode cX5_plan 56 = .ok (.aload_n 0, 1) := by decide +kernel
theorem dX5_plan_57 : decode cX5_plan 57 = .ok (.getfield 33, 3) := by decide +kernel
theorem dX5_plan_60 : decode cX5_plan 60 = .ok (.invokevirtual 190, 3) := by decide +kernel
theorem dX5_plan_63 : decode cX5_plan 63 = .ok (.ireturn, 1) := by decide +kernel
theorem dX5_plan_64 : decode cX5_plan 64 = .ok (.aload_n 0, 1) := by decide +kernel
theorem dX5_plan_65 : decode cX5_plan 65 = .ok (.getfield 33, 3) := by decide +kernel
theorem dX5_plan_68 : decode cX5_plan 68 = .ok (.invokevirtual 193, 3) := by decide +kernel
theorem dX5_plan_71 : decode cX5_plan 71 = .ok (.ireturn, 1) := by decide +kernel
theorem dX5_plan_72 : decode cX5_plan 72 = .ok (.aload_n 0, 1) := by decide +kernel
theorem dX5_plan_73 : decode cX5_plan 73 = .ok (.iload_n 1, 1) := by decide +kernel
theorem dX5_plan_74 : decode cX5_plan 74 = .ok (.invokevirtual 196, 3) := by decide +kernel
theorem dX5_plan_77 : decode cX5_plan 77 = .ok (.ireturn, 1) := by decide +kernel
theorem dX5_planned_0 : decode cX5_planned 0 = .ok (.iload_n 1, 1) := by decide +kernel
theorem dX5_planned_1 : decode cX5_planned 1 = .ok (.ifCond .lt 12, 3) := by decide +kernel
theorem dX5_planned_4 : decode cX5_planned 4 = .ok (.iload_n 2, 1) := by decide +kernel
theorem dX5_planned_5 : decode cX5_planned 5 = .ok (.ifCond .lt 8, 3) := by decide +kernel
theorem dX5_planned_8 : decode cX5_planned 8 = .ok (.iload_n 2, 1) := by decide +kernel
theorem dX5_planned_9 : decode cX5_planned 9 = .ok (.iconst 2, 1) := by decide +kernel
theorem dX5_planned_10 : decode cX5_planned 10 = .ok (.if_icmp .le 6, 3) := by decide +kernel
theorem dX5_planned_13 : decode cX5_planned 13 = .ok (.ldc 51, 2) := by decide +kernel
theorem dX5_planned_15 : decode cX5_planned 15 = .ok (.ireturn, 1) := by decide +kernel
theorem dX5_planned_16 : decode cX5_planned 16 = .ok (.aload_n 0, 1) := by decide +kernel
theorem dX5_planned_17 : decode cX5_planned 17 = .ok (.invokevirtual 184, 3) := by decide +kernel
theorem dX5_planned_20 : decode cX5_planned 20 = .ok (.aload_n 0, 1) := by decide +kernel
theorem dX5_planned_21 : decode cX5_planned 21 = .ok (.getfield 33, 3) := by decide +kernel
theorem dX5_planned_24 : decode cX5_planned 24 = .ok (.invokevirtual 187, 3) := by decide +kernel
theorem dX5_planned_27 : decode cX5_planned 27 = .ok (.ifCond .eq 14, 3) := by decide +kernel
theorem dX5_planned_30 : decode cX5_planned 30 = .ok (.iload_n 1, 1) := by decide +kernel
theorem dX5_planned_31 : decode cX5_planned 31 = .ok (.aload_n 0, 1) := by decide +kernel
theorem dX5_planned_32 : decode cX5_planned 32 = .ok (.getfield 33, 3) := by decide +kernel
theorem dX5_planned_35 : decode cX5_planned 35 = .ok (.invokevirtual 190, 3) := by decide +kernel
theorem dX5_planned_38 : decode cX5_planned 38 = .ok (.if_icmp .lt 6, 3) := by decide +kernel
theorem dX5_planned_41 : decode cX5_planned 41 = .ok (.ldc 153, 2) := by decide +kernel
theorem dX5_planned_43 : decode cX5_planned 43 = .ok (.ireturn, 1) := by decide +kernel
theorem dX5_planned_44 : decode cX5_planned 44 = .ok (.iload_n 2, 1) := by decide +kernel
theorem dX5_planned_45 : decode cX5_planned 45 = .ok (.lookupswitch 53 #[(0, 27), (1, 47)], 27) := by decide +kernel
theorem dX5_planned_72 : decode cX5_planned 72 = .ok (.aload_n 0, 1) := by decide +kernel
theorem dX5_planned_73 : decode cX5_planned 73 = .ok (.getfield 33, 3) := by decide +kernel
theorem dX5_planned_76 : decode cX5_planned 76 = .ok (.iload_n 1, 1) := by decide +kernel
theorem dX5_planned_77 : decode cX5_planned 77 = .ok (.iconst 1, 1) := by decide +kernel
theorem dX5_planned_78 : decode cX5_planned 78 = .ok (.iadd, 1) := by decide +kernel
theorem dX5_planned_79 : decode cX5_planned 79 = .ok (.invokevirtual 199, 3) := by decide +kernel
theorem dX5_planned_82 : decode cX5_planned 82 = .ok (.aload_n 0, 1) := by decide +kernel
theorem dX5_planned_83 : decode cX5_planned 83 = .ok (.getfield 33, 3) := by decide +kernel
theorem dX5_planned_86 : decode cX5_planned 86 = .ok (.iload_n 1, 1) := by decide +kernel
theorem dX5_planned_87 : decode cX5_planned 87 = .ok (.invokevirtual 199, 3) := by decide +kernel
theorem dX5_planned_90 : decode cX5_planned 90 = .ok (.isub, 1) := by decide +kernel
theorem dX5_planned_91 : decode cX5_planned 91 = .ok (.ireturn, 1) := by decide +kernel
theorem dX5_planned_92 : decode cX5_planned 92 = .ok (.aload_n 0, 1) := by decide +kernel
theorem dX5_planned_93 : decode cX5_planned 93 = .ok (.iload_n 1, 1) := by decide +kernel
theorem dX5_planned_94 : decode cX5_planned 94 = .ok (.invokevirtual 202, 3) := by decide +kernel
theorem dX5_planned_97 : decode cX5_planned 97 = .ok (.ireturn, 1) := by decide +kernel
theorem dX5_planned_98 : decode cX5_planned 98 = .ok (.aload_n 0, 1) := by decide +kernel
theorem dX5_planned_99 : decode cX5_planned 99 = .ok (.getfield 10, 3) := by decide +kernel
theorem dX5_planned_102 : decode cX5_planned 102 = .ok (.getfield 37, 3) := by decide +kernel
theorem dX5_planned_105 : decode cX5_planned 105 = .ok (.getfield 41, 3) := by decide +kernel
theorem dX5_planned_108 : decode cX5_planned 108 = .ok (.iconst 2, 1) := by decide +kernel
theorem dX5_planned_109 : decode cX5_planned 109 = .ok (.iaload, 1) := by decide +kernel
theorem dX5_planned_110 : decode cX5_planned 110 = .ok (.iload_n 1, 1) := by decide +kernel
theorem dX5_planned_111 : decode cX5_planned 111 = .ok (.iadd, 1) := by decide +kernel
theorem dX5_planned_112 : decode cX5_planned 112 = .ok (.istore_n 3, 1) := by decide +kernel
theorem dX5_planned_113 : decode cX5_planned 113 = .ok (.aload_n 0, 1) := by decide +kernel
theorem dX5_planned_114 : decode cX5_planned 114 = .ok (.getfield 10, 3) := by decide +kernel
theorem dX5_planned_117 : decode cX5_planned 117 = .ok (.getfield 37, 3) := by decide +kernel
theorem dX5_planned_120 : decode cX5_planned 120 = .ok (.iload_n 3, 1) := by decide +kernel
theorem dX5_planned_121 : decode cX5_planned 121 = .ok (.invokevirtual 95, 3) := by decide +kernel
theorem dX5_planned_124 : decode cX5_planned 124 = .ok (.aload_n 0, 1) := by decide +kernel
theorem dX5_planned_125 : decode cX5_planned 125 = .ok (.iload_n 1, 1) := by decide +kernel
theorem dX5_planned_126 : decode cX5_planned 126 = .ok (.invokevirtual 202, 3) := by decide +kernel
theorem dX5_planned_129 : decode cX5_planned 129 = .ok (.isub, 1) := by decide +kernel
theorem dX5_planned_130 : decode cX5_planned 130 = .ok (.ireturn, 1) := by decide +kernel
theorem dX5_plans_0 : decode cX5_plans 0 = .ok (.aload_n 0, 1) := by decide +kernel
theorem dX5_plans_1 : decode cX5_plans 1 = .ok (.invokevirtual 184, 3) := by decide +kernel
theorem dX5_plans_4 : decode cX5_plans 4 = .ok (.aload_n 0, 1) := by decide +kernel
theorem dX5_plans_5 : decode cX5_plans 5 = .ok (.getfield 33, 3) := by decide +kernel
theorem dX5_plans_8 : decode cX5_plans 8 = .ok (.invokevirtual 187, 3) := by decide +kernel
theorem dX5_plans_11 : decode cX5_plans 11 = .ok (.ireturn, 1) := by decide +kernel
theorem dX5_mostCut_0 : decode cX5_mostCut 0 = .ok (.aload_n 0, 1) := by decide +kernel
theorem dX5_mostCut_1 : decode cX5_mostCut 1 = .ok (.getfield 10, 3) := by decide +kernel
theorem dX5_mostCut_4 : decode cX5_mostCut 4 = .ok (.getfield 37, 3) := by decide +kernel
theorem dX5_mostCut_7 : decode cX5_mostCut 7 = .ok (.getfield 41, 3) := by decide +kernel
theorem dX5_mostCut_10 : decode cX5_mostCut 10 = .ok (.astore_n 1, 1) := by decide +kernel
theorem dX5_mostCut_11 : decode cX5_mostCut 11 = .ok (.aload_n 1, 1) := by decide +kernel
theorem dX5_mostCut_12 : decode cX5_mostCut 12 = .ok (.iconst 2, 1) := by decide +kernel
theorem dX5_mostCut_13 : decode cX5_mostCut 13 = .ok (.iaload, 1) := by decide +kernel
theorem dX5_mostCut_14 : decode cX5_mostCut 14 = .ok (.bipush 30, 2) := by decide +kernel
theorem dX5_mostCut_16 : decode cX5_mostCut 16 = .ok (.if_icmp .lt 6, 3) := by decide +kernel
theorem dX5_mostCut_19 : decode cX5_mostCut 19 = .ok (.ldc 153, 2) := by decide +kernel
theorem dX5_mostCut_21 : decode cX5_mostCut 21 = .ok (.ireturn, 1) := by decide +kernel
theorem dX5_mostCut_22 : decode cX5_mostCut 22 = .ok (.aload_n 0, 1) := by decide +kernel
theorem dX5_mostCut_23 : decode cX5_mostCut 23 = .ok (.getfield 33, 3) := by decide +kernel
theorem dX5_mostCut_26 : decode cX5_mostCut 26 = .ok (.aload_n 0, 1) := by decide +kernel
theorem dX5_mostCut_27 : decode cX5_mostCut 27 = .ok (.getfield 10, 3) := by decide +kernel
theorem dX5_mostCut_30 : decode cX5_mostCut 30 = .ok (.getfield 37, 3) := by decide +kernel
theorem dX5_mostCut_33 : decode cX5_mostCut 33 = .ok (.iconst 0, 1) := by decide +kernel
theorem dX5_mostCut_34 : decode cX5_mostCut 34 = .ok (.aload_n 1, 1) := by decide +kernel
theorem dX5_mostCut_35 : decode cX5_mostCut 35 = .ok (.bipush 6, 2) := by decide +kernel
theorem dX5_mostCut_37 : decode cX5_mostCut 37 = .ok (.iaload, 1) := by decide +kernel
theorem dX5_mostCut_38 : decode cX5_mostCut 38 = .ok (.invokevirtual 205, 3) := by decide +kernel
theorem dX5_mostCut_41 : decode cX5_mostCut 41 = .ok (.ldc 153, 2) := by decide +kernel
theorem dX5_mostCut_43 : decode cX5_mostCut 43 = .ok (.istore_n 2, 1) := by decide +kernel
theorem dX5_mostCut_44 : decode cX5_mostCut 44 = .ok (.iconst 1, 1) := by decide +kernel
theorem dX5_mostCut_45 : decode cX5_mostCut 45 = .ok (.istore_n 3, 1) := by decide +kernel
theorem dX5_mostCut_46 : decode cX5_mostCut 46 = .ok (.iload_n 3, 1) := by decide +kernel
theorem dX5_mostCut_47 : decode cX5_mostCut 47 = .ok (.aload_n 0, 1) := by decide +kernel
theorem dX5_mostCut_48 : decode cX5_mostCut 48 = .ok (.getfield 10, 3) := by decide +kernel
theorem dX5_mostCut_51 : decode cX5_mostCut 51 = .ok (.getfield 37, 3) := by decide +kernel
theorem dX5_mostCut_54 : decode cX5_mostCut 54 = .ok (.invokevirtual 105, 3) := by decide +kernel
theorem dX5_mostCut_57 : decode cX5_mostCut 57 = .ok (.if_icmp .gt 36, 3) := by decide +kernel
theorem dX5_mostCut_60 : decode cX5_mostCut 60 = .ok (.aload_n 0, 1) := by decide +kernel
theorem dX5_mostCut_61 : decode cX5_mostCut 61 = .ok (.getfield 33, 3) := by decide +kernel
theorem dX5_mostCut_64 : decode cX5_mostCut 64 = .ok (.iload_n 3, 1) := by decide +kernel
theorem dX5_mostCut_65 : decode cX5_mostCut 65 = .ok (.invokevirtual 209, 3) := by decide +kernel
theorem dX5_mostCut_68 : decode cX5_mostCut 68 = .ok (.ifCond .le 19, 3) := by decide +kernel
theorem dX5_mostCut_71 : decode cX5_mostCut 71 = .ok (.iload_n 2, 1) := by decide +kernel
theorem dX5_mostCut_72 : decode cX5_mostCut 72 = .ok (.aload_n 0, 1) := by decide +kernel
theorem dX5_mostCut_73 : decode cX5_mostCut 73 = .ok (.getfield 10, 3) := by decide +kernel
theorem dX5_mostCut_76 : decode cX5_mostCut 76 = .ok (.getfield 37, 3) := by decide +kernel
theorem dX5_mostCut_79 : decode cX5_mostCut 79 = .ok (.iload_n 3, 1) := by decide +kernel
theorem dX5_mostCut_80 : decode cX5_mostCut 80 = .ok (.invokevirtual 212, 3) := by decide +kernel
theorem dX5_mostCut_83 : decode cX5_mostCut 83 = .ok (.invokestatic 215, 3) := by decide +kernel
theorem dX5_mostCut_86 : decode cX5_mostCut 86 = .ok (.istore_n 2, 1) := by decide +kernel
theorem dX5_mostCut_87 : decode cX5_mostCut 87 = .ok (.iinc 3 1, 3) := by decide +kernel
theorem dX5_mostCut_90 : decode cX5_mostCut 90 = .ok (.goto (-44), 3) := by decide +kernel
theorem dX5_mostCut_93 : decode cX5_mostCut 93 = .ok (.iload_n 2, 1) := by decide +kernel
theorem dX5_mostCut_94 : decode cX5_mostCut 94 = .ok (.ireturn, 1) := by decide +kernel
theorem dX5_tooHigh_0 : decode cX5_tooHigh 0 = .ok (.iconst 0, 1) := by decide +kernel
theorem dX5_tooHigh_1 : decode cX5_tooHigh 1 = .ok (.istore_n 1, 1) := by decide +kernel
theorem dX5_tooHigh_2 : decode cX5_tooHigh 2 = .ok (.iload_n 1, 1) := by decide +kernel
theorem dX5_tooHigh_3 : decode cX5_tooHigh 3 = .ok (.bipush 9, 2) := by decide +kernel
theorem dX5_tooHigh_5 : decode cX5_tooHigh 5 = .ok (.if_icmp .gt 48, 3) := by decide +kernel
theorem dX5_tooHigh_8 : decode cX5_tooHigh 8 = .ok (.aload_n 0, 1) := by decide +kernel
theorem dX5_tooHigh_9 : decode cX5_tooHigh 9 = .ok (.getfield 33, 3) := by decide +kernel
theorem dX5_tooHigh_12 : decode cX5_tooHigh 12 = .ok (.aload_n 0, 1) := by decide +kernel
theorem dX5_tooHigh_13 : decode cX5_tooHigh 13 = .ok (.getfield 10, 3) := by decide +kernel
theorem dX5_tooHigh_16 : decode cX5_tooHigh 16 = .ok (.getfield 37, 3) := by decide +kernel
theorem dX5_tooHigh_19 : decode cX5_tooHigh 19 = .ok (.aload_n 0, 1) := by decide +kernel
theorem dX5_tooHigh_20 : decode cX5_tooHigh 20 = .ok (.getfield 10, 3) := by decide +kernel
theorem dX5_tooHigh_23 : decode cX5_tooHigh 23 = .ok (.getfield 37, 3) := by decide +kernel
theorem dX5_tooHigh_26 : decode cX5_tooHigh 26 = .ok (.getfield 41, 3) := by decide +kernel
theorem dX5_tooHigh_29 : decode cX5_tooHigh 29 = .ok (.iconst 3, 1) := by decide +kernel
theorem dX5_tooHigh_30 : decode cX5_tooHigh 30 = .ok (.iaload, 1) := by decide +kernel
theorem dX5_tooHigh_31 : decode cX5_tooHigh 31 = .ok (.iload_n 1, 1) := by decide +kernel
theorem dX5_tooHigh_32 : decode cX5_tooHigh 32 = .ok (.invokevirtual 205, 3) := by decide +kernel
theorem dX5_tooHigh_35 : decode cX5_tooHigh 35 = .ok (.aload_n 0, 1) := by decide +kernel
theorem dX5_tooHigh_36 : decode cX5_tooHigh 36 = .ok (.getfield 33, 3) := by decide +kernel
theorem dX5_tooHigh_39 : decode cX5_tooHigh 39 = .ok (.invokevirtual 187, 3) := by decide +kernel
theorem dX5_tooHigh_42 : decode cX5_tooHigh 42 = .ok (.ifCond .ne 5, 3) := by decide +kernel
theorem dX5_tooHigh_45 : decode cX5_tooHigh 45 = .ok (.iload_n 1, 1) := by decide +kernel
theorem dX5_tooHigh_46 : decode cX5_tooHigh 46 = .ok (.ireturn, 1) := by decide +kernel
theorem dX5_tooHigh_47 : decode cX5_tooHigh 47 = .ok (.iinc 1 1, 3) := by decide +kernel
theorem dX5_tooHigh_50 : decode cX5_tooHigh 50 = .ok (.goto (-48), 3) := by decide +kernel
theorem dX5_tooHigh_53 : decode cX5_tooHigh 53 = .ok (.ldc 153, 2) := by decide +kernel
theorem dX5_tooHigh_55 : decode cX5_tooHigh 55 = .ok (.ireturn, 1) := by decide +kernel
theorem dX5_fillTable_0 : decode cX5_fillTable 0 = .ok (.aload_n 0, 1) := by decide +kernel
theorem dX5_fillTable_1 : decode cX5_fillTable 1 = .ok (.getfield 33, 3) := by decide +kernel
theorem dX5_fillTable_4 : decode cX5_fillTable 4 = .ok (.aload_n 0, 1) := by decide +kernel
theorem dX5_fillTable_5 : decode cX5_fillTable 5 = .ok (.getfield 10, 3) := by decide +kernel
theorem dX5_fillTable_8 : decode cX5_fillTable 8 = .ok (.getfield 37, 3) := by decide +kernel
theorem dX5_fillTable_11 : decode cX5_fillTable 11 = .ok (.aload_n 0, 1) := by decide +kernel
theorem dX5_fillTable_12 : decode cX5_fillTable 12 = .ok (.getfield 10, 3) := by decide +kernel
theorem dX5_fillTable_15 : decode cX5_fillTable 15 = .ok (.getfield 37, 3) := by decide +kernel
theorem dX5_fillTable_18 : decode cX5_fillTable 18 = .ok (.getfield 41, 3) := by decide +kernel
theorem dX5_fillTable_21 : decode cX5_fillTable 21 = .ok (.iconst 3, 1) := by decide +kernel
theorem dX5_fillTable_22 : decode cX5_fillTable 22 = .ok (.iaload, 1) := by decide +kernel
theorem dX5_fillTable_23 : decode cX5_fillTable 23 = .ok (.aload_n 0, 1) := by decide +kernel
theorem dX5_fillTable_24 : decode cX5_fillTable 24 = .ok (.getfield 10, 3) := by decide +kernel
theorem dX5_fillTable_27 : decode cX5_fillTable 27 = .ok (.getfield 37, 3) := by decide +kernel
theorem dX5_fillTable_30 : decode cX5_fillTable 30 = .ok (.getfield 41, 3) := by decide +kernel
theorem dX5_fillTable_33 : decode cX5_fillTable 33 = .ok (.bipush 6, 2) := by decide +kernel
theorem dX5_fillTable_35 : decode cX5_fillTable 35 = .ok (.iaload, 1) := by decide +kernel
theorem dX5_fillTable_36 : decode cX5_fillTable 36 = .ok (.invokevirtual 205, 3) := by decide +kernel
theorem dX5_fillTable_39 : decode cX5_fillTable 39 = .ok (.return_, 1) := by decide +kernel
theorem dX5_plannedWords_0 : decode cX5_plannedWords 0 = .ok (.aload_n 0, 1) := by decide +kernel
theorem dX5_plannedWords_1 : decode cX5_plannedWords 1 = .ok (.getfield 10, 3) := by decide +kernel
theorem dX5_plannedWords_4 : decode cX5_plannedWords 4 = .ok (.getfield 37, 3) := by decide +kernel
theorem dX5_plannedWords_7 : decode cX5_plannedWords 7 = .ok (.iconst 0, 1) := by decide +kernel
theorem dX5_plannedWords_8 : decode cX5_plannedWords 8 = .ok (.aload_n 0, 1) := by decide +kernel
theorem dX5_plannedWords_9 : decode cX5_plannedWords 9 = .ok (.getfield 33, 3) := by decide +kernel
theorem dX5_plannedWords_12 : decode cX5_plannedWords 12 = .ok (.iload_n 1, 1) := by decide +kernel
theorem dX5_plannedWords_13 : decode cX5_plannedWords 13 = .ok (.invokevirtual 199, 3) := by decide +kernel
theorem dX5_plannedWords_16 : decode cX5_plannedWords 16 = .ok (.aload_n 0, 1) := by decide +kernel
theorem dX5_plannedWords_17 : decode cX5_plannedWords 17 = .ok (.getfield 33, 3) := by decide +kernel
theorem dX5_plannedWords_20 : decode cX5_plannedWords 20 = .ok (.iload_n 1, 1) := by decide +kernel
theorem dX5_plannedWords_21 : decode cX5_plannedWords 21 = .ok (.iconst 1, 1) := by decide +kernel
theorem dX5_plannedWords_22 : decode cX5_plannedWords 22 = .ok (.iadd, 1) := by decide +kernel
theorem dX5_plannedWords_23 : decode cX5_plannedWords 23 = .ok (.invokevirtual 199, 3) := by decide +kernel
theorem dX5_plannedWords_26 : decode cX5_plannedWords 26 = .ok (.invokevirtual 174, 3) := by decide +kernel
theorem dX5_plannedWords_29 : decode cX5_plannedWords 29 = .ok (.istore_n 2, 1) := by decide +kernel
theorem dX5_plannedWords_30 : decode cX5_plannedWords 30 = .ok (.iload_n 1, 1) := by decide +kernel
theorem dX5_plannedWords_31 : decode cX5_plannedWords 31 = .ok (.ifCond .ne 20, 3) := by decide +kernel
theorem dX5_plannedWords_34 : decode cX5_plannedWords 34 = .ok (.iload_n 2, 1) := by decide +kernel
theorem dX5_plannedWords_35 : decode cX5_plannedWords 35 = .ok (.aload_n 0, 1) := by decide +kernel
theorem dX5_plannedWords_36 : decode cX5_plannedWords 36 = .ok (.getfield 10, 3) := by decide +kernel
theorem dX5_plannedWords_39 : decode cX5_plannedWords 39 = .ok (.getfield 37, 3) := by decide +kernel
theorem dX5_plannedWords_42 : decode cX5_plannedWords 42 = .ok (.getfield 41, 3) := by decide +kernel
theorem dX5_plannedWords_45 : decode cX5_plannedWords 45 = .ok (.iconst 3, 1) := by decide +kernel
theorem dX5_plannedWords_46 : decode cX5_plannedWords 46 = .ok (.iaload, 1) := by decide +kernel
theorem dX5_plannedWords_47 : decode cX5_plannedWords 47 = .ok (.isub, 1) := by decide +kernel
theorem dX5_plannedWords_48 : decode cX5_plannedWords 48 = .ok (.goto 4, 3) := by decide +kernel
theorem dX5_plannedWords_51 : decode cX5_plannedWords 51 = .ok (.iload_n 2, 1) := by decide +kernel
theorem dX5_plannedWords_52 : decode cX5_plannedWords 52 = .ok (.ireturn, 1) := by decide +kernel
theorem dX5_moneyOfPlan_0 : decode cX5_moneyOfPlan 0 = .ok (.aload_n 0, 1) := by decide +kernel
theorem dX5_moneyOfPlan_1 : decode cX5_moneyOfPlan 1 = .ok (.getfield 10, 3) := by decide +kernel
theorem dX5_moneyOfPlan_4 : decode cX5_moneyOfPlan 4 = .ok (.getfield 37, 3) := by decide +kernel
theorem dX5_moneyOfPlan_7 : decode cX5_moneyOfPlan 7 = .ok (.astore_n 2, 1) := by decide +kernel
theorem dX5_moneyOfPlan_8 : decode cX5_moneyOfPlan 8 = .ok (.aload_n 2, 1) := by decide +kernel
theorem dX5_moneyOfPlan_9 : decode cX5_moneyOfPlan 9 = .ok (.getfield 41, 3) := by decide +kernel
theorem dX5_moneyOfPlan_12 : decode cX5_moneyOfPlan 12 = .ok (.bipush 9, 2) := by decide +kernel
theorem dX5_moneyOfPlan_14 : decode cX5_moneyOfPlan 14 = .ok (.iaload, 1) := by decide +kernel
theorem dX5_moneyOfPlan_15 : decode cX5_moneyOfPlan 15 = .ok (.istore_n 3, 1) := by decide +kernel
theorem dX5_moneyOfPlan_16 : decode cX5_moneyOfPlan 16 = .ok (.iconst 0, 1) := by decide +kernel
theorem dX5_moneyOfPlan_17 : decode cX5_moneyOfPlan 17 = .ok (.istore 4, 2) := by decide +kernel
theorem dX5_moneyOfPlan_19 : decode cX5_moneyOfPlan 19 = .ok (.iconst 0, 1) := by decide +kernel
theorem dX5_moneyOfPlan_20 : decode cX5_moneyOfPlan 20 = .ok (.istore 5, 2) := by decide +kernel
theorem dX5_moneyOfPlan_22 : decode cX5_moneyOfPlan 22 = .ok (.iconst 0, 1) := by decide +kernel
theorem dX5_moneyOfPlan_23 : decode cX5_moneyOfPlan 23 = .ok (.istore 6, 2) := by decide +kernel
theorem dX5_moneyOfPlan_25 : decode cX5_moneyOfPlan 25 = .ok (.iload 6, 2) := by decide +kernel
theorem dX5_moneyOfPlan_27 : decode cX5_moneyOfPlan 27 = .ok (.aload_n 0, 1) := by decide +kernel
theorem dX5_moneyOfPlan_28 : decode cX5_moneyOfPlan 28 = .ok (.getfield 33, 3) := by decide +kernel
theorem dX5_moneyOfPlan_31 : decode cX5_moneyOfPlan 31 = .ok (.invokevirtual 190, 3) := by decide +kernel
theorem dX5_moneyOfPlan_34 : decode cX5_moneyOfPlan 34 = .ok (.if_icmp .ge 41, 3) := by decide +kernel
theorem dX5_moneyOfPlan_37 : decode cX5_moneyOfPlan 37 = .ok (.aload_n 2, 1) := by decide +kernel
theorem dX5_moneyOfPlan_38 : decode cX5_moneyOfPlan 38 = .ok (.iload_n 3, 1) := by decide +kernel
theorem dX5_moneyOfPlan_39 : decode cX5_moneyOfPlan 39 = .ok (.aload_n 0, 1) := by decide +kernel
theorem dX5_moneyOfPlan_40 : decode cX5_moneyOfPlan 40 = .ok (.iload 6, 2) := by decide +kernel
theorem dX5_moneyOfPlan_42 : decode cX5_moneyOfPlan 42 = .ok (.invokevirtual 202, 3) := by decide +kernel
theorem dX5_moneyOfPlan_45 : decode cX5_moneyOfPlan 45 = .ok (.invokevirtual 220, 3) := by decide +kernel
theorem dX5_moneyOfPlan_48 : decode cX5_moneyOfPlan 48 = .ok (.istore_n 3, 1) := by decide +kernel
theorem dX5_moneyOfPlan_49 : decode cX5_moneyOfPlan 49 = .ok (.iload 4, 2) := by decide +kernel
theorem dX5_moneyOfPlan_51 : decode cX5_moneyOfPlan 51 = .ok (.iload_n 3, 1) := by decide +kernel
theorem dX5_moneyOfPlan_52 : decode cX5_moneyOfPlan 52 = .ok (.invokestatic 223, 3) := by decide +kernel
theorem dX5_moneyOfPlan_55 : decode cX5_moneyOfPlan 55 = .ok (.iadd, 1) := by decide +kernel
theorem dX5_moneyOfPlan_56 : decode cX5_moneyOfPlan 56 = .ok (.istore 4, 2) := by decide +kernel
theorem dX5_moneyOfPlan_58 : decode cX5_moneyOfPlan 58 = .ok (.iload 5, 2) := by decide +kernel
theorem dX5_moneyOfPlan_60 : decode cX5_moneyOfPlan 60 = .ok (.aload_n 0, 1) := by decide +kernel
theorem dX5_moneyOfPlan_61 : decode cX5_moneyOfPlan 61 = .ok (.iload 6, 2) := by decide +kernel
theorem dX5_moneyOfPlan_63 : decode cX5_moneyOfPlan 63 = .ok (.invokevirtual 202, 3) := by decide +kernel
theorem dX5_moneyOfPlan_66 : decode cX5_moneyOfPlan 66 = .ok (.iadd, 1) := by decide +kernel
theorem dX5_moneyOfPlan_67 : decode cX5_moneyOfPlan 67 = .ok (.istore 5, 2) := by decide +kernel
theorem dX5_moneyOfPlan_69 : decode cX5_moneyOfPlan 69 = .ok (.iinc 6 1, 3) := by decide +kernel
theorem dX5_moneyOfPlan_72 : decode cX5_moneyOfPlan 72 = .ok (.goto (-47), 3) := by decide +kernel
theorem dX5_moneyOfPlan_75 : decode cX5_moneyOfPlan 75 = .ok (.iload_n 1, 1) := by decide +kernel
theorem dX5_moneyOfPlan_76 : decode cX5_moneyOfPlan 76 = .ok (.lookupswitch 44 #[(2, 28), (3, 30)], 28) := by decide +kernel
theorem dX5_moneyOfPlan_104 : decode cX5_moneyOfPlan 104 = .ok (.iload_n 3, 1) := by decide +kernel
theorem dX5_moneyOfPlan_105 : decode cX5_moneyOfPlan 105 = .ok (.ireturn, 1) := by decide +kernel
theorem dX5_moneyOfPlan_106 : decode cX5_moneyOfPlan 106 = .ok (.aload_n 2, 1) := by decide +kernel
theorem dX5_moneyOfPlan_107 : decode cX5_moneyOfPlan 107 = .ok (.iload 5, 2) := by decide +kernel
theorem dX5_moneyOfPlan_109 : decode cX5_moneyOfPlan 109 = .ok (.aload_n 0, 1) := by decide +kernel
theorem dX5_moneyOfPlan_110 : decode cX5_moneyOfPlan 110 = .ok (.getfield 33, 3) := by decide +kernel
theorem dX5_moneyOfPlan_113 : decode cX5_moneyOfPlan 113 = .ok (.invokevirtual 193, 3) := by decide +kernel
theorem dX5_moneyOfPlan_116 : decode cX5_moneyOfPlan 116 = .ok (.invokevirtual 226, 3) := by decide +kernel
theorem dX5_moneyOfPlan_119 : decode cX5_moneyOfPlan 119 = .ok (.ireturn, 1) := by decide +kernel
theorem dX5_moneyOfPlan_120 : decode cX5_moneyOfPlan 120 = .ok (.iload 4, 2) := by decide +kernel
theorem dX5_moneyOfPlan_122 : decode cX5_moneyOfPlan 122 = .ok (.ireturn, 1) := by decide +kernel
theorem dX5_fineFor_0 : decode cX5_fineFor 0 = .ok (.iconst 0, 1) := by decide +kernel
theorem dX5_fineFor_1 : decode cX5_fineFor 1 = .ok (.iload_n 0, 1) := by decide +kernel
theorem dX5_fineFor_2 : decode cX5_fineFor 2 = .ok (.invokestatic 215, 3) := by decide +kernel
theorem dX5_fineFor_5 : decode cX5_fineFor 5 = .ok (.bipush 10, 2) := by decide +kernel
theorem dX5_fineFor_7 : decode cX5_fineFor 7 = .ok (.idiv, 1) := by decide +kernel
theorem dX5_fineFor_8 : decode cX5_fineFor 8 = .ok (.ireturn, 1) := by decide +kernel
theorem dX6_init_0 : decode cX6_init 0 = .ok (.aload_n 0, 1) := by decide +kernel
theorem dX6_init_1 : decode cX6_init 1 = .ok (.invokespecial 1, 3) := by decide +kernel
theorem dX6_init_4 : decode cX6_init 4 = .ok (.aload_n 0, 1) := by decide +kernel
theorem dX6_init_5 : decode cX6_init 5 = .ok (.sipush 773, 3) := by decide +kernel
theorem dX6_init_8 : decode cX6_init 8 = .ok (.newarray .int, 2) := by decide +kernel
theorem dX6_init_10 : decode cX6_init 10 = .ok (.putfield 7, 3) := by decide +kernel
theorem dX6_init_13 : decode cX6_init 13 = .ok (.aload_n 0, 1) := by decide +kernel
theorem dX6_init_14 : decode cX6_init 14 = .ok (.sipush 4638, 3) := by decide +kernel
theorem dX6_init_17 : decode cX6_init 17 = .ok (.newarray .int, 2) := by decide +kernel
theorem dX6_init_19 : decode cX6_init 19 = .ok (.putfield 13, 3) := by decide +kernel
theorem dX6_init_22 : decode cX6_init 22 = .ok (.aload_n 0, 1) := by decide +kernel
theorem dX6_init_23 : decode cX6_init 23 = .ok (.sipush 773, 3) := by decide +kernel
theorem dX6_init_26 : decode cX6_init 26 = .ok (.newarray .int, 2) := by decide +kernel
theorem dX6_init_28 : decode cX6_init 28 = .ok (.putfield 16, 3) := by decide +kernel
theorem dX6_init_31 : decode cX6_init 31 = .ok (.aload_n 0, 1) := by decide +kernel
theorem dX6_init_32 : decode cX6_init 32 = .ok (.bipush 100, 2) := by decide +kernel
theorem dX6_init_34 : decode cX6_init 34 = .ok (.newarray .char, 2) := by decide +kernel
theorem dX6_init_36 : decode cX6_init 36 = .ok (.putfield 19, 3) := by decide +kernel
theorem dX6_init_39 : decode cX6_init 39 = .ok (.aload_n 0, 1) := by decide +kernel
theorem dX6_init_40 : decode cX6_init 40 = .ok (.bipush 100, 2) := by decide +kernel
theorem dX6_init_42 : decode cX6_init 42 = .ok (.newarray .int, 2) := by decide +kernel
theorem dX6_init_44 : decode cX6_init 44 = .ok (.putfield 23, 3) := by decide +kernel
theorem dX6_init_47 : decode cX6_init 47 = .ok (.aload_n 0, 1) := by decide +kernel
theorem dX6_init_48 : decode cX6_init 48 = .ok (.sipush 462, 3) := by decide +kernel
theorem dX6_init_51 : decode cX6_init 51 = .ok (.newarray .int, 2) := by decide +kernel
theorem dX6_init_53 : decode cX6_init 53 = .ok (.putfield 26, 3) := by decide +kernel
theorem dX6_init_56 : decode cX6_init 56 = .ok (.aload_n 0, 1) := by decide +kernel
theorem dX6_init_57 : decode cX6_init 57 = .ok (.sipush 462, 3) := by decide +kernel
theorem dX6_init_60 : decode cX6_init 60 = .ok (.newarray .int, 2) := by decide +kernel
theorem dX6_init_62 : decode cX6_init 62 = .ok (.putfield 29, 3) := by decide +kernel
theorem dX6_init_65 : decode cX6_init 65 = .ok (.aload_n 0, 1) := by decide +kernel
theorem dX6_init_66 : decode cX6_init 66 = .ok (.sipush 462, 3) := by decide +kernel
theorem dX6_init_69 : decode cX6_init 69 = .ok (.newarray .int, 2) := by decide +kernel
theorem dX6_init_71 : decode cX6_init 71 = .ok (.putfield 32, 3) := by decide +kernel
theorem dX6_init_74 : decode cX6_init 74 = .ok (.aload_n 0, 1) := by decide +kernel
theorem dX6_init_75 : decode cX6_init 75 = .ok (.sipush 462, 3) := by decide +kernel
theorem dX6_init_78 : decode cX6_init 78 = .ok (.newarray .int, 2) := by decide +kernel
theorem dX6_init_80 : decode cX6_init 80 = .ok (.putfield 35, 3) := by decide +kernel
theorem dX6_init_83 : decode cX6_init 83 = .ok (.aload_n 0, 1) := by decide +kernel
theorem dX6_init_84 : decode cX6_init 84 = .ok (.getfield 7, 3) := by decide +kernel
theorem dX6_init_87 : decode cX6_init 87 = .ok (.iconst 5, 1) := by decide +kernel
theorem dX6_init_88 : decode cX6_init 88 = .ok (.sipush 300, 3) := by decide +kernel
theorem dX6_init_91 : decode cX6_init 91 = .ok (.iastore, 1) := by decide +kernel
theorem dX6_init_92 : decode cX6_init 92 = .ok (.aload_n 0, 1) := by decide +kernel
theorem dX6_init_93 : decode cX6_init 93 = .ok (.getfield 7, 3) := by decide +kernel
theorem dX6_init_96 : decode cX6_init 96 = .ok (.bipush 6, 2) := by decide +kernel
theorem dX6_init_98 : decode cX6_init 98 = .ok (.iconst 5, 1) := by decide +kernel
theorem dX6_init_99 : decode cX6_init 99 = .ok (.iastore, 1) := by decide +kernel
theorem dX6_init_100 : decode cX6_init 100 = .ok (.aload_n 0, 1) := by decide +kernel
theorem dX6_init_101 : decode cX6_init 101 = .ok (.getfield 7, 3) := by decide +kernel
theorem dX6_init_104 : decode cX6_init 104 = .ok (.bipush 7, 2) := by decide +kernel
theorem dX6_init_106 : decode cX6_init 106 = .ok (.sipush 400, 3) := by decide +kernel
theorem dX6_init_109 : decode cX6_init 109 = .ok (.iastore, 1) := by decide +kernel
theorem dX6_init_110 : decode cX6_init 110 = .ok (.aload_n 0, 1) := by decide +kernel
theorem dX6_init_111 : decode cX6_init 111 = .ok (.getfield 7, 3) := by decide +kernel
theorem dX6_init_114 : decode cX6_init 114 = .ok (.bipush 8, 2) := by decide +kernel
theorem dX6_init_116 : decode cX6_init 116 = .ok (.iconst 2, 1) := by decide +kernel
theorem dX6_init_117 : decode cX6_init 117 = .ok (.iastore, 1) := by decide +kernel
theorem dX6_init_118 : decode cX6_init 118 = .ok (.iconst 0, 1) := by decide +kernel
theorem dX6_init_119 : decode cX6_init 119 = .ok (.istore_n 1, 1) := by decide +kernel
theorem dX6_init_120 : decode cX6_init 120 = .ok (.iload_n 1, 1) := by decide +kernel
theorem dX6_init_121 : decode cX6_init 121 = .ok (.bipush 30, 2) := by decide +kernel
theorem dX6_init_123 : decode cX6_init 123 = .ok (.if_icmp .ge 51, 3) := by decide +kernel
theorem dX6_init_126 : decode cX6_init 126 = .ok (.aload_n 0, 1) := by decide +kernel
theorem dX6_init_127 : decode cX6_init 127 = .ok (.getfield 7, 3) := by decide +kernel
theorem dX6_init_130 : decode cX6_init 130 = .ok (.bipush 17, 2) := by decide +kernel
theorem dX6_init_132 : decode cX6_init 132 = .ok (.iconst 4, 1) := by decide +kernel
theorem dX6_init_133 : decode cX6_init 133 = .ok (.iload_n 1, 1) := by decide +kernel
theorem dX6_init_134 : decode cX6_init 134 = .ok (.imul, 1) := by decide +kernel
theorem dX6_init_135 : decode cX6_init 135 = .ok (.iadd, 1) := by decide +kernel
theorem dX6_init_136 : decode cX6_init 136 = .ok (.iconst 2, 1) := by decide +kernel
theorem dX6_init_137 : decode cX6_init 137 = .ok (.iastore, 1) := by decide +kernel
theorem dX6_init_138 : decode cX6_init 138 = .ok (.aload_n 0, 1) := by decide +kernel
theorem dX6_init_139 : decode cX6_init 139 = .ok (.getfield 7, 3) := by decide +kernel
theorem dX6_init_142 : decode cX6_init 142 = .ok (.bipush 17, 2) := by decide +kernel
theorem dX6_init_144 : decode cX6_init 144 = .ok (.iconst 4, 1) := by decide +kernel
theorem dX6_init_145 : decode cX6_init 145 = .ok (.iload_n 1, 1) := by decide +kernel
theorem dX6_init_146 : decode cX6_init 146 = .ok (.imul, 1) := by decide +kernel
theorem dX6_init_147 : decode cX6_init 147 = .ok (.iadd, 1) := by decide +kernel
theorem dX6_init_148 : decode cX6_init 148 = .ok (.iconst 2, 1) := by decide +kernel
theorem dX6_init_149 : decode cX6_init 149 = .ok (.iadd, 1) := by decide +kernel
theorem dX6_init_150 : decode cX6_init 150 = .ok (.ldc 38, 2) := by decide +kernel
theorem dX6_init_152 : decode cX6_init 152 = .ok (.iastore, 1) := by decide +kernel
theorem dX6_init_153 : decode cX6_init 153 = .ok (.aload_n 0, 1) := by decide +kernel
theorem dX6_init_154 : decode cX6_init 154 = .ok (.getfield 7, 3) := by decide +kernel
theorem dX6_init_157 : decode cX6_init 157 = .ok (.bipush 17, 2) := by decide +kernel
theorem dX6_init_159 : decode cX6_init 159 = .ok (.iconst 4, 1) := by decide +kernel
theorem dX6_init_160 : decode cX6_init 160 = .ok (.iload_n 1, 1) := by decide +kernel
theorem dX6_init_161 : decode cX6_init 161 = .ok (.imul, 1) := by decide +kernel
theorem dX6_init_162 : decode cX6_init 162 = .ok (.iadd, 1) := by decide +kernel
theorem dX6_init_163 : decode cX6_init 163 = .ok (.iconst 3, 1) := by decide +kernel
theorem dX6_init_164 : decode cX6_init 164 = .ok (.iadd, 1) := by decide +kernel
theorem dX6_init_165 : decode cX6_init 165 = .ok (.ldc 38, 2) := by decide +kernel
theorem dX6_init_167 : decode cX6_init 167 = .ok (.iastore, 1) := by decide +kernel
theorem dX6_init_168 : decode cX6_init 168 = .ok (.iinc 1 1, 3) := by decide +kernel
theorem dX6_init_171 : decode cX6_init 171 = .ok (.goto (-51), 3) := by decide +kernel
theorem dX6_init_174 : decode cX6_init 174 = .ok (.return_, 1) := by decide +kernel
theorem dX6_in_0 : decode cX6_in 0 = .ok (.iload_n 0, 1) := by decide +kernel
theorem dX6_in_1 : decode cX6_in 1 = .ok (.iload_n 1, 1) := by decide +kernel
theorem dX6_in_2 : decode cX6_in 2 = .ok (.if_icmp .lt 12, 3) := by decide +kernel
theorem dX6_in_5 : decode cX6_in 5 = .ok (.iload_n 0, 1) := by decide +kernel
theorem dX6_in_6 : decode cX6_in 6 = .ok (.iload_n 2, 1) := by decide +kernel
theorem dX6_in_7 : decode cX6_in 7 = .ok (.if_icmp .gt 7, 3) := by decide +kernel
theorem dX6_in_10 : decode cX6_in 10 = .ok (.iconst 1, 1) := by decide +kernel
theorem dX6_in_11 : decode cX6_in 11 = .ok (.goto 4, 3) := by decide +kernel
theorem dX6_in_14 : decode cX6_in 14 = .ok (.iconst 0, 1) := by decide +kernel
theorem dX6_in_15 : decode cX6_in 15 = .ok (.ireturn, 1) := by decide +kernel
theorem dX6_of_0 : decode cX6_of 0 = .ok (.aload_n 0, 1) := by decide +kernel
theorem dX6_of_1 : decode cX6_of 1 = .ok (.getfield 7, 3) := by decide +kernel
theorem dX6_of_4 : decode cX6_of 4 = .ok (.sipush 137, 3) := by decide +kernel
theorem dX6_of_7 : decode cX6_of 7 = .ok (.bipush 6, 2) := by decide +kernel
theorem dX6_of_9 : decode cX6_of 9 = .ok (.iload_n 1, 1) := by decide +kernel
theorem dX6_of_10 : decode cX6_of 10 = .ok (.imul, 1) := by decide +kernel
theorem dX6_of_11 : decode cX6_of 11 = .ok (.iadd, 1) := by decide +kernel
theorem dX6_of_12 : decode cX6_of 12 = .ok (.iload_n 2, 1) := by decide +kernel
theorem dX6_of_13 : decode cX6_of 13 = .ok (.iadd, 1) := by decide +kernel
theorem dX6_of_14 : decode cX6_of 14 = .ok (.iaload, 1) := by decide +kernel
theorem dX6_of_15 : decode cX6_of 15 = .ok (.ireturn, 1) := by decide +kernel
theorem dX6_toCome_0 : decode cX6_toCome 0 = .ok (.aload_n 0, 1) := by decide +kernel
theorem dX6_toCome_1 : decode cX6_toCome 1 = .ok (.getfield 7, 3) := by decide +kernel
theorem dX6_toCome_4 : decode cX6_toCome 4 = .ok (.iconst 0, 1) := by decide +kernel
theorem dX6_toCome_5 : decode cX6_toCome 5 = .ok (.iaload, 1) := by decide +kernel
theorem dX6_toCome_6 : decode cX6_toCome 6 = .ok (.aload_n 0, 1) := by decide +kernel
theorem dX6_toCome_7 : decode cX6_toCome 7 = .ok (.getfield 7, 3) := by decide +kernel
theorem dX6_toCome_10 : decode cX6_toCome 10 = .ok (.iconst 1, 1) := by decide +kernel
theorem dX6_toCome_11 : decode cX6_toCome 11 = .ok (.iaload, 1) := by decide +kernel
theorem dX6_toCome_12 : decode cX6_toCome 12 = .ok (.isub, 1) := by decide +kernel
theorem dX6_toCome_13 : decode cX6_toCome 13 = .ok (.ireturn, 1) := by decide +kernel
theorem dX6_isOver_0 : decode cX6_isOver 0 = .ok (.aload_n 0, 1) := by decide +kernel
theorem dX6_isOver_1 : decode cX6_isOver 1 = .ok (.getfield 7, 3) := by decide +kernel
theorem dX6_isOver_4 : decode cX6_isOver 4 = .ok (.iconst 2, 1) := by decide +kernel
theorem dX6_isOver_5 : decode cX6_isOver 5 = .ok (.iaload, 1) := by decide +kernel
theorem dX6_isOver_6 : decode cX6_isOver 6 = .ok (.bipush 30, 2) := by decide +kernel
theorem dX6_isOver_8 : decode cX6_isOver 8 = .ok (.if_icmp .ne 7, 3) := by decide +kernel
theorem dX6_isOver_11 : decode cX6_isOver 11 = .ok (.iconst 1, 1) := by decide +kernel
theorem dX6_isOver_12 : decode cX6_isOver 12 = .ok (.goto 4, 3) := by decide +kernel
theorem dX6_isOver_15 : decode cX6_isOver 15 = .ok (.iconst 0, 1) := by decide +kernel
theorem dX6_isOver_16 : decode cX6_isOver 16 = .ok (.ireturn, 1) := by decide +kernel
theorem dX6_keeps_0 : decode cX6_keeps 0 = .ok (.iconst 0, 1) := by decide +kernel
theorem dX6_keeps_1 : decode cX6_keeps 1 = .ok (.istore_n 1, 1) := by decide +kernel
theorem dX6_keeps_2 : decode cX6_keeps 2 = .ok (.iload_n 1, 1) := by decide +kernel
theorem dX6_keeps_3 : decode cX6_keeps 3 = .ok (.sipush 773, 3) := by decide +kernel
theorem dX6_keeps_6 : decode cX6_keeps 6 = .ok (.if_icmp .ge 21, 3) := by decide +kernel
theorem dX6_keeps_9 : decode cX6_keeps 9 = .ok (.aload_n 0, 1) := by decide +kernel
theorem dX6_keeps_10 : decode cX6_keeps 10 = .ok (.getfield 16, 3) := by decide +kernel
theorem dX6_keeps_13 : decode cX6_keeps 13 = .ok (.iload_n 1, 1) := by decide +kernel
theorem dX6_keeps_14 : decode cX6_keeps 14 = .ok (.aload_n 0, 1) := by decide +kernel
theorem dX6_keeps_15 : decode cX6_keeps 15 = .ok (.getfield 7, 3) := by decide +kernel
theorem dX6_keeps_18 : decode cX6_keeps 18 = .ok (.iload_n 1, 1) := by decide +kernel
theorem dX6_keeps_19 : decode cX6_keeps 19 = .ok (.iaload, 1) := by decide +kernel
theorem dX6_keeps_20 : decode cX6_keeps 20 = .ok (.iastore, 1) := by decide +kernel
theorem dX6_keeps_21 : decode cX6_keeps 21 = .ok (.iinc 1 1, 3) := by decide +kernel
theorem dX6_keeps_24 : decode cX6_keeps 24 = .ok (.goto (-22), 3) := by decide +kernel
theorem dX6_keeps_27 : decode cX6_keeps 27 = .ok (.return_, 1) := by decide +kernel
theorem dX6_acted_0 : decode cX6_acted 0 = .ok (.aload_n 0, 1) := by decide +kernel
theorem dX6_acted_1 : decode cX6_acted 1 = .ok (.getfield 39, 3) := by decide +kernel
theorem dX6_acted_4 : decode cX6_acted 4 = .ok (.bipush 6, 2) := by decide +kernel
theorem dX6_acted_6 : decode cX6_acted 6 = .ok (.if_icmp .ne 44, 3) := by decide +kernel
theorem dX6_acted_9 : decode cX6_acted 9 = .ok (.iconst 0, 1) := by decide +kernel
theorem dX6_acted_10 : decode cX6_acted 10 = .ok (.istore_n 2, 1) := by decide +kernel
theorem dX6_acted_11 : decode cX6_acted 11 = .ok (.iload_n 2, 1) := by decide +kernel
theorem dX6_acted_12 : decode cX6_acted 12 = .ok (.sipush 3865, 3) := by decide +kernel
theorem dX6_acted_15 : decode cX6_acted 15 = .ok (.if_icmp .ge 25, 3) := by decide +kernel
theorem dX6_acted_18 : decode cX6_acted 18 = .ok (.aload_n 0, 1) := by decide +kernel
theorem dX6_acted_19 : decode cX6_acted 19 = .ok (.getfield 13, 3) := by decide +kernel
theorem dX6_acted_22 : decode cX6_acted 22 = .ok (.iload_n 2, 1) := by decide +kernel
theorem dX6_acted_23 : decode cX6_acted 23 = .ok (.aload_n 0, 1) := by decide +kernel
theorem dX6_acted_24 : decode cX6_acted 24 = .ok (.getfield 13, 3) := by decide +kernel
theorem dX6_acted_27 : decode cX6_acted 27 = .ok (.iload_n 2, 1) := by decide +kernel
theorem dX6_acted_28 : decode cX6_acted 28 = .ok (.sipush 773, 3) := by decide +kernel
theorem dX6_acted_31 : decode cX6_acted 31 = .ok (.iadd, 1) := by decide +kernel
theorem dX6_acted_32 : decode cX6_acted 32 = .ok (.iaload, 1) := by decide +kernel
theorem dX6_acted_33 : decode cX6_acted 33 = .ok (.iastore, 1) := by decide +kernel
theorem dX6_acted_34 : decode cX6_acted 34 = .ok (.iinc 2 1, 3) := by decide +kernel
theorem dX6_acted_37 : decode cX6_acted 37 = .ok (.goto (-26), 3) := by decide +kernel
theorem dX6_acted_40 : decode cX6_acted 40 = .ok (.aload_n 0, 1) := by decide +kernel
theorem dX6_acted_41 : decode cX6_acted 41 = .ok (.dup, 1) := by decide +kernel
theorem dX6_acted_42 : decode cX6_acted 42 = .ok (.getfield 39, 3) := by decide +kernel
theorem dX6_acted_45 : decode cX6_acted 45 = .ok (.iconst 1, 1) := by decide +kernel
theorem dX6_acted_46 : decode cX6_acted 46 = .ok (.isub, 1) := by decide +kernel
theorem dX6_acted_47 : decode cX6_acted 47 = .ok (.putfield 39, 3) := by decide +kernel
theorem dX6_acted_50 : decode cX6_acted 50 = .ok (.iconst 0, 1) := by decide +kernel
theorem dX6_acted_51 : decode cX6_acted 51 = .ok (.istore_n 2, 1) := by decide +kernel
theorem dX6_acted_52 : decode cX6_acted 52 = .ok (.iload_n 2, 1) := by decide +kernel
theorem dX6_acted_53 : decode cX6_acted 53 = .ok (.sipush 773, 3) := by decide +kernel
theorem dX6_acted_56 : decode cX6_acted 56 = .ok (.if_icmp .ge 30, 3) := by decide +kernel
theorem dX6_acted_59 : decode cX6_acted 59 = .ok (.aload_n 0, 1) := by decide +kernel
theorem dX6_acted_60 : decode cX6_acted 60 = .ok (.getfield 13, 3) := by decide +kernel
theorem dX6_acted_63 : decode cX6_acted 63 = .ok (.sipush 773, 3) := by decide +kernel
theorem dX6_acted_66 : decode cX6_acted 66 = .ok (.aload_n 0, 1) := by decide +kernel
theorem dX6_acted_67 : decode cX6_acted 67 = .ok (.getfield 39, 3) := by decide +kernel
theorem dX6_acted_70 : decode cX6_acted 70 = .ok (.imul, 1) := by decide +kernel
theorem dX6_acted_71 : decode cX6_acted 71 = .ok (.iload_n 2, 1) := by decide +kernel
theorem dX6_acted_72 : decode cX6_acted 72 = .ok (.iadd, 1) := by decide +kernel
theorem dX6_acted_73 : decode cX6_acted 73 = .ok (.aload_n 0, 1) := by decide +kernel
theorem dX6_acted_74 : decode cX6_acted 74 = .ok (.getfield 16, 3) := by decide +kernel
theorem dX6_acted_77 : decode cX6_acted 77 = .ok (.iload_n 2, 1) := by decide +kernel
theorem dX6_acted_78 : decode cX6_acted 78 = .ok (.iaload, 1) := by decide +kernel
theorem dX6_acted_79 : decode cX6_acted 79 = .ok (.iastore, 1) := by decide +kernel
theorem dX6_acted_80 : decode cX6_acted 80 = .ok (.iinc 2 1, 3) := by decide +kernel
theorem dX6_acted_83 : decode cX6_acted 83 = .ok (.goto (-31), 3) := by decide +kernel
theorem dX6_acted_86 : decode cX6_acted 86 = .ok (.aload_n 0, 1) := by decide +kernel
theorem dX6_acted_87 : decode cX6_acted 87 = .ok (.dup, 1) := by decide +kernel
theorem dX6_acted_88 : decode cX6_acted 88 = .ok (.getfield 39, 3) := by decide +kernel
theorem dX6_acted_91 : decode cX6_acted 91 = .ok (.iconst 1, 1) := by decide +kernel
theorem dX6_acted_92 : decode cX6_acted 92 = .ok (.iadd, 1) := by decide +kernel
theorem dX6_acted_93 : decode cX6_acted 93 = .ok (.putfield 39, 3) := by decide +kernel
theorem dX6_acted_96 : decode cX6_acted 96 = .ok (.iload_n 1, 1) := by decide +kernel
theorem dX6_acted_97 : decode cX6_acted 97 = .ok (.ireturn, 1) := by decide +kernel
theorem dX6_room_0 : decode cX6_room 0 = .ok (.aload_n 0, 1) := by decide +kernel
theorem dX6_room_1 : decode cX6_room 1 = .ok (.getfield 7, 3) := by decide +kernel
theorem dX6_room_4 : decode cX6_room 4 = .ok (.bipush 17, 2) := by decide +kernel
theorem dX6_room_6 : decode cX6_room 6 = .ok (.iconst 4, 1) := by decide +kernel
theorem dX6_room_7 : decode cX6_room 7 = .ok (.iload_n 1, 1) := by decide +kernel
theorem dX6_room_8 : decode cX6_room 8 = .ok (.imul, 1) := by decide +kernel
theorem dX6_room_9 : decode cX6_room 9 = .ok (.iadd, 1) := by decide +kernel
theorem dX6_room_10 : decode cX6_room 10 = .ok (.iaload, 1) := by decide +kernel
theorem dX6_room_11 : decode cX6_room 11 = .ok (.aload_n 0, 1) := by decide +kernel
theorem dX6_room_12 : decode cX6_room 12 = .ok (.getfield 7, 3) := by decide +kernel
theorem dX6_room_15 : decode cX6_room 15 = .ok (.iconst 5, 1) := by decide +kernel
theorem dX6_room_16 : decode cX6_room 16 = .ok (.iaload, 1) := by decide +kernel
theorem dX6_room_17 : decode cX6_room 17 = .ok (.imul, 1) := by decide +kernel
theorem dX6_room_18 : decode cX6_room 18 = .ok (.aload_n 0, 1) := by decide +kernel
theorem dX6_room_19 : decode cX6_room 19 = .ok (.getfield 7, 3) := by decide +kernel
theorem dX6_room_22 : decode cX6_room 22 = .ok (.bipush 17, 2) := by decide +kernel
theorem dX6_room_24 : decode cX6_room 24 = .ok (.iconst 4, 1) := by decide +kernel
theorem dX6_room_25 : decode cX6_room 25 = .ok (.iload_n 1, 1) := by decide +kernel
theorem dX6_room_26 : decode cX6_room 26 = .ok (.imul, 1) := by decide +kernel
theorem dX6_room_27 : decode cX6_room 27 = .ok (.iadd, 1) := by decide +kernel
theorem dX6_room_28 : decode cX6_room 28 = .ok (.iconst 1, 1) := by decide +kernel
theorem dX6_room_29 : decode cX6_room 29 = .ok (.iadd, 1) := by decide +kernel
theorem dX6_room_30 : decode cX6_room 30 = .ok (.iaload, 1) := by decide +kernel
theorem dX6_room_31 : decode cX6_room 31 = .ok (.isub, 1) := by decide +kernel
theorem dX6_room_32 : decode cX6_room 32 = .ok (.istore_n 2, 1) := by decide +kernel
theorem dX6_room_33 : decode cX6_room 33 = .ok (.iload_n 2, 1) := by decide +kernel
theorem dX6_room_34 : decode cX6_room 34 = .ok (.ifCond .ge 7, 3) := by decide +kernel
theorem dX6_room_37 : decode cX6_room 37 = .ok (.iconst 0, 1) := by decide +kernel
theorem dX6_room_38 : decode cX6_room 38 = .ok (.goto 4, 3) := by decide +kernel
theorem dX6_room_41 : decode cX6_room 41 = .ok (.iload_n 2, 1) := by decide +kernel
theorem dX6_room_42 : decode cX6_room 42 = .ok (.ireturn, 1) := by decide +kernel
theorem dX6_sumOf_0 : decode cX6_sumOf 0 = .ok (.iconst 0, 1) := by decide +kernel
theorem dX6_sumOf_1 : decode cX6_sumOf 1 = .ok (.istore 4, 2) := by decide +kernel
theorem dX6_sumOf_3 : decode cX6_sumOf 3 = .ok (.iload_n 1, 1) := by decide +kernel
theorem dX6_sumOf_4 : decode cX6_sumOf 4 = .ok (.istore 5, 2) := by decide +kernel
theorem dX6_sumOf_6 : decode cX6_sumOf 6 = .ok (.iload 5, 2) := by decide +kernel
theorem dX6_sumOf_8 : decode cX6_sumOf 8 = .ok (.iload_n 1, 1) := by decide +kernel
theorem dX6_sumOf_9 : decode cX6_sumOf 9 = .ok (.iload_n 2, 1) := by decide +kernel
theorem dX6_sumOf_10 : decode cX6_sumOf 10 = .ok (.iadd, 1) := by decide +kernel
theorem dX6_sumOf_11 : decode cX6_sumOf 11 = .ok (.if_icmp .ge 21, 3) := by decide +kernel
theorem dX6_sumOf_14 : decode cX6_sumOf 14 = .ok (.iload 4, 2) := by decide +kernel
theorem dX6_sumOf_16 : decode cX6_sumOf 16 = .ok (.aload_n 0, 1) := by decide +kernel
theorem dX6_sumOf_17 : decode cX6_sumOf 17 = .ok (.iload 5, 2) := by decide +kernel
theorem dX6_sumOf_19 : decode cX6_sumOf 19 = .ok (.iload_n 3, 1) := by decide +kernel
theorem dX6_sumOf_20 : decode cX6_sumOf 20 = .ok (.invokevirtual 43, 3) := by decide +kernel
theorem dX6_sumOf_23 : decode cX6_sumOf 23 = .ok (.iadd, 1) := by decide +kernel
theorem dX6_sumOf_24 : decode cX6_sumOf 24 = .ok (.istore 4, 2) := by decide +kernel
theorem dX6_sumOf_26 : decode cX6_sumOf 26 = .ok (.iinc 5 1, 3) := by decide +kernel
theorem dX6_sumOf_29 : decode cX6_sumOf 29 = .ok (.goto (-23), 3) := by decide +kernel
theorem dX6_sumOf_32 : decode cX6_sumOf 32 = .ok (.iload 4, 2) := by decide +kernel
theorem dX6_sumOf_34 : decode cX6_sumOf 34 = .ok (.ireturn, 1) := by decide +kernel
theorem dX6_cutOf_0 : decode cX6_cutOf 0 = .ok (.iload_n 3, 1) := by decide +kernel
theorem dX6_cutOf_1 : decode cX6_cutOf 1 = .ok (.istore 4, 2) := by decide +kernel
theorem dX6_cutOf_3 : decode cX6_cutOf 3 = .ok (.iload_n 2, 1) := by decide +kernel
theorem dX6_cutOf_4 : decode cX6_cutOf 4 = .ok (.iconst 1, 1) := by decide +kernel
theorem dX6_cutOf_5 : decode cX6_cutOf 5 = .ok (.isub, 1) := by decide +kernel
theorem dX6_cutOf_6 : decode cX6_cutOf 6 = .ok (.istore 5, 2) := by decide +kernel
theorem dX6_cutOf_8 : decode cX6_cutOf 8 = .ok (.iload 5, 2) := by decide +kernel
theorem dX6_cutOf_10 : decode cX6_cutOf 10 = .ok (.iload_n 1, 1) := by decide +kernel
theorem dX6_cutOf_11 : decode cX6_cutOf 11 = .ok (.if_icmp .le 38, 3) := by decide +kernel
theorem dX6_cutOf_14 : decode cX6_cutOf 14 = .ok (.iload 4, 2) := by decide +kernel
theorem dX6_cutOf_16 : decode cX6_cutOf 16 = .ok (.iload 4, 2) := by decide +kernel
theorem dX6_cutOf_18 : decode cX6_cutOf 18 = .ok (.aload_n 0, 1) := by decide +kernel
theorem dX6_cutOf_19 : decode cX6_cutOf 19 = .ok (.iload 5, 2) := by decide +kernel
theorem dX6_cutOf_21 : decode cX6_cutOf 21 = .ok (.iconst 1, 1) := by decide +kernel
theorem dX6_cutOf_22 : decode cX6_cutOf 22 = .ok (.invokevirtual 43, 3) := by decide +kernel
theorem dX6_cutOf_25 : decode cX6_cutOf 25 = .ok (.if_icmp .ge 8, 3) := by decide +kernel
theorem dX6_cutOf_28 : decode cX6_cutOf 28 = .ok (.iload 4, 2) := by decide +kernel
theorem dX6_cutOf_30 : decode cX6_cutOf 30 = .ok (.goto 10, 3) := by decide +kernel
theorem dX6_cutOf_33 : decode cX6_cutOf 33 = .ok (.aload_n 0, 1) := by decide +kernel
theorem dX6_cutOf_34 : decode cX6_cutOf 34 = .ok (.iload 5, 2) := by decide +kernel
theorem dX6_cutOf_36 : decode cX6_cutOf 36 = .ok (.iconst 1, 1) := by decide +kernel
theorem dX6_cutOf_37 : decode cX6_cutOf 37 = .ok (.invokevirtual 43, 3) := by decide +kernel
theorem dX6_cutOf_40 : decode cX6_cutOf 40 = .ok (.isub, 1) := by decide +kernel
theorem dX6_cutOf_41 : decode cX6_cutOf 41 = .ok (.istore 4, 2) := by decide +kernel
theorem dX6_cutOf_43 : decode cX6_cutOf 43 = .ok (.iinc 5 (-1), 3) := by decide +kernel
theorem dX6_cutOf_46 : decode cX6_cutOf 46 = .ok (.goto (-38), 3) := by decide +kernel
theorem dX6_cutOf_49 : decode cX6_cutOf 49 = .ok (.iload 4, 2) := by decide +kernel
theorem dX6_cutOf_51 : decode cX6_cutOf 51 = .ok (.aload_n 0, 1) := by decide +kernel
theorem dX6_cutOf_52 : decode cX6_cutOf 52 = .ok (.iload_n 1, 1) := by decide +kernel
theorem dX6_cutOf_53 : decode cX6_cutOf 53 = .ok (.iconst 1, 1) := by decide +kernel
theorem dX6_cutOf_54 : decode cX6_cutOf 54 = .ok (.invokevirtual 43, 3) := by decide +kernel
theorem dX6_cutOf_57 : decode cX6_cutOf 57 = .ok (.if_icmp .ge 8, 3) := by decide +kernel
theorem dX6_cutOf_60 : decode cX6_cutOf 60 = .ok (.iload 4, 2) := by decide +kernel
theorem dX6_cutOf_62 : decode cX6_cutOf 62 = .ok (.goto 9, 3) := by decide +kernel
theorem dX6_cutOf_65 : decode cX6_cutOf 65 = .ok (.aload_n 0, 1) := by decide +kernel
theorem dX6_cutOf_66 : decode cX6_cutOf 66 = .ok (.iload_n 1, 1) := by decide +kernel
theorem dX6_cutOf_67 : decode cX6_cutOf 67 = .ok (.iconst 1, 1) := by decide +kernel
theorem dX6_cutOf_68 : decode cX6_cutOf 68 = .ok (.invokevirtual 43, 3) := by decide +kernel
theorem dX6_cutOf_71 : decode cX6_cutOf 71 = .ok (.ireturn, 1) := by decide +kernel
theorem dX6_tensionOf_0 : decode cX6_tensionOf 0 = .ok (.aload_n 0, 1) := by decide +kernel
theorem dX6_tensionOf_1 : decode cX6_tensionOf 1 = .ok (.iload_n 1, 1) := by decide +kernel
theorem dX6_tensionOf_2 : decode cX6_tensionOf 2 = .ok (.iconst 3, 1) := by decide +kernel
theorem dX6_tensionOf_3 : decode cX6_tensionOf 3 = .ok (.invokevirtual 43, 3) := by decide +kernel
theorem dX6_tensionOf_6 : decode cX6_tensionOf 6 = .ok (.istore_n 3, 1) := by decide +kernel
theorem dX6_tensionOf_7 : decode cX6_tensionOf 7 = .ok (.iconst 2, 1) := by decide +kernel
theorem dX6_tensionOf_8 : decode cX6_tensionOf 8 = .ok (.iload_n 2, 1) := by decide +kernel
theorem dX6_tensionOf_9 : decode cX6_tensionOf 9 = .ok (.imul, 1) := by decide +kernel
theorem dX6_tensionOf_10 : decode cX6_tensionOf 10 = .ok (.aload_n 0, 1) := by decide +kernel
theorem dX6_tensionOf_11 : decode cX6_tensionOf 11 = .ok (.iload_n 1, 1) := by decide +kernel
theorem dX6_tensionOf_12 : decode cX6_tensionOf 12 = .ok (.iconst 1, 1) := by decide +kernel
theorem dX6_tensionOf_13 : decode cX6_tensionOf 13 = .ok (.invokevirtual 43, 3) := by decide +kernel
theorem dX6_tensionOf_16 : decode cX6_tensionOf 16 = .ok (.if_icmp .gt 7, 3) := by decide +kernel
theorem dX6_tensionOf_19 : decode cX6_tensionOf 19 = .ok (.iload_n 3, 1) := by decide +kernel
theorem dX6_tensionOf_20 : decode cX6_tensionOf 20 = .ok (.goto 15, 3) := by decide +kernel
theorem dX6_tensionOf_23 : decode cX6_tensionOf 23 = .ok (.iload_n 3, 1) := by decide +kernel
theorem dX6_tensionOf_24 : decode cX6_tensionOf 24 = .ok (.iconst 2, 1) := by decide +kernel
theorem dX6_tensionOf_25 : decode cX6_tensionOf 25 = .ok (.if_icmp .ge 7, 3) := by decide +kernel
theorem dX6_tensionOf_28 : decode cX6_tensionOf 28 = .ok (.iconst 0, 1) := by decide +kernel
theorem dX6_tensionOf_29 : decode cX6_tensionOf 29 = .ok (.goto 6, 3) := by decide +kernel
theorem dX6_tensionOf_32 : decode cX6_tensionOf 32 = .ok (.iload_n 3, 1) := by decide +kernel
theorem dX6_tensionOf_33 : decode cX6_tensionOf 33 = .ok (.iconst 2, 1) := by decide +kernel
theorem dX6_tensionOf_34 : decode cX6_tensionOf 34 = .ok (.isub, 1) := by decide +kernel
theorem dX6_tensionOf_35 : decode cX6_tensionOf 35 = .ok (.ireturn, 1) := by decide +kernel
theorem dX6_endTension_0 : decode cX6_endTension 0 = .ok (.aload_n 0, 1) := by decide +kernel
theorem dX6_endTension_1 : decode cX6_endTension 1 = .ok (.iload_n 1, 1) := by decide +kernel
theorem dX6_endTension_2 : decode cX6_endTension 2 = .ok (.iconst 1, 1) := by decide +kernel
theorem dX6_endTension_3 : decode cX6_endTension 3 = .ok (.isub, 1) := by decide +kernel
theorem dX6_endTension_4 : decode cX6_endTension 4 = .ok (.aload_n 0, 1) := by decide +kernel
theorem dX6_endTension_5 : decode cX6_endTension 5 = .ok (.iload_n 1, 1) := by decide +kernel
theorem dX6_endTension_6 : decode cX6_endTension 6 = .ok (.iconst 1, 1) := by decide +kernel
theorem dX6_endTension_7 : decode cX6_endTension 7 = .ok (.isub, 1) := by decide +kernel
theorem dX6_endTension_8 : decode cX6_endTension 8 = .ok (.iload_n 1, 1) := by decide +kernel
theorem dX6_endTension_9 : decode cX6_endTension 9 = .ok (.iload_n 2, 1) := by decide +kernel
theorem dX6_endTension_10 : decode cX6_endTension 10 = .ok (.invokevirtual 47, 3) := by decide +kernel
theorem dX6_endTension_13 : decode cX6_endTension 13 = .ok (.invokevirtual 51, 3) := by decide +kernel
theorem dX6_endTension_16 : decode cX6_endTension 16 = .ok (.ireturn, 1) := by decide +kernel
theorem dX6_isCliff_0 : decode cX6_isCliff 0 = .ok (.iload_n 1, 1) := by decide +kernel
theorem dX6_isCliff_1 : decode cX6_isCliff 1 = .ok (.aload_n 0, 1) := by decide +kernel
theorem dX6_isCliff_2 : decode cX6_isCliff 2 = .ok (.getfield 7, 3) := by decide +kernel
theorem dX6_isCliff_5 : decode cX6_isCliff 5 = .ok (.iconst 0, 1) := by decide +kernel
theorem dX6_isCliff_6 : decode cX6_isCliff 6 = .ok (.iaload, 1) := by decide +kernel
theorem dX6_isCliff_7 : decode cX6_isCliff 7 = .ok (.if_icmp .ne 5, 3) := by decide +kernel
theorem dX6_isCliff_10 : decode cX6_isCliff 10 = .ok (.iconst 0, 1) := by decide +kernel
theorem dX6_isCliff_11 : decode cX6_isCliff 11 = .ok (.ireturn, 1) := by decide +kernel
theorem dX6_isCliff_12 : decode cX6_isCliff 12 = .ok (.aload_n 0, 1) := by decide +kernel
theorem dX6_isCliff_13 : decode cX6_isCliff 13 = .ok (.iload_n 1, 1) := by decide +kernel
theorem dX6_isCliff_14 : decode cX6_isCliff 14 = .ok (.iload_n 2, 1) := by decide +kernel
theorem dX6_isCliff_15 : decode cX6_isCliff 15 = .ok (.invokevirtual 54, 3) := by decide +kernel
theorem dX6_isCliff_18 : decode cX6_isCliff 18 = .ok (.istore_n 3, 1) := by decide +kernel
theorem dX6_isCliff_19 : decode cX6_isCliff 19 = .ok (.iload_n 3, 1) := by decide +kernel
theorem dX6_isCliff_20 : decode cX6_isCliff 20 = .ok (.aload_n 0, 1) := by decide +kernel
theorem dX6_isCliff_21 : decode cX6_isCliff 21 = .ok (.getfield 7, 3) := by decide +kernel
theorem dX6_isCliff_24 : decode cX6_isCliff 24 = .ok (.bipush 6, 2) := by decide +kernel
theorem dX6_isCliff_26 : decode cX6_isCliff 26 = .ok (.iaload, 1) := by decide +kernel
theorem dX6_isCliff_27 : decode cX6_isCliff 27 = .ok (.if_icmp .lt 34, 3) := by decide +kernel
theorem dX6_isCliff_30 : decode cX6_isCliff 30 = .ok (.aload_n 0, 1) := by decide +kernel
theorem dX6_isCliff_31 : decode cX6_isCliff 31 = .ok (.iload_n 1, 1) := by decide +kernel
theorem dX6_isCliff_32 : decode cX6_isCliff 32 = .ok (.iconst 2, 1) := by decide +kernel
theorem dX6_isCliff_33 : decode cX6_isCliff 33 = .ok (.invokevirtual 43, 3) := by decide +kernel
theorem dX6_isCliff_36 : decode cX6_isCliff 36 = .ok (.aload_n 0, 1) := by decide +kernel
theorem dX6_isCliff_37 : decode cX6_isCliff 37 = .ok (.iload_n 1, 1) := by decide +kernel
theorem dX6_isCliff_38 : decode cX6_isCliff 38 = .ok (.iconst 1, 1) := by decide +kernel
theorem dX6_isCliff_39 : decode cX6_isCliff 39 = .ok (.isub, 1) := by decide +kernel
theorem dX6_isCliff_40 : decode cX6_isCliff 40 = .ok (.iconst 2, 1) := by decide +kernel
theorem dX6_isCliff_41 : decode cX6_isCliff 41 = .ok (.invokevirtual 43, 3) := by decide +kernel
theorem dX6_isCliff_44 : decode cX6_isCliff 44 = .ok (.if_icmp .ne 13, 3) := by decide +kernel
theorem dX6_isCliff_47 : decode cX6_isCliff 47 = .ok (.aload_n 0, 1) := by decide +kernel
theorem dX6_isCliff_48 : decode cX6_isCliff 48 = .ok (.iload_n 1, 1) := by decide +kernel
theorem dX6_isCliff_49 : decode cX6_isCliff 49 = .ok (.iconst 3, 1) := by decide +kernel
theorem dX6_isCliff_50 : decode cX6_isCliff 50 = .ok (.invokevirtual 43, 3) := by decide +kernel
theorem dX6_isCliff_53 : decode cX6_isCliff 53 = .ok (.iload_n 3, 1) := by decide +kernel
theorem dX6_isCliff_54 : decode cX6_isCliff 54 = .ok (.if_icmp .ge 7, 3) := by decide +kernel
theorem dX6_isCliff_57 : decode cX6_isCliff 57 = .ok (.iconst 1, 1) := by decide +kernel
theorem dX6_isCliff_58 : decode cX6_isCliff 58 = .ok (.goto 4, 3) := by decide +kernel
theorem dX6_isCliff_61 : decode cX6_isCliff 61 = .ok (.iconst 0, 1) := by decide +kernel
theorem dX6_isCliff_62 : decode cX6_isCliff 62 = .ok (.ireturn, 1) := by decide +kernel
theorem dX6_reasonOf_0 : decode cX6_reasonOf 0 = .ok (.iload_n 1, 1) := by decide +kernel
theorem dX6_reasonOf_1 : decode cX6_reasonOf 1 = .ok (.iload_n 2, 1) := by decide +kernel
theorem dX6_reasonOf_2 : decode cX6_reasonOf 2 = .ok (.iadd, 1) := by decide +kernel
theorem dX6_reasonOf_3 : decode cX6_reasonOf 3 = .ok (.istore 5, 2) := by decide +kernel
theorem dX6_reasonOf_5 : decode cX6_reasonOf 5 = .ok (.iload_n 2, 1) := by decide +kernel
theorem dX6_reasonOf_6 : decode cX6_reasonOf 6 = .ok (.iconst 1, 1) := by decide +kernel
theorem dX6_reasonOf_7 : decode cX6_reasonOf 7 = .ok (.if_icmp .lt 15, 3) := by decide +kernel
theorem dX6_reasonOf_10 : decode cX6_reasonOf 10 = .ok (.iload_n 2, 1) := by decide +kernel
theorem dX6_reasonOf_11 : decode cX6_reasonOf 11 = .ok (.aload_n 0, 1) := by decide +kernel
theorem dX6_reasonOf_12 : decode cX6_reasonOf 12 = .ok (.getfield 7, 3) := by decide +kernel
theorem dX6_reasonOf_15 : decode cX6_reasonOf 15 = .ok (.iconst 0, 1) := by decide +kernel
theorem dX6_reasonOf_16 : decode cX6_reasonOf 16 = .ok (.iaload, 1) := by decide +kernel
theorem dX6_reasonOf_17 : decode cX6_reasonOf 17 = .ok (.iload_n 1, 1) := by decide +kernel
theorem dX6_reasonOf_18 : decode cX6_reasonOf 18 = .ok (.isub, 1) := by decide +kernel
theorem dX6_reasonOf_19 : decode cX6_reasonOf 19 = .ok (.if_icmp .le 5, 3) := by decide +kernel
theorem dX6_reasonOf_22 : decode cX6_reasonOf 22 = .ok (.iconst 1, 1) := by decide +kernel
theorem dX6_reasonOf_23 : decode cX6_reasonOf 23 = .ok (.ireturn, 1) := by decide +kernel
theorem dX6_reasonOf_24 : decode cX6_reasonOf 24 = .ok (.aload_n 0, 1) := by decide +kernel
theorem dX6_reasonOf_25 : decode cX6_reasonOf 25 = .ok (.iload_n 1, 1) := by decide +kernel
theorem dX6_reasonOf_26 : decode cX6_reasonOf 26 = .ok (.iload_n 2, 1) := by decide +kernel
theorem dX6_reasonOf_27 : decode cX6_reasonOf 27 = .ok (.iconst 1, 1) := by decide +kernel
theorem dX6_reasonOf_28 : decode cX6_reasonOf 28 = .ok (.invokevirtual 57, 3) := by decide +kernel
theorem dX6_reasonOf_31 : decode cX6_reasonOf 31 = .ok (.iload 4, 2) := by decide +kernel
theorem dX6_reasonOf_33 : decode cX6_reasonOf 33 = .ok (.if_icmp .ge 5, 3) := by decide +kernel
theorem dX6_reasonOf_36 : decode cX6_reasonOf 36 = .ok (.iconst 2, 1) := by decide +kernel
theorem dX6_reasonOf_37 : decode cX6_reasonOf 37 = .ok (.ireturn, 1) := by decide +kernel
theorem dX6_reasonOf_38 : decode cX6_reasonOf 38 = .ok (.aload_n 0, 1) := by decide +kernel
theorem dX6_reasonOf_39 : decode cX6_reasonOf 39 = .ok (.iload_n 1, 1) := by decide +kernel
theorem dX6_reasonOf_40 : decode cX6_reasonOf 40 = .ok (.iload_n 2, 1) := by decide +kernel
theorem dX6_reasonOf_41 : decode cX6_reasonOf 41 = .ok (.iconst 0, 1) := by decide +kernel
theorem dX6_reasonOf_42 : decode cX6_reasonOf 42 = .ok (.invokevirtual 57, 3) := by decide +kernel
theorem dX6_reasonOf_45 : decode cX6_reasonOf 45 = .ok (.iload 4, 2) := by decide +kernel
theorem dX6_reasonOf_47 : decode cX6_reasonOf 47 = .ok (.isub, 1) := by decide +kernel
theorem dX6_reasonOf_48 : decode cX6_reasonOf 48 = .ok (.istore 6, 2) := by decide +kernel
theorem dX6_reasonOf_50 : decode cX6_reasonOf 50 = .ok (.iload 6, 2) := by decide +kernel
theorem dX6_reasonOf_52 : decode cX6_reasonOf 52 = .ok (.aload_n 0, 1) := by decide +kernel
theorem dX6_reasonOf_53 : decode cX6_reasonOf 53 = .ok (.iload_n 3, 1) := by decide +kernel
theorem dX6_reasonOf_54 : decode cX6_reasonOf 54 = .ok (.invokevirtual 60, 3) := by decide +kernel
theorem dX6_reasonOf_57 : decode cX6_reasonOf 57 = .ok (.if_icmp .gt 20, 3) := by decide +kernel
theorem dX6_reasonOf_60 : decode cX6_reasonOf 60 = .ok (.iload 6, 2) := by decide +kernel
theorem dX6_reasonOf_62 : decode cX6_reasonOf 62 = .ok (.aload_n 0, 1) := by decide +kernel
theorem dX6_reasonOf_63 : decode cX6_reasonOf 63 = .ok (.iload_n 3, 1) := by decide +kernel
theorem dX6_reasonOf_64 : decode cX6_reasonOf 64 = .ok (.invokevirtual 60, 3) := by decide +kernel
theorem dX6_reasonOf_67 : decode cX6_reasonOf 67 = .ok (.aload_n 0, 1) := by decide +kernel
theorem dX6_reasonOf_68 : decode cX6_reasonOf 68 = .ok (.getfield 7, 3) := by decide +kernel
theorem dX6_reasonOf_71 : decode cX6_reasonOf 71 = .ok (.iconst 5, 1) := by decide +kernel
theorem dX6_reasonOf_72 : decode cX6_reasonOf 72 = .ok (.iaload, 1) := by decide +kernel
theorem dX6_reasonOf_73 : decode cX6_reasonOf 73 = .ok (.isub, 1) := by decide +kernel
theorem dX6_reasonOf_74 : decode cX6_reasonOf 74 = .ok (.if_icmp .gt 19, 3) := by decide +kernel
theorem dX6_reasonOf_77 : decode cX6_reasonOf 77 = .ok (.iload 6, 2) := by decide +kernel
theorem dX6_reasonOf_79 : decode cX6_reasonOf 79 = .ok (.aload_n 0, 1) := by decide +kernel
theorem dX6_reasonOf_80 : decode cX6_reasonOf 80 = .ok (.iload_n 3, 1) := by decide +kernel
theorem dX6_reasonOf_81 : decode cX6_reasonOf 81 = .ok (.invokevirtual 60, 3) := by decide +kernel
theorem dX6_reasonOf_84 : decode cX6_reasonOf 84 = .ok (.if_icmp .le 7, 3) := by decide +kernel
theorem dX6_reasonOf_87 : decode cX6_reasonOf 87 = .ok (.iconst 3, 1) := by decide +kernel
theorem dX6_reasonOf_88 : decode cX6_reasonOf 88 = .ok (.goto 4, 3) := by decide +kernel
theorem dX6_reasonOf_91 : decode cX6_reasonOf 91 = .ok (.iconst 4, 1) := by decide +kernel
theorem dX6_reasonOf_92 : decode cX6_reasonOf 92 = .ok (.ireturn, 1) := by decide +kernel
theorem dX6_reasonOf_93 : decode cX6_reasonOf 93 = .ok (.iload 5, 2) := by decide +kernel
theorem dX6_reasonOf_95 : decode cX6_reasonOf 95 = .ok (.aload_n 0, 1) := by decide +kernel
theorem dX6_reasonOf_96 : decode cX6_reasonOf 96 = .ok (.getfield 7, 3) := by decide +kernel
theorem dX6_reasonOf_99 : decode cX6_reasonOf 99 = .ok (.iconst 0, 1) := by decide +kernel
theorem dX6_reasonOf_100 : decode cX6_reasonOf 100 = .ok (.iaload, 1) := by decide +kernel
theorem dX6_reasonOf_101 : decode cX6_reasonOf 101 = .ok (.if_icmp .ne 5, 3) := by decide +kernel
theorem dX6_reasonOf_104 : decode cX6_reasonOf 104 = .ok (.iconst 0, 1) := by decide +kernel
theorem dX6_reasonOf_105 : decode cX6_reasonOf 105 = .ok (.ireturn, 1) := by decide +kernel
theorem dX6_reasonOf_106 : decode cX6_reasonOf 106 = .ok (.aload_n 0, 1) := by decide +kernel
theorem dX6_reasonOf_107 : decode cX6_reasonOf 107 = .ok (.iload 5, 2) := by decide +kernel
theorem dX6_reasonOf_109 : decode cX6_reasonOf 109 = .ok (.iload 4, 2) := by decide +kernel
theorem dX6_reasonOf_111 : decode cX6_reasonOf 111 = .ok (.invokevirtual 64, 3) := by decide +kernel
theorem dX6_reasonOf_114 : decode cX6_reasonOf 114 = .ok (.ifCond .ne 5, 3) := by decide +kernel
theorem dX6_reasonOf_117 : decode cX6_reasonOf 117 = .ok (.iconst 5, 1) := by decide +kernel
theorem dX6_reasonOf_118 : decode cX6_reasonOf 118 = .ok (.ireturn, 1) := by decide +kernel
theorem dX6_reasonOf_119 : decode cX6_reasonOf 119 = .ok (.iload_n 1, 1) := by decide +kernel
theorem dX6_reasonOf_120 : decode cX6_reasonOf 120 = .ok (.ifCond .le 28, 3) := by decide +kernel
theorem dX6_reasonOf_123 : decode cX6_reasonOf 123 = .ok (.aload_n 0, 1) := by decide +kernel
theorem dX6_reasonOf_124 : decode cX6_reasonOf 124 = .ok (.iload_n 1, 1) := by decide +kernel
theorem dX6_reasonOf_125 : decode cX6_reasonOf 125 = .ok (.iconst 1, 1) := by decide +kernel
theorem dX6_reasonOf_126 : decode cX6_reasonOf 126 = .ok (.isub, 1) := by decide +kernel
theorem dX6_reasonOf_127 : decode cX6_reasonOf 127 = .ok (.iconst 2, 1) := by decide +kernel
theorem dX6_reasonOf_128 : decode cX6_reasonOf 128 = .ok (.invokevirtual 43, 3) := by decide +kernel
theorem dX6_reasonOf_131 : decode cX6_reasonOf 131 = .ok (.aload_n 0, 1) := by decide +kernel
theorem dX6_reasonOf_132 : decode cX6_reasonOf 132 = .ok (.iload 5, 2) := by decide +kernel
theorem dX6_reasonOf_134 : decode cX6_reasonOf 134 = .ok (.iconst 1, 1) := by decide +kernel
theorem dX6_reasonOf_135 : decode cX6_reasonOf 135 = .ok (.isub, 1) := by decide +kernel
theorem dX6_reasonOf_136 : decode cX6_reasonOf 136 = .ok (.iconst 2, 1) := by decide +kernel
theorem dX6_reasonOf_137 : decode cX6_reasonOf 137 = .ok (.invokevirtual 43, 3) := by decide +kernel
theorem dX6_reasonOf_140 : decode cX6_reasonOf 140 = .ok (.if_icmp .ne 8, 3) := by decide +kernel
theorem dX6_reasonOf_143 : decode cX6_reasonOf 143 = .ok (.bipush 6, 2) := by decide +kernel
theorem dX6_reasonOf_145 : decode cX6_reasonOf 145 = .ok (.goto 4, 3) := by decide +kernel
theorem dX6_reasonOf_148 : decode cX6_reasonOf 148 = .ok (.iconst 0, 1) := by decide +kernel
theorem dX6_reasonOf_149 : decode cX6_reasonOf 149 = .ok (.ireturn, 1) := by decide +kernel
theorem dX6_reasonNow_0 : decode cX6_reasonNow 0 = .ok (.aload_n 0, 1) := by decide +kernel
theorem dX6_reasonNow_1 : decode cX6_reasonNow 1 = .ok (.aload_n 0, 1) := by decide +kernel
theorem dX6_reasonNow_2 : decode cX6_reasonNow 2 = .ok (.getfield 7, 3) := by decide +kernel
theorem dX6_reasonNow_5 : decode cX6_reasonNow 5 = .ok (.iconst 1, 1) := by decide +kernel
theorem dX6_reasonNow_6 : decode cX6_reasonNow 6 = .ok (.iaload, 1) := by decide +kernel
theorem dX6_reasonNow_7 : decode cX6_reasonNow 7 = .ok (.iload_n 1, 1) := by decide +kernel
theorem dX6_reasonNow_8 : decode cX6_reasonNow 8 = .ok (.aload_n 0, 1) := by decide +kernel
theorem dX6_reasonNow_9 : decode cX6_reasonNow 9 = .ok (.getfield 7, 3) := by decide +kernel
theorem dX6_reasonNow_12 : decode cX6_reasonNow 12 = .ok (.iconst 2, 1) := by decide +kernel
theorem dX6_reasonNow_13 : decode cX6_reasonNow 13 = .ok (.iaload, 1) := by decide +kernel
theorem dX6_reasonNow_14 : decode cX6_reasonNow 14 = .ok (.aload_n 0, 1) := by decide +kernel
theorem dX6_reasonNow_15 : decode cX6_reasonNow 15 = .ok (.getfield 7, 3) := by decide +kernel
theorem dX6_reasonNow_18 : decode cX6_reasonNow 18 = .ok (.iconst 3, 1) := by decide +kernel
theorem dX6_reasonNow_19 : decode cX6_reasonNow 19 = .ok (.iaload, 1) := by decide +kernel
theorem dX6_reasonNow_20 : decode cX6_reasonNow 20 = .ok (.invokevirtual 68, 3) := by decide +kernel
theorem dX6_reasonNow_23 : decode cX6_reasonNow 23 = .ok (.ireturn, 1) := by decide +kernel
theorem dX6_isToCome_0 : decode cX6_isToCome 0 = .ok (.iload_n 1, 1) := by decide +kernel
theorem dX6_isToCome_1 : decode cX6_isToCome 1 = .ok (.aload_n 0, 1) := by decide +kernel
theorem dX6_isToCome_2 : decode cX6_isToCome 2 = .ok (.getfield 7, 3) := by decide +kernel
theorem dX6_isToCome_5 : decode cX6_isToCome 5 = .ok (.iconst 1, 1) := by decide +kernel
theorem dX6_isToCome_6 : decode cX6_isToCome 6 = .ok (.iaload, 1) := by decide +kernel
theorem dX6_isToCome_7 : decode cX6_isToCome 7 = .ok (.aload_n 0, 1) := by decide +kernel
theorem dX6_isToCome_8 : decode cX6_isToCome 8 = .ok (.getfield 7, 3) := by decide +kernel
theorem dX6_isToCome_11 : decode cX6_isToCome 11 = .ok (.iconst 0, 1) := by decide +kernel
theorem dX6_isToCome_12 : decode cX6_isToCome 12 = .ok (.iaload, 1) := by decide +kernel
theorem dX6_isToCome_13 : decode cX6_isToCome 13 = .ok (.iconst 1, 1) := by decide +kernel
theorem dX6_isToCome_14 : decode cX6_isToCome 14 = .ok (.isub, 1) := by decide +kernel
theorem dX6_isToCome_15 : decode cX6_isToCome 15 = .ok (.invokestatic 72, 3) := by decide +kernel
theorem dX6_isToCome_18 : decode cX6_isToCome 18 = .ok (.ireturn, 1) := by decide +kernel
theorem dX6_opens_0 : decode cX6_opens 0 = .ok (.bipush 6, 2) := by decide +kernel
theorem dX6_opens_2 : decode cX6_opens 2 = .ok (.aload_n 0, 1) := by decide +kernel
theorem dX6_opens_3 : decode cX6_opens 3 = .ok (.getfield 7, 3) := by decide +kernel
theorem dX6_opens_6 : decode cX6_opens 6 = .ok (.iconst 0, 1) := by decide +kernel
theorem dX6_opens_7 : decode cX6_opens 7 = .ok (.iaload, 1) := by decide +kernel
theorem dX6_opens_8 : decode cX6_opens 8 = .ok (.imul, 1) := by decide +kernel
theorem dX6_opens_9 : decode cX6_opens 9 = .ok (.iconst 1, 1) := by decide +kernel
theorem dX6_opens_10 : decode cX6_opens 10 = .ok (.isub, 1) := by decide +kernel
theorem dX6_opens_11 : decode cX6_opens 11 = .ok (.istore 6, 2) := by decide +kernel
theorem dX6_opens_13 : decode cX6_opens 13 = .ok (.iload 6, 2) := by decide +kernel
theorem dX6_opens_15 : decode cX6_opens 15 = .ok (.bipush 6, 2) := by decide +kernel
theorem dX6_opens_17 : decode cX6_opens 17 = .ok (.iload_n 1, 1) := by decide +kernel
theorem dX6_opens_18 : decode cX6_opens 18 = .ok (.imul, 1) := by decide +kernel
theorem dX6_opens_19 : decode cX6_opens 19 = .ok (.if_icmp .lt 34, 3) := by decide +kernel
theorem dX6_opens_22 : decode cX6_opens 22 = .ok (.aload_n 0, 1) := by decide +kernel
theorem dX6_opens_23 : decode cX6_opens 23 = .ok (.getfield 7, 3) := by decide +kernel
theorem dX6_opens_26 : decode cX6_opens 26 = .ok (.sipush 137, 3) := by decide +kernel
theorem dX6_opens_29 : decode cX6_opens 29 = .ok (.iload 6, 2) := by decide +kernel
theorem dX6_opens_31 : decode cX6_opens 31 = .ok (.iadd, 1) := by decide +kernel
theorem dX6_opens_32 : decode cX6_opens 32 = .ok (.bipush 6, 2) := by decide +kernel
theorem dX6_opens_34 : decode cX6_opens 34 = .ok (.iadd, 1) := by decide +kernel
theorem dX6_opens_35 : decode cX6_opens 35 = .ok (.aload_n 0, 1) := by decide +kernel
theorem dX6_opens_36 : decode cX6_opens 36 = .ok (.getfield 7, 3) := by decide +kernel
theorem dX6_opens_39 : decode cX6_opens 39 = .ok (.sipush 137, 3) := by decide +kernel
theorem dX6_opens_42 : decode cX6_opens 42 = .ok (.iload 6, 2) := by decide +kernel
theorem dX6_opens_44 : decode cX6_opens 44 = .ok (.iadd, 1) := by decide +kernel
theorem dX6_opens_45 : decode cX6_opens 45 = .ok (.iaload, 1) := by decide +kernel
theorem dX6_opens_46 : decode cX6_opens 46 = .ok (.iastore, 1) := by decide +kernel
theorem dX6_opens_47 : decode cX6_opens 47 = .ok (.iinc 6 (-1), 3) := by decide +kernel
theorem dX6_opens_50 : decode cX6_opens 50 = .ok (.goto (-37), 3) := by decide +kernel
theorem dX6_opens_53 : decode cX6_opens 53 = .ok (.sipush 137, 3) := by decide +kernel
theorem dX6_opens_56 : decode cX6_opens 56 = .ok (.bipush 6, 2) := by decide +kernel
theorem dX6_opens_58 : decode cX6_opens 58 = .ok (.iload_n 1, 1) := by decide +kernel
theorem dX6_opens_59 : decode cX6_opens 59 = .ok (.imul, 1) := by decide +kernel
theorem dX6_opens_60 : decode cX6_opens 60 = .ok (.iadd, 1) := by decide +kernel
theorem dX6_opens_61 : decode cX6_opens 61 = .ok (.istore 6, 2) := by decide +kernel
theorem dX6_opens_63 : decode cX6_opens 63 = .ok (.aload_n 0, 1) := by decide +kernel
theorem dX6_opens_64 : decode cX6_opens 64 = .ok (.getfield 7, 3) := by decide +kernel
theorem dX6_opens_67 : decode cX6_opens 67 = .ok (.iload 6, 2) := by decide +kernel
theorem dX6_opens_69 : decode cX6_opens 69 = .ok (.iload_n 2, 1) := by decide +kernel
theorem dX6_opens_70 : decode cX6_opens 70 = .ok (.iastore, 1) := by decide +kernel
theorem dX6_opens_71 : decode cX6_opens 71 = .ok (.aload_n 0, 1) := by decide +kernel
theorem dX6_opens_72 : decode cX6_opens 72 = .ok (.getfield 7, 3) := by decide +kernel
theorem dX6_opens_75 : decode cX6_opens 75 = .ok (.iload 6, 2) := by decide +kernel
theorem dX6_opens_77 : decode cX6_opens 77 = .ok (.iconst 1, 1) := by decide +kernel
theorem dX6_opens_78 : decode cX6_opens 78 = .ok (.iadd, 1) := by decide +kernel
theorem dX6_opens_79 : decode cX6_opens 79 = .ok (.iload_n 3, 1) := by decide +kernel
theorem dX6_opens_80 : decode cX6_opens 80 = .ok (.iastore, 1) := by decide +kernel
theorem dX6_opens_81 : decode cX6_opens 81 = .ok (.aload_n 0, 1) := by decide +kernel
theorem dX6_opens_82 : decode cX6_opens 82 = .ok (.getfield 7, 3) := by decide +kernel
theorem dX6_opens_85 : decode cX6_opens 85 = .ok (.iload 6, 2) := by decide +kernel
theorem dX6_opens_87 : decode cX6_opens 87 = .ok (.iconst 2, 1) := by decide +kernel
theorem dX6_opens_88 : decode cX6_opens 88 = .ok (.iadd, 1) := by decide +kernel
theorem dX6_opens_89 : decode cX6_opens 89 = .ok (.iload 4, 2) := by decide +kernel
theorem dX6_opens_91 : decode cX6_opens 91 = .ok (.iastore, 1) := by decide +kernel
theorem dX6_opens_92 : decode cX6_opens 92 = .ok (.aload_n 0, 1) := by decide +kernel
theorem dX6_opens_93 : decode cX6_opens 93 = .ok (.getfield 7, 3) := by decide +kernel
theorem dX6_opens_96 : decode cX6_opens 96 = .ok (.iload 6, 2) := by decide +kernel
theorem dX6_opens_98 : decode cX6_opens 98 = .ok (.iconst 3, 1) := by decide +kernel
theorem dX6_opens_99 : decode cX6_opens 99 = .ok (.iadd, 1) := by decide +kernel
theorem dX6_opens_100 : decode cX6_opens 100 = .ok (.iload 5, 2) := by decide +kernel
theorem dX6_opens_102 : decode cX6_opens 102 = .ok (.iastore, 1) := by decide +kernel
theorem dX6_opens_103 : decode cX6_opens 103 = .ok (.aload_n 0, 1) := by decide +kernel
theorem dX6_opens_104 : decode cX6_opens 104 = .ok (.getfield 7, 3) := by decide +kernel
theorem dX6_opens_107 : decode cX6_opens 107 = .ok (.iload 6, 2) := by decide +kernel
theorem dX6_opens_109 : decode cX6_opens 109 = .ok (.iconst 4, 1) := by decide +kernel
theorem dX6_opens_110 : decode cX6_opens 110 = .ok (.iadd, 1) := by decide +kernel
theorem dX6_opens_111 : decode cX6_opens 111 = .ok (.iconst 0, 1) := by decide +kernel
theorem dX6_opens_112 : decode cX6_opens 112 = .ok (.iastore, 1) := by decide +kernel
theorem dX6_opens_113 : decode cX6_opens 113 = .ok (.aload_n 0, 1) := by decide +kernel
theorem dX6_opens_114 : decode cX6_opens 114 = .ok (.getfield 7, 3) := by decide +kernel
theorem dX6_opens_117 : decode cX6_opens 117 = .ok (.iload 6, 2) := by decide +kernel
theorem dX6_opens_119 : decode cX6_opens 119 = .ok (.iconst 5, 1) := by decide +kernel
theorem dX6_opens_120 : decode cX6_opens 120 = .ok (.iadd, 1) := by decide +kernel
theorem dX6_opens_121 : decode cX6_opens 121 = .ok (.ldc 38, 2) := by decide +kernel
theorem dX6_opens_123 : decode cX6_opens 123 = .ok (.iastore, 1) := by decide +kernel
theorem dX6_opens_124 : decode cX6_opens 124 = .ok (.aload_n 0, 1) := by decide +kernel
theorem dX6_opens_125 : decode cX6_opens 125 = .ok (.getfield 7, 3) := by decide +kernel
theorem dX6_opens_128 : decode cX6_opens 128 = .ok (.iconst 0, 1) := by decide +kernel
theorem dX6_opens_129 : decode cX6_opens 129 = .ok (.dup2, 1) := by decide +kernel
theorem dX6_opens_130 : decode cX6_opens 130 = .ok (.iaload, 1) := by decide +kernel
theorem dX6_opens_131 : decode cX6_opens 131 = .ok (.iconst 1, 1) := by decide +kernel
theorem dX6_opens_132 : decode cX6_opens 132 = .ok (.iadd, 1) := by decide +kernel
theorem dX6_opens_133 : decode cX6_opens 133 = .ok (.iastore, 1) := by decide +kernel
theorem dX6_opens_134 : decode cX6_opens 134 = .ok (.return_, 1) := by decide +kernel
theorem dX6_insert_0 : decode cX6_insert 0 = .ok (.iload_n 1, 1) := by decide +kernel
theorem dX6_insert_1 : decode cX6_insert 1 = .ok (.aload_n 0, 1) := by decide +kernel
theorem dX6_insert_2 : decode cX6_insert 2 = .ok (.getfield 7, 3) := by decide +kernel
theorem dX6_insert_5 : decode cX6_insert 5 = .ok (.iconst 1, 1) := by decide +kernel
theorem dX6_insert_6 : decode cX6_insert 6 = .ok (.iaload, 1) := by decide +kernel
theorem dX6_insert_7 : decode cX6_insert 7 = .ok (.aload_n 0, 1) := by decide +kernel
theorem dX6_insert_8 : decode cX6_insert 8 = .ok (.getfield 7, 3) := by decide +kernel
theorem dX6_insert_11 : decode cX6_insert 11 = .ok (.iconst 0, 1) := by decide +kernel
theorem dX6_insert_12 : decode cX6_insert 12 = .ok (.iaload, 1) := by decide +kernel
theorem dX6_insert_13 : decode cX6_insert 13 = .ok (.invokestatic 72, 3) := by decide +kernel
theorem dX6_insert_16 : decode cX6_insert 16 = .ok (.ifCond .eq 46, 3) := by decide +kernel
theorem dX6_insert_19 : decode cX6_insert 19 = .ok (.iload_n 2, 1) := by decide +kernel
theorem dX6_insert_20 : decode cX6_insert 20 = .ok (.iconst 1, 1) := by decide +kernel
theorem dX6_insert_21 : decode cX6_insert 21 = .ok (.sipush 999, 3) := by decide +kernel
theorem dX6_insert_24 : decode cX6_insert 24 = .ok (.invokestatic 72, 3) := by decide +kernel
theorem dX6_insert_27 : decode cX6_insert 27 = .ok (.ifCond .eq 35, 3) := by decide +kernel
theorem dX6_insert_30 : decode cX6_insert 30 = .ok (.iload_n 3, 1) := by decide +kernel
theorem dX6_insert_31 : decode cX6_insert 31 = .ok (.iconst 0, 1) := by decide +kernel
theorem dX6_insert_32 : decode cX6_insert 32 = .ok (.iload_n 2, 1) := by decide +kernel
theorem dX6_insert_33 : decode cX6_insert 33 = .ok (.iconst 1, 1) := by decide +kernel
theorem dX6_insert_34 : decode cX6_insert 34 = .ok (.isub, 1) := by decide +kernel
theorem dX6_insert_35 : decode cX6_insert 35 = .ok (.invokestatic 72, 3) := by decide +kernel
theorem dX6_insert_38 : decode cX6_insert 38 = .ok (.ifCond .eq 24, 3) := by decide +kernel
theorem dX6_insert_41 : decode cX6_insert 41 = .ok (.iload 4, 2) := by decide +kernel
theorem dX6_insert_43 : decode cX6_insert 43 = .ok (.iconst 0, 1) := by decide +kernel
theorem dX6_insert_44 : decode cX6_insert 44 = .ok (.iconst 5, 1) := by decide +kernel
theorem dX6_insert_45 : decode cX6_insert 45 = .ok (.invokestatic 72, 3) := by decide +kernel
theorem dX6_insert_48 : decode cX6_insert 48 = .ok (.ifCond .eq 14, 3) := by decide +kernel
theorem dX6_insert_51 : decode cX6_insert 51 = .ok (.iload 5, 2) := by decide +kernel
theorem dX6_insert_53 : decode cX6_insert 53 = .ok (.iconst 0, 1) := by decide +kernel
theorem dX6_insert_54 : decode cX6_insert 54 = .ok (.bipush 9, 2) := by decide +kernel
theorem dX6_insert_56 : decode cX6_insert 56 = .ok (.invokestatic 72, 3) := by decide +kernel
theorem dX6_insert_59 : decode cX6_insert 59 = .ok (.ifCond .ne 6, 3) := by decide +kernel
theorem dX6_insert_62 : decode cX6_insert 62 = .ok (.ldc 76, 2) := by decide +kernel
theorem dX6_insert_64 : decode cX6_insert 64 = .ok (.ireturn, 1) := by decide +kernel
theorem dX6_insert_65 : decode cX6_insert 65 = .ok (.aload_n 0, 1) := by decide +kernel
theorem dX6_insert_66 : decode cX6_insert 66 = .ok (.getfield 7, 3) := by decide +kernel
theorem dX6_insert_69 : decode cX6_insert 69 = .ok (.iconst 4, 1) := by decide +kernel
theorem dX6_insert_70 : decode cX6_insert 70 = .ok (.iaload, 1) := by decide +kernel
theorem dX6_insert_71 : decode cX6_insert 71 = .ok (.ifCond .le 6, 3) := by decide +kernel
theorem dX6_insert_74 : decode cX6_insert 74 = .ok (.ldc 77, 2) := by decide +kernel
theorem dX6_insert_76 : decode cX6_insert 76 = .ok (.ireturn, 1) := by decide +kernel
theorem dX6_insert_77 : decode cX6_insert 77 = .ok (.aload_n 0, 1) := by decide +kernel
theorem dX6_insert_78 : decode cX6_insert 78 = .ok (.getfield 7, 3) := by decide +kernel
theorem dX6_insert_81 : decode cX6_insert 81 = .ok (.iconst 0, 1) := by decide +kernel
theorem dX6_insert_82 : decode cX6_insert 82 = .ok (.iaload, 1) := by decide +kernel
theorem dX6_insert_83 : decode cX6_insert 83 = .ok (.bipush 20, 2) := by decide +kernel
theorem dX6_insert_85 : decode cX6_insert 85 = .ok (.if_icmp .ne 6, 3) := by decide +kernel
theorem dX6_insert_88 : decode cX6_insert 88 = .ok (.ldc 78, 2) := by decide +kernel
theorem dX6_insert_90 : decode cX6_insert 90 = .ok (.ireturn, 1) := by decide +kernel
theorem dX6_insert_91 : decode cX6_insert 91 = .ok (.aload_n 0, 1) := by decide +kernel
theorem dX6_insert_92 : decode cX6_insert 92 = .ok (.invokevirtual 79, 3) := by decide +kernel
theorem dX6_insert_95 : decode cX6_insert 95 = .ok (.aload_n 0, 1) := by decide +kernel
theorem dX6_insert_96 : decode cX6_insert 96 = .ok (.iload_n 1, 1) := by decide +kernel
theorem dX6_insert_97 : decode cX6_insert 97 = .ok (.iload_n 2, 1) := by decide +kernel
theorem dX6_insert_98 : decode cX6_insert 98 = .ok (.iload_n 3, 1) := by decide +kernel
theorem dX6_insert_99 : decode cX6_insert 99 = .ok (.iload 4, 2) := by decide +kernel
theorem dX6_insert_101 : decode cX6_insert 101 = .ok (.iload 5, 2) := by decide +kernel
theorem dX6_insert_103 : decode cX6_insert 103 = .ok (.invokevirtual 82, 3) := by decide +kernel
theorem dX6_insert_106 : decode cX6_insert 106 = .ok (.aload_n 0, 1) := by decide +kernel
theorem dX6_insert_107 : decode cX6_insert 107 = .ok (.aload_n 0, 1) := by decide +kernel
theorem dX6_insert_108 : decode cX6_insert 108 = .ok (.getfield 7, 3) := by decide +kernel
theorem dX6_insert_111 : decode cX6_insert 111 = .ok (.iconst 0, 1) := by decide +kernel
theorem dX6_insert_112 : decode cX6_insert 112 = .ok (.iaload, 1) := by decide +kernel
theorem dX6_insert_113 : decode cX6_insert 113 = .ok (.invokevirtual 86, 3) := by decide +kernel
theorem dX6_insert_116 : decode cX6_insert 116 = .ok (.ireturn, 1) := by decide +kernel
theorem dX6_remove_0 : decode cX6_remove 0 = .ok (.aload_n 0, 1) := by decide +kernel
theorem dX6_remove_1 : decode cX6_remove 1 = .ok (.iload_n 1, 1) := by decide +kernel
theorem dX6_remove_2 : decode cX6_remove 2 = .ok (.invokevirtual 89, 3) := by decide +kernel
theorem dX6_remove_5 : decode cX6_remove 5 = .ok (.ifCond .ne 6, 3) := by decide +kernel
theorem dX6_remove_8 : decode cX6_remove 8 = .ok (.ldc 76, 2) := by decide +kernel
theorem dX6_remove_10 : decode cX6_remove 10 = .ok (.ireturn, 1) := by decide +kernel
theorem dX6_remove_11 : decode cX6_remove 11 = .ok (.aload_n 0, 1) := by decide +kernel
theorem dX6_remove_12 : decode cX6_remove 12 = .ok (.getfield 7, 3) := by decide +kernel
theorem dX6_remove_15 : decode cX6_remove 15 = .ok (.iconst 4, 1) := by decide +kernel
theorem dX6_remove_16 : decode cX6_remove 16 = .ok (.iaload, 1) := by decide +kernel
theorem dX6_remove_17 : decode cX6_remove 17 = .ok (.ifCond .le 6, 3) := by decide +kernel
theorem dX6_remove_20 : decode cX6_remove 20 = .ok (.ldc 77, 2) := by decide +kernel
theorem dX6_remove_22 : decode cX6_remove 22 = .ok (.ireturn, 1) := by decide +kernel
theorem dX6_remove_23 : decode cX6_remove 23 = .ok (.aload_n 0, 1) := by decide +kernel
theorem dX6_remove_24 : decode cX6_remove 24 = .ok (.invokevirtual 79, 3) := by decide +kernel
theorem dX6_remove_27 : decode cX6_remove 27 = .ok (.bipush 6, 2) := by decide +kernel
theorem dX6_remove_29 : decode cX6_remove 29 = .ok (.iload_n 1, 1) := by decide +kernel
theorem dX6_remove_30 : decode cX6_remove 30 = .ok (.imul, 1) := by decide +kernel
theorem dX6_remove_31 : decode cX6_remove 31 = .ok (.istore_n 2, 1) := by decide +kernel
theorem dX6_remove_32 : decode cX6_remove 32 = .ok (.iload_n 2, 1) := by decide +kernel
theorem dX6_remove_33 : decode cX6_remove 33 = .ok (.bipush 6, 2) := by decide +kernel
theorem dX6_remove_35 : decode cX6_remove 35 = .ok (.aload_n 0, 1) := by decide +kernel
theorem dX6_remove_36 : decode cX6_remove 36 = .ok (.getfield 7, 3) := by decide +kernel
theorem dX6_remove_39 : decode cX6_remove 39 = .ok (.iconst 0, 1) := by decide +kernel
theorem dX6_remove_40 : decode cX6_remove 40 = .ok (.iaload, 1) := by decide +kernel
theorem dX6_remove_41 : decode cX6_remove 41 = .ok (.imul, 1) := by decide +kernel
theorem dX6_remove_42 : decode cX6_remove 42 = .ok (.bipush 6, 2) := by decide +kernel
theorem dX6_remove_44 : decode cX6_remove 44 = .ok (.isub, 1) := by decide +kernel
theorem dX6_remove_45 : decode cX6_remove 45 = .ok (.if_icmp .ge 32, 3) := by decide +kernel
theorem dX6_remove_48 : decode cX6_remove 48 = .ok (.aload_n 0, 1) := by decide +kernel
theorem dX6_remove_49 : decode cX6_remove 49 = .ok (.getfield 7, 3) := by decide +kernel
theorem dX6_remove_52 : decode cX6_remove 52 = .ok (.sipush 137, 3) := by decide +kernel
theorem dX6_remove_55 : decode cX6_remove 55 = .ok (.iload_n 2, 1) := by decide +kernel
theorem dX6_remove_56 : decode cX6_remove 56 = .ok (.iadd, 1) := by decide +kernel
theorem dX6_remove_57 : decode cX6_remove 57 = .ok (.aload_n 0, 1) := by decide +kernel
theorem dX6_remove_58 : decode cX6_remove 58 = .ok (.getfield 7, 3) := by decide +kernel
theorem dX6_remove_61 : decode cX6_remove 61 = .ok (.sipush 137, 3) := by decide +kernel
theorem dX6_remove_64 : decode cX6_remove 64 = .ok (.iload_n 2, 1) := by decide +kernel
theorem dX6_remove_65 : decode cX6_remove 65 = .ok (.iadd, 1) := by decide +kernel
theorem dX6_remove_66 : decode cX6_remove 66 = .ok (.bipush 6, 2) := by decide +kernel
theorem dX6_remove_68 : decode cX6_remove 68 = .ok (.iadd, 1) := by decide +kernel
theorem dX6_remove_69 : decode cX6_remove 69 = .ok (.iaload, 1) := by decide +kernel
theorem dX6_remove_70 : decode cX6_remove 70 = .ok (.iastore, 1) := by decide +kernel
theorem dX6_remove_71 : decode cX6_remove 71 = .ok (.iinc 2 1, 3) := by decide +kernel
theorem dX6_remove_74 : decode cX6_remove 74 = .ok (.goto (-42), 3) := by decide +kernel
theorem dX6_remove_77 : decode cX6_remove 77 = .ok (.aload_n 0, 1) := by decide +kernel
theorem dX6_remove_78 : decode cX6_remove 78 = .ok (.getfield 7, 3) := by decide +kernel
theorem dX6_remove_81 : decode cX6_remove 81 = .ok (.iconst 0, 1) := by decide +kernel
theorem dX6_remove_82 : decode cX6_remove 82 = .ok (.dup2, 1) := by decide +kernel
theorem dX6_remove_83 : decode cX6_remove 83 = .ok (.iaload, 1) := by decide +kernel
theorem dX6_remove_84 : decode cX6_remove 84 = .ok (.iconst 1, 1) := by decide +kernel
theorem dX6_remove_85 : decode cX6_remove 85 = .ok (.isub, 1) := by decide +kernel
theorem dX6_remove_86 : decode cX6_remove 86 = .ok (.iastore, 1) := by decide +kernel
theorem dX6_remove_87 : decode cX6_remove 87 = .ok (.aload_n 0, 1) := by decide +kernel
theorem dX6_remove_88 : decode cX6_remove 88 = .ok (.aload_n 0, 1) := by decide +kernel
theorem dX6_remove_89 : decode cX6_remove 89 = .ok (.getfield 7, 3) := by decide +kernel
theorem dX6_remove_92 : decode cX6_remove 92 = .ok (.iconst 0, 1) := by decide +kernel
theorem dX6_remove_93 : decode cX6_remove 93 = .ok (.iaload, 1) := by decide +kernel
theorem dX6_remove_94 : decode cX6_remove 94 = .ok (.invokevirtual 86, 3) := by decide +kernel
theorem dX6_remove_97 : decode cX6_remove 97 = .ok (.ireturn, 1) := by decide +kernel
theorem dX6_change_0 : decode cX6_change 0 = .ok (.aload_n 0, 1) := by decide +kernel
theorem dX6_change_1 : decode cX6_change 1 = .ok (.iload_n 1, 1) := by decide +kernel
theorem dX6_change_2 : decode cX6_change 2 = .ok (.invokevirtual 89, 3) := by decide +kernel
theorem dX6_change_5 : decode cX6_change 5 = .ok (.ifCond .eq 12, 3) := by decide +kernel
theorem dX6_change_8 : decode cX6_change 8 = .ok (.iload_n 2, 1) := by decide +kernel
theorem dX6_change_9 : decode cX6_change 9 = .ok (.iconst 0, 1) := by decide +kernel
theorem dX6_change_10 : decode cX6_change 10 = .ok (.iconst 3, 1) := by decide +kernel
theorem dX6_change_11 : decode cX6_change 11 = .ok (.invokestatic 72, 3) := by decide +kernel
theorem dX6_change_14 : decode cX6_change 14 = .ok (.ifCond .ne 6, 3) := by decide +kernel
theorem dX6_change_17 : decode cX6_change 17 = .ok (.ldc 76, 2) := by decide +kernel
theorem dX6_change_19 : decode cX6_change 19 = .ok (.ireturn, 1) := by decide +kernel
theorem dX6_change_20 : decode cX6_change 20 = .ok (.iload_n 2, 1) := by decide +kernel
theorem dX6_change_21 : decode cX6_change 21 = .ok (.ifCond .ne 14, 3) := by decide +kernel
theorem dX6_change_24 : decode cX6_change 24 = .ok (.aload_n 0, 1) := by decide +kernel
theorem dX6_change_25 : decode cX6_change 25 = .ok (.iload_n 1, 1) := by decide +kernel
theorem dX6_change_26 : decode cX6_change 26 = .ok (.iconst 1, 1) := by decide +kernel
theorem dX6_change_27 : decode cX6_change 27 = .ok (.invokevirtual 43, 3) := by decide +kernel
theorem dX6_change_30 : decode cX6_change 30 = .ok (.iconst 1, 1) := by decide +kernel
theorem dX6_change_31 : decode cX6_change 31 = .ok (.iadd, 1) := by decide +kernel
theorem dX6_change_32 : decode cX6_change 32 = .ok (.goto 4, 3) := by decide +kernel
theorem dX6_change_35 : decode cX6_change 35 = .ok (.iconst 0, 1) := by decide +kernel
theorem dX6_change_36 : decode cX6_change 36 = .ok (.istore 4, 2) := by decide +kernel
theorem dX6_change_38 : decode cX6_change 38 = .ok (.iload_n 2, 1) := by decide +kernel
theorem dX6_change_39 : decode cX6_change 39 = .ok (.ifCond .ne 9, 3) := by decide +kernel
theorem dX6_change_42 : decode cX6_change 42 = .ok (.sipush 999, 3) := by decide +kernel
theorem dX6_change_45 : decode cX6_change 45 = .ok (.goto 30, 3) := by decide +kernel
theorem dX6_change_48 : decode cX6_change 48 = .ok (.iload_n 2, 1) := by decide +kernel
theorem dX6_change_49 : decode cX6_change 49 = .ok (.iconst 1, 1) := by decide +kernel
theorem dX6_change_50 : decode cX6_change 50 = .ok (.if_icmp .ne 14, 3) := by decide +kernel
theorem dX6_change_53 : decode cX6_change 53 = .ok (.aload_n 0, 1) := by decide +kernel
theorem dX6_change_54 : decode cX6_change 54 = .ok (.iload_n 1, 1) := by decide +kernel
theorem dX6_change_55 : decode cX6_change 55 = .ok (.iconst 0, 1) := by decide +kernel
theorem dX6_change_56 : decode cX6_change 56 = .ok (.invokevirtual 43, 3) := by decide +kernel
theorem dX6_change_59 : decode cX6_change 59 = .ok (.iconst 1, 1) := by decide +kernel
theorem dX6_change_60 : decode cX6_change 60 = .ok (.isub, 1) := by decide +kernel
theorem dX6_change_61 : decode cX6_change 61 = .ok (.goto 14, 3) := by decide +kernel
theorem dX6_change_64 : decode cX6_change 64 = .ok (.iload_n 2, 1) := by decide +kernel
theorem dX6_change_65 : decode cX6_change 65 = .ok (.iconst 2, 1) := by decide +kernel
theorem dX6_change_66 : decode cX6_change 66 = .ok (.if_icmp .ne 7, 3) := by decide +kernel
theorem dX6_change_69 : decode cX6_change 69 = .ok (.iconst 5, 1) := by decide +kernel
theorem dX6_change_70 : decode cX6_change 70 = .ok (.goto 5, 3) := by decide +kernel
theorem dX6_change_73 : decode cX6_change 73 = .ok (.bipush 9, 2) := by decide +kernel
theorem dX6_change_75 : decode cX6_change 75 = .ok (.istore 5, 2) := by decide +kernel
theorem dX6_change_77 : decode cX6_change 77 = .ok (.iload_n 3, 1) := by decide +kernel
theorem dX6_change_78 : decode cX6_change 78 = .ok (.iload 4, 2) := by decide +kernel
theorem dX6_change_80 : decode cX6_change 80 = .ok (.iload 5, 2) := by decide +kernel
theorem dX6_change_82 : decode cX6_change 82 = .ok (.invokestatic 72, 3) := by decide +kernel
theorem dX6_change_85 : decode cX6_change 85 = .ok (.ifCond .ne 6, 3) := by decide +kernel
theorem dX6_change_88 : decode cX6_change 88 = .ok (.ldc 76, 2) := by decide +kernel
theorem dX6_change_90 : decode cX6_change 90 = .ok (.ireturn, 1) := by decide +kernel
theorem dX6_change_91 : decode cX6_change 91 = .ok (.aload_n 0, 1) := by decide +kernel
theorem dX6_change_92 : decode cX6_change 92 = .ok (.getfield 7, 3) := by decide +kernel
theorem dX6_change_95 : decode cX6_change 95 = .ok (.iconst 4, 1) := by decide +kernel
theorem dX6_change_96 : decode cX6_change 96 = .ok (.iaload, 1) := by decide +kernel
theorem dX6_change_97 : decode cX6_change 97 = .ok (.ifCond .le 6, 3) := by decide +kernel
theorem dX6_change_100 : decode cX6_change 100 = .ok (.ldc 77, 2) := by decide +kernel
theorem dX6_change_102 : decode cX6_change 102 = .ok (.ireturn, 1) := by decide +kernel
theorem dX6_change_103 : decode cX6_change 103 = .ok (.aload_n 0, 1) := by decide +kernel
theorem dX6_change_104 : decode cX6_change 104 = .ok (.invokevirtual 79, 3) := by decide +kernel
theorem dX6_change_107 : decode cX6_change 107 = .ok (.aload_n 0, 1) := by decide +kernel
theorem dX6_change_108 : decode cX6_change 108 = .ok (.iload_n 1, 1) := by decide +kernel
theorem dX6_change_109 : decode cX6_change 109 = .ok (.iload_n 2, 1) := by decide +kernel
theorem dX6_change_110 : decode cX6_change 110 = .ok (.invokevirtual 43, 3) := by decide +kernel
theorem dX6_change_113 : decode cX6_change 113 = .ok (.istore 6, 2) := by decide +kernel
theorem dX6_change_115 : decode cX6_change 115 = .ok (.aload_n 0, 1) := by decide +kernel
theorem dX6_change_116 : decode cX6_change 116 = .ok (.getfield 7, 3) := by decide +kernel
theorem dX6_change_119 : decode cX6_change 119 = .ok (.sipush 137, 3) := by decide +kernel
theorem dX6_change_122 : decode cX6_change 122 = .ok (.bipush 6, 2) := by decide +kernel
theorem dX6_change_124 : decode cX6_change 124 = .ok (.iload_n 1, 1) := by decide +kernel
theorem dX6_change_125 : decode cX6_change 125 = .ok (.imul, 1) := by decide +kernel
theorem dX6_change_126 : decode cX6_change 126 = .ok (.iadd, 1) := by decide +kernel
theorem dX6_change_127 : decode cX6_change 127 = .ok (.iload_n 2, 1) := by decide +kernel
theorem dX6_change_128 : decode cX6_change 128 = .ok (.iadd, 1) := by decide +kernel
theorem dX6_change_129 : decode cX6_change 129 = .ok (.iload_n 3, 1) := by decide +kernel
theorem dX6_change_130 : decode cX6_change 130 = .ok (.iastore, 1) := by decide +kernel
theorem dX6_change_131 : decode cX6_change 131 = .ok (.aload_n 0, 1) := by decide +kernel
theorem dX6_change_132 : decode cX6_change 132 = .ok (.iload 6, 2) := by decide +kernel
theorem dX6_change_134 : decode cX6_change 134 = .ok (.invokevirtual 86, 3) := by decide +kernel
theorem dX6_change_137 : decode cX6_change 137 = .ok (.ireturn, 1) := by decide +kernel
theorem dX6_setWeek_0 : decode cX6_setWeek 0 = .ok (.iload_n 1, 1) := by decide +kernel
theorem dX6_setWeek_1 : decode cX6_setWeek 1 = .ok (.aload_n 0, 1) := by decide +kernel
theorem dX6_setWeek_2 : decode cX6_setWeek 2 = .ok (.getfield 7, 3) := by decide +kernel
theorem dX6_setWeek_5 : decode cX6_setWeek 5 = .ok (.iconst 2, 1) := by decide +kernel
theorem dX6_setWeek_6 : decode cX6_setWeek 6 = .ok (.iaload, 1) := by decide +kernel
theorem dX6_setWeek_7 : decode cX6_setWeek 7 = .ok (.bipush 29, 2) := by decide +kernel
theorem dX6_setWeek_9 : decode cX6_setWeek 9 = .ok (.invokestatic 72, 3) := by decide +kernel
theorem dX6_setWeek_12 : decode cX6_setWeek 12 = .ok (.ifCond .eq 23, 3) := by decide +kernel
theorem dX6_setWeek_15 : decode cX6_setWeek 15 = .ok (.iload_n 2, 1) := by decide +kernel
theorem dX6_setWeek_16 : decode cX6_setWeek 16 = .ok (.iconst 1, 1) := by decide +kernel
theorem dX6_setWeek_17 : decode cX6_setWeek 17 = .ok (.iconst 4, 1) := by decide +kernel
theorem dX6_setWeek_18 : decode cX6_setWeek 18 = .ok (.invokestatic 72, 3) := by decide +kernel
theorem dX6_setWeek_21 : decode cX6_setWeek 21 = .ok (.ifCond .eq 14, 3) := by decide +kernel
theorem dX6_setWeek_24 : decode cX6_setWeek 24 = .ok (.iload_n 3, 1) := by decide +kernel
theorem dX6_setWeek_25 : decode cX6_setWeek 25 = .ok (.iconst 0, 1) := by decide +kernel
theorem dX6_setWeek_26 : decode cX6_setWeek 26 = .ok (.sipush 999, 3) := by decide +kernel
theorem dX6_setWeek_29 : decode cX6_setWeek 29 = .ok (.invokestatic 72, 3) := by decide +kernel
theorem dX6_setWeek_32 : decode cX6_setWeek 32 = .ok (.ifCond .ne 6, 3) := by decide +kernel
theorem dX6_setWeek_35 : decode cX6_setWeek 35 = .ok (.ldc 76, 2) := by decide +kernel
theorem dX6_setWeek_37 : decode cX6_setWeek 37 = .ok (.ireturn, 1) := by decide +kernel
theorem dX6_setWeek_38 : decode cX6_setWeek 38 = .ok (.aload_n 0, 1) := by decide +kernel
theorem dX6_setWeek_39 : decode cX6_setWeek 39 = .ok (.invokevirtual 79, 3) := by decide +kernel
theorem dX6_setWeek_42 : decode cX6_setWeek 42 = .ok (.aload_n 0, 1) := by decide +kernel
theorem dX6_setWeek_43 : decode cX6_setWeek 43 = .ok (.getfield 7, 3) := by decide +kernel
theorem dX6_setWeek_46 : decode cX6_setWeek 46 = .ok (.bipush 17, 2) := by decide +kernel
theorem dX6_setWeek_48 : decode cX6_setWeek 48 = .ok (.iconst 4, 1) := by decide +kernel
theorem dX6_setWeek_49 : decode cX6_setWeek 49 = .ok (.iload_n 1, 1) := by decide +kernel
theorem dX6_setWeek_50 : decode cX6_setWeek 50 = .ok (.imul, 1) := by decide +kernel
theorem dX6_setWeek_51 : decode cX6_setWeek 51 = .ok (.iadd, 1) := by decide +kernel
theorem dX6_setWeek_52 : decode cX6_setWeek 52 = .ok (.iload_n 2, 1) := by decide +kernel
theorem dX6_setWeek_53 : decode cX6_setWeek 53 = .ok (.iastore, 1) := by decide +kernel
theorem dX6_setWeek_54 : decode cX6_setWeek 54 = .ok (.aload_n 0, 1) := by decide +kernel
theorem dX6_setWeek_55 : decode cX6_setWeek 55 = .ok (.getfield 7, 3) := by decide +kernel
theorem dX6_setWeek_58 : decode cX6_setWeek 58 = .ok (.bipush 17, 2) := by decide +kernel
theorem dX6_setWeek_60 : decode cX6_setWeek 60 = .ok (.iconst 4, 1) := by decide +kernel
theorem dX6_setWeek_61 : decode cX6_setWeek 61 = .ok (.iload_n 1, 1) := by decide +kernel
theorem dX6_setWeek_62 : decode cX6_setWeek 62 = .ok (.imul, 1) := by decide +kernel
theorem dX6_setWeek_63 : decode cX6_setWeek 63 = .ok (.iadd, 1) := by decide +kernel
theorem dX6_setWeek_64 : decode cX6_setWeek 64 = .ok (.iconst 1, 1) := by decide +kernel
theorem dX6_setWeek_65 : decode cX6_setWeek 65 = .ok (.iadd, 1) := by decide +kernel
theorem dX6_setWeek_66 : decode cX6_setWeek 66 = .ok (.iload_n 3, 1) := by decide +kernel
theorem dX6_setWeek_67 : decode cX6_setWeek 67 = .ok (.iastore, 1) := by decide +kernel
theorem dX6_setWeek_68 : decode cX6_setWeek 68 = .ok (.aload_n 0, 1) := by decide +kernel
theorem dX6_setWeek_69 : decode cX6_setWeek 69 = .ok (.aload_n 0, 1) := by decide +kernel
theorem dX6_setWeek_70 : decode cX6_setWeek 70 = .ok (.iload_n 1, 1) := by decide +kernel
theorem dX6_setWeek_71 : decode cX6_setWeek 71 = .ok (.invokevirtual 60, 3) := by decide +kernel
theorem dX6_setWeek_74 : decode cX6_setWeek 74 = .ok (.invokevirtual 86, 3) := by decide +kernel
theorem dX6_setWeek_77 : decode cX6_setWeek 77 = .ok (.ireturn, 1) := by decide +kernel
theorem dX6_setNumber_0 : decode cX6_setNumber 0 = .ok (.iload_n 1, 1) := by decide +kernel
theorem dX6_setNumber_1 : decode cX6_setNumber 1 = .ok (.ifCond .ne 8, 3) := by decide +kernel
theorem dX6_setNumber_4 : decode cX6_setNumber 4 = .ok (.bipush 50, 2) := by decide +kernel
theorem dX6_setNumber_6 : decode cX6_setNumber 6 = .ok (.goto 13, 3) := by decide +kernel
theorem dX6_setNumber_9 : decode cX6_setNumber 9 = .ok (.iload_n 1, 1) := by decide +kernel
theorem dX6_setNumber_10 : decode cX6_setNumber 10 = .ok (.iconst 3, 1) := by decide +kernel
theorem dX6_setNumber_11 : decode cX6_setNumber 11 = .ok (.if_icmp .ne 7, 3) := by decide +kernel
theorem dX6_setNumber_14 : decode cX6_setNumber 14 = .ok (.iconst 1, 1) := by decide +kernel
theorem dX6_setNumber_15 : decode cX6_setNumber 15 = .ok (.goto 4, 3) := by decide +kernel
theorem dX6_setNumber_18 : decode cX6_setNumber 18 = .ok (.iconst 0, 1) := by decide +kernel
theorem dX6_setNumber_19 : decode cX6_setNumber 19 = .ok (.istore_n 3, 1) := by decide +kernel
theorem dX6_setNumber_20 : decode cX6_setNumber 20 = .ok (.iload_n 1, 1) := by decide +kernel
theorem dX6_setNumber_21 : decode cX6_setNumber 21 = .ok (.ifCond .eq 8, 3) := by decide +kernel
theorem dX6_setNumber_24 : decode cX6_setNumber 24 = .ok (.iload_n 1, 1) := by decide +kernel
theorem dX6_setNumber_25 : decode cX6_setNumber 25 = .ok (.iconst 2, 1) := by decide +kernel
theorem dX6_setNumber_26 : decode cX6_setNumber 26 = .ok (.if_icmp .ne 9, 3) := by decide +kernel
theorem dX6_setNumber_29 : decode cX6_setNumber 29 = .ok (.sipush 999, 3) := by decide +kernel
theorem dX6_setNumber_32 : decode cX6_setNumber 32 = .ok (.goto 5, 3) := by decide +kernel
theorem dX6_setNumber_35 : decode cX6_setNumber 35 = .ok (.bipush 9, 2) := by decide +kernel
theorem dX6_setNumber_37 : decode cX6_setNumber 37 = .ok (.istore 4, 2) := by decide +kernel
theorem dX6_setNumber_39 : decode cX6_setNumber 39 = .ok (.iload_n 1, 1) := by decide +kernel
theorem dX6_setNumber_40 : decode cX6_setNumber 40 = .ok (.iconst 0, 1) := by decide +kernel
theorem dX6_setNumber_41 : decode cX6_setNumber 41 = .ok (.iconst 3, 1) := by decide +kernel
theorem dX6_setNumber_42 : decode cX6_setNumber 42 = .ok (.invokestatic 72, 3) := by decide +kernel
theorem dX6_setNumber_45 : decode cX6_setNumber 45 = .ok (.ifCond .eq 13, 3) := by decide +kernel
theorem dX6_setNumber_48 : decode cX6_setNumber 48 = .ok (.iload_n 2, 1) := by decide +kernel
theorem dX6_setNumber_49 : decode cX6_setNumber 49 = .ok (.iload_n 3, 1) := by decide +kernel
theorem dX6_setNumber_50 : decode cX6_setNumber 50 = .ok (.iload 4, 2) := by decide +kernel
theorem dX6_setNumber_52 : decode cX6_setNumber 52 = .ok (.invokestatic 72, 3) := by decide +kernel
theorem dX6_setNumber_55 : decode cX6_setNumber 55 = .ok (.ifCond .ne 6, 3) := by decide +kernel
theorem dX6_setNumber_58 : decode cX6_setNumber 58 = .ok (.ldc 76, 2) := by decide +kernel
theorem dX6_setNumber_60 : decode cX6_setNumber 60 = .ok (.ireturn, 1) := by decide +kernel
theorem dX6_setNumber_61 : decode cX6_setNumber 61 = .ok (.aload_n 0, 1) := by decide +kernel
theorem dX6_setNumber_62 : decode cX6_setNumber 62 = .ok (.invokevirtual 79, 3) := by decide +kernel
theorem dX6_setNumber_65 : decode cX6_setNumber 65 = .ok (.aload_n 0, 1) := by decide +kernel
theorem dX6_setNumber_66 : decode cX6_setNumber 66 = .ok (.getfield 7, 3) := by decide +kernel
theorem dX6_setNumber_69 : decode cX6_setNumber 69 = .ok (.iconst 5, 1) := by decide +kernel
theorem dX6_setNumber_70 : decode cX6_setNumber 70 = .ok (.iload_n 1, 1) := by decide +kernel
theorem dX6_setNumber_71 : decode cX6_setNumber 71 = .ok (.iadd, 1) := by decide +kernel
theorem dX6_setNumber_72 : decode cX6_setNumber 72 = .ok (.iaload, 1) := by decide +kernel
theorem dX6_setNumber_73 : decode cX6_setNumber 73 = .ok (.istore 5, 2) := by decide +kernel
theorem dX6_setNumber_75 : decode cX6_setNumber 75 = .ok (.aload_n 0, 1) := by decide +kernel
theorem dX6_setNumber_76 : decode cX6_setNumber 76 = .ok (.getfield 7, 3) := by decide +kernel
theorem dX6_setNumber_79 : decode cX6_setNumber 79 = .ok (.iconst 5, 1) := by decide +kernel
theorem dX6_setNumber_80 : decode cX6_setNumber 80 = .ok (.iload_n 1, 1) := by decide +kernel
theorem dX6_setNumber_81 : decode cX6_setNumber 81 = .ok (.iadd, 1) := by decide +kernel
theorem dX6_setNumber_82 : decode cX6_setNumber 82 = .ok (.iload_n 2, 1) := by decide +kernel
theorem dX6_setNumber_83 : decode cX6_setNumber 83 = .ok (.iastore, 1) := by decide +kernel
theorem dX6_setNumber_84 : decode cX6_setNumber 84 = .ok (.aload_n 0, 1) := by decide +kernel
theorem dX6_setNumber_85 : decode cX6_setNumber 85 = .ok (.iload 5, 2) := by decide +kernel
theorem dX6_setNumber_87 : decode cX6_setNumber 87 = .ok (.invokevirtual 86, 3) := by decide +kernel
theorem dX6_setNumber_90 : decode cX6_setNumber 90 = .ok (.ireturn, 1) := by decide +kernel
theorem dX6_ask_0 : decode cX6_ask 0 = .ok (.iload_n 1, 1) := by decide +kernel
theorem dX6_ask_1 : decode cX6_ask 1 = .ok (.iconst 0, 1) := by decide +kernel
theorem dX6_ask_2 : decode cX6_ask 2 = .ok (.sipush 999, 3) := by decide +kernel
theorem dX6_ask_5 : decode cX6_ask 5 = .ok (.invokestatic 72, 3) := by decide +kernel
theorem dX6_ask_8 : decode cX6_ask 8 = .ok (.ifCond .ne 6, 3) := by decide +kernel
theorem dX6_ask_11 : decode cX6_ask 11 = .ok (.ldc 76, 2) := by decide +kernel
theorem dX6_ask_13 : decode cX6_ask 13 = .ok (.ireturn, 1) := by decide +kernel
theorem dX6_ask_14 : decode cX6_ask 14 = .ok (.aload_n 0, 1) := by decide +kernel
theorem dX6_ask_15 : decode cX6_ask 15 = .ok (.invokevirtual 79, 3) := by decide +kernel
theorem dX6_ask_18 : decode cX6_ask 18 = .ok (.aload_n 0, 1) := by decide +kernel
theorem dX6_ask_19 : decode cX6_ask 19 = .ok (.getfield 7, 3) := by decide +kernel
theorem dX6_ask_22 : decode cX6_ask 22 = .ok (.iconst 3, 1) := by decide +kernel
theorem dX6_ask_23 : decode cX6_ask 23 = .ok (.iaload, 1) := by decide +kernel
theorem dX6_ask_24 : decode cX6_ask 24 = .ok (.istore_n 2, 1) := by decide +kernel
theorem dX6_ask_25 : decode cX6_ask 25 = .ok (.aload_n 0, 1) := by decide +kernel
theorem dX6_ask_26 : decode cX6_ask 26 = .ok (.getfield 7, 3) := by decide +kernel
theorem dX6_ask_29 : decode cX6_ask 29 = .ok (.iconst 3, 1) := by decide +kernel
theorem dX6_ask_30 : decode cX6_ask 30 = .ok (.iload_n 1, 1) := by decide +kernel
theorem dX6_ask_31 : decode cX6_ask 31 = .ok (.iastore, 1) := by decide +kernel
theorem dX6_ask_32 : decode cX6_ask 32 = .ok (.aload_n 0, 1) := by decide +kernel
theorem dX6_ask_33 : decode cX6_ask 33 = .ok (.getfield 7, 3) := by decide +kernel
theorem dX6_ask_36 : decode cX6_ask 36 = .ok (.bipush 14, 2) := by decide +kernel
theorem dX6_ask_38 : decode cX6_ask 38 = .ok (.dup2, 1) := by decide +kernel
theorem dX6_ask_39 : decode cX6_ask 39 = .ok (.iaload, 1) := by decide +kernel
theorem dX6_ask_40 : decode cX6_ask 40 = .ok (.aload_n 0, 1) := by decide +kernel
theorem dX6_ask_41 : decode cX6_ask 41 = .ok (.getfield 7, 3) := by decide +kernel
theorem dX6_ask_44 : decode cX6_ask 44 = .ok (.iconst 4, 1) := by decide +kernel
theorem dX6_ask_45 : decode cX6_ask 45 = .ok (.iaload, 1) := by decide +kernel
theorem dX6_ask_46 : decode cX6_ask 46 = .ok (.ifCond .le 7, 3) := by decide +kernel
theorem dX6_ask_49 : decode cX6_ask 49 = .ok (.iconst 1, 1) := by decide +kernel
theorem dX6_ask_50 : decode cX6_ask 50 = .ok (.goto 4, 3) := by decide +kernel
theorem dX6_ask_53 : decode cX6_ask 53 = .ok (.iconst 0, 1) := by decide +kernel
theorem dX6_ask_54 : decode cX6_ask 54 = .ok (.iadd, 1) := by decide +kernel
theorem dX6_ask_55 : decode cX6_ask 55 = .ok (.iastore, 1) := by decide +kernel
theorem dX6_ask_56 : decode cX6_ask 56 = .ok (.aload_n 0, 1) := by decide +kernel
theorem dX6_ask_57 : decode cX6_ask 57 = .ok (.iload_n 2, 1) := by decide +kernel
theorem dX6_ask_58 : decode cX6_ask 58 = .ok (.invokevirtual 86, 3) := by decide +kernel
theorem dX6_ask_61 : decode cX6_ask 61 = .ok (.ireturn, 1) := by decide +kernel
theorem dX6_set_0 : decode cX6_set 0 = .ok (.iload_n 1, 1) := by decide +kernel
theorem dX6_set_1 : decode cX6_set 1 = .ok (.iconst 1, 1) := by decide +kernel
theorem dX6_set_2 : decode cX6_set 2 = .ok (.aload_n 0, 1) := by decide +kernel
theorem dX6_set_3 : decode cX6_set 3 = .ok (.invokevirtual 93, 3) := by decide +kernel
theorem dX6_set_6 : decode cX6_set 6 = .ok (.invokestatic 72, 3) := by decide +kernel
theorem dX6_set_9 : decode cX6_set 9 = .ok (.ifCond .ne 6, 3) := by decide +kernel
theorem dX6_set_12 : decode cX6_set 12 = .ok (.ldc 76, 2) := by decide +kernel
theorem dX6_set_14 : decode cX6_set 14 = .ok (.ireturn, 1) := by decide +kernel
theorem dX6_set_15 : decode cX6_set 15 = .ok (.aload_n 0, 1) := by decide +kernel
theorem dX6_set_16 : decode cX6_set 16 = .ok (.getfield 7, 3) := by decide +kernel
theorem dX6_set_19 : decode cX6_set 19 = .ok (.iconst 4, 1) := by decide +kernel
theorem dX6_set_20 : decode cX6_set 20 = .ok (.iaload, 1) := by decide +kernel
theorem dX6_set_21 : decode cX6_set 21 = .ok (.ifCond .gt 18, 3) := by decide +kernel
theorem dX6_set_24 : decode cX6_set 24 = .ok (.aload_n 0, 1) := by decide +kernel
theorem dX6_set_25 : decode cX6_set 25 = .ok (.invokevirtual 97, 3) := by decide +kernel
theorem dX6_set_28 : decode cX6_set 28 = .ok (.ifCond .ne 11, 3) := by decide +kernel
theorem dX6_set_31 : decode cX6_set 31 = .ok (.aload_n 0, 1) := by decide +kernel
theorem dX6_set_32 : decode cX6_set 32 = .ok (.iload_n 1, 1) := by decide +kernel
theorem dX6_set_33 : decode cX6_set 33 = .ok (.invokevirtual 101, 3) := by decide +kernel
theorem dX6_set_36 : decode cX6_set 36 = .ok (.ifCond .eq 6, 3) := by decide +kernel
theorem dX6_set_39 : decode cX6_set 39 = .ok (.ldc 77, 2) := by decide +kernel
theorem dX6_set_41 : decode cX6_set 41 = .ok (.ireturn, 1) := by decide +kernel
theorem dX6_set_42 : decode cX6_set 42 = .ok (.aload_n 0, 1) := by decide +kernel
theorem dX6_set_43 : decode cX6_set 43 = .ok (.invokevirtual 79, 3) := by decide +kernel
theorem dX6_set_46 : decode cX6_set 46 = .ok (.aload_n 0, 1) := by decide +kernel
theorem dX6_set_47 : decode cX6_set 47 = .ok (.getfield 7, 3) := by decide +kernel
theorem dX6_set_50 : decode cX6_set 50 = .ok (.iconst 4, 1) := by decide +kernel
theorem dX6_set_51 : decode cX6_set 51 = .ok (.iload_n 1, 1) := by decide +kernel
theorem dX6_set_52 : decode cX6_set 52 = .ok (.iastore, 1) := by decide +kernel
theorem dX6_set_53 : decode cX6_set 53 = .ok (.aload_n 0, 1) := by decide +kernel
theorem dX6_set_54 : decode cX6_set 54 = .ok (.aload_n 0, 1) := by decide +kernel
theorem dX6_set_55 : decode cX6_set 55 = .ok (.aload_n 0, 1) := by decide +kernel
theorem dX6_set_56 : decode cX6_set 56 = .ok (.getfield 7, 3) := by decide +kernel
theorem dX6_set_59 : decode cX6_set 59 = .ok (.iconst 1, 1) := by decide +kernel
theorem dX6_set_60 : decode cX6_set 60 = .ok (.iaload, 1) := by decide +kernel
theorem dX6_set_61 : decode cX6_set 61 = .ok (.iload_n 1, 1) := by decide +kernel
theorem dX6_set_62 : decode cX6_set 62 = .ok (.iconst 0, 1) := by decide +kernel
theorem dX6_set_63 : decode cX6_set 63 = .ok (.invokevirtual 57, 3) := by decide +kernel
theorem dX6_set_66 : decode cX6_set 66 = .ok (.aload_n 0, 1) := by decide +kernel
theorem dX6_set_67 : decode cX6_set 67 = .ok (.getfield 7, 3) := by decide +kernel
theorem dX6_set_70 : decode cX6_set 70 = .ok (.iconst 3, 1) := by decide +kernel
theorem dX6_set_71 : decode cX6_set 71 = .ok (.iaload, 1) := by decide +kernel
theorem dX6_set_72 : decode cX6_set 72 = .ok (.isub, 1) := by decide +kernel
theorem dX6_set_73 : decode cX6_set 73 = .ok (.invokevirtual 86, 3) := by decide +kernel
theorem dX6_set_76 : decode cX6_set 76 = .ok (.ireturn, 1) := by decide +kernel
theorem dX6_unset_0 : decode cX6_unset 0 = .ok (.aload_n 0, 1) := by decide +kernel
theorem dX6_unset_1 : decode cX6_unset 1 = .ok (.getfield 7, 3) := by decide +kernel
theorem dX6_unset_4 : decode cX6_unset 4 = .ok (.iconst 4, 1) := by decide +kernel
theorem dX6_unset_5 : decode cX6_unset 5 = .ok (.iaload, 1) := by decide +kernel
theorem dX6_unset_6 : decode cX6_unset 6 = .ok (.istore_n 1, 1) := by decide +kernel
theorem dX6_unset_7 : decode cX6_unset 7 = .ok (.iload_n 1, 1) := by decide +kernel
theorem dX6_unset_8 : decode cX6_unset 8 = .ok (.ifCond .ne 6, 3) := by decide +kernel
theorem dX6_unset_11 : decode cX6_unset 11 = .ok (.ldc 77, 2) := by decide +kernel
theorem dX6_unset_13 : decode cX6_unset 13 = .ok (.ireturn, 1) := by decide +kernel
theorem dX6_unset_14 : decode cX6_unset 14 = .ok (.aload_n 0, 1) := by decide +kernel
theorem dX6_unset_15 : decode cX6_unset 15 = .ok (.invokevirtual 79, 3) := by decide +kernel
theorem dX6_unset_18 : decode cX6_unset 18 = .ok (.aload_n 0, 1) := by decide +kernel
theorem dX6_unset_19 : decode cX6_unset 19 = .ok (.getfield 7, 3) := by decide +kernel
theorem dX6_unset_22 : decode cX6_unset 22 = .ok (.iconst 4, 1) := by decide +kernel
theorem dX6_unset_23 : decode cX6_unset 23 = .ok (.iconst 0, 1) := by decide +kernel
theorem dX6_unset_24 : decode cX6_unset 24 = .ok (.iastore, 1) := by decide +kernel
theorem dX6_unset_25 : decode cX6_unset 25 = .ok (.aload_n 0, 1) := by decide +kernel
theorem dX6_unset_26 : decode cX6_unset 26 = .ok (.iload_n 1, 1) := by decide +kernel
theorem dX6_unset_27 : decode cX6_unset 27 = .ok (.invokevirtual 86, 3) := by decide +kernel
theorem dX6_unset_30 : decode cX6_unset 30 = .ok (.ireturn, 1) := by decide +kernel
theorem dX6_mend_0 : decode cX6_mend 0 = .ok (.aload_n 0, 1) := by decide +kernel
theorem dX6_mend_1 : decode cX6_mend 1 = .ok (.getfield 7, 3) := by decide +kernel
theorem dX6_mend_4 : decode cX6_mend 4 = .ok (.iconst 4, 1) := by decide +kernel
theorem dX6_mend_5 : decode cX6_mend 5 = .ok (.iaload, 1) := by decide +kernel
theorem dX6_mend_6 : decode cX6_mend 6 = .ok (.ifCond .eq 16, 3) := by decide +kernel
theorem dX6_mend_9 : decode cX6_mend 9 = .ok (.aload_n 0, 1) := by decide +kernel
theorem dX6_mend_10 : decode cX6_mend 10 = .ok (.aload_n 0, 1) := by decide +kernel
theorem dX6_mend_11 : decode cX6_mend 11 = .ok (.getfield 7, 3) := by decide +kernel
theorem dX6_mend_14 : decode cX6_mend 14 = .ok (.iconst 4, 1) := by decide +kernel
theorem dX6_mend_15 : decode cX6_mend 15 = .ok (.iaload, 1) := by decide +kernel
theorem dX6_mend_16 : decode cX6_mend 16 = .ok (.invokevirtual 101, 3) := by decide +kernel
theorem dX6_mend_19 : decode cX6_mend 19 = .ok (.ifCond .ne 6, 3) := by decide +kernel
theorem dX6_mend_22 : decode cX6_mend 22 = .ok (.ldc 77, 2) := by decide +kernel
theorem dX6_mend_24 : decode cX6_mend 24 = .ok (.ireturn, 1) := by decide +kernel
theorem dX6_mend_25 : decode cX6_mend 25 = .ok (.iconst 1, 1) := by decide +kernel
theorem dX6_mend_26 : decode cX6_mend 26 = .ok (.istore_n 1, 1) := by decide +kernel
theorem dX6_mend_27 : decode cX6_mend 27 = .ok (.iload_n 1, 1) := by decide +kernel
theorem dX6_mend_28 : decode cX6_mend 28 = .ok (.bipush 20, 2) := by decide +kernel
theorem dX6_mend_30 : decode cX6_mend 30 = .ok (.if_icmp .gt 79, 3) := by decide +kernel
theorem dX6_mend_33 : decode cX6_mend 33 = .ok (.aload_n 0, 1) := by decide +kernel
theorem dX6_mend_34 : decode cX6_mend 34 = .ok (.getfield 7, 3) := by decide +kernel
theorem dX6_mend_37 : decode cX6_mend 37 = .ok (.iconst 4, 1) := by decide +kernel
theorem dX6_mend_38 : decode cX6_mend 38 = .ok (.iaload, 1) := by decide +kernel
theorem dX6_mend_39 : decode cX6_mend 39 = .ok (.iload_n 1, 1) := by decide +kernel
theorem dX6_mend_40 : decode cX6_mend 40 = .ok (.isub, 1) := by decide +kernel
theorem dX6_mend_41 : decode cX6_mend 41 = .ok (.istore_n 2, 1) := by decide +kernel
theorem dX6_mend_42 : decode cX6_mend 42 = .ok (.aload_n 0, 1) := by decide +kernel
theorem dX6_mend_43 : decode cX6_mend 43 = .ok (.iload_n 2, 1) := by decide +kernel
theorem dX6_mend_44 : decode cX6_mend 44 = .ok (.invokevirtual 101, 3) := by decide +kernel
theorem dX6_mend_47 : decode cX6_mend 47 = .ok (.ifCond .ne 7, 3) := by decide +kernel
theorem dX6_mend_50 : decode cX6_mend 50 = .ok (.iload_n 2, 1) := by decide +kernel
theorem dX6_mend_51 : decode cX6_mend 51 = .ok (.goto 30, 3) := by decide +kernel
theorem dX6_mend_54 : decode cX6_mend 54 = .ok (.aload_n 0, 1) := by decide +kernel
theorem dX6_mend_55 : decode cX6_mend 55 = .ok (.aload_n 0, 1) := by decide +kernel
theorem dX6_mend_56 : decode cX6_mend 56 = .ok (.getfield 7, 3) := by decide +kernel
theorem dX6_mend_59 : decode cX6_mend 59 = .ok (.iconst 4, 1) := by decide +kernel
theorem dX6_mend_60 : decode cX6_mend 60 = .ok (.iaload, 1) := by decide +kernel
theorem dX6_mend_61 : decode cX6_mend 61 = .ok (.iload_n 1, 1) := by decide +kernel
theorem dX6_mend_62 : decode cX6_mend 62 = .ok (.iadd, 1) := by decide +kernel
theorem dX6_mend_63 : decode cX6_mend 63 = .ok (.invokevirtual 101, 3) := by decide +kernel
theorem dX6_mend_66 : decode cX6_mend 66 = .ok (.ifCond .ne 14, 3) := by decide +kernel
theorem dX6_mend_69 : decode cX6_mend 69 = .ok (.aload_n 0, 1) := by decide +kernel
theorem dX6_mend_70 : decode cX6_mend 70 = .ok (.getfield 7, 3) := by decide +kernel
theorem dX6_mend_73 : decode cX6_mend 73 = .ok (.iconst 4, 1) := by decide +kernel
theorem dX6_mend_74 : decode cX6_mend 74 = .ok (.iaload, 1) := by decide +kernel
theorem dX6_mend_75 : decode cX6_mend 75 = .ok (.iload_n 1, 1) := by decide +kernel
theorem dX6_mend_76 : decode cX6_mend 76 = .ok (.iadd, 1) := by decide +kernel
theorem dX6_mend_77 : decode cX6_mend 77 = .ok (.goto 4, 3) := by decide +kernel
theorem dX6_mend_80 : decode cX6_mend 80 = .ok (.iconst 0, 1) := by decide +kernel
theorem dX6_mend_81 : decode cX6_mend 81 = .ok (.istore_n 3, 1) := by decide +kernel
theorem dX6_mend_82 : decode cX6_mend 82 = .ok (.iload_n 3, 1) := by decide +kernel
theorem dX6_mend_83 : decode cX6_mend 83 = .ok (.ifCond .le 20, 3) := by decide +kernel
theorem dX6_mend_86 : decode cX6_mend 86 = .ok (.aload_n 0, 1) := by decide +kernel
theorem dX6_mend_87 : decode cX6_mend 87 = .ok (.invokevirtual 79, 3) := by decide +kernel
theorem dX6_mend_90 : decode cX6_mend 90 = .ok (.aload_n 0, 1) := by decide +kernel
theorem dX6_mend_91 : decode cX6_mend 91 = .ok (.getfield 7, 3) := by decide +kernel
theorem dX6_mend_94 : decode cX6_mend 94 = .ok (.iconst 4, 1) := by decide +kernel
theorem dX6_mend_95 : decode cX6_mend 95 = .ok (.iload_n 3, 1) := by decide +kernel
theorem dX6_mend_96 : decode cX6_mend 96 = .ok (.iastore, 1) := by decide +kernel
theorem dX6_mend_97 : decode cX6_mend 97 = .ok (.aload_n 0, 1) := by decide +kernel
theorem dX6_mend_98 : decode cX6_mend 98 = .ok (.iload_n 3, 1) := by decide +kernel
theorem dX6_mend_99 : decode cX6_mend 99 = .ok (.invokevirtual 86, 3) := by decide +kernel
theorem dX6_mend_102 : decode cX6_mend 102 = .ok (.ireturn, 1) := by decide +kernel
theorem dX6_mend_103 : decode cX6_mend 103 = .ok (.iinc 1 1, 3) := by decide +kernel
theorem dX6_mend_106 : decode cX6_mend 106 = .ok (.goto (-79), 3) := by decide +kernel
theorem dX6_mend_109 : decode cX6_mend 109 = .ok (.ldc 77, 2) := by decide +kernel
theorem dX6_mend_111 : decode cX6_mend 111 = .ok (.ireturn, 1) := by decide +kernel
theorem dX6_weekPasses_0 : decode cX6_weekPasses 0 = .ok (.aload_n 0, 1) := by decide +kernel
theorem dX6_weekPasses_1 : decode cX6_weekPasses 1 = .ok (.getfield 7, 3) := by decide +kernel
theorem dX6_weekPasses_4 : decode cX6_weekPasses 4 = .ok (.bipush 17, 2) := by decide +kernel
theorem dX6_weekPasses_6 : decode cX6_weekPasses 6 = .ok (.iconst 4, 1) := by decide +kernel
theorem dX6_weekPasses_7 : decode cX6_weekPasses 7 = .ok (.aload_n 0, 1) := by decide +kernel
theorem dX6_weekPasses_8 : decode cX6_weekPasses 8 = .ok (.getfield 7, 3) := by decide +kernel
theorem dX6_weekPasses_11 : decode cX6_weekPasses 11 = .ok (.iconst 2, 1) := by decide +kernel
theorem dX6_weekPasses_12 : decode cX6_weekPasses 12 = .ok (.iaload, 1) := by decide +kernel
theorem dX6_weekPasses_13 : decode cX6_weekPasses 13 = .ok (.imul, 1) := by decide +kernel
theorem dX6_weekPasses_14 : decode cX6_weekPasses 14 = .ok (.iadd, 1) := by decide +kernel
theorem dX6_weekPasses_15 : decode cX6_weekPasses 15 = .ok (.iconst 2, 1) := by decide +kernel
theorem dX6_weekPasses_16 : decode cX6_weekPasses 16 = .ok (.iadd, 1) := by decide +kernel
theorem dX6_weekPasses_17 : decode cX6_weekPasses 17 = .ok (.iload_n 1, 1) := by decide +kernel
theorem dX6_weekPasses_18 : decode cX6_weekPasses 18 = .ok (.iastore, 1) := by decide +kernel
theorem dX6_weekPasses_19 : decode cX6_weekPasses 19 = .ok (.aload_n 0, 1) := by decide +kernel
theorem dX6_weekPasses_20 : decode cX6_weekPasses 20 = .ok (.getfield 7, 3) := by decide +kernel
theorem dX6_weekPasses_23 : decode cX6_weekPasses 23 = .ok (.bipush 17, 2) := by decide +kernel
theorem dX6_weekPasses_25 : decode cX6_weekPasses 25 = .ok (.iconst 4, 1) := by decide +kernel
theorem dX6_weekPasses_26 : decode cX6_weekPasses 26 = .ok (.aload_n 0, 1) := by decide +kernel
theorem dX6_weekPasses_27 : decode cX6_weekPasses 27 = .ok (.getfield 7, 3) := by decide +kernel
theorem dX6_weekPasses_30 : decode cX6_weekPasses 30 = .ok (.iconst 2, 1) := by decide +kernel
theorem dX6_weekPasses_31 : decode cX6_weekPasses 31 = .ok (.iaload, 1) := by decide +kernel
theorem dX6_weekPasses_32 : decode cX6_weekPasses 32 = .ok (.imul, 1) := by decide +kernel
theorem dX6_weekPasses_33 : decode cX6_weekPasses 33 = .ok (.iadd, 1) := by decide +kernel
theorem dX6_weekPasses_34 : decode cX6_weekPasses 34 = .ok (.iconst 3, 1) := by decide +kernel
theorem dX6_weekPasses_35 : decode cX6_weekPasses 35 = .ok (.iadd, 1) := by decide +kernel
theorem dX6_weekPasses_36 : decode cX6_weekPasses 36 = .ok (.iload_n 2, 1) := by decide +kernel
theorem dX6_weekPasses_37 : decode cX6_weekPasses 37 = .ok (.iastore, 1) := by decide +kernel
theorem dX6_weekPasses_38 : decode cX6_weekPasses 38 = .ok (.aload_n 0, 1) := by decide +kernel
theorem dX6_weekPasses_39 : decode cX6_weekPasses 39 = .ok (.getfield 7, 3) := by decide +kernel
theorem dX6_weekPasses_42 : decode cX6_weekPasses 42 = .ok (.bipush 9, 2) := by decide +kernel
theorem dX6_weekPasses_44 : decode cX6_weekPasses 44 = .ok (.iaload, 1) := by decide +kernel
theorem dX6_weekPasses_45 : decode cX6_weekPasses 45 = .ok (.aload_n 0, 1) := by decide +kernel
theorem dX6_weekPasses_46 : decode cX6_weekPasses 46 = .ok (.getfield 7, 3) := by decide +kernel
theorem dX6_weekPasses_49 : decode cX6_weekPasses 49 = .ok (.bipush 7, 2) := by decide +kernel
theorem dX6_weekPasses_51 : decode cX6_weekPasses 51 = .ok (.iaload, 1) := by decide +kernel
theorem dX6_weekPasses_52 : decode cX6_weekPasses 52 = .ok (.iadd, 1) := by decide +kernel
theorem dX6_weekPasses_53 : decode cX6_weekPasses 53 = .ok (.iload_n 1, 1) := by decide +kernel
theorem dX6_weekPasses_54 : decode cX6_weekPasses 54 = .ok (.isub, 1) := by decide +kernel
theorem dX6_weekPasses_55 : decode cX6_weekPasses 55 = .ok (.istore_n 3, 1) := by decide +kernel
theorem dX6_weekPasses_56 : decode cX6_weekPasses 56 = .ok (.aload_n 0, 1) := by decide +kernel
theorem dX6_weekPasses_57 : decode cX6_weekPasses 57 = .ok (.getfield 7, 3) := by decide +kernel
theorem dX6_weekPasses_60 : decode cX6_weekPasses 60 = .ok (.bipush 9, 2) := by decide +kernel
theorem dX6_weekPasses_62 : decode cX6_weekPasses 62 = .ok (.iload_n 3, 1) := by decide +kernel
theorem dX6_weekPasses_63 : decode cX6_weekPasses 63 = .ok (.aload_n 0, 1) := by decide +kernel
theorem dX6_weekPasses_64 : decode cX6_weekPasses 64 = .ok (.getfield 7, 3) := by decide +kernel
theorem dX6_weekPasses_67 : decode cX6_weekPasses 67 = .ok (.bipush 7, 2) := by decide +kernel
theorem dX6_weekPasses_69 : decode cX6_weekPasses 69 = .ok (.iaload, 1) := by decide +kernel
theorem dX6_weekPasses_70 : decode cX6_weekPasses 70 = .ok (.ineg, 1) := by decide +kernel
theorem dX6_weekPasses_71 : decode cX6_weekPasses 71 = .ok (.if_icmp .ge 14, 3) := by decide +kernel
theorem dX6_weekPasses_74 : decode cX6_weekPasses 74 = .ok (.aload_n 0, 1) := by decide +kernel
theorem dX6_weekPasses_75 : decode cX6_weekPasses 75 = .ok (.getfield 7, 3) := by decide +kernel
theorem dX6_weekPasses_78 : decode cX6_weekPasses 78 = .ok (.bipush 7, 2) := by decide +kernel
theorem dX6_weekPasses_80 : decode cX6_weekPasses 80 = .ok (.iaload, 1) := by decide +kernel
theorem dX6_weekPasses_81 : decode cX6_weekPasses 81 = .ok (.ineg, 1) := by decide +kernel
theorem dX6_weekPasses_82 : decode cX6_weekPasses 82 = .ok (.goto 4, 3) := by decide +kernel
theorem dX6_weekPasses_85 : decode cX6_weekPasses 85 = .ok (.iload_n 3, 1) := by decide +kernel
theorem dX6_weekPasses_86 : decode cX6_weekPasses 86 = .ok (.iastore, 1) := by decide +kernel
theorem dX6_weekPasses_87 : decode cX6_weekPasses 87 = .ok (.aload_n 0, 1) := by decide +kernel
theorem dX6_weekPasses_88 : decode cX6_weekPasses 88 = .ok (.getfield 7, 3) := by decide +kernel
theorem dX6_weekPasses_91 : decode cX6_weekPasses 91 = .ok (.bipush 16, 2) := by decide +kernel
theorem dX6_weekPasses_93 : decode cX6_weekPasses 93 = .ok (.dup2, 1) := by decide +kernel
theorem dX6_weekPasses_94 : decode cX6_weekPasses 94 = .ok (.iaload, 1) := by decide +kernel
theorem dX6_weekPasses_95 : decode cX6_weekPasses 95 = .ok (.aload_n 0, 1) := by decide +kernel
theorem dX6_weekPasses_96 : decode cX6_weekPasses 96 = .ok (.getfield 7, 3) := by decide +kernel
theorem dX6_weekPasses_99 : decode cX6_weekPasses 99 = .ok (.bipush 9, 2) := by decide +kernel
theorem dX6_weekPasses_101 : decode cX6_weekPasses 101 = .ok (.iaload, 1) := by decide +kernel
theorem dX6_weekPasses_102 : decode cX6_weekPasses 102 = .ok (.ifCond .le 16, 3) := by decide +kernel
theorem dX6_weekPasses_105 : decode cX6_weekPasses 105 = .ok (.aload_n 0, 1) := by decide +kernel
theorem dX6_weekPasses_106 : decode cX6_weekPasses 106 = .ok (.getfield 7, 3) := by decide +kernel
theorem dX6_weekPasses_109 : decode cX6_weekPasses 109 = .ok (.bipush 9, 2) := by decide +kernel
theorem dX6_weekPasses_111 : decode cX6_weekPasses 111 = .ok (.iaload, 1) := by decide +kernel
theorem dX6_weekPasses_112 : decode cX6_weekPasses 112 = .ok (.bipush 10, 2) := by decide +kernel
theorem dX6_weekPasses_114 : decode cX6_weekPasses 114 = .ok (.idiv, 1) := by decide +kernel
theorem dX6_weekPasses_115 : decode cX6_weekPasses 115 = .ok (.goto 4, 3) := by decide +kernel
theorem dX6_weekPasses_118 : decode cX6_weekPasses 118 = .ok (.iconst 0, 1) := by decide +kernel
theorem dX6_weekPasses_119 : decode cX6_weekPasses 119 = .ok (.iadd, 1) := by decide +kernel
theorem dX6_weekPasses_120 : decode cX6_weekPasses 120 = .ok (.iastore, 1) := by decide +kernel
theorem dX6_weekPasses_121 : decode cX6_weekPasses 121 = .ok (.aload_n 0, 1) := by decide +kernel
theorem dX6_weekPasses_122 : decode cX6_weekPasses 122 = .ok (.getfield 7, 3) := by decide +kernel
theorem dX6_weekPasses_125 : decode cX6_weekPasses 125 = .ok (.iconst 3, 1) := by decide +kernel
theorem dX6_weekPasses_126 : decode cX6_weekPasses 126 = .ok (.iconst 0, 1) := by decide +kernel
theorem dX6_weekPasses_127 : decode cX6_weekPasses 127 = .ok (.iastore, 1) := by decide +kernel
theorem dX6_weekPasses_128 : decode cX6_weekPasses 128 = .ok (.aload_n 0, 1) := by decide +kernel
theorem dX6_weekPasses_129 : decode cX6_weekPasses 129 = .ok (.getfield 7, 3) := by decide +kernel
theorem dX6_weekPasses_132 : decode cX6_weekPasses 132 = .ok (.iconst 4, 1) := by decide +kernel
theorem dX6_weekPasses_133 : decode cX6_weekPasses 133 = .ok (.iconst 0, 1) := by decide +kernel
theorem dX6_weekPasses_134 : decode cX6_weekPasses 134 = .ok (.iastore, 1) := by decide +kernel
theorem dX6_weekPasses_135 : decode cX6_weekPasses 135 = .ok (.aload_n 0, 1) := by decide +kernel
theorem dX6_weekPasses_136 : decode cX6_weekPasses 136 = .ok (.getfield 7, 3) := by decide +kernel
theorem dX6_weekPasses_139 : decode cX6_weekPasses 139 = .ok (.iconst 2, 1) := by decide +kernel
theorem dX6_weekPasses_140 : decode cX6_weekPasses 140 = .ok (.dup2, 1) := by decide +kernel
theorem dX6_weekPasses_141 : decode cX6_weekPasses 141 = .ok (.iaload, 1) := by decide +kernel
theorem dX6_weekPasses_142 : decode cX6_weekPasses 142 = .ok (.iconst 1, 1) := by decide +kernel
theorem dX6_weekPasses_143 : decode cX6_weekPasses 143 = .ok (.iadd, 1) := by decide +kernel
theorem dX6_weekPasses_144 : decode cX6_weekPasses 144 = .ok (.iastore, 1) := by decide +kernel
theorem dX6_weekPasses_145 : decode cX6_weekPasses 145 = .ok (.return_, 1) := by decide +kernel
theorem dX6_print_0 : decode cX6_print 0 = .ok (.aload_n 0, 1) := by decide +kernel
theorem dX6_print_1 : decode cX6_print 1 = .ok (.getfield 7, 3) := by decide +kernel
theorem dX6_print_4 : decode cX6_print 4 = .ok (.iconst 4, 1) := by decide +kernel
theorem dX6_print_5 : decode cX6_print 5 = .ok (.iaload, 1) := by decide +kernel
theorem dX6_print_6 : decode cX6_print 6 = .ok (.ifCond .eq 16, 3) := by decide +kernel
theorem dX6_print_9 : decode cX6_print 9 = .ok (.aload_n 0, 1) := by decide +kernel
theorem dX6_print_10 : decode cX6_print 10 = .ok (.aload_n 0, 1) := by decide +kernel
theorem dX6_print_11 : decode cX6_print 11 = .ok (.getfield 7, 3) := by decide +kernel
theorem dX6_print_14 : decode cX6_print 14 = .ok (.iconst 4, 1) := by decide +kernel
theorem dX6_print_15 : decode cX6_print 15 = .ok (.iaload, 1) := by decide +kernel
theorem dX6_print_16 : decode cX6_print 16 = .ok (.invokevirtual 101, 3) := by decide +kernel
theorem dX6_print_19 : decode cX6_print 19 = .ok (.ifCond .eq 6, 3) := by decide +kernel
theorem dX6_print_22 : decode cX6_print 22 = .ok (.ldc 77, 2) := by decide +kernel
theorem dX6_print_24 : decode cX6_print 24 = .ok (.ireturn, 1) := by decide +kernel
theorem dX6_print_25 : decode cX6_print 25 = .ok (.aload_n 0, 1) := by decide +kernel
theorem dX6_print_26 : decode cX6_print 26 = .ok (.invokevirtual 79, 3) := by decide +kernel
theorem dX6_print_29 : decode cX6_print 29 = .ok (.aload_n 0, 1) := by decide +kernel
theorem dX6_print_30 : decode cX6_print 30 = .ok (.getfield 7, 3) := by decide +kernel
theorem dX6_print_33 : decode cX6_print 33 = .ok (.iconst 1, 1) := by decide +kernel
theorem dX6_print_34 : decode cX6_print 34 = .ok (.iaload, 1) := by decide +kernel
theorem dX6_print_35 : decode cX6_print 35 = .ok (.istore_n 1, 1) := by decide +kernel
theorem dX6_print_36 : decode cX6_print 36 = .ok (.iload_n 1, 1) := by decide +kernel
theorem dX6_print_37 : decode cX6_print 37 = .ok (.aload_n 0, 1) := by decide +kernel
theorem dX6_print_38 : decode cX6_print 38 = .ok (.getfield 7, 3) := by decide +kernel
theorem dX6_print_41 : decode cX6_print 41 = .ok (.iconst 4, 1) := by decide +kernel
theorem dX6_print_42 : decode cX6_print 42 = .ok (.iaload, 1) := by decide +kernel
theorem dX6_print_43 : decode cX6_print 43 = .ok (.iadd, 1) := by decide +kernel
theorem dX6_print_44 : decode cX6_print 44 = .ok (.istore_n 2, 1) := by decide +kernel
theorem dX6_print_45 : decode cX6_print 45 = .ok (.aload_n 0, 1) := by decide +kernel
theorem dX6_print_46 : decode cX6_print 46 = .ok (.iload_n 1, 1) := by decide +kernel
theorem dX6_print_47 : decode cX6_print 47 = .ok (.aload_n 0, 1) := by decide +kernel
theorem dX6_print_48 : decode cX6_print 48 = .ok (.getfield 7, 3) := by decide +kernel
theorem dX6_print_51 : decode cX6_print 51 = .ok (.iconst 4, 1) := by decide +kernel
theorem dX6_print_52 : decode cX6_print 52 = .ok (.iaload, 1) := by decide +kernel
theorem dX6_print_53 : decode cX6_print 53 = .ok (.iconst 0, 1) := by decide +kernel
theorem dX6_print_54 : decode cX6_print 54 = .ok (.invokevirtual 57, 3) := by decide +kernel
theorem dX6_print_57 : decode cX6_print 57 = .ok (.aload_n 0, 1) := by decide +kernel
theorem dX6_print_58 : decode cX6_print 58 = .ok (.getfield 7, 3) := by decide +kernel
theorem dX6_print_61 : decode cX6_print 61 = .ok (.iconst 3, 1) := by decide +kernel
theorem dX6_print_62 : decode cX6_print 62 = .ok (.iaload, 1) := by decide +kernel
theorem dX6_print_63 : decode cX6_print 63 = .ok (.isub, 1) := by decide +kernel
theorem dX6_print_64 : decode cX6_print 64 = .ok (.istore_n 3, 1) := by decide +kernel
theorem dX6_print_65 : decode cX6_print 65 = .ok (.iload_n 1, 1) := by decide +kernel
theorem dX6_print_66 : decode cX6_print 66 = .ok (.istore 4, 2) := by decide +kernel
theorem dX6_print_68 : decode cX6_print 68 = .ok (.iload 4, 2) := by decide +kernel
theorem dX6_print_70 : decode cX6_print 70 = .ok (.iload_n 2, 1) := by decide +kernel
theorem dX6_print_71 : decode cX6_print 71 = .ok (.if_icmp .ge 88, 3) := by decide +kernel
theorem dX6_print_74 : decode cX6_print 74 = .ok (.aload_n 0, 1) := by decide +kernel
theorem dX6_print_75 : decode cX6_print 75 = .ok (.iload 4, 2) := by decide +kernel
theorem dX6_print_77 : decode cX6_print 77 = .ok (.iload_n 2, 1) := by decide +kernel
theorem dX6_print_78 : decode cX6_print 78 = .ok (.aload_n 0, 1) := by decide +kernel
theorem dX6_print_79 : decode cX6_print 79 = .ok (.getfield 7, 3) := by decide +kernel
theorem dX6_print_82 : decode cX6_print 82 = .ok (.iconst 3, 1) := by decide +kernel
theorem dX6_print_83 : decode cX6_print 83 = .ok (.iaload, 1) := by decide +kernel
theorem dX6_print_84 : decode cX6_print 84 = .ok (.invokevirtual 47, 3) := by decide +kernel
theorem dX6_print_87 : decode cX6_print 87 = .ok (.istore 5, 2) := by decide +kernel
theorem dX6_print_89 : decode cX6_print 89 = .ok (.aload_n 0, 1) := by decide +kernel
theorem dX6_print_90 : decode cX6_print 90 = .ok (.getfield 7, 3) := by decide +kernel
theorem dX6_print_93 : decode cX6_print 93 = .ok (.sipush 137, 3) := by decide +kernel
theorem dX6_print_96 : decode cX6_print 96 = .ok (.bipush 6, 2) := by decide +kernel
theorem dX6_print_98 : decode cX6_print 98 = .ok (.iload 4, 2) := by decide +kernel
theorem dX6_print_100 : decode cX6_print 100 = .ok (.imul, 1) := by decide +kernel
theorem dX6_print_101 : decode cX6_print 101 = .ok (.iadd, 1) := by decide +kernel
theorem dX6_print_102 : decode cX6_print 102 = .ok (.iconst 4, 1) := by decide +kernel
theorem dX6_print_103 : decode cX6_print 103 = .ok (.iadd, 1) := by decide +kernel
theorem dX6_print_104 : decode cX6_print 104 = .ok (.iload 5, 2) := by decide +kernel
theorem dX6_print_106 : decode cX6_print 106 = .ok (.iastore, 1) := by decide +kernel
theorem dX6_print_107 : decode cX6_print 107 = .ok (.aload_n 0, 1) := by decide +kernel
theorem dX6_print_108 : decode cX6_print 108 = .ok (.getfield 7, 3) := by decide +kernel
theorem dX6_print_111 : decode cX6_print 111 = .ok (.sipush 137, 3) := by decide +kernel
theorem dX6_print_114 : decode cX6_print 114 = .ok (.bipush 6, 2) := by decide +kernel
theorem dX6_print_116 : decode cX6_print 116 = .ok (.iload 4, 2) := by decide +kernel
theorem dX6_print_118 : decode cX6_print 118 = .ok (.imul, 1) := by decide +kernel
theorem dX6_print_119 : decode cX6_print 119 = .ok (.iadd, 1) := by decide +kernel
theorem dX6_print_120 : decode cX6_print 120 = .ok (.iconst 5, 1) := by decide +kernel
theorem dX6_print_121 : decode cX6_print 121 = .ok (.iadd, 1) := by decide +kernel
theorem dX6_print_122 : decode cX6_print 122 = .ok (.aload_n 0, 1) := by decide +kernel
theorem dX6_print_123 : decode cX6_print 123 = .ok (.getfield 7, 3) := by decide +kernel
theorem dX6_print_126 : decode cX6_print 126 = .ok (.iconst 2, 1) := by decide +kernel
theorem dX6_print_127 : decode cX6_print 127 = .ok (.iaload, 1) := by decide +kernel
theorem dX6_print_128 : decode cX6_print 128 = .ok (.iastore, 1) := by decide +kernel
theorem dX6_print_129 : decode cX6_print 129 = .ok (.aload_n 0, 1) := by decide +kernel
theorem dX6_print_130 : decode cX6_print 130 = .ok (.getfield 7, 3) := by decide +kernel
theorem dX6_print_133 : decode cX6_print 133 = .ok (.sipush 137, 3) := by decide +kernel
theorem dX6_print_136 : decode cX6_print 136 = .ok (.bipush 6, 2) := by decide +kernel
theorem dX6_print_138 : decode cX6_print 138 = .ok (.iload 4, 2) := by decide +kernel
theorem dX6_print_140 : decode cX6_print 140 = .ok (.imul, 1) := by decide +kernel
theorem dX6_print_141 : decode cX6_print 141 = .ok (.iadd, 1) := by decide +kernel
theorem dX6_print_142 : decode cX6_print 142 = .ok (.iconst 3, 1) := by decide +kernel
theorem dX6_print_143 : decode cX6_print 143 = .ok (.iadd, 1) := by decide +kernel
theorem dX6_print_144 : decode cX6_print 144 = .ok (.aload_n 0, 1) := by decide +kernel
theorem dX6_print_145 : decode cX6_print 145 = .ok (.iload 4, 2) := by decide +kernel
theorem dX6_print_147 : decode cX6_print 147 = .ok (.iload 5, 2) := by decide +kernel
theorem dX6_print_149 : decode cX6_print 149 = .ok (.invokevirtual 51, 3) := by decide +kernel
theorem dX6_print_152 : decode cX6_print 152 = .ok (.iastore, 1) := by decide +kernel
theorem dX6_print_153 : decode cX6_print 153 = .ok (.iinc 4 1, 3) := by decide +kernel
theorem dX6_print_156 : decode cX6_print 156 = .ok (.goto (-88), 3) := by decide +kernel
theorem dX6_print_159 : decode cX6_print 159 = .ok (.aload_n 0, 1) := by decide +kernel
theorem dX6_print_160 : decode cX6_print 160 = .ok (.getfield 7, 3) := by decide +kernel
theorem dX6_print_163 : decode cX6_print 163 = .ok (.bipush 10, 2) := by decide +kernel
theorem dX6_print_165 : decode cX6_print 165 = .ok (.dup2, 1) := by decide +kernel
theorem dX6_print_166 : decode cX6_print 166 = .ok (.iaload, 1) := by decide +kernel
theorem dX6_print_167 : decode cX6_print 167 = .ok (.iload_n 3, 1) := by decide +kernel
theorem dX6_print_168 : decode cX6_print 168 = .ok (.iadd, 1) := by decide +kernel
theorem dX6_print_169 : decode cX6_print 169 = .ok (.iastore, 1) := by decide +kernel
theorem dX6_print_170 : decode cX6_print 170 = .ok (.aload_n 0, 1) := by decide +kernel
theorem dX6_print_171 : decode cX6_print 171 = .ok (.getfield 7, 3) := by decide +kernel
theorem dX6_print_174 : decode cX6_print 174 = .ok (.bipush 11, 2) := by decide +kernel
theorem dX6_print_176 : decode cX6_print 176 = .ok (.dup2, 1) := by decide +kernel
theorem dX6_print_177 : decode cX6_print 177 = .ok (.iaload, 1) := by decide +kernel
theorem dX6_print_178 : decode cX6_print 178 = .ok (.aload_n 0, 1) := by decide +kernel
theorem dX6_print_179 : decode cX6_print 179 = .ok (.getfield 7, 3) := by decide +kernel
theorem dX6_print_182 : decode cX6_print 182 = .ok (.iconst 3, 1) := by decide +kernel
theorem dX6_print_183 : decode cX6_print 183 = .ok (.iaload, 1) := by decide +kernel
theorem dX6_print_184 : decode cX6_print 184 = .ok (.iadd, 1) := by decide +kernel
theorem dX6_print_185 : decode cX6_print 185 = .ok (.iastore, 1) := by decide +kernel
theorem dX6_print_186 : decode cX6_print 186 = .ok (.aload_n 0, 1) := by decide +kernel
theorem dX6_print_187 : decode cX6_print 187 = .ok (.getfield 7, 3) := by decide +kernel
theorem dX6_print_190 : decode cX6_print 190 = .ok (.bipush 12, 2) := by decide +kernel
theorem dX6_print_192 : decode cX6_print 192 = .ok (.dup2, 1) := by decide +kernel
theorem dX6_print_193 : decode cX6_print 193 = .ok (.iaload, 1) := by decide +kernel
theorem dX6_print_194 : decode cX6_print 194 = .ok (.iconst 1, 1) := by decide +kernel
theorem dX6_print_195 : decode cX6_print 195 = .ok (.iadd, 1) := by decide +kernel
theorem dX6_print_196 : decode cX6_print 196 = .ok (.iastore, 1) := by decide +kernel
theorem dX6_print_197 : decode cX6_print 197 = .ok (.aload_n 0, 1) := by decide +kernel
theorem dX6_print_198 : decode cX6_print 198 = .ok (.getfield 7, 3) := by decide +kernel
theorem dX6_print_201 : decode cX6_print 201 = .ok (.bipush 15, 2) := by decide +kernel
theorem dX6_print_203 : decode cX6_print 203 = .ok (.dup2, 1) := by decide +kernel
theorem dX6_print_204 : decode cX6_print 204 = .ok (.iaload, 1) := by decide +kernel
theorem dX6_print_205 : decode cX6_print 205 = .ok (.aload_n 0, 1) := by decide +kernel
theorem dX6_print_206 : decode cX6_print 206 = .ok (.getfield 7, 3) := by decide +kernel
theorem dX6_print_209 : decode cX6_print 209 = .ok (.bipush 8, 2) := by decide +kernel
theorem dX6_print_211 : decode cX6_print 211 = .ok (.iaload, 1) := by decide +kernel
theorem dX6_print_212 : decode cX6_print 212 = .ok (.iload_n 3, 1) := by decide +kernel
theorem dX6_print_213 : decode cX6_print 213 = .ok (.imul, 1) := by decide +kernel
theorem dX6_print_214 : decode cX6_print 214 = .ok (.bipush 10, 2) := by decide +kernel
theorem dX6_print_216 : decode cX6_print 216 = .ok (.aload_n 0, 1) := by decide +kernel
theorem dX6_print_217 : decode cX6_print 217 = .ok (.iload_n 2, 1) := by decide +kernel
theorem dX6_print_218 : decode cX6_print 218 = .ok (.iconst 1, 1) := by decide +kernel
theorem dX6_print_219 : decode cX6_print 219 = .ok (.isub, 1) := by decide +kernel
theorem dX6_print_220 : decode cX6_print 220 = .ok (.iconst 3, 1) := by decide +kernel
theorem dX6_print_221 : decode cX6_print 221 = .ok (.invokevirtual 43, 3) := by decide +kernel
theorem dX6_print_224 : decode cX6_print 224 = .ok (.imul, 1) := by decide +kernel
theorem dX6_print_225 : decode cX6_print 225 = .ok (.iadd, 1) := by decide +kernel
theorem dX6_print_226 : decode cX6_print 226 = .ok (.iadd, 1) := by decide +kernel
theorem dX6_print_227 : decode cX6_print 227 = .ok (.iastore, 1) := by decide +kernel
theorem dX6_print_228 : decode cX6_print 228 = .ok (.aload_n 0, 1) := by decide +kernel
theorem dX6_print_229 : decode cX6_print 229 = .ok (.getfield 7, 3) := by decide +kernel
theorem dX6_print_232 : decode cX6_print 232 = .ok (.iconst 1, 1) := by decide +kernel
theorem dX6_print_233 : decode cX6_print 233 = .ok (.iload_n 2, 1) := by decide +kernel
theorem dX6_print_234 : decode cX6_print 234 = .ok (.iastore, 1) := by decide +kernel
theorem dX6_print_235 : decode cX6_print 235 = .ok (.aload_n 0, 1) := by decide +kernel
theorem dX6_print_236 : decode cX6_print 236 = .ok (.iload_n 3, 1) := by decide +kernel
theorem dX6_print_237 : decode cX6_print 237 = .ok (.iload_n 2, 1) := by decide +kernel
theorem dX6_print_238 : decode cX6_print 238 = .ok (.iload_n 1, 1) := by decide +kernel
theorem dX6_print_239 : decode cX6_print 239 = .ok (.isub, 1) := by decide +kernel
theorem dX6_print_240 : decode cX6_print 240 = .ok (.invokevirtual 104, 3) := by decide +kernel
theorem dX6_print_243 : decode cX6_print 243 = .ok (.aload_n 0, 1) := by decide +kernel
theorem dX6_print_244 : decode cX6_print 244 = .ok (.iload_n 3, 1) := by decide +kernel
theorem dX6_print_245 : decode cX6_print 245 = .ok (.invokevirtual 86, 3) := by decide +kernel
theorem dX6_print_248 : decode cX6_print 248 = .ok (.ireturn, 1) := by decide +kernel
theorem dX6_skip_0 : decode cX6_skip 0 = .ok (.aload_n 0, 1) := by decide +kernel
theorem dX6_skip_1 : decode cX6_skip 1 = .ok (.getfield 7, 3) := by decide +kernel
theorem dX6_skip_4 : decode cX6_skip 4 = .ok (.iconst 4, 1) := by decide +kernel
theorem dX6_skip_5 : decode cX6_skip 5 = .ok (.iaload, 1) := by decide +kernel
theorem dX6_skip_6 : decode cX6_skip 6 = .ok (.ifCond .gt 10, 3) := by decide +kernel
theorem dX6_skip_9 : decode cX6_skip 9 = .ok (.aload_n 0, 1) := by decide +kernel
theorem dX6_skip_10 : decode cX6_skip 10 = .ok (.invokevirtual 97, 3) := by decide +kernel
theorem dX6_skip_13 : decode cX6_skip 13 = .ok (.ifCond .eq 6, 3) := by decide +kernel
theorem dX6_skip_16 : decode cX6_skip 16 = .ok (.ldc 77, 2) := by decide +kernel
theorem dX6_skip_18 : decode cX6_skip 18 = .ok (.ireturn, 1) := by decide +kernel
theorem dX6_skip_19 : decode cX6_skip 19 = .ok (.aload_n 0, 1) := by decide +kernel
theorem dX6_skip_20 : decode cX6_skip 20 = .ok (.invokevirtual 79, 3) := by decide +kernel
theorem dX6_skip_23 : decode cX6_skip 23 = .ok (.aload_n 0, 1) := by decide +kernel
theorem dX6_skip_24 : decode cX6_skip 24 = .ok (.getfield 7, 3) := by decide +kernel
theorem dX6_skip_27 : decode cX6_skip 27 = .ok (.bipush 13, 2) := by decide +kernel
theorem dX6_skip_29 : decode cX6_skip 29 = .ok (.dup2, 1) := by decide +kernel
theorem dX6_skip_30 : decode cX6_skip 30 = .ok (.iaload, 1) := by decide +kernel
theorem dX6_skip_31 : decode cX6_skip 31 = .ok (.iconst 1, 1) := by decide +kernel
theorem dX6_skip_32 : decode cX6_skip 32 = .ok (.iadd, 1) := by decide +kernel
theorem dX6_skip_33 : decode cX6_skip 33 = .ok (.iastore, 1) := by decide +kernel
theorem dX6_skip_34 : decode cX6_skip 34 = .ok (.aload_n 0, 1) := by decide +kernel
theorem dX6_skip_35 : decode cX6_skip 35 = .ok (.iconst 0, 1) := by decide +kernel
theorem dX6_skip_36 : decode cX6_skip 36 = .ok (.iconst 0, 1) := by decide +kernel
theorem dX6_skip_37 : decode cX6_skip 37 = .ok (.invokevirtual 104, 3) := by decide +kernel
theorem dX6_skip_40 : decode cX6_skip 40 = .ok (.aload_n 0, 1) := by decide +kernel
theorem dX6_skip_41 : decode cX6_skip 41 = .ok (.aload_n 0, 1) := by decide +kernel
theorem dX6_skip_42 : decode cX6_skip 42 = .ok (.getfield 7, 3) := by decide +kernel
theorem dX6_skip_45 : decode cX6_skip 45 = .ok (.bipush 9, 2) := by decide +kernel
theorem dX6_skip_47 : decode cX6_skip 47 = .ok (.iaload, 1) := by decide +kernel
theorem dX6_skip_48 : decode cX6_skip 48 = .ok (.invokevirtual 86, 3) := by decide +kernel
theorem dX6_skip_51 : decode cX6_skip 51 = .ok (.ireturn, 1) := by decide +kernel
theorem dX6_take_0 : decode cX6_take 0 = .ok (.iload_n 1, 1) := by decide +kernel
theorem dX6_take_1 : decode cX6_take 1 = .ok (.iconst 0, 1) := by decide +kernel
theorem dX6_take_2 : decode cX6_take 2 = .ok (.iconst 1, 1) := by decide +kernel
theorem dX6_take_3 : decode cX6_take 3 = .ok (.invokestatic 72, 3) := by decide +kernel
theorem dX6_take_6 : decode cX6_take 6 = .ok (.ifCond .ne 6, 3) := by decide +kernel
theorem dX6_take_9 : decode cX6_take 9 = .ok (.ldc 76, 2) := by decide +kernel
theorem dX6_take_11 : decode cX6_take 11 = .ok (.ireturn, 1) := by decide +kernel
theorem dX6_take_12 : decode cX6_take 12 = .ok (.aload_n 0, 1) := by decide +kernel
theorem dX6_take_13 : decode cX6_take 13 = .ok (.invokevirtual 79, 3) := by decide +kernel
theorem dX6_take_16 : decode cX6_take 16 = .ok (.iconst 0, 1) := by decide +kernel
theorem dX6_take_17 : decode cX6_take 17 = .ok (.istore_n 2, 1) := by decide +kernel
theorem dX6_take_18 : decode cX6_take 18 = .ok (.iload_n 2, 1) := by decide +kernel
theorem dX6_take_19 : decode cX6_take 19 = .ok (.sipush 257, 3) := by decide +kernel
theorem dX6_take_22 : decode cX6_take 22 = .ok (.if_icmp .ge 31, 3) := by decide +kernel
theorem dX6_take_25 : decode cX6_take 25 = .ok (.aload_n 0, 1) := by decide +kernel
theorem dX6_take_26 : decode cX6_take 26 = .ok (.getfield 7, 3) := by decide +kernel
theorem dX6_take_29 : decode cX6_take 29 = .ok (.sipush 257, 3) := by decide +kernel
theorem dX6_take_32 : decode cX6_take 32 = .ok (.sipush 257, 3) := by decide +kernel
theorem dX6_take_35 : decode cX6_take 35 = .ok (.iload_n 1, 1) := by decide +kernel
theorem dX6_take_36 : decode cX6_take 36 = .ok (.imul, 1) := by decide +kernel
theorem dX6_take_37 : decode cX6_take 37 = .ok (.iadd, 1) := by decide +kernel
theorem dX6_take_38 : decode cX6_take 38 = .ok (.iload_n 2, 1) := by decide +kernel
theorem dX6_take_39 : decode cX6_take 39 = .ok (.iadd, 1) := by decide +kernel
theorem dX6_take_40 : decode cX6_take 40 = .ok (.aload_n 0, 1) := by decide +kernel
theorem dX6_take_41 : decode cX6_take 41 = .ok (.getfield 7, 3) := by decide +kernel
theorem dX6_take_44 : decode cX6_take 44 = .ok (.iload_n 2, 1) := by decide +kernel
theorem dX6_take_45 : decode cX6_take 45 = .ok (.iaload, 1) := by decide +kernel
theorem dX6_take_46 : decode cX6_take 46 = .ok (.iastore, 1) := by decide +kernel
theorem dX6_take_47 : decode cX6_take 47 = .ok (.iinc 2 1, 3) := by decide +kernel
theorem dX6_take_50 : decode cX6_take 50 = .ok (.goto (-32), 3) := by decide +kernel
theorem dX6_take_53 : decode cX6_take 53 = .ok (.aload_n 0, 1) := by decide +kernel
theorem dX6_take_54 : decode cX6_take 54 = .ok (.getfield 7, 3) := by decide +kernel
theorem dX6_take_57 : decode cX6_take 57 = .ok (.sipush 771, 3) := by decide +kernel
theorem dX6_take_60 : decode cX6_take 60 = .ok (.iload_n 1, 1) := by decide +kernel
theorem dX6_take_61 : decode cX6_take 61 = .ok (.iadd, 1) := by decide +kernel
theorem dX6_take_62 : decode cX6_take 62 = .ok (.iconst 1, 1) := by decide +kernel
theorem dX6_take_63 : decode cX6_take 63 = .ok (.iastore, 1) := by decide +kernel
theorem dX6_take_64 : decode cX6_take 64 = .ok (.aload_n 0, 1) := by decide +kernel
theorem dX6_take_65 : decode cX6_take 65 = .ok (.aload_n 0, 1) := by decide +kernel
theorem dX6_take_66 : decode cX6_take 66 = .ok (.invokevirtual 93, 3) := by decide +kernel
theorem dX6_take_69 : decode cX6_take 69 = .ok (.invokevirtual 86, 3) := by decide +kernel
theorem dX6_take_72 : decode cX6_take 72 = .ok (.ireturn, 1) := by decide +kernel
theorem dX6_restore_0 : decode cX6_restore 0 = .ok (.iload_n 1, 1) := by decide +kernel
theorem dX6_restore_1 : decode cX6_restore 1 = .ok (.iconst 0, 1) := by decide +kernel
theorem dX6_restore_2 : decode cX6_restore 2 = .ok (.iconst 1, 1) := by decide +kernel
theorem dX6_restore_3 : decode cX6_restore 3 = .ok (.invokestatic 72, 3) := by decide +kernel
theorem dX6_restore_6 : decode cX6_restore 6 = .ok (.ifCond .ne 6, 3) := by decide +kernel
theorem dX6_restore_9 : decode cX6_restore 9 = .ok (.ldc 76, 2) := by decide +kernel
theorem dX6_restore_11 : decode cX6_restore 11 = .ok (.ireturn, 1) := by decide +kernel
theorem dX6_restore_12 : decode cX6_restore 12 = .ok (.aload_n 0, 1) := by decide +kernel
theorem dX6_restore_13 : decode cX6_restore 13 = .ok (.getfield 7, 3) := by decide +kernel
theorem dX6_restore_16 : decode cX6_restore 16 = .ok (.sipush 771, 3) := by decide +kernel
theorem dX6_restore_19 : decode cX6_restore 19 = .ok (.iload_n 1, 1) := by decide +kernel
theorem dX6_restore_20 : decode cX6_restore 20 = .ok (.iadd, 1) := by decide +kernel
theorem dX6_restore_21 : decode cX6_restore 21 = .ok (.iaload, 1) := by decide +kernel
theorem dX6_restore_22 : decode cX6_restore 22 = .ok (.ifCond .ne 6, 3) := by decide +kernel
theorem dX6_restore_25 : decode cX6_restore 25 = .ok (.ldc 77, 2) := by decide +kernel
theorem dX6_restore_27 : decode cX6_restore 27 = .ok (.ireturn, 1) := by decide +kernel
theorem dX6_restore_28 : decode cX6_restore 28 = .ok (.aload_n 0, 1) := by decide +kernel
theorem dX6_restore_29 : decode cX6_restore 29 = .ok (.invokevirtual 79, 3) := by decide +kernel
theorem dX6_restore_32 : decode cX6_restore 32 = .ok (.iconst 0, 1) := by decide +kernel
theorem dX6_restore_33 : decode cX6_restore 33 = .ok (.istore_n 2, 1) := by decide +kernel
theorem dX6_restore_34 : decode cX6_restore 34 = .ok (.iload_n 2, 1) := by decide +kernel
theorem dX6_restore_35 : decode cX6_restore 35 = .ok (.sipush 257, 3) := by decide +kernel
theorem dX6_restore_38 : decode cX6_restore 38 = .ok (.if_icmp .ge 31, 3) := by decide +kernel
theorem dX6_restore_41 : decode cX6_restore 41 = .ok (.aload_n 0, 1) := by decide +kernel
theorem dX6_restore_42 : decode cX6_restore 42 = .ok (.getfield 7, 3) := by decide +kernel
theorem dX6_restore_45 : decode cX6_restore 45 = .ok (.iload_n 2, 1) := by decide +kernel
theorem dX6_restore_46 : decode cX6_restore 46 = .ok (.aload_n 0, 1) := by decide +kernel
theorem dX6_restore_47 : decode cX6_restore 47 = .ok (.getfield 7, 3) := by decide +kernel
theorem dX6_restore_50 : decode cX6_restore 50 = .ok (.sipush 257, 3) := by decide +kernel
theorem dX6_restore_53 : decode cX6_restore 53 = .ok (.sipush 257, 3) := by decide +kernel
theorem dX6_restore_56 : decode cX6_restore 56 = .ok (.iload_n 1, 1) := by decide +kernel
theorem dX6_restore_57 : decode cX6_restore 57 = .ok (.imul, 1) := by decide +kernel
theorem dX6_restore_58 : decode cX6_restore 58 = .ok (.iadd, 1) := by decide +kernel
theorem dX6_restore_59 : decode cX6_restore 59 = .ok (.iload_n 2, 1) := by decide +kernel
theorem dX6_restore_60 : decode cX6_restore 60 = .ok (.iadd, 1) := by decide +kernel
theorem dX6_restore_61 : decode cX6_restore 61 = .ok (.iaload, 1) := by decide +kernel
theorem dX6_restore_62 : decode cX6_restore 62 = .ok (.iastore, 1) := by decide +kernel
theorem dX6_restore_63 : decode cX6_restore 63 = .ok (.iinc 2 1, 3) := by decide +kernel
theorem dX6_restore_66 : decode cX6_restore 66 = .ok (.goto (-32), 3) := by decide +kernel
theorem dX6_restore_69 : decode cX6_restore 69 = .ok (.aload_n 0, 1) := by decide +kernel
theorem dX6_restore_70 : decode cX6_restore 70 = .ok (.aload_n 0, 1) := by decide +kernel
theorem dX6_restore_71 : decode cX6_restore 71 = .ok (.invokevirtual 93, 3) := by decide +kernel
theorem dX6_restore_74 : decode cX6_restore 74 = .ok (.invokevirtual 86, 3) := by decide +kernel
theorem dX6_restore_77 : decode cX6_restore 77 = .ok (.ireturn, 1) := by decide +kernel
theorem dX6_undo_0 : decode cX6_undo 0 = .ok (.aload_n 0, 1) := by decide +kernel
theorem dX6_undo_1 : decode cX6_undo 1 = .ok (.getfield 39, 3) := by decide +kernel
theorem dX6_undo_4 : decode cX6_undo 4 = .ok (.ifCond .ne 6, 3) := by decide +kernel
theorem dX6_undo_7 : decode cX6_undo 7 = .ok (.ldc 77, 2) := by decide +kernel
theorem dX6_undo_9 : decode cX6_undo 9 = .ok (.ireturn, 1) := by decide +kernel
theorem dX6_undo_10 : decode cX6_undo 10 = .ok (.aload_n 0, 1) := by decide +kernel
theorem dX6_undo_11 : decode cX6_undo 11 = .ok (.dup, 1) := by decide +kernel
theorem dX6_undo_12 : decode cX6_undo 12 = .ok (.getfield 39, 3) := by decide +kernel
theorem dX6_undo_15 : decode cX6_undo 15 = .ok (.iconst 1, 1) := by decide +kernel
theorem dX6_undo_16 : decode cX6_undo 16 = .ok (.isub, 1) := by decide +kernel
theorem dX6_undo_17 : decode cX6_undo 17 = .ok (.putfield 39, 3) := by decide +kernel
theorem dX6_undo_20 : decode cX6_undo 20 = .ok (.iconst 0, 1) := by decide +kernel
theorem dX6_undo_21 : decode cX6_undo 21 = .ok (.istore_n 1, 1) := by decide +kernel
theorem dX6_undo_22 : decode cX6_undo 22 = .ok (.iload_n 1, 1) := by decide +kernel
theorem dX6_undo_23 : decode cX6_undo 23 = .ok (.sipush 773, 3) := by decide +kernel
theorem dX6_undo_26 : decode cX6_undo 26 = .ok (.if_icmp .ge 30, 3) := by decide +kernel
theorem dX6_undo_29 : decode cX6_undo 29 = .ok (.aload_n 0, 1) := by decide +kernel
theorem dX6_undo_30 : decode cX6_undo 30 = .ok (.getfield 7, 3) := by decide +kernel
theorem dX6_undo_33 : decode cX6_undo 33 = .ok (.iload_n 1, 1) := by decide +kernel
theorem dX6_undo_34 : decode cX6_undo 34 = .ok (.aload_n 0, 1) := by decide +kernel
theorem dX6_undo_35 : decode cX6_undo 35 = .ok (.getfield 13, 3) := by decide +kernel
theorem dX6_undo_38 : decode cX6_undo 38 = .ok (.sipush 773, 3) := by decide +kernel
theorem dX6_undo_41 : decode cX6_undo 41 = .ok (.aload_n 0, 1) := by decide +kernel
theorem dX6_undo_42 : decode cX6_undo 42 = .ok (.getfield 39, 3) := by decide +kernel
theorem dX6_undo_45 : decode cX6_undo 45 = .ok (.imul, 1) := by decide +kernel
theorem dX6_undo_46 : decode cX6_undo 46 = .ok (.iload_n 1, 1) := by decide +kernel
theorem dX6_undo_47 : decode cX6_undo 47 = .ok (.iadd, 1) := by decide +kernel
theorem dX6_undo_48 : decode cX6_undo 48 = .ok (.iaload, 1) := by decide +kernel
theorem dX6_undo_49 : decode cX6_undo 49 = .ok (.iastore, 1) := by decide +kernel
theorem dX6_undo_50 : decode cX6_undo 50 = .ok (.iinc 1 1, 3) := by decide +kernel
theorem dX6_undo_53 : decode cX6_undo 53 = .ok (.goto (-31), 3) := by decide +kernel
theorem dX6_undo_56 : decode cX6_undo 56 = .ok (.aload_n 0, 1) := by decide +kernel
theorem dX6_undo_57 : decode cX6_undo 57 = .ok (.getfield 39, 3) := by decide +kernel
theorem dX6_undo_60 : decode cX6_undo 60 = .ok (.ireturn, 1) := by decide +kernel
theorem dX6_append_0 : decode cX6_append 0 = .ok (.iload_n 1, 1) := by decide +kernel
theorem dX6_append_1 : decode cX6_append 1 = .ok (.iconst 1, 1) := by decide +kernel
theorem dX6_append_2 : decode cX6_append 2 = .ok (.sipush 255, 3) := by decide +kernel
theorem dX6_append_5 : decode cX6_append 5 = .ok (.invokestatic 72, 3) := by decide +kernel
theorem dX6_append_8 : decode cX6_append 8 = .ok (.ifCond .ne 6, 3) := by decide +kernel
theorem dX6_append_11 : decode cX6_append 11 = .ok (.ldc 76, 2) := by decide +kernel
theorem dX6_append_13 : decode cX6_append 13 = .ok (.ireturn, 1) := by decide +kernel
theorem dX6_append_14 : decode cX6_append 14 = .ok (.aload_n 0, 1) := by decide +kernel
theorem dX6_append_15 : decode cX6_append 15 = .ok (.getfield 108, 3) := by decide +kernel
theorem dX6_append_18 : decode cX6_append 18 = .ok (.bipush 100, 2) := by decide +kernel
theorem dX6_append_20 : decode cX6_append 20 = .ok (.if_icmp .ne 6, 3) := by decide +kernel
theorem dX6_append_23 : decode cX6_append 23 = .ok (.ldc 78, 2) := by decide +kernel
theorem dX6_append_25 : decode cX6_append 25 = .ok (.ireturn, 1) := by decide +kernel
theorem dX6_append_26 : decode cX6_append 26 = .ok (.aload_n 0, 1) := by decide +kernel
theorem dX6_append_27 : decode cX6_append 27 = .ok (.getfield 19, 3) := by decide +kernel
theorem dX6_append_30 : decode cX6_append 30 = .ok (.aload_n 0, 1) := by decide +kernel
theorem dX6_append_31 : decode cX6_append 31 = .ok (.getfield 108, 3) := by decide +kernel
theorem dX6_append_34 : decode cX6_append 34 = .ok (.iload_n 1, 1) := by decide +kernel
theorem dX6_append_35 : decode cX6_append 35 = .ok (.i2c, 1) := by decide +kernel
theorem dX6_append_36 : decode cX6_append 36 = .ok (.castore, 1) := by decide +kernel
theorem dX6_append_37 : decode cX6_append 37 = .ok (.aload_n 0, 1) := by decide +kernel
theorem dX6_append_38 : decode cX6_append 38 = .ok (.dup, 1) := by decide +kernel
theorem dX6_append_39 : decode cX6_append 39 = .ok (.getfield 108, 3) := by decide +kernel
theorem dX6_append_42 : decode cX6_append 42 = .ok (.iconst 1, 1) := by decide +kernel
theorem dX6_append_43 : decode cX6_append 43 = .ok (.iadd, 1) := by decide +kernel
theorem dX6_append_44 : decode cX6_append 44 = .ok (.putfield 108, 3) := by decide +kernel
theorem dX6_append_47 : decode cX6_append 47 = .ok (.aload_n 0, 1) := by decide +kernel
theorem dX6_append_48 : decode cX6_append 48 = .ok (.getfield 108, 3) := by decide +kernel
theorem dX6_append_51 : decode cX6_append 51 = .ok (.ireturn, 1) := by decide +kernel
theorem dX6_clearText_0 : decode cX6_clearText 0 = .ok (.aload_n 0, 1) := by decide +kernel
theorem dX6_clearText_1 : decode cX6_clearText 1 = .ok (.getfield 108, 3) := by decide +kernel
theorem dX6_clearText_4 : decode cX6_clearText 4 = .ok (.istore_n 1, 1) := by decide +kernel
theorem dX6_clearText_5 : decode cX6_clearText 5 = .ok (.aload_n 0, 1) := by decide +kernel
theorem dX6_clearText_6 : decode cX6_clearText 6 = .ok (.iconst 0, 1) := by decide +kernel
theorem dX6_clearText_7 : decode cX6_clearText 7 = .ok (.putfield 108, 3) := by decide +kernel
theorem dX6_clearText_10 : decode cX6_clearText 10 = .ok (.iload_n 1, 1) := by decide +kernel
theorem dX6_clearText_11 : decode cX6_clearText 11 = .ok (.ireturn, 1) := by decide +kernel
theorem dX6_has_0 : decode cX6_has 0 = .ok (.aload_n 0, 1) := by decide +kernel
theorem dX6_has_1 : decode cX6_has 1 = .ok (.getfield 111, 3) := by decide +kernel
theorem dX6_has_4 : decode cX6_has 4 = .ok (.aload_n 0, 1) := by decide +kernel
theorem dX6_has_5 : decode cX6_has 5 = .ok (.getfield 108, 3) := by decide +kernel
theorem dX6_has_8 : decode cX6_has 8 = .ok (.if_icmp .ge 24, 3) := by decide +kernel
theorem dX6_has_11 : decode cX6_has 11 = .ok (.aload_n 0, 1) := by decide +kernel
theorem dX6_has_12 : decode cX6_has 12 = .ok (.getfield 19, 3) := by decide +kernel
theorem dX6_has_15 : decode cX6_has 15 = .ok (.aload_n 0, 1) := by decide +kernel
theorem dX6_has_16 : decode cX6_has 16 = .ok (.getfield 111, 3) := by decide +kernel
theorem dX6_has_19 : decode cX6_has 19 = .ok (.caload, 1) := by decide +kernel
theorem dX6_has_20 : decode cX6_has 20 = .ok (.iload_n 1, 1) := by decide +kernel
theorem dX6_has_21 : decode cX6_has 21 = .ok (.iload_n 2, 1) := by decide +kernel
theorem dX6_has_22 : decode cX6_has 22 = .ok (.invokestatic 72, 3) := by decide +kernel
theorem dX6_has_25 : decode cX6_has 25 = .ok (.ifCond .eq 7, 3) := by decide +kernel
theorem dX6_has_28 : decode cX6_has 28 = .ok (.iconst 1, 1) := by decide +kernel
theorem dX6_has_29 : decode cX6_has 29 = .ok (.goto 4, 3) := by decide +kernel
theorem dX6_has_32 : decode cX6_has 32 = .ok (.iconst 0, 1) := by decide +kernel
theorem dX6_has_33 : decode cX6_has 33 = .ok (.istore_n 3, 1) := by decide +kernel
theorem dX6_has_34 : decode cX6_has 34 = .ok (.aload_n 0, 1) := by decide +kernel
theorem dX6_has_35 : decode cX6_has 35 = .ok (.dup, 1) := by decide +kernel
theorem dX6_has_36 : decode cX6_has 36 = .ok (.getfield 111, 3) := by decide +kernel
theorem dX6_has_39 : decode cX6_has 39 = .ok (.iload_n 3, 1) := by decide +kernel
theorem dX6_has_40 : decode cX6_has 40 = .ok (.ifCond .eq 7, 3) := by decide +kernel
theorem dX6_has_43 : decode cX6_has 43 = .ok (.iconst 1, 1) := by decide +kernel
theorem dX6_has_44 : decode cX6_has 44 = .ok (.goto 4, 3) := by decide +kernel
theorem dX6_has_47 : decode cX6_has 47 = .ok (.iconst 0, 1) := by decide +kernel
theorem dX6_has_48 : decode cX6_has 48 = .ok (.iadd, 1) := by decide +kernel
theorem dX6_has_49 : decode cX6_has 49 = .ok (.putfield 111, 3) := by decide +kernel
theorem dX6_has_52 : decode cX6_has 52 = .ok (.iload_n 3, 1) := by decide +kernel
theorem dX6_has_53 : decode cX6_has 53 = .ok (.ireturn, 1) := by decide +kernel
theorem dX6_number_0 : decode cX6_number 0 = .ok (.iconst 0, 1) := by decide +kernel
theorem dX6_number_1 : decode cX6_number 1 = .ok (.istore_n 1, 1) := by decide +kernel
theorem dX6_number_2 : decode cX6_number 2 = .ok (.aload_n 0, 1) := by decide +kernel
theorem dX6_number_3 : decode cX6_number 3 = .ok (.bipush 49, 2) := by decide +kernel
theorem dX6_number_5 : decode cX6_number 5 = .ok (.bipush 57, 2) := by decide +kernel
theorem dX6_number_7 : decode cX6_number 7 = .ok (.invokevirtual 114, 3) := by decide +kernel
theorem dX6_number_10 : decode cX6_number 10 = .ok (.ifCond .eq 62, 3) := by decide +kernel
theorem dX6_number_13 : decode cX6_number 13 = .ok (.aload_n 0, 1) := by decide +kernel
theorem dX6_number_14 : decode cX6_number 14 = .ok (.getfield 19, 3) := by decide +kernel
theorem dX6_number_17 : decode cX6_number 17 = .ok (.aload_n 0, 1) := by decide +kernel
theorem dX6_number_18 : decode cX6_number 18 = .ok (.getfield 111, 3) := by decide +kernel
theorem dX6_number_21 : decode cX6_number 21 = .ok (.iconst 1, 1) := by decide +kernel
theorem dX6_number_22 : decode cX6_number 22 = .ok (.isub, 1) := by decide +kernel
theorem dX6_number_23 : decode cX6_number 23 = .ok (.caload, 1) := by decide +kernel
theorem dX6_number_24 : decode cX6_number 24 = .ok (.bipush 48, 2) := by decide +kernel
theorem dX6_number_26 : decode cX6_number 26 = .ok (.isub, 1) := by decide +kernel
theorem dX6_number_27 : decode cX6_number 27 = .ok (.istore_n 1, 1) := by decide +kernel
theorem dX6_number_28 : decode cX6_number 28 = .ok (.iconst 0, 1) := by decide +kernel
theorem dX6_number_29 : decode cX6_number 29 = .ok (.istore_n 2, 1) := by decide +kernel
theorem dX6_number_30 : decode cX6_number 30 = .ok (.iload_n 2, 1) := by decide +kernel
theorem dX6_number_31 : decode cX6_number 31 = .ok (.iconst 2, 1) := by decide +kernel
theorem dX6_number_32 : decode cX6_number 32 = .ok (.if_icmp .ge 40, 3) := by decide +kernel
theorem dX6_number_35 : decode cX6_number 35 = .ok (.aload_n 0, 1) := by decide +kernel
theorem dX6_number_36 : decode cX6_number 36 = .ok (.bipush 48, 2) := by decide +kernel
theorem dX6_number_38 : decode cX6_number 38 = .ok (.bipush 57, 2) := by decide +kernel
theorem dX6_number_40 : decode cX6_number 40 = .ok (.invokevirtual 114, 3) := by decide +kernel
theorem dX6_number_43 : decode cX6_number 43 = .ok (.ifCond .eq 29, 3) := by decide +kernel
theorem dX6_number_46 : decode cX6_number 46 = .ok (.bipush 10, 2) := by decide +kernel
theorem dX6_number_48 : decode cX6_number 48 = .ok (.iload_n 1, 1) := by decide +kernel
theorem dX6_number_49 : decode cX6_number 49 = .ok (.imul, 1) := by decide +kernel
theorem dX6_number_50 : decode cX6_number 50 = .ok (.aload_n 0, 1) := by decide +kernel
theorem dX6_number_51 : decode cX6_number 51 = .ok (.getfield 19, 3) := by decide +kernel
theorem dX6_number_54 : decode cX6_number 54 = .ok (.aload_n 0, 1) := by decide +kernel
theorem dX6_number_55 : decode cX6_number 55 = .ok (.getfield 111, 3) := by decide +kernel
theorem dX6_number_58 : decode cX6_number 58 = .ok (.iconst 1, 1) := by decide +kernel
theorem dX6_number_59 : decode cX6_number 59 = .ok (.isub, 1) := by decide +kernel
theorem dX6_number_60 : decode cX6_number 60 = .ok (.caload, 1) := by decide +kernel
theorem dX6_number_61 : decode cX6_number 61 = .ok (.iadd, 1) := by decide +kernel
theorem dX6_number_62 : decode cX6_number 62 = .ok (.bipush 48, 2) := by decide +kernel
theorem dX6_number_64 : decode cX6_number 64 = .ok (.isub, 1) := by decide +kernel
theorem dX6_number_65 : decode cX6_number 65 = .ok (.istore_n 1, 1) := by decide +kernel
theorem dX6_number_66 : decode cX6_number 66 = .ok (.iinc 2 1, 3) := by decide +kernel
theorem dX6_number_69 : decode cX6_number 69 = .ok (.goto (-39), 3) := by decide +kernel
theorem dX6_number_72 : decode cX6_number 72 = .ok (.iload_n 1, 1) := by decide +kernel
theorem dX6_number_73 : decode cX6_number 73 = .ok (.ireturn, 1) := by decide +kernel
theorem dX6_readsScene_0 : decode cX6_readsScene 0 = .ok (.aload_n 0, 1) := by decide +kernel
theorem dX6_readsScene_1 : decode cX6_readsScene 1 = .ok (.bipush 97, 2) := by decide +kernel
theorem dX6_readsScene_3 : decode cX6_readsScene 3 = .ok (.bipush 102, 2) := by decide +kernel
theorem dX6_readsScene_5 : decode cX6_readsScene 5 = .ok (.invokevirtual 114, 3) := by decide +kernel
theorem dX6_readsScene_8 : decode cX6_readsScene 8 = .ok (.ifCond .ne 5, 3) := by decide +kernel
theorem dX6_readsScene_11 : decode cX6_readsScene 11 = .ok (.iconst 0, 1) := by decide +kernel
theorem dX6_readsScene_12 : decode cX6_readsScene 12 = .ok (.ireturn, 1) := by decide +kernel
theorem dX6_readsScene_13 : decode cX6_readsScene 13 = .ok (.iconst 4, 1) := by decide +kernel
theorem dX6_readsScene_14 : decode cX6_readsScene 14 = .ok (.aload_n 0, 1) := by decide +kernel
theorem dX6_readsScene_15 : decode cX6_readsScene 15 = .ok (.getfield 117, 3) := by decide +kernel
theorem dX6_readsScene_18 : decode cX6_readsScene 18 = .ok (.imul, 1) := by decide +kernel
theorem dX6_readsScene_19 : decode cX6_readsScene 19 = .ok (.istore_n 1, 1) := by decide +kernel
theorem dX6_readsScene_20 : decode cX6_readsScene 20 = .ok (.aload_n 0, 1) := by decide +kernel
theorem dX6_readsScene_21 : decode cX6_readsScene 21 = .ok (.getfield 23, 3) := by decide +kernel
theorem dX6_readsScene_24 : decode cX6_readsScene 24 = .ok (.iload_n 1, 1) := by decide +kernel
theorem dX6_readsScene_25 : decode cX6_readsScene 25 = .ok (.iconst 2, 1) := by decide +kernel
theorem dX6_readsScene_26 : decode cX6_readsScene 26 = .ok (.iadd, 1) := by decide +kernel
theorem dX6_readsScene_27 : decode cX6_readsScene 27 = .ok (.aload_n 0, 1) := by decide +kernel
theorem dX6_readsScene_28 : decode cX6_readsScene 28 = .ok (.getfield 19, 3) := by decide +kernel
theorem dX6_readsScene_31 : decode cX6_readsScene 31 = .ok (.aload_n 0, 1) := by decide +kernel
theorem dX6_readsScene_32 : decode cX6_readsScene 32 = .ok (.getfield 111, 3) := by decide +kernel
theorem dX6_readsScene_35 : decode cX6_readsScene 35 = .ok (.iconst 1, 1) := by decide +kernel
theorem dX6_readsScene_36 : decode cX6_readsScene 36 = .ok (.isub, 1) := by decide +kernel
theorem dX6_readsScene_37 : decode cX6_readsScene 37 = .ok (.caload, 1) := by decide +kernel
theorem dX6_readsScene_38 : decode cX6_readsScene 38 = .ok (.bipush 97, 2) := by decide +kernel
theorem dX6_readsScene_40 : decode cX6_readsScene 40 = .ok (.isub, 1) := by decide +kernel
theorem dX6_readsScene_41 : decode cX6_readsScene 41 = .ok (.iastore, 1) := by decide +kernel
theorem dX6_readsScene_42 : decode cX6_readsScene 42 = .ok (.aload_n 0, 1) := by decide +kernel
theorem dX6_readsScene_43 : decode cX6_readsScene 43 = .ok (.getfield 23, 3) := by decide +kernel
theorem dX6_readsScene_46 : decode cX6_readsScene 46 = .ok (.iload_n 1, 1) := by decide +kernel
theorem dX6_readsScene_47 : decode cX6_readsScene 47 = .ok (.aload_n 0, 1) := by decide +kernel
theorem dX6_readsScene_48 : decode cX6_readsScene 48 = .ok (.invokevirtual 120, 3) := by decide +kernel
theorem dX6_readsScene_51 : decode cX6_readsScene 51 = .ok (.iastore, 1) := by decide +kernel
theorem dX6_readsScene_52 : decode cX6_readsScene 52 = .ok (.aload_n 0, 1) := by decide +kernel
theorem dX6_readsScene_53 : decode cX6_readsScene 53 = .ok (.getfield 23, 3) := by decide +kernel
theorem dX6_readsScene_56 : decode cX6_readsScene 56 = .ok (.iload_n 1, 1) := by decide +kernel
theorem dX6_readsScene_57 : decode cX6_readsScene 57 = .ok (.iaload, 1) := by decide +kernel
theorem dX6_readsScene_58 : decode cX6_readsScene 58 = .ok (.ifCond .le 7, 3) := by decide +kernel
theorem dX6_readsScene_61 : decode cX6_readsScene 61 = .ok (.iconst 1, 1) := by decide +kernel
theorem dX6_readsScene_62 : decode cX6_readsScene 62 = .ok (.goto 4, 3) := by decide +kernel
theorem dX6_readsScene_65 : decode cX6_readsScene 65 = .ok (.iconst 0, 1) := by decide +kernel
theorem dX6_readsScene_66 : decode cX6_readsScene 66 = .ok (.istore_n 2, 1) := by decide +kernel
theorem dX6_readsScene_67 : decode cX6_readsScene 67 = .ok (.aload_n 0, 1) := by decide +kernel
theorem dX6_readsScene_68 : decode cX6_readsScene 68 = .ok (.getfield 23, 3) := by decide +kernel
theorem dX6_readsScene_71 : decode cX6_readsScene 71 = .ok (.iload_n 1, 1) := by decide +kernel
theorem dX6_readsScene_72 : decode cX6_readsScene 72 = .ok (.iconst 1, 1) := by decide +kernel
theorem dX6_readsScene_73 : decode cX6_readsScene 73 = .ok (.iadd, 1) := by decide +kernel
theorem dX6_readsScene_74 : decode cX6_readsScene 74 = .ok (.iconst 0, 1) := by decide +kernel
theorem dX6_readsScene_75 : decode cX6_readsScene 75 = .ok (.iastore, 1) := by decide +kernel
theorem dX6_readsScene_76 : decode cX6_readsScene 76 = .ok (.iload_n 2, 1) := by decide +kernel
theorem dX6_readsScene_77 : decode cX6_readsScene 77 = .ok (.ifCond .eq 43, 3) := by decide +kernel
theorem dX6_readsScene_80 : decode cX6_readsScene 80 = .ok (.aload_n 0, 1) := by decide +kernel
theorem dX6_readsScene_81 : decode cX6_readsScene 81 = .ok (.bipush 45, 2) := by decide +kernel
theorem dX6_readsScene_83 : decode cX6_readsScene 83 = .ok (.bipush 45, 2) := by decide +kernel
theorem dX6_readsScene_85 : decode cX6_readsScene 85 = .ok (.invokevirtual 114, 3) := by decide +kernel
theorem dX6_readsScene_88 : decode cX6_readsScene 88 = .ok (.ifCond .eq 32, 3) := by decide +kernel
theorem dX6_readsScene_91 : decode cX6_readsScene 91 = .ok (.aload_n 0, 1) := by decide +kernel
theorem dX6_readsScene_92 : decode cX6_readsScene 92 = .ok (.getfield 23, 3) := by decide +kernel
theorem dX6_readsScene_95 : decode cX6_readsScene 95 = .ok (.iload_n 1, 1) := by decide +kernel
theorem dX6_readsScene_96 : decode cX6_readsScene 96 = .ok (.iconst 1, 1) := by decide +kernel
theorem dX6_readsScene_97 : decode cX6_readsScene 97 = .ok (.iadd, 1) := by decide +kernel
theorem dX6_readsScene_98 : decode cX6_readsScene 98 = .ok (.aload_n 0, 1) := by decide +kernel
theorem dX6_readsScene_99 : decode cX6_readsScene 99 = .ok (.invokevirtual 120, 3) := by decide +kernel
theorem dX6_readsScene_102 : decode cX6_readsScene 102 = .ok (.iastore, 1) := by decide +kernel
theorem dX6_readsScene_103 : decode cX6_readsScene 103 = .ok (.aload_n 0, 1) := by decide +kernel
theorem dX6_readsScene_104 : decode cX6_readsScene 104 = .ok (.getfield 23, 3) := by decide +kernel
theorem dX6_readsScene_107 : decode cX6_readsScene 107 = .ok (.iload_n 1, 1) := by decide +kernel
theorem dX6_readsScene_108 : decode cX6_readsScene 108 = .ok (.iconst 1, 1) := by decide +kernel
theorem dX6_readsScene_109 : decode cX6_readsScene 109 = .ok (.iadd, 1) := by decide +kernel
theorem dX6_readsScene_110 : decode cX6_readsScene 110 = .ok (.iaload, 1) := by decide +kernel
theorem dX6_readsScene_111 : decode cX6_readsScene 111 = .ok (.ifCond .le 7, 3) := by decide +kernel
theorem dX6_readsScene_114 : decode cX6_readsScene 114 = .ok (.iconst 1, 1) := by decide +kernel
theorem dX6_readsScene_115 : decode cX6_readsScene 115 = .ok (.goto 4, 3) := by decide +kernel
theorem dX6_readsScene_118 : decode cX6_readsScene 118 = .ok (.iconst 0, 1) := by decide +kernel
theorem dX6_readsScene_119 : decode cX6_readsScene 119 = .ok (.istore_n 2, 1) := by decide +kernel
theorem dX6_readsScene_120 : decode cX6_readsScene 120 = .ok (.iload_n 2, 1) := by decide +kernel
theorem dX6_readsScene_121 : decode cX6_readsScene 121 = .ok (.ifCond .eq 25, 3) := by decide +kernel
theorem dX6_readsScene_124 : decode cX6_readsScene 124 = .ok (.aload_n 0, 1) := by decide +kernel
theorem dX6_readsScene_125 : decode cX6_readsScene 125 = .ok (.bipush 33, 2) := by decide +kernel
theorem dX6_readsScene_127 : decode cX6_readsScene 127 = .ok (.bipush 33, 2) := by decide +kernel
theorem dX6_readsScene_129 : decode cX6_readsScene 129 = .ok (.invokevirtual 114, 3) := by decide +kernel
theorem dX6_readsScene_132 : decode cX6_readsScene 132 = .ok (.ifCond .eq 14, 3) := by decide +kernel
theorem dX6_readsScene_135 : decode cX6_readsScene 135 = .ok (.aload_n 0, 1) := by decide +kernel
theorem dX6_readsScene_136 : decode cX6_readsScene 136 = .ok (.bipush 48, 2) := by decide +kernel
theorem dX6_readsScene_138 : decode cX6_readsScene 138 = .ok (.bipush 57, 2) := by decide +kernel
theorem dX6_readsScene_140 : decode cX6_readsScene 140 = .ok (.invokevirtual 114, 3) := by decide +kernel
theorem dX6_readsScene_143 : decode cX6_readsScene 143 = .ok (.ifCond .ne 5, 3) := by decide +kernel
theorem dX6_readsScene_146 : decode cX6_readsScene 146 = .ok (.iconst 0, 1) := by decide +kernel
theorem dX6_readsScene_147 : decode cX6_readsScene 147 = .ok (.ireturn, 1) := by decide +kernel
theorem dX6_readsScene_148 : decode cX6_readsScene 148 = .ok (.aload_n 0, 1) := by decide +kernel
theorem dX6_readsScene_149 : decode cX6_readsScene 149 = .ok (.getfield 23, 3) := by decide +kernel
theorem dX6_readsScene_152 : decode cX6_readsScene 152 = .ok (.iload_n 1, 1) := by decide +kernel
theorem dX6_readsScene_153 : decode cX6_readsScene 153 = .ok (.iconst 3, 1) := by decide +kernel
theorem dX6_readsScene_154 : decode cX6_readsScene 154 = .ok (.iadd, 1) := by decide +kernel
theorem dX6_readsScene_155 : decode cX6_readsScene 155 = .ok (.aload_n 0, 1) := by decide +kernel
theorem dX6_readsScene_156 : decode cX6_readsScene 156 = .ok (.getfield 19, 3) := by decide +kernel
theorem dX6_readsScene_159 : decode cX6_readsScene 159 = .ok (.aload_n 0, 1) := by decide +kernel
theorem dX6_readsScene_160 : decode cX6_readsScene 160 = .ok (.getfield 111, 3) := by decide +kernel
theorem dX6_readsScene_163 : decode cX6_readsScene 163 = .ok (.iconst 1, 1) := by decide +kernel
theorem dX6_readsScene_164 : decode cX6_readsScene 164 = .ok (.isub, 1) := by decide +kernel
theorem dX6_readsScene_165 : decode cX6_readsScene 165 = .ok (.caload, 1) := by decide +kernel
theorem dX6_readsScene_166 : decode cX6_readsScene 166 = .ok (.bipush 48, 2) := by decide +kernel
theorem dX6_readsScene_168 : decode cX6_readsScene 168 = .ok (.isub, 1) := by decide +kernel
theorem dX6_readsScene_169 : decode cX6_readsScene 169 = .ok (.iastore, 1) := by decide +kernel
theorem dX6_readsScene_170 : decode cX6_readsScene 170 = .ok (.aload_n 0, 1) := by decide +kernel
theorem dX6_readsScene_171 : decode cX6_readsScene 171 = .ok (.dup, 1) := by decide +kernel
theorem dX6_readsScene_172 : decode cX6_readsScene 172 = .ok (.getfield 117, 3) := by decide +kernel
theorem dX6_readsScene_175 : decode cX6_readsScene 175 = .ok (.iconst 1, 1) := by decide +kernel
theorem dX6_readsScene_176 : decode cX6_readsScene 176 = .ok (.iadd, 1) := by decide +kernel
theorem dX6_readsScene_177 : decode cX6_readsScene 177 = .ok (.putfield 117, 3) := by decide +kernel
theorem dX6_readsScene_180 : decode cX6_readsScene 180 = .ok (.iconst 1, 1) := by decide +kernel
theorem dX6_readsScene_181 : decode cX6_readsScene 181 = .ok (.ireturn, 1) := by decide +kernel
theorem dX6_reads_0 : decode cX6_reads 0 = .ok (.aload_n 0, 1) := by decide +kernel
theorem dX6_reads_1 : decode cX6_reads 1 = .ok (.iconst 0, 1) := by decide +kernel
theorem dX6_reads_2 : decode cX6_reads 2 = .ok (.putfield 111, 3) := by decide +kernel
theorem dX6_reads_5 : decode cX6_reads 5 = .ok (.aload_n 0, 1) := by decide +kernel
theorem dX6_reads_6 : decode cX6_reads 6 = .ok (.iconst 0, 1) := by decide +kernel
theorem dX6_reads_7 : decode cX6_reads 7 = .ok (.putfield 117, 3) := by decide +kernel
theorem dX6_reads_10 : decode cX6_reads 10 = .ok (.aload_n 0, 1) := by decide +kernel
theorem dX6_reads_11 : decode cX6_reads 11 = .ok (.invokevirtual 123, 3) := by decide +kernel
theorem dX6_reads_14 : decode cX6_reads 14 = .ok (.istore_n 1, 1) := by decide +kernel
theorem dX6_reads_15 : decode cX6_reads 15 = .ok (.iload_n 1, 1) := by decide +kernel
theorem dX6_reads_16 : decode cX6_reads 16 = .ok (.ifCond .eq 41, 3) := by decide +kernel
theorem dX6_reads_19 : decode cX6_reads 19 = .ok (.aload_n 0, 1) := by decide +kernel
theorem dX6_reads_20 : decode cX6_reads 20 = .ok (.getfield 111, 3) := by decide +kernel
theorem dX6_reads_23 : decode cX6_reads 23 = .ok (.aload_n 0, 1) := by decide +kernel
theorem dX6_reads_24 : decode cX6_reads 24 = .ok (.getfield 108, 3) := by decide +kernel
theorem dX6_reads_27 : decode cX6_reads 27 = .ok (.if_icmp .ge 30, 3) := by decide +kernel
theorem dX6_reads_30 : decode cX6_reads 30 = .ok (.aload_n 0, 1) := by decide +kernel
theorem dX6_reads_31 : decode cX6_reads 31 = .ok (.bipush 59, 2) := by decide +kernel
theorem dX6_reads_33 : decode cX6_reads 33 = .ok (.bipush 59, 2) := by decide +kernel
theorem dX6_reads_35 : decode cX6_reads 35 = .ok (.invokevirtual 114, 3) := by decide +kernel
theorem dX6_reads_38 : decode cX6_reads 38 = .ok (.ifCond .eq 14, 3) := by decide +kernel
theorem dX6_reads_41 : decode cX6_reads 41 = .ok (.aload_n 0, 1) := by decide +kernel
theorem dX6_reads_42 : decode cX6_reads 42 = .ok (.invokevirtual 123, 3) := by decide +kernel
theorem dX6_reads_45 : decode cX6_reads 45 = .ok (.ifCond .eq 7, 3) := by decide +kernel
theorem dX6_reads_48 : decode cX6_reads 48 = .ok (.iconst 1, 1) := by decide +kernel
theorem dX6_reads_49 : decode cX6_reads 49 = .ok (.goto 4, 3) := by decide +kernel
theorem dX6_reads_52 : decode cX6_reads 52 = .ok (.iconst 0, 1) := by decide +kernel
theorem dX6_reads_53 : decode cX6_reads 53 = .ok (.istore_n 1, 1) := by decide +kernel
theorem dX6_reads_54 : decode cX6_reads 54 = .ok (.goto (-39), 3) := by decide +kernel
theorem dX6_reads_57 : decode cX6_reads 57 = .ok (.iload_n 1, 1) := by decide +kernel
theorem dX6_reads_58 : decode cX6_reads 58 = .ok (.ireturn, 1) := by decide +kernel
theorem dX6_read_0 : decode cX6_read 0 = .ok (.aload_n 0, 1) := by decide +kernel
theorem dX6_read_1 : decode cX6_read 1 = .ok (.invokevirtual 126, 3) := by decide +kernel
theorem dX6_read_4 : decode cX6_read 4 = .ok (.ifCond .ne 12, 3) := by decide +kernel
theorem dX6_read_7 : decode cX6_read 7 = .ok (.sipush (-1000), 3) := by decide +kernel
theorem dX6_read_10 : decode cX6_read 10 = .ok (.aload_n 0, 1) := by decide +kernel
theorem dX6_read_11 : decode cX6_read 11 = .ok (.getfield 111, 3) := by decide +kernel
theorem dX6_read_14 : decode cX6_read 14 = .ok (.isub, 1) := by decide +kernel
theorem dX6_read_15 : decode cX6_read 15 = .ok (.ireturn, 1) := by decide +kernel
theorem dX6_read_16 : decode cX6_read 16 = .ok (.iconst 0, 1) := by decide +kernel
theorem dX6_read_17 : decode cX6_read 17 = .ok (.istore_n 1, 1) := by decide +kernel
theorem dX6_read_18 : decode cX6_read 18 = .ok (.iload_n 1, 1) := by decide +kernel
theorem dX6_read_19 : decode cX6_read 19 = .ok (.aload_n 0, 1) := by decide +kernel
theorem dX6_read_20 : decode cX6_read 20 = .ok (.getfield 117, 3) := by decide +kernel
theorem dX6_read_23 : decode cX6_read 23 = .ok (.if_icmp .ge 33, 3) := by decide +kernel
theorem dX6_read_26 : decode cX6_read 26 = .ok (.aload_n 0, 1) := by decide +kernel
theorem dX6_read_27 : decode cX6_read 27 = .ok (.getfield 23, 3) := by decide +kernel
theorem dX6_read_30 : decode cX6_read 30 = .ok (.iconst 4, 1) := by decide +kernel
theorem dX6_read_31 : decode cX6_read 31 = .ok (.iload_n 1, 1) := by decide +kernel
theorem dX6_read_32 : decode cX6_read 32 = .ok (.imul, 1) := by decide +kernel
theorem dX6_read_33 : decode cX6_read 33 = .ok (.iconst 1, 1) := by decide +kernel
theorem dX6_read_34 : decode cX6_read 34 = .ok (.iadd, 1) := by decide +kernel
theorem dX6_read_35 : decode cX6_read 35 = .ok (.iaload, 1) := by decide +kernel
theorem dX6_read_36 : decode cX6_read 36 = .ok (.aload_n 0, 1) := by decide +kernel
theorem dX6_read_37 : decode cX6_read 37 = .ok (.getfield 23, 3) := by decide +kernel
theorem dX6_read_40 : decode cX6_read 40 = .ok (.iconst 4, 1) := by decide +kernel
theorem dX6_read_41 : decode cX6_read 41 = .ok (.iload_n 1, 1) := by decide +kernel
theorem dX6_read_42 : decode cX6_read 42 = .ok (.imul, 1) := by decide +kernel
theorem dX6_read_43 : decode cX6_read 43 = .ok (.iaload, 1) := by decide +kernel
theorem dX6_read_44 : decode cX6_read 44 = .ok (.if_icmp .lt 6, 3) := by decide +kernel
theorem dX6_read_47 : decode cX6_read 47 = .ok (.ldc 76, 2) := by decide +kernel
theorem dX6_read_49 : decode cX6_read 49 = .ok (.ireturn, 1) := by decide +kernel
theorem dX6_read_50 : decode cX6_read 50 = .ok (.iinc 1 1, 3) := by decide +kernel
theorem dX6_read_53 : decode cX6_read 53 = .ok (.goto (-35), 3) := by decide +kernel
theorem dX6_read_56 : decode cX6_read 56 = .ok (.aload_n 0, 1) := by decide +kernel
theorem dX6_read_57 : decode cX6_read 57 = .ok (.getfield 7, 3) := by decide +kernel
theorem dX6_read_60 : decode cX6_read 60 = .ok (.iconst 4, 1) := by decide +kernel
theorem dX6_read_61 : decode cX6_read 61 = .ok (.iaload, 1) := by decide +kernel
theorem dX6_read_62 : decode cX6_read 62 = .ok (.ifCond .le 6, 3) := by decide +kernel
theorem dX6_read_65 : decode cX6_read 65 = .ok (.ldc 77, 2) := by decide +kernel
theorem dX6_read_67 : decode cX6_read 67 = .ok (.ireturn, 1) := by decide +kernel
theorem dX6_read_68 : decode cX6_read 68 = .ok (.aload_n 0, 1) := by decide +kernel
theorem dX6_read_69 : decode cX6_read 69 = .ok (.getfield 7, 3) := by decide +kernel
theorem dX6_read_72 : decode cX6_read 72 = .ok (.iconst 0, 1) := by decide +kernel
theorem dX6_read_73 : decode cX6_read 73 = .ok (.iaload, 1) := by decide +kernel
theorem dX6_read_74 : decode cX6_read 74 = .ok (.aload_n 0, 1) := by decide +kernel
theorem dX6_read_75 : decode cX6_read 75 = .ok (.getfield 117, 3) := by decide +kernel
theorem dX6_read_78 : decode cX6_read 78 = .ok (.iadd, 1) := by decide +kernel
theorem dX6_read_79 : decode cX6_read 79 = .ok (.bipush 20, 2) := by decide +kernel
theorem dX6_read_81 : decode cX6_read 81 = .ok (.if_icmp .le 6, 3) := by decide +kernel
theorem dX6_read_84 : decode cX6_read 84 = .ok (.ldc 78, 2) := by decide +kernel
theorem dX6_read_86 : decode cX6_read 86 = .ok (.ireturn, 1) := by decide +kernel
theorem dX6_read_87 : decode cX6_read 87 = .ok (.aload_n 0, 1) := by decide +kernel
theorem dX6_read_88 : decode cX6_read 88 = .ok (.invokevirtual 79, 3) := by decide +kernel
theorem dX6_read_91 : decode cX6_read 91 = .ok (.iconst 0, 1) := by decide +kernel
theorem dX6_read_92 : decode cX6_read 92 = .ok (.istore_n 1, 1) := by decide +kernel
theorem dX6_read_93 : decode cX6_read 93 = .ok (.iload_n 1, 1) := by decide +kernel
theorem dX6_read_94 : decode cX6_read 94 = .ok (.aload_n 0, 1) := by decide +kernel
theorem dX6_read_95 : decode cX6_read 95 = .ok (.getfield 117, 3) := by decide +kernel
theorem dX6_read_98 : decode cX6_read 98 = .ok (.if_icmp .ge 57, 3) := by decide +kernel
theorem dX6_read_101 : decode cX6_read 101 = .ok (.aload_n 0, 1) := by decide +kernel
theorem dX6_read_102 : decode cX6_read 102 = .ok (.aload_n 0, 1) := by decide +kernel
theorem dX6_read_103 : decode cX6_read 103 = .ok (.getfield 7, 3) := by decide +kernel
theorem dX6_read_106 : decode cX6_read 106 = .ok (.iconst 0, 1) := by decide +kernel
theorem dX6_read_107 : decode cX6_read 107 = .ok (.iaload, 1) := by decide +kernel
theorem dX6_read_108 : decode cX6_read 108 = .ok (.aload_n 0, 1) := by decide +kernel
theorem dX6_read_109 : decode cX6_read 109 = .ok (.getfield 23, 3) := by decide +kernel
theorem dX6_read_112 : decode cX6_read 112 = .ok (.iconst 4, 1) := by decide +kernel
theorem dX6_read_113 : decode cX6_read 113 = .ok (.iload_n 1, 1) := by decide +kernel
theorem dX6_read_114 : decode cX6_read 114 = .ok (.imul, 1) := by decide +kernel
theorem dX6_read_115 : decode cX6_read 115 = .ok (.iaload, 1) := by decide +kernel
theorem dX6_read_116 : decode cX6_read 116 = .ok (.aload_n 0, 1) := by decide +kernel
theorem dX6_read_117 : decode cX6_read 117 = .ok (.getfield 23, 3) := by decide +kernel
theorem dX6_read_120 : decode cX6_read 120 = .ok (.iconst 4, 1) := by decide +kernel
theorem dX6_read_121 : decode cX6_read 121 = .ok (.iload_n 1, 1) := by decide +kernel
theorem dX6_read_122 : decode cX6_read 122 = .ok (.imul, 1) := by decide +kernel
theorem dX6_read_123 : decode cX6_read 123 = .ok (.iconst 1, 1) := by decide +kernel
theorem dX6_read_124 : decode cX6_read 124 = .ok (.iadd, 1) := by decide +kernel
theorem dX6_read_125 : decode cX6_read 125 = .ok (.iaload, 1) := by decide +kernel
theorem dX6_read_126 : decode cX6_read 126 = .ok (.aload_n 0, 1) := by decide +kernel
theorem dX6_read_127 : decode cX6_read 127 = .ok (.getfield 23, 3) := by decide +kernel
theorem dX6_read_130 : decode cX6_read 130 = .ok (.iconst 4, 1) := by decide +kernel
theorem dX6_read_131 : decode cX6_read 131 = .ok (.iload_n 1, 1) := by decide +kernel
theorem dX6_read_132 : decode cX6_read 132 = .ok (.imul, 1) := by decide +kernel
theorem dX6_read_133 : decode cX6_read 133 = .ok (.iconst 2, 1) := by decide +kernel
theorem dX6_read_134 : decode cX6_read 134 = .ok (.iadd, 1) := by decide +kernel
theorem dX6_read_135 : decode cX6_read 135 = .ok (.iaload, 1) := by decide +kernel
theorem dX6_read_136 : decode cX6_read 136 = .ok (.aload_n 0, 1) := by decide +kernel
theorem dX6_read_137 : decode cX6_read 137 = .ok (.getfield 23, 3) := by decide +kernel
theorem dX6_read_140 : decode cX6_read 140 = .ok (.iconst 4, 1) := by decide +kernel
theorem dX6_read_141 : decode cX6_read 141 = .ok (.iload_n 1, 1) := by decide +kernel
theorem dX6_read_142 : decode cX6_read 142 = .ok (.imul, 1) := by decide +kernel
theorem dX6_read_143 : decode cX6_read 143 = .ok (.iconst 3, 1) := by decide +kernel
theorem dX6_read_144 : decode cX6_read 144 = .ok (.iadd, 1) := by decide +kernel
theorem dX6_read_145 : decode cX6_read 145 = .ok (.iaload, 1) := by decide +kernel
theorem dX6_read_146 : decode cX6_read 146 = .ok (.invokevirtual 82, 3) := by decide +kernel
theorem dX6_read_149 : decode cX6_read 149 = .ok (.iinc 1 1, 3) := by decide +kernel
theorem dX6_read_152 : decode cX6_read 152 = .ok (.goto (-59), 3) := by decide +kernel
theorem dX6_read_155 : decode cX6_read 155 = .ok (.aload_n 0, 1) := by decide +kernel
theorem dX6_read_156 : decode cX6_read 156 = .ok (.iconst 0, 1) := by decide +kernel
theorem dX6_read_157 : decode cX6_read 157 = .ok (.putfield 108, 3) := by decide +kernel
theorem dX6_read_160 : decode cX6_read 160 = .ok (.aload_n 0, 1) := by decide +kernel
theorem dX6_read_161 : decode cX6_read 161 = .ok (.aload_n 0, 1) := by decide +kernel
theorem dX6_read_162 : decode cX6_read 162 = .ok (.getfield 117, 3) := by decide +kernel
theorem dX6_read_165 : decode cX6_read 165 = .ok (.invokevirtual 86, 3) := by decide +kernel
theorem dX6_read_168 : decode cX6_read 168 = .ok (.ireturn, 1) := by decide +kernel
theorem dX6_count_0 : decode cX6_count 0 = .ok (.iload_n 1, 1) := by decide +kernel
theorem dX6_count_1 : decode cX6_count 1 = .ok (.tableswitch 87 17 20 #[31, 59, 77, 82], 31) := by decide +kernel
theorem dX6_count_32 : decode cX6_count 32 = .ok (.aload_n 0, 1) := by decide +kernel
theorem dX6_count_33 : decode cX6_count 33 = .ok (.getfield 7, 3) := by decide +kernel
theorem dX6_count_36 : decode cX6_count 36 = .ok (.iconst 1, 1) := by decide +kernel
theorem dX6_count_37 : decode cX6_count 37 = .ok (.iaload, 1) := by decide +kernel
theorem dX6_count_38 : decode cX6_count 38 = .ok (.ifCond .ne 8, 3) := by decide +kernel
theorem dX6_count_41 : decode cX6_count 41 = .ok (.ldc 38, 2) := by decide +kernel
theorem dX6_count_43 : decode cX6_count 43 = .ok (.goto 16, 3) := by decide +kernel
theorem dX6_count_46 : decode cX6_count 46 = .ok (.aload_n 0, 1) := by decide +kernel
theorem dX6_count_47 : decode cX6_count 47 = .ok (.aload_n 0, 1) := by decide +kernel
theorem dX6_count_48 : decode cX6_count 48 = .ok (.getfield 7, 3) := by decide +kernel
theorem dX6_count_51 : decode cX6_count 51 = .ok (.iconst 1, 1) := by decide +kernel
theorem dX6_count_52 : decode cX6_count 52 = .ok (.iaload, 1) := by decide +kernel
theorem dX6_count_53 : decode cX6_count 53 = .ok (.iconst 1, 1) := by decide +kernel
theorem dX6_count_54 : decode cX6_count 54 = .ok (.isub, 1) := by decide +kernel
theorem dX6_count_55 : decode cX6_count 55 = .ok (.iconst 2, 1) := by decide +kernel
theorem dX6_count_56 : decode cX6_count 56 = .ok (.invokevirtual 43, 3) := by decide +kernel
theorem dX6_count_59 : decode cX6_count 59 = .ok (.ireturn, 1) := by decide +kernel
theorem dX6_count_60 : decode cX6_count 60 = .ok (.aload_n 0, 1) := by decide +kernel
theorem dX6_count_61 : decode cX6_count 61 = .ok (.getfield 7, 3) := by decide +kernel
theorem dX6_count_64 : decode cX6_count 64 = .ok (.sipush 771, 3) := by decide +kernel
theorem dX6_count_67 : decode cX6_count 67 = .ok (.iaload, 1) := by decide +kernel
theorem dX6_count_68 : decode cX6_count 68 = .ok (.aload_n 0, 1) := by decide +kernel
theorem dX6_count_69 : decode cX6_count 69 = .ok (.getfield 7, 3) := by decide +kernel
theorem dX6_count_72 : decode cX6_count 72 = .ok (.sipush 772, 3) := by decide +kernel
theorem dX6_count_75 : decode cX6_count 75 = .ok (.iaload, 1) := by decide +kernel
theorem dX6_count_76 : decode cX6_count 76 = .ok (.iadd, 1) := by decide +kernel
theorem dX6_count_77 : decode cX6_count 77 = .ok (.ireturn, 1) := by decide +kernel
theorem dX6_count_78 : decode cX6_count 78 = .ok (.aload_n 0, 1) := by decide +kernel
theorem dX6_count_79 : decode cX6_count 79 = .ok (.getfield 39, 3) := by decide +kernel
theorem dX6_count_82 : decode cX6_count 82 = .ok (.ireturn, 1) := by decide +kernel
theorem dX6_count_83 : decode cX6_count 83 = .ok (.aload_n 0, 1) := by decide +kernel
theorem dX6_count_84 : decode cX6_count 84 = .ok (.getfield 108, 3) := by decide +kernel
theorem dX6_count_87 : decode cX6_count 87 = .ok (.ireturn, 1) := by decide +kernel
theorem dX6_count_88 : decode cX6_count 88 = .ok (.iload_n 1, 1) := by decide +kernel
theorem dX6_count_89 : decode cX6_count 89 = .ok (.iconst 0, 1) := by decide +kernel
theorem dX6_count_90 : decode cX6_count 90 = .ok (.bipush 16, 2) := by decide +kernel
theorem dX6_count_92 : decode cX6_count 92 = .ok (.invokestatic 72, 3) := by decide +kernel
theorem dX6_count_95 : decode cX6_count 95 = .ok (.ifCond .eq 12, 3) := by decide +kernel
theorem dX6_count_98 : decode cX6_count 98 = .ok (.aload_n 0, 1) := by decide +kernel
theorem dX6_count_99 : decode cX6_count 99 = .ok (.getfield 7, 3) := by decide +kernel
theorem dX6_count_102 : decode cX6_count 102 = .ok (.iload_n 1, 1) := by decide +kernel
theorem dX6_count_103 : decode cX6_count 103 = .ok (.iaload, 1) := by decide +kernel
theorem dX6_count_104 : decode cX6_count 104 = .ok (.goto 5, 3) := by decide +kernel
theorem dX6_count_107 : decode cX6_count 107 = .ok (.ldc 76, 2) := by decide +kernel
theorem dX6_count_109 : decode cX6_count 109 = .ok (.ireturn, 1) := by decide +kernel
theorem dX6_scene_0 : decode cX6_scene 0 = .ok (.iload_n 1, 1) := by decide +kernel
theorem dX6_scene_1 : decode cX6_scene 1 = .ok (.iconst 0, 1) := by decide +kernel
theorem dX6_scene_2 : decode cX6_scene 2 = .ok (.aload_n 0, 1) := by decide +kernel
theorem dX6_scene_3 : decode cX6_scene 3 = .ok (.getfield 7, 3) := by decide +kernel
theorem dX6_scene_6 : decode cX6_scene 6 = .ok (.iconst 0, 1) := by decide +kernel
theorem dX6_scene_7 : decode cX6_scene 7 = .ok (.iaload, 1) := by decide +kernel
theorem dX6_scene_8 : decode cX6_scene 8 = .ok (.iconst 1, 1) := by decide +kernel
theorem dX6_scene_9 : decode cX6_scene 9 = .ok (.isub, 1) := by decide +kernel
theorem dX6_scene_10 : decode cX6_scene 10 = .ok (.invokestatic 72, 3) := by decide +kernel
theorem dX6_scene_13 : decode cX6_scene 13 = .ok (.ifCond .eq 13, 3) := by decide +kernel
theorem dX6_scene_16 : decode cX6_scene 16 = .ok (.iload_n 2, 1) := by decide +kernel
theorem dX6_scene_17 : decode cX6_scene 17 = .ok (.iconst 0, 1) := by decide +kernel
theorem dX6_scene_18 : decode cX6_scene 18 = .ok (.bipush 6, 2) := by decide +kernel
theorem dX6_scene_20 : decode cX6_scene 20 = .ok (.invokestatic 72, 3) := by decide +kernel
theorem dX6_scene_23 : decode cX6_scene 23 = .ok (.ifCond .ne 6, 3) := by decide +kernel
theorem dX6_scene_26 : decode cX6_scene 26 = .ok (.ldc 76, 2) := by decide +kernel
theorem dX6_scene_28 : decode cX6_scene 28 = .ok (.ireturn, 1) := by decide +kernel
theorem dX6_scene_29 : decode cX6_scene 29 = .ok (.iload_n 2, 1) := by decide +kernel
theorem dX6_scene_30 : decode cX6_scene 30 = .ok (.bipush 6, 2) := by decide +kernel
theorem dX6_scene_32 : decode cX6_scene 32 = .ok (.if_icmp .ge 10, 3) := by decide +kernel
theorem dX6_scene_35 : decode cX6_scene 35 = .ok (.aload_n 0, 1) := by decide +kernel
theorem dX6_scene_36 : decode cX6_scene 36 = .ok (.iload_n 1, 1) := by decide +kernel
theorem dX6_scene_37 : decode cX6_scene 37 = .ok (.iload_n 2, 1) := by decide +kernel
theorem dX6_scene_38 : decode cX6_scene 38 = .ok (.invokevirtual 43, 3) := by decide +kernel
theorem dX6_scene_41 : decode cX6_scene 41 = .ok (.ireturn, 1) := by decide +kernel
theorem dX6_scene_42 : decode cX6_scene 42 = .ok (.aload_n 0, 1) := by decide +kernel
theorem dX6_scene_43 : decode cX6_scene 43 = .ok (.iload_n 1, 1) := by decide +kernel
theorem dX6_scene_44 : decode cX6_scene 44 = .ok (.iconst 1, 1) := by decide +kernel
theorem dX6_scene_45 : decode cX6_scene 45 = .ok (.iadd, 1) := by decide +kernel
theorem dX6_scene_46 : decode cX6_scene 46 = .ok (.iconst 0, 1) := by decide +kernel
theorem dX6_scene_47 : decode cX6_scene 47 = .ok (.invokevirtual 64, 3) := by decide +kernel
theorem dX6_scene_50 : decode cX6_scene 50 = .ok (.ifCond .eq 7, 3) := by decide +kernel
theorem dX6_scene_53 : decode cX6_scene 53 = .ok (.iconst 1, 1) := by decide +kernel
theorem dX6_scene_54 : decode cX6_scene 54 = .ok (.goto 4, 3) := by decide +kernel
theorem dX6_scene_57 : decode cX6_scene 57 = .ok (.iconst 0, 1) := by decide +kernel
theorem dX6_scene_58 : decode cX6_scene 58 = .ok (.ireturn, 1) := by decide +kernel
theorem dX6_week_0 : decode cX6_week 0 = .ok (.iload_n 1, 1) := by decide +kernel
theorem dX6_week_1 : decode cX6_week 1 = .ok (.iconst 0, 1) := by decide +kernel
theorem dX6_week_2 : decode cX6_week 2 = .ok (.bipush 29, 2) := by decide +kernel
theorem dX6_week_4 : decode cX6_week 4 = .ok (.invokestatic 72, 3) := by decide +kernel
theorem dX6_week_7 : decode cX6_week 7 = .ok (.ifCond .eq 12, 3) := by decide +kernel
theorem dX6_week_10 : decode cX6_week 10 = .ok (.iload_n 2, 1) := by decide +kernel
theorem dX6_week_11 : decode cX6_week 11 = .ok (.iconst 0, 1) := by decide +kernel
theorem dX6_week_12 : decode cX6_week 12 = .ok (.iconst 4, 1) := by decide +kernel
theorem dX6_week_13 : decode cX6_week 13 = .ok (.invokestatic 72, 3) := by decide +kernel
theorem dX6_week_16 : decode cX6_week 16 = .ok (.ifCond .ne 6, 3) := by decide +kernel
theorem dX6_week_19 : decode cX6_week 19 = .ok (.ldc 76, 2) := by decide +kernel
theorem dX6_week_21 : decode cX6_week 21 = .ok (.ireturn, 1) := by decide +kernel
theorem dX6_week_22 : decode cX6_week 22 = .ok (.iload_n 2, 1) := by decide +kernel
theorem dX6_week_23 : decode cX6_week 23 = .ok (.iconst 2, 1) := by decide +kernel
theorem dX6_week_24 : decode cX6_week 24 = .ok (.if_icmp .ne 11, 3) := by decide +kernel
theorem dX6_week_27 : decode cX6_week 27 = .ok (.aload_n 0, 1) := by decide +kernel
theorem dX6_week_28 : decode cX6_week 28 = .ok (.iload_n 1, 1) := by decide +kernel
theorem dX6_week_29 : decode cX6_week 29 = .ok (.invokevirtual 60, 3) := by decide +kernel
theorem dX6_week_32 : decode cX6_week 32 = .ok (.goto 27, 3) := by decide +kernel
theorem dX6_week_35 : decode cX6_week 35 = .ok (.aload_n 0, 1) := by decide +kernel
theorem dX6_week_36 : decode cX6_week 36 = .ok (.getfield 7, 3) := by decide +kernel
theorem dX6_week_39 : decode cX6_week 39 = .ok (.bipush 17, 2) := by decide +kernel
theorem dX6_week_41 : decode cX6_week 41 = .ok (.iconst 4, 1) := by decide +kernel
theorem dX6_week_42 : decode cX6_week 42 = .ok (.iload_n 1, 1) := by decide +kernel
theorem dX6_week_43 : decode cX6_week 43 = .ok (.imul, 1) := by decide +kernel
theorem dX6_week_44 : decode cX6_week 44 = .ok (.iadd, 1) := by decide +kernel
theorem dX6_week_45 : decode cX6_week 45 = .ok (.iload_n 2, 1) := by decide +kernel
theorem dX6_week_46 : decode cX6_week 46 = .ok (.iconst 2, 1) := by decide +kernel
theorem dX6_week_47 : decode cX6_week 47 = .ok (.if_icmp .ge 7, 3) := by decide +kernel
theorem dX6_week_50 : decode cX6_week 50 = .ok (.iload_n 2, 1) := by decide +kernel
theorem dX6_week_51 : decode cX6_week 51 = .ok (.goto 6, 3) := by decide +kernel
theorem dX6_week_54 : decode cX6_week 54 = .ok (.iload_n 2, 1) := by decide +kernel
theorem dX6_week_55 : decode cX6_week 55 = .ok (.iconst 1, 1) := by decide +kernel
theorem dX6_week_56 : decode cX6_week 56 = .ok (.isub, 1) := by decide +kernel
theorem dX6_week_57 : decode cX6_week 57 = .ok (.iadd, 1) := by decide +kernel
theorem dX6_week_58 : decode cX6_week 58 = .ok (.iaload, 1) := by decide +kernel
theorem dX6_week_59 : decode cX6_week 59 = .ok (.ireturn, 1) := by decide +kernel
theorem dX6_why_0 : decode cX6_why 0 = .ok (.aload_n 0, 1) := by decide +kernel
theorem dX6_why_1 : decode cX6_why 1 = .ok (.invokevirtual 97, 3) := by decide +kernel
theorem dX6_why_4 : decode cX6_why 4 = .ok (.ifCond .eq 8, 3) := by decide +kernel
theorem dX6_why_7 : decode cX6_why 7 = .ok (.ldc 77, 2) := by decide +kernel
theorem dX6_why_9 : decode cX6_why 9 = .ok (.goto 8, 3) := by decide +kernel
theorem dX6_why_12 : decode cX6_why 12 = .ok (.aload_n 0, 1) := by decide +kernel
theorem dX6_why_13 : decode cX6_why 13 = .ok (.iload_n 1, 1) := by decide +kernel
theorem dX6_why_14 : decode cX6_why 14 = .ok (.invokevirtual 101, 3) := by decide +kernel
theorem dX6_why_17 : decode cX6_why 17 = .ok (.ireturn, 1) := by decide +kernel
theorem dX6_cutFrom_0 : decode cX6_cutFrom 0 = .ok (.aload_n 0, 1) := by decide +kernel
theorem dX6_cutFrom_1 : decode cX6_cutFrom 1 = .ok (.getfield 7, 3) := by decide +kernel
theorem dX6_cutFrom_4 : decode cX6_cutFrom 4 = .ok (.iconst 1, 1) := by decide +kernel
theorem dX6_cutFrom_5 : decode cX6_cutFrom 5 = .ok (.iaload, 1) := by decide +kernel
theorem dX6_cutFrom_6 : decode cX6_cutFrom 6 = .ok (.istore_n 3, 1) := by decide +kernel
theorem dX6_cutFrom_7 : decode cX6_cutFrom 7 = .ok (.iload_n 1, 1) := by decide +kernel
theorem dX6_cutFrom_8 : decode cX6_cutFrom 8 = .ok (.iconst 1, 1) := by decide +kernel
theorem dX6_cutFrom_9 : decode cX6_cutFrom 9 = .ok (.aload_n 0, 1) := by decide +kernel
theorem dX6_cutFrom_10 : decode cX6_cutFrom 10 = .ok (.invokevirtual 93, 3) := by decide +kernel
theorem dX6_cutFrom_13 : decode cX6_cutFrom 13 = .ok (.invokestatic 72, 3) := by decide +kernel
theorem dX6_cutFrom_16 : decode cX6_cutFrom 16 = .ok (.ifCond .eq 16, 3) := by decide +kernel
theorem dX6_cutFrom_19 : decode cX6_cutFrom 19 = .ok (.iload_n 2, 1) := by decide +kernel
theorem dX6_cutFrom_20 : decode cX6_cutFrom 20 = .ok (.iload_n 3, 1) := by decide +kernel
theorem dX6_cutFrom_21 : decode cX6_cutFrom 21 = .ok (.iload_n 3, 1) := by decide +kernel
theorem dX6_cutFrom_22 : decode cX6_cutFrom 22 = .ok (.iload_n 1, 1) := by decide +kernel
theorem dX6_cutFrom_23 : decode cX6_cutFrom 23 = .ok (.iadd, 1) := by decide +kernel
theorem dX6_cutFrom_24 : decode cX6_cutFrom 24 = .ok (.iconst 1, 1) := by decide +kernel
theorem dX6_cutFrom_25 : decode cX6_cutFrom 25 = .ok (.isub, 1) := by decide +kernel
theorem dX6_cutFrom_26 : decode cX6_cutFrom 26 = .ok (.invokestatic 72, 3) := by decide +kernel
theorem dX6_cutFrom_29 : decode cX6_cutFrom 29 = .ok (.ifCond .ne 6, 3) := by decide +kernel
theorem dX6_cutFrom_32 : decode cX6_cutFrom 32 = .ok (.ldc 76, 2) := by decide +kernel
theorem dX6_cutFrom_34 : decode cX6_cutFrom 34 = .ok (.ireturn, 1) := by decide +kernel
theorem dX6_cutFrom_35 : decode cX6_cutFrom 35 = .ok (.aload_n 0, 1) := by decide +kernel
theorem dX6_cutFrom_36 : decode cX6_cutFrom 36 = .ok (.iload_n 3, 1) := by decide +kernel
theorem dX6_cutFrom_37 : decode cX6_cutFrom 37 = .ok (.iload_n 1, 1) := by decide +kernel
theorem dX6_cutFrom_38 : decode cX6_cutFrom 38 = .ok (.iconst 1, 1) := by decide +kernel
theorem dX6_cutFrom_39 : decode cX6_cutFrom 39 = .ok (.invokevirtual 57, 3) := by decide +kernel
theorem dX6_cutFrom_42 : decode cX6_cutFrom 42 = .ok (.aload_n 0, 1) := by decide +kernel
theorem dX6_cutFrom_43 : decode cX6_cutFrom 43 = .ok (.getfield 7, 3) := by decide +kernel
theorem dX6_cutFrom_46 : decode cX6_cutFrom 46 = .ok (.iconst 3, 1) := by decide +kernel
theorem dX6_cutFrom_47 : decode cX6_cutFrom 47 = .ok (.iaload, 1) := by decide +kernel
theorem dX6_cutFrom_48 : decode cX6_cutFrom 48 = .ok (.if_icmp .ge 8, 3) := by decide +kernel
theorem dX6_cutFrom_51 : decode cX6_cutFrom 51 = .ok (.ldc 38, 2) := by decide +kernel
theorem dX6_cutFrom_53 : decode cX6_cutFrom 53 = .ok (.goto 17, 3) := by decide +kernel
theorem dX6_cutFrom_56 : decode cX6_cutFrom 56 = .ok (.aload_n 0, 1) := by decide +kernel
theorem dX6_cutFrom_57 : decode cX6_cutFrom 57 = .ok (.iload_n 2, 1) := by decide +kernel
theorem dX6_cutFrom_58 : decode cX6_cutFrom 58 = .ok (.iload_n 3, 1) := by decide +kernel
theorem dX6_cutFrom_59 : decode cX6_cutFrom 59 = .ok (.iload_n 1, 1) := by decide +kernel
theorem dX6_cutFrom_60 : decode cX6_cutFrom 60 = .ok (.iadd, 1) := by decide +kernel
theorem dX6_cutFrom_61 : decode cX6_cutFrom 61 = .ok (.aload_n 0, 1) := by decide +kernel
theorem dX6_cutFrom_62 : decode cX6_cutFrom 62 = .ok (.getfield 7, 3) := by decide +kernel
theorem dX6_cutFrom_65 : decode cX6_cutFrom 65 = .ok (.iconst 3, 1) := by decide +kernel
theorem dX6_cutFrom_66 : decode cX6_cutFrom 66 = .ok (.iaload, 1) := by decide +kernel
theorem dX6_cutFrom_67 : decode cX6_cutFrom 67 = .ok (.invokevirtual 47, 3) := by decide +kernel
theorem dX6_cutFrom_70 : decode cX6_cutFrom 70 = .ok (.ireturn, 1) := by decide +kernel
theorem dX6_since_0 : decode cX6_since 0 = .ok (.iload_n 1, 1) := by decide +kernel
theorem dX6_since_1 : decode cX6_since 1 = .ok (.iconst 0, 1) := by decide +kernel
theorem dX6_since_2 : decode cX6_since 2 = .ok (.iconst 5, 1) := by decide +kernel
theorem dX6_since_3 : decode cX6_since 3 = .ok (.invokestatic 72, 3) := by decide +kernel
theorem dX6_since_6 : decode cX6_since 6 = .ok (.ifCond .ne 6, 3) := by decide +kernel
theorem dX6_since_9 : decode cX6_since 9 = .ok (.ldc 76, 2) := by decide +kernel
theorem dX6_since_11 : decode cX6_since 11 = .ok (.ireturn, 1) := by decide +kernel
theorem dX6_since_12 : decode cX6_since 12 = .ok (.aload_n 0, 1) := by decide +kernel
theorem dX6_since_13 : decode cX6_since 13 = .ok (.getfield 7, 3) := by decide +kernel
theorem dX6_since_16 : decode cX6_since 16 = .ok (.iconst 1, 1) := by decide +kernel
theorem dX6_since_17 : decode cX6_since 17 = .ok (.iaload, 1) := by decide +kernel
theorem dX6_since_18 : decode cX6_since 18 = .ok (.iconst 1, 1) := by decide +kernel
theorem dX6_since_19 : decode cX6_since 19 = .ok (.isub, 1) := by decide +kernel
theorem dX6_since_20 : decode cX6_since 20 = .ok (.istore_n 2, 1) := by decide +kernel
theorem dX6_since_21 : decode cX6_since 21 = .ok (.iload_n 2, 1) := by decide +kernel
theorem dX6_since_22 : decode cX6_since 22 = .ok (.ifCond .lt 35, 3) := by decide +kernel
theorem dX6_since_25 : decode cX6_since 25 = .ok (.aload_n 0, 1) := by decide +kernel
theorem dX6_since_26 : decode cX6_since 26 = .ok (.iload_n 2, 1) := by decide +kernel
theorem dX6_since_27 : decode cX6_since 27 = .ok (.iconst 2, 1) := by decide +kernel
theorem dX6_since_28 : decode cX6_since 28 = .ok (.invokevirtual 43, 3) := by decide +kernel
theorem dX6_since_31 : decode cX6_since 31 = .ok (.iload_n 1, 1) := by decide +kernel
theorem dX6_since_32 : decode cX6_since 32 = .ok (.if_icmp .ne 19, 3) := by decide +kernel
theorem dX6_since_35 : decode cX6_since 35 = .ok (.aload_n 0, 1) := by decide +kernel
theorem dX6_since_36 : decode cX6_since 36 = .ok (.getfield 7, 3) := by decide +kernel
theorem dX6_since_39 : decode cX6_since 39 = .ok (.iconst 2, 1) := by decide +kernel
theorem dX6_since_40 : decode cX6_since 40 = .ok (.iaload, 1) := by decide +kernel
theorem dX6_since_41 : decode cX6_since 41 = .ok (.iconst 1, 1) := by decide +kernel
theorem dX6_since_42 : decode cX6_since 42 = .ok (.isub, 1) := by decide +kernel
theorem dX6_since_43 : decode cX6_since 43 = .ok (.aload_n 0, 1) := by decide +kernel
theorem dX6_since_44 : decode cX6_since 44 = .ok (.iload_n 2, 1) := by decide +kernel
theorem dX6_since_45 : decode cX6_since 45 = .ok (.iconst 5, 1) := by decide +kernel
theorem dX6_since_46 : decode cX6_since 46 = .ok (.invokevirtual 43, 3) := by decide +kernel
theorem dX6_since_49 : decode cX6_since 49 = .ok (.isub, 1) := by decide +kernel
theorem dX6_since_50 : decode cX6_since 50 = .ok (.ireturn, 1) := by decide +kernel
theorem dX6_since_51 : decode cX6_since 51 = .ok (.iinc 2 (-1), 3) := by decide +kernel
theorem dX6_since_54 : decode cX6_since 54 = .ok (.goto (-33), 3) := by decide +kernel
theorem dX6_since_57 : decode cX6_since 57 = .ok (.ldc 38, 2) := by decide +kernel
theorem dX6_since_59 : decode cX6_since 59 = .ok (.ireturn, 1) := by decide +kernel
theorem dX6_strand_0 : decode cX6_strand 0 = .ok (.iload_n 1, 1) := by decide +kernel
theorem dX6_strand_1 : decode cX6_strand 1 = .ok (.iconst 0, 1) := by decide +kernel
theorem dX6_strand_2 : decode cX6_strand 2 = .ok (.iconst 5, 1) := by decide +kernel
theorem dX6_strand_3 : decode cX6_strand 3 = .ok (.invokestatic 72, 3) := by decide +kernel
theorem dX6_strand_6 : decode cX6_strand 6 = .ok (.ifCond .eq 12, 3) := by decide +kernel
theorem dX6_strand_9 : decode cX6_strand 9 = .ok (.iload_n 2, 1) := by decide +kernel
theorem dX6_strand_10 : decode cX6_strand 10 = .ok (.iconst 0, 1) := by decide +kernel
theorem dX6_strand_11 : decode cX6_strand 11 = .ok (.iconst 1, 1) := by decide +kernel
theorem dX6_strand_12 : decode cX6_strand 12 = .ok (.invokestatic 72, 3) := by decide +kernel
theorem dX6_strand_15 : decode cX6_strand 15 = .ok (.ifCond .ne 6, 3) := by decide +kernel
theorem dX6_strand_18 : decode cX6_strand 18 = .ok (.ldc 76, 2) := by decide +kernel
theorem dX6_strand_20 : decode cX6_strand 20 = .ok (.ireturn, 1) := by decide +kernel
theorem dX6_strand_21 : decode cX6_strand 21 = .ok (.iconst 0, 1) := by decide +kernel
theorem dX6_strand_22 : decode cX6_strand 22 = .ok (.istore_n 3, 1) := by decide +kernel
theorem dX6_strand_23 : decode cX6_strand 23 = .ok (.iconst 0, 1) := by decide +kernel
theorem dX6_strand_24 : decode cX6_strand 24 = .ok (.istore 4, 2) := by decide +kernel
theorem dX6_strand_26 : decode cX6_strand 26 = .ok (.iload 4, 2) := by decide +kernel
theorem dX6_strand_28 : decode cX6_strand 28 = .ok (.aload_n 0, 1) := by decide +kernel
theorem dX6_strand_29 : decode cX6_strand 29 = .ok (.getfield 7, 3) := by decide +kernel
theorem dX6_strand_32 : decode cX6_strand 32 = .ok (.iconst 0, 1) := by decide +kernel
theorem dX6_strand_33 : decode cX6_strand 33 = .ok (.iaload, 1) := by decide +kernel
theorem dX6_strand_34 : decode cX6_strand 34 = .ok (.if_icmp .ge 82, 3) := by decide +kernel
theorem dX6_strand_37 : decode cX6_strand 37 = .ok (.aload_n 0, 1) := by decide +kernel
theorem dX6_strand_38 : decode cX6_strand 38 = .ok (.iload 4, 2) := by decide +kernel
theorem dX6_strand_40 : decode cX6_strand 40 = .ok (.iconst 2, 1) := by decide +kernel
theorem dX6_strand_41 : decode cX6_strand 41 = .ok (.invokevirtual 43, 3) := by decide +kernel
theorem dX6_strand_44 : decode cX6_strand 44 = .ok (.iload_n 1, 1) := by decide +kernel
theorem dX6_strand_45 : decode cX6_strand 45 = .ok (.if_icmp .ne 35, 3) := by decide +kernel
theorem dX6_strand_48 : decode cX6_strand 48 = .ok (.iload 4, 2) := by decide +kernel
theorem dX6_strand_50 : decode cX6_strand 50 = .ok (.aload_n 0, 1) := by decide +kernel
theorem dX6_strand_51 : decode cX6_strand 51 = .ok (.getfield 7, 3) := by decide +kernel
theorem dX6_strand_54 : decode cX6_strand 54 = .ok (.iconst 1, 1) := by decide +kernel
theorem dX6_strand_55 : decode cX6_strand 55 = .ok (.iaload, 1) := by decide +kernel
theorem dX6_strand_56 : decode cX6_strand 56 = .ok (.if_icmp .ge 7, 3) := by decide +kernel
theorem dX6_strand_59 : decode cX6_strand 59 = .ok (.iconst 1, 1) := by decide +kernel
theorem dX6_strand_60 : decode cX6_strand 60 = .ok (.goto 4, 3) := by decide +kernel
theorem dX6_strand_63 : decode cX6_strand 63 = .ok (.iconst 0, 1) := by decide +kernel
theorem dX6_strand_64 : decode cX6_strand 64 = .ok (.iload_n 2, 1) := by decide +kernel
theorem dX6_strand_65 : decode cX6_strand 65 = .ok (.ifCond .ne 7, 3) := by decide +kernel
theorem dX6_strand_68 : decode cX6_strand 68 = .ok (.iconst 1, 1) := by decide +kernel
theorem dX6_strand_69 : decode cX6_strand 69 = .ok (.goto 4, 3) := by decide +kernel
theorem dX6_strand_72 : decode cX6_strand 72 = .ok (.iconst 0, 1) := by decide +kernel
theorem dX6_strand_73 : decode cX6_strand 73 = .ok (.if_icmp .ne 7, 3) := by decide +kernel
theorem dX6_strand_76 : decode cX6_strand 76 = .ok (.iconst 1, 1) := by decide +kernel
theorem dX6_strand_77 : decode cX6_strand 77 = .ok (.goto 4, 3) := by decide +kernel
theorem dX6_strand_80 : decode cX6_strand 80 = .ok (.iconst 0, 1) := by decide +kernel
theorem dX6_strand_81 : decode cX6_strand 81 = .ok (.istore 5, 2) := by decide +kernel
theorem dX6_strand_83 : decode cX6_strand 83 = .ok (.iload_n 3, 1) := by decide +kernel
theorem dX6_strand_84 : decode cX6_strand 84 = .ok (.iload 5, 2) := by decide +kernel
theorem dX6_strand_86 : decode cX6_strand 86 = .ok (.ifCond .eq 21, 3) := by decide +kernel
theorem dX6_strand_89 : decode cX6_strand 89 = .ok (.aload_n 0, 1) := by decide +kernel
theorem dX6_strand_90 : decode cX6_strand 90 = .ok (.iload 4, 2) := by decide +kernel
theorem dX6_strand_92 : decode cX6_strand 92 = .ok (.iconst 0, 1) := by decide +kernel
theorem dX6_strand_93 : decode cX6_strand 93 = .ok (.invokevirtual 43, 3) := by decide +kernel
theorem dX6_strand_96 : decode cX6_strand 96 = .ok (.aload_n 0, 1) := by decide +kernel
theorem dX6_strand_97 : decode cX6_strand 97 = .ok (.iload 4, 2) := by decide +kernel
theorem dX6_strand_99 : decode cX6_strand 99 = .ok (.iconst 4, 1) := by decide +kernel
theorem dX6_strand_100 : decode cX6_strand 100 = .ok (.invokevirtual 43, 3) := by decide +kernel
theorem dX6_strand_103 : decode cX6_strand 103 = .ok (.isub, 1) := by decide +kernel
theorem dX6_strand_104 : decode cX6_strand 104 = .ok (.goto 4, 3) := by decide +kernel
theorem dX6_strand_107 : decode cX6_strand 107 = .ok (.iconst 0, 1) := by decide +kernel
theorem dX6_strand_108 : decode cX6_strand 108 = .ok (.iadd, 1) := by decide +kernel
theorem dX6_strand_109 : decode cX6_strand 109 = .ok (.istore_n 3, 1) := by decide +kernel
theorem dX6_strand_110 : decode cX6_strand 110 = .ok (.iinc 4 1, 3) := by decide +kernel
theorem dX6_strand_113 : decode cX6_strand 113 = .ok (.goto (-87), 3) := by decide +kernel
theorem dX6_strand_116 : decode cX6_strand 116 = .ok (.iload_n 3, 1) := by decide +kernel
theorem dX6_strand_117 : decode cX6_strand 117 = .ok (.ireturn, 1) := by decide +kernel
theorem dX6_lays_0 : decode cX6_lays 0 = .ok (.aload_n 0, 1) := by decide +kernel
theorem dX6_lays_1 : decode cX6_lays 1 = .ok (.invokevirtual 93, 3) := by decide +kernel
theorem dX6_lays_4 : decode cX6_lays 4 = .ok (.istore_n 2, 1) := by decide +kernel
theorem dX6_lays_5 : decode cX6_lays 5 = .ok (.bipush 21, 2) := by decide +kernel
theorem dX6_lays_7 : decode cX6_lays 7 = .ok (.istore_n 3, 1) := by decide +kernel
theorem dX6_lays_8 : decode cX6_lays 8 = .ok (.iload_n 3, 1) := by decide +kernel
theorem dX6_lays_9 : decode cX6_lays 9 = .ok (.ifCond .lt 325, 3) := by decide +kernel
theorem dX6_lays_12 : decode cX6_lays 12 = .ok (.iload_n 2, 1) := by decide +kernel
theorem dX6_lays_13 : decode cX6_lays 13 = .ok (.istore 4, 2) := by decide +kernel
theorem dX6_lays_15 : decode cX6_lays 15 = .ok (.iload 4, 2) := by decide +kernel
theorem dX6_lays_17 : decode cX6_lays 17 = .ok (.ifCond .lt 311, 3) := by decide +kernel
theorem dX6_lays_20 : decode cX6_lays 20 = .ok (.bipush 21, 2) := by decide +kernel
theorem dX6_lays_22 : decode cX6_lays 22 = .ok (.iload_n 3, 1) := by decide +kernel
theorem dX6_lays_23 : decode cX6_lays 23 = .ok (.imul, 1) := by decide +kernel
theorem dX6_lays_24 : decode cX6_lays 24 = .ok (.iload 4, 2) := by decide +kernel
theorem dX6_lays_26 : decode cX6_lays 26 = .ok (.iadd, 1) := by decide +kernel
theorem dX6_lays_27 : decode cX6_lays 27 = .ok (.istore 5, 2) := by decide +kernel
theorem dX6_lays_29 : decode cX6_lays 29 = .ok (.aload_n 0, 1) := by decide +kernel
theorem dX6_lays_30 : decode cX6_lays 30 = .ok (.getfield 26, 3) := by decide +kernel
theorem dX6_lays_33 : decode cX6_lays 33 = .ok (.iload 5, 2) := by decide +kernel
theorem dX6_lays_35 : decode cX6_lays 35 = .ok (.iload 4, 2) := by decide +kernel
theorem dX6_lays_37 : decode cX6_lays 37 = .ok (.iload_n 2, 1) := by decide +kernel
theorem dX6_lays_38 : decode cX6_lays 38 = .ok (.if_icmp .ne 7, 3) := by decide +kernel
theorem dX6_lays_41 : decode cX6_lays 41 = .ok (.iconst 0, 1) := by decide +kernel
theorem dX6_lays_42 : decode cX6_lays 42 = .ok (.goto 5, 3) := by decide +kernel
theorem dX6_lays_45 : decode cX6_lays 45 = .ok (.bipush 99, 2) := by decide +kernel
theorem dX6_lays_47 : decode cX6_lays 47 = .ok (.iastore, 1) := by decide +kernel
theorem dX6_lays_48 : decode cX6_lays 48 = .ok (.aload_n 0, 1) := by decide +kernel
theorem dX6_lays_49 : decode cX6_lays 49 = .ok (.getfield 29, 3) := by decide +kernel
theorem dX6_lays_52 : decode cX6_lays 52 = .ok (.iload 5, 2) := by decide +kernel
theorem dX6_lays_54 : decode cX6_lays 54 = .ok (.iconst 0, 1) := by decide +kernel
theorem dX6_lays_55 : decode cX6_lays 55 = .ok (.iastore, 1) := by decide +kernel
theorem dX6_lays_56 : decode cX6_lays 56 = .ok (.aload_n 0, 1) := by decide +kernel
theorem dX6_lays_57 : decode cX6_lays 57 = .ok (.getfield 32, 3) := by decide +kernel
theorem dX6_lays_60 : decode cX6_lays 60 = .ok (.iload 5, 2) := by decide +kernel
theorem dX6_lays_62 : decode cX6_lays 62 = .ok (.iconst 0, 1) := by decide +kernel
theorem dX6_lays_63 : decode cX6_lays 63 = .ok (.iastore, 1) := by decide +kernel
theorem dX6_lays_64 : decode cX6_lays 64 = .ok (.aload_n 0, 1) := by decide +kernel
theorem dX6_lays_65 : decode cX6_lays 65 = .ok (.getfield 35, 3) := by decide +kernel
theorem dX6_lays_68 : decode cX6_lays 68 = .ok (.iload 5, 2) := by decide +kernel
theorem dX6_lays_70 : decode cX6_lays 70 = .ok (.iload 4, 2) := by decide +kernel
theorem dX6_lays_72 : decode cX6_lays 72 = .ok (.iload_n 2, 1) := by decide +kernel
theorem dX6_lays_73 : decode cX6_lays 73 = .ok (.if_icmp .ne 7, 3) := by decide +kernel
theorem dX6_lays_76 : decode cX6_lays 76 = .ok (.iconst 1, 1) := by decide +kernel
theorem dX6_lays_77 : decode cX6_lays 77 = .ok (.goto 4, 3) := by decide +kernel
theorem dX6_lays_80 : decode cX6_lays 80 = .ok (.iconst 0, 1) := by decide +kernel
theorem dX6_lays_81 : decode cX6_lays 81 = .ok (.iastore, 1) := by decide +kernel
theorem dX6_lays_82 : decode cX6_lays 82 = .ok (.iload_n 3, 1) := by decide +kernel
theorem dX6_lays_83 : decode cX6_lays 83 = .ok (.bipush 21, 2) := by decide +kernel
theorem dX6_lays_85 : decode cX6_lays 85 = .ok (.if_icmp .ge 20, 3) := by decide +kernel
theorem dX6_lays_88 : decode cX6_lays 88 = .ok (.aload_n 0, 1) := by decide +kernel
theorem dX6_lays_89 : decode cX6_lays 89 = .ok (.getfield 7, 3) := by decide +kernel
theorem dX6_lays_92 : decode cX6_lays 92 = .ok (.iconst 2, 1) := by decide +kernel
theorem dX6_lays_93 : decode cX6_lays 93 = .ok (.iaload, 1) := by decide +kernel
theorem dX6_lays_94 : decode cX6_lays 94 = .ok (.iload_n 3, 1) := by decide +kernel
theorem dX6_lays_95 : decode cX6_lays 95 = .ok (.iadd, 1) := by decide +kernel
theorem dX6_lays_96 : decode cX6_lays 96 = .ok (.bipush 30, 2) := by decide +kernel
theorem dX6_lays_98 : decode cX6_lays 98 = .ok (.if_icmp .ge 7, 3) := by decide +kernel
theorem dX6_lays_101 : decode cX6_lays 101 = .ok (.iconst 1, 1) := by decide +kernel
theorem dX6_lays_102 : decode cX6_lays 102 = .ok (.goto 4, 3) := by decide +kernel
theorem dX6_lays_105 : decode cX6_lays 105 = .ok (.iconst 0, 1) := by decide +kernel
theorem dX6_lays_106 : decode cX6_lays 106 = .ok (.istore 6, 2) := by decide +kernel
theorem dX6_lays_108 : decode cX6_lays 108 = .ok (.iconst 1, 1) := by decide +kernel
theorem dX6_lays_109 : decode cX6_lays 109 = .ok (.istore 7, 2) := by decide +kernel
theorem dX6_lays_111 : decode cX6_lays 111 = .ok (.iload 7, 2) := by decide +kernel
theorem dX6_lays_113 : decode cX6_lays 113 = .ok (.iload_n 2, 1) := by decide +kernel
theorem dX6_lays_114 : decode cX6_lays 114 = .ok (.iload 4, 2) := by decide +kernel
theorem dX6_lays_116 : decode cX6_lays 116 = .ok (.isub, 1) := by decide +kernel
theorem dX6_lays_117 : decode cX6_lays 117 = .ok (.if_icmp .gt 205, 3) := by decide +kernel
theorem dX6_lays_120 : decode cX6_lays 120 = .ok (.iload 6, 2) := by decide +kernel
theorem dX6_lays_122 : decode cX6_lays 122 = .ok (.ifCond .eq 200, 3) := by decide +kernel
theorem dX6_lays_125 : decode cX6_lays 125 = .ok (.iload 5, 2) := by decide +kernel
theorem dX6_lays_127 : decode cX6_lays 127 = .ok (.bipush 21, 2) := by decide +kernel
theorem dX6_lays_129 : decode cX6_lays 129 = .ok (.iadd, 1) := by decide +kernel
theorem dX6_lays_130 : decode cX6_lays 130 = .ok (.iload 7, 2) := by decide +kernel
theorem dX6_lays_132 : decode cX6_lays 132 = .ok (.iadd, 1) := by decide +kernel
theorem dX6_lays_133 : decode cX6_lays 133 = .ok (.istore 8, 2) := by decide +kernel
theorem dX6_lays_135 : decode cX6_lays 135 = .ok (.aload_n 0, 1) := by decide +kernel
theorem dX6_lays_136 : decode cX6_lays 136 = .ok (.getfield 35, 3) := by decide +kernel
theorem dX6_lays_139 : decode cX6_lays 139 = .ok (.iload 8, 2) := by decide +kernel
theorem dX6_lays_141 : decode cX6_lays 141 = .ok (.iaload, 1) := by decide +kernel
theorem dX6_lays_142 : decode cX6_lays 142 = .ok (.ifCond .le 174, 3) := by decide +kernel
theorem dX6_lays_145 : decode cX6_lays 145 = .ok (.aload_n 0, 1) := by decide +kernel
theorem dX6_lays_146 : decode cX6_lays 146 = .ok (.aload_n 0, 1) := by decide +kernel
theorem dX6_lays_147 : decode cX6_lays 147 = .ok (.getfield 7, 3) := by decide +kernel
theorem dX6_lays_150 : decode cX6_lays 150 = .ok (.iconst 1, 1) := by decide +kernel
theorem dX6_lays_151 : decode cX6_lays 151 = .ok (.iaload, 1) := by decide +kernel
theorem dX6_lays_152 : decode cX6_lays 152 = .ok (.iload 4, 2) := by decide +kernel
theorem dX6_lays_154 : decode cX6_lays 154 = .ok (.iadd, 1) := by decide +kernel
theorem dX6_lays_155 : decode cX6_lays 155 = .ok (.iload 7, 2) := by decide +kernel
theorem dX6_lays_157 : decode cX6_lays 157 = .ok (.aload_n 0, 1) := by decide +kernel
theorem dX6_lays_158 : decode cX6_lays 158 = .ok (.getfield 7, 3) := by decide +kernel
theorem dX6_lays_161 : decode cX6_lays 161 = .ok (.iconst 2, 1) := by decide +kernel
theorem dX6_lays_162 : decode cX6_lays 162 = .ok (.iaload, 1) := by decide +kernel
theorem dX6_lays_163 : decode cX6_lays 163 = .ok (.iload_n 3, 1) := by decide +kernel
theorem dX6_lays_164 : decode cX6_lays 164 = .ok (.iadd, 1) := by decide +kernel
theorem dX6_lays_165 : decode cX6_lays 165 = .ok (.iload_n 3, 1) := by decide +kernel
theorem dX6_lays_166 : decode cX6_lays 166 = .ok (.ifCond .ne 7, 3) := by decide +kernel
theorem dX6_lays_169 : decode cX6_lays 169 = .ok (.iload_n 1, 1) := by decide +kernel
theorem dX6_lays_170 : decode cX6_lays 170 = .ok (.goto 4, 3) := by decide +kernel
theorem dX6_lays_173 : decode cX6_lays 173 = .ok (.iconst 0, 1) := by decide +kernel
theorem dX6_lays_174 : decode cX6_lays 174 = .ok (.invokevirtual 68, 3) := by decide +kernel
theorem dX6_lays_177 : decode cX6_lays 177 = .ok (.ifCond .ne 139, 3) := by decide +kernel
theorem dX6_lays_180 : decode cX6_lays 180 = .ok (.aload_n 0, 1) := by decide +kernel
theorem dX6_lays_181 : decode cX6_lays 181 = .ok (.getfield 29, 3) := by decide +kernel
theorem dX6_lays_184 : decode cX6_lays 184 = .ok (.iload 8, 2) := by decide +kernel
theorem dX6_lays_186 : decode cX6_lays 186 = .ok (.iaload, 1) := by decide +kernel
theorem dX6_lays_187 : decode cX6_lays 187 = .ok (.aload_n 0, 1) := by decide +kernel
theorem dX6_lays_188 : decode cX6_lays 188 = .ok (.aload_n 0, 1) := by decide +kernel
theorem dX6_lays_189 : decode cX6_lays 189 = .ok (.getfield 7, 3) := by decide +kernel
theorem dX6_lays_192 : decode cX6_lays 192 = .ok (.iconst 1, 1) := by decide +kernel
theorem dX6_lays_193 : decode cX6_lays 193 = .ok (.iaload, 1) := by decide +kernel
theorem dX6_lays_194 : decode cX6_lays 194 = .ok (.iload 4, 2) := by decide +kernel
theorem dX6_lays_196 : decode cX6_lays 196 = .ok (.iadd, 1) := by decide +kernel
theorem dX6_lays_197 : decode cX6_lays 197 = .ok (.iload 7, 2) := by decide +kernel
theorem dX6_lays_199 : decode cX6_lays 199 = .ok (.iadd, 1) := by decide +kernel
theorem dX6_lays_200 : decode cX6_lays 200 = .ok (.iload_n 3, 1) := by decide +kernel
theorem dX6_lays_201 : decode cX6_lays 201 = .ok (.ifCond .ne 7, 3) := by decide +kernel
theorem dX6_lays_204 : decode cX6_lays 204 = .ok (.iload_n 1, 1) := by decide +kernel
theorem dX6_lays_205 : decode cX6_lays 205 = .ok (.goto 4, 3) := by decide +kernel
theorem dX6_lays_208 : decode cX6_lays 208 = .ok (.iconst 0, 1) := by decide +kernel
theorem dX6_lays_209 : decode cX6_lays 209 = .ok (.invokevirtual 54, 3) := by decide +kernel
theorem dX6_lays_212 : decode cX6_lays 212 = .ok (.iadd, 1) := by decide +kernel
theorem dX6_lays_213 : decode cX6_lays 213 = .ok (.istore 9, 2) := by decide +kernel
theorem dX6_lays_215 : decode cX6_lays 215 = .ok (.aload_n 0, 1) := by decide +kernel
theorem dX6_lays_216 : decode cX6_lays 216 = .ok (.getfield 35, 3) := by decide +kernel
theorem dX6_lays_219 : decode cX6_lays 219 = .ok (.iload 5, 2) := by decide +kernel
theorem dX6_lays_221 : decode cX6_lays 221 = .ok (.dup2, 1) := by decide +kernel
theorem dX6_lays_222 : decode cX6_lays 222 = .ok (.iaload, 1) := by decide +kernel
theorem dX6_lays_223 : decode cX6_lays 223 = .ok (.aload_n 0, 1) := by decide +kernel
theorem dX6_lays_224 : decode cX6_lays 224 = .ok (.getfield 35, 3) := by decide +kernel
theorem dX6_lays_227 : decode cX6_lays 227 = .ok (.iload 8, 2) := by decide +kernel
theorem dX6_lays_229 : decode cX6_lays 229 = .ok (.iaload, 1) := by decide +kernel
theorem dX6_lays_230 : decode cX6_lays 230 = .ok (.iadd, 1) := by decide +kernel
theorem dX6_lays_231 : decode cX6_lays 231 = .ok (.iastore, 1) := by decide +kernel
theorem dX6_lays_232 : decode cX6_lays 232 = .ok (.aload_n 0, 1) := by decide +kernel
theorem dX6_lays_233 : decode cX6_lays 233 = .ok (.getfield 26, 3) := by decide +kernel
theorem dX6_lays_236 : decode cX6_lays 236 = .ok (.iload 8, 2) := by decide +kernel
theorem dX6_lays_238 : decode cX6_lays 238 = .ok (.iaload, 1) := by decide +kernel
theorem dX6_lays_239 : decode cX6_lays 239 = .ok (.iconst 1, 1) := by decide +kernel
theorem dX6_lays_240 : decode cX6_lays 240 = .ok (.iadd, 1) := by decide +kernel
theorem dX6_lays_241 : decode cX6_lays 241 = .ok (.aload_n 0, 1) := by decide +kernel
theorem dX6_lays_242 : decode cX6_lays 242 = .ok (.getfield 26, 3) := by decide +kernel
theorem dX6_lays_245 : decode cX6_lays 245 = .ok (.iload 5, 2) := by decide +kernel
theorem dX6_lays_247 : decode cX6_lays 247 = .ok (.iaload, 1) := by decide +kernel
theorem dX6_lays_248 : decode cX6_lays 248 = .ok (.if_icmp .lt 34, 3) := by decide +kernel
theorem dX6_lays_251 : decode cX6_lays 251 = .ok (.aload_n 0, 1) := by decide +kernel
theorem dX6_lays_252 : decode cX6_lays 252 = .ok (.getfield 26, 3) := by decide +kernel
theorem dX6_lays_255 : decode cX6_lays 255 = .ok (.iload 8, 2) := by decide +kernel
theorem dX6_lays_257 : decode cX6_lays 257 = .ok (.iaload, 1) := by decide +kernel
theorem dX6_lays_258 : decode cX6_lays 258 = .ok (.iconst 1, 1) := by decide +kernel
theorem dX6_lays_259 : decode cX6_lays 259 = .ok (.iadd, 1) := by decide +kernel
theorem dX6_lays_260 : decode cX6_lays 260 = .ok (.aload_n 0, 1) := by decide +kernel
theorem dX6_lays_261 : decode cX6_lays 261 = .ok (.getfield 26, 3) := by decide +kernel
theorem dX6_lays_264 : decode cX6_lays 264 = .ok (.iload 5, 2) := by decide +kernel
theorem dX6_lays_266 : decode cX6_lays 266 = .ok (.iaload, 1) := by decide +kernel
theorem dX6_lays_267 : decode cX6_lays 267 = .ok (.if_icmp .ne 49, 3) := by decide +kernel
theorem dX6_lays_270 : decode cX6_lays 270 = .ok (.iload 9, 2) := by decide +kernel
theorem dX6_lays_272 : decode cX6_lays 272 = .ok (.aload_n 0, 1) := by decide +kernel
theorem dX6_lays_273 : decode cX6_lays 273 = .ok (.getfield 29, 3) := by decide +kernel
theorem dX6_lays_276 : decode cX6_lays 276 = .ok (.iload 5, 2) := by decide +kernel
theorem dX6_lays_278 : decode cX6_lays 278 = .ok (.iaload, 1) := by decide +kernel
theorem dX6_lays_279 : decode cX6_lays 279 = .ok (.if_icmp .le 37, 3) := by decide +kernel
theorem dX6_lays_282 : decode cX6_lays 282 = .ok (.aload_n 0, 1) := by decide +kernel
theorem dX6_lays_283 : decode cX6_lays 283 = .ok (.getfield 26, 3) := by decide +kernel
theorem dX6_lays_286 : decode cX6_lays 286 = .ok (.iload 5, 2) := by decide +kernel
theorem dX6_lays_288 : decode cX6_lays 288 = .ok (.aload_n 0, 1) := by decide +kernel
theorem dX6_lays_289 : decode cX6_lays 289 = .ok (.getfield 26, 3) := by decide +kernel
theorem dX6_lays_292 : decode cX6_lays 292 = .ok (.iload 8, 2) := by decide +kernel
theorem dX6_lays_294 : decode cX6_lays 294 = .ok (.iaload, 1) := by decide +kernel
theorem dX6_lays_295 : decode cX6_lays 295 = .ok (.iconst 1, 1) := by decide +kernel
theorem dX6_lays_296 : decode cX6_lays 296 = .ok (.iadd, 1) := by decide +kernel
theorem dX6_lays_297 : decode cX6_lays 297 = .ok (.iastore, 1) := by decide +kernel
theorem dX6_lays_298 : decode cX6_lays 298 = .ok (.aload_n 0, 1) := by decide +kernel
theorem dX6_lays_299 : decode cX6_lays 299 = .ok (.getfield 29, 3) := by decide +kernel
theorem dX6_lays_302 : decode cX6_lays 302 = .ok (.iload 5, 2) := by decide +kernel
theorem dX6_lays_304 : decode cX6_lays 304 = .ok (.iload 9, 2) := by decide +kernel
theorem dX6_lays_306 : decode cX6_lays 306 = .ok (.iastore, 1) := by decide +kernel
theorem dX6_lays_307 : decode cX6_lays 307 = .ok (.aload_n 0, 1) := by decide +kernel
theorem dX6_lays_308 : decode cX6_lays 308 = .ok (.getfield 32, 3) := by decide +kernel
theorem dX6_lays_311 : decode cX6_lays 311 = .ok (.iload 5, 2) := by decide +kernel
theorem dX6_lays_313 : decode cX6_lays 313 = .ok (.iload 7, 2) := by decide +kernel
theorem dX6_lays_315 : decode cX6_lays 315 = .ok (.iastore, 1) := by decide +kernel
theorem dX6_lays_316 : decode cX6_lays 316 = .ok (.iinc 7 1, 3) := by decide +kernel
theorem dX6_lays_319 : decode cX6_lays 319 = .ok (.goto (-208), 3) := by decide +kernel
theorem dX6_lays_322 : decode cX6_lays 322 = .ok (.iinc 4 (-1), 3) := by decide +kernel
theorem dX6_lays_325 : decode cX6_lays 325 = .ok (.goto (-310), 3) := by decide +kernel
theorem dX6_lays_328 : decode cX6_lays 328 = .ok (.iinc 3 (-1), 3) := by decide +kernel
theorem dX6_lays_331 : decode cX6_lays 331 = .ok (.goto (-323), 3) := by decide +kernel
theorem dX6_lays_334 : decode cX6_lays 334 = .ok (.return_, 1) := by decide +kernel
theorem dX6_isPlan_0 : decode cX6_isPlan 0 = .ok (.aload_n 0, 1) := by decide +kernel
theorem dX6_isPlan_1 : decode cX6_isPlan 1 = .ok (.iload_n 1, 1) := by decide +kernel
theorem dX6_isPlan_2 : decode cX6_isPlan 2 = .ok (.invokevirtual 129, 3) := by decide +kernel
theorem dX6_isPlan_5 : decode cX6_isPlan 5 = .ok (.aload_n 0, 1) := by decide +kernel
theorem dX6_isPlan_6 : decode cX6_isPlan 6 = .ok (.invokevirtual 93, 3) := by decide +kernel
theorem dX6_isPlan_9 : decode cX6_isPlan 9 = .ok (.ifCond .le 16, 3) := by decide +kernel
theorem dX6_isPlan_12 : decode cX6_isPlan 12 = .ok (.aload_n 0, 1) := by decide +kernel
theorem dX6_isPlan_13 : decode cX6_isPlan 13 = .ok (.getfield 35, 3) := by decide +kernel
theorem dX6_isPlan_16 : decode cX6_isPlan 16 = .ok (.iconst 0, 1) := by decide +kernel
theorem dX6_isPlan_17 : decode cX6_isPlan 17 = .ok (.iaload, 1) := by decide +kernel
theorem dX6_isPlan_18 : decode cX6_isPlan 18 = .ok (.ifCond .le 7, 3) := by decide +kernel
theorem dX6_isPlan_21 : decode cX6_isPlan 21 = .ok (.iconst 1, 1) := by decide +kernel
theorem dX6_isPlan_22 : decode cX6_isPlan 22 = .ok (.goto 4, 3) := by decide +kernel
theorem dX6_isPlan_25 : decode cX6_isPlan 25 = .ok (.iconst 0, 1) := by decide +kernel
theorem dX6_isPlan_26 : decode cX6_isPlan 26 = .ok (.ireturn, 1) := by decide +kernel
theorem dX6_wordsOf_0 : decode cX6_wordsOf 0 = .ok (.aload_n 0, 1) := by decide +kernel
theorem dX6_wordsOf_1 : decode cX6_wordsOf 1 = .ok (.aload_n 0, 1) := by decide +kernel
theorem dX6_wordsOf_2 : decode cX6_wordsOf 2 = .ok (.getfield 7, 3) := by decide +kernel
theorem dX6_wordsOf_5 : decode cX6_wordsOf 5 = .ok (.iconst 1, 1) := by decide +kernel
theorem dX6_wordsOf_6 : decode cX6_wordsOf 6 = .ok (.iaload, 1) := by decide +kernel
theorem dX6_wordsOf_7 : decode cX6_wordsOf 7 = .ok (.iload_n 2, 1) := by decide +kernel
theorem dX6_wordsOf_8 : decode cX6_wordsOf 8 = .ok (.iadd, 1) := by decide +kernel
theorem dX6_wordsOf_9 : decode cX6_wordsOf 9 = .ok (.aload_n 0, 1) := by decide +kernel
theorem dX6_wordsOf_10 : decode cX6_wordsOf 10 = .ok (.getfield 32, 3) := by decide +kernel
theorem dX6_wordsOf_13 : decode cX6_wordsOf 13 = .ok (.bipush 21, 2) := by decide +kernel
theorem dX6_wordsOf_15 : decode cX6_wordsOf 15 = .ok (.iload_n 1, 1) := by decide +kernel
theorem dX6_wordsOf_16 : decode cX6_wordsOf 16 = .ok (.imul, 1) := by decide +kernel
theorem dX6_wordsOf_17 : decode cX6_wordsOf 17 = .ok (.iload_n 2, 1) := by decide +kernel
theorem dX6_wordsOf_18 : decode cX6_wordsOf 18 = .ok (.iadd, 1) := by decide +kernel
theorem dX6_wordsOf_19 : decode cX6_wordsOf 19 = .ok (.iaload, 1) := by decide +kernel
theorem dX6_wordsOf_20 : decode cX6_wordsOf 20 = .ok (.iconst 0, 1) := by decide +kernel
theorem dX6_wordsOf_21 : decode cX6_wordsOf 21 = .ok (.invokevirtual 57, 3) := by decide +kernel
theorem dX6_wordsOf_24 : decode cX6_wordsOf 24 = .ok (.iload_n 1, 1) := by decide +kernel
theorem dX6_wordsOf_25 : decode cX6_wordsOf 25 = .ok (.ifCond .ne 12, 3) := by decide +kernel
theorem dX6_wordsOf_28 : decode cX6_wordsOf 28 = .ok (.aload_n 0, 1) := by decide +kernel
theorem dX6_wordsOf_29 : decode cX6_wordsOf 29 = .ok (.getfield 7, 3) := by decide +kernel
theorem dX6_wordsOf_32 : decode cX6_wordsOf 32 = .ok (.iconst 3, 1) := by decide +kernel
theorem dX6_wordsOf_33 : decode cX6_wordsOf 33 = .ok (.iaload, 1) := by decide +kernel
theorem dX6_wordsOf_34 : decode cX6_wordsOf 34 = .ok (.goto 4, 3) := by decide +kernel
theorem dX6_wordsOf_37 : decode cX6_wordsOf 37 = .ok (.iconst 0, 1) := by decide +kernel
theorem dX6_wordsOf_38 : decode cX6_wordsOf 38 = .ok (.isub, 1) := by decide +kernel
theorem dX6_wordsOf_39 : decode cX6_wordsOf 39 = .ok (.ireturn, 1) := by decide +kernel
theorem dX6_plan_0 : decode cX6_plan 0 = .ok (.iload_n 1, 1) := by decide +kernel
theorem dX6_plan_1 : decode cX6_plan 1 = .ok (.iconst 0, 1) := by decide +kernel
theorem dX6_plan_2 : decode cX6_plan 2 = .ok (.iconst 4, 1) := by decide +kernel
theorem dX6_plan_3 : decode cX6_plan 3 = .ok (.invokestatic 72, 3) := by decide +kernel
theorem dX6_plan_6 : decode cX6_plan 6 = .ok (.ifCond .ne 6, 3) := by decide +kernel
theorem dX6_plan_9 : decode cX6_plan 9 = .ok (.ldc 76, 2) := by decide +kernel
theorem dX6_plan_11 : decode cX6_plan 11 = .ok (.ireturn, 1) := by decide +kernel
theorem dX6_plan_12 : decode cX6_plan 12 = .ok (.aload_n 0, 1) := by decide +kernel
theorem dX6_plan_13 : decode cX6_plan 13 = .ok (.aload_n 0, 1) := by decide +kernel
theorem dX6_plan_14 : decode cX6_plan 14 = .ok (.getfield 7, 3) := by decide +kernel
theorem dX6_plan_17 : decode cX6_plan 17 = .ok (.iconst 3, 1) := by decide +kernel
theorem dX6_plan_18 : decode cX6_plan 18 = .ok (.iaload, 1) := by decide +kernel
theorem dX6_plan_19 : decode cX6_plan 19 = .ok (.invokevirtual 133, 3) := by decide +kernel
theorem dX6_plan_22 : decode cX6_plan 22 = .ok (.ifCond .ne 6, 3) := by decide +kernel
theorem dX6_plan_25 : decode cX6_plan 25 = .ok (.ldc 38, 2) := by decide +kernel
theorem dX6_plan_27 : decode cX6_plan 27 = .ok (.ireturn, 1) := by decide +kernel
theorem dX6_plan_28 : decode cX6_plan 28 = .ok (.aload_n 0, 1) := by decide +kernel
theorem dX6_plan_29 : decode cX6_plan 29 = .ok (.getfield 7, 3) := by decide +kernel
theorem dX6_plan_32 : decode cX6_plan 32 = .ok (.bipush 9, 2) := by decide +kernel
theorem dX6_plan_34 : decode cX6_plan 34 = .ok (.iaload, 1) := by decide +kernel
theorem dX6_plan_35 : decode cX6_plan 35 = .ok (.istore_n 2, 1) := by decide +kernel
theorem dX6_plan_36 : decode cX6_plan 36 = .ok (.iconst 0, 1) := by decide +kernel
theorem dX6_plan_37 : decode cX6_plan 37 = .ok (.istore_n 3, 1) := by decide +kernel
theorem dX6_plan_38 : decode cX6_plan 38 = .ok (.iconst 0, 1) := by decide +kernel
theorem dX6_plan_39 : decode cX6_plan 39 = .ok (.istore 4, 2) := by decide +kernel
theorem dX6_plan_41 : decode cX6_plan 41 = .ok (.iconst 0, 1) := by decide +kernel
theorem dX6_plan_42 : decode cX6_plan 42 = .ok (.istore 5, 2) := by decide +kernel
theorem dX6_plan_44 : decode cX6_plan 44 = .ok (.iconst 0, 1) := by decide +kernel
theorem dX6_plan_45 : decode cX6_plan 45 = .ok (.istore 6, 2) := by decide +kernel
theorem dX6_plan_47 : decode cX6_plan 47 = .ok (.iload 6, 2) := by decide +kernel
theorem dX6_plan_49 : decode cX6_plan 49 = .ok (.aload_n 0, 1) := by decide +kernel
theorem dX6_plan_50 : decode cX6_plan 50 = .ok (.getfield 26, 3) := by decide +kernel
theorem dX6_plan_53 : decode cX6_plan 53 = .ok (.iconst 0, 1) := by decide +kernel
theorem dX6_plan_54 : decode cX6_plan 54 = .ok (.iaload, 1) := by decide +kernel
theorem dX6_plan_55 : decode cX6_plan 55 = .ok (.if_icmp .ge 99, 3) := by decide +kernel
theorem dX6_plan_58 : decode cX6_plan 58 = .ok (.iload 4, 2) := by decide +kernel
theorem dX6_plan_60 : decode cX6_plan 60 = .ok (.aload_n 0, 1) := by decide +kernel
theorem dX6_plan_61 : decode cX6_plan 61 = .ok (.iload 6, 2) := by decide +kernel
theorem dX6_plan_63 : decode cX6_plan 63 = .ok (.iload 5, 2) := by decide +kernel
theorem dX6_plan_65 : decode cX6_plan 65 = .ok (.invokevirtual 136, 3) := by decide +kernel
theorem dX6_plan_68 : decode cX6_plan 68 = .ok (.iadd, 1) := by decide +kernel
theorem dX6_plan_69 : decode cX6_plan 69 = .ok (.istore 4, 2) := by decide +kernel
theorem dX6_plan_71 : decode cX6_plan 71 = .ok (.iload_n 2, 1) := by decide +kernel
theorem dX6_plan_72 : decode cX6_plan 72 = .ok (.aload_n 0, 1) := by decide +kernel
theorem dX6_plan_73 : decode cX6_plan 73 = .ok (.getfield 7, 3) := by decide +kernel
theorem dX6_plan_76 : decode cX6_plan 76 = .ok (.bipush 7, 2) := by decide +kernel
theorem dX6_plan_78 : decode cX6_plan 78 = .ok (.iaload, 1) := by decide +kernel
theorem dX6_plan_79 : decode cX6_plan 79 = .ok (.aload_n 0, 1) := by decide +kernel
theorem dX6_plan_80 : decode cX6_plan 80 = .ok (.iload 6, 2) := by decide +kernel
theorem dX6_plan_82 : decode cX6_plan 82 = .ok (.iload 5, 2) := by decide +kernel
theorem dX6_plan_84 : decode cX6_plan 84 = .ok (.invokevirtual 136, 3) := by decide +kernel
theorem dX6_plan_87 : decode cX6_plan 87 = .ok (.isub, 1) := by decide +kernel
theorem dX6_plan_88 : decode cX6_plan 88 = .ok (.iadd, 1) := by decide +kernel
theorem dX6_plan_89 : decode cX6_plan 89 = .ok (.istore_n 2, 1) := by decide +kernel
theorem dX6_plan_90 : decode cX6_plan 90 = .ok (.iload_n 2, 1) := by decide +kernel
theorem dX6_plan_91 : decode cX6_plan 91 = .ok (.aload_n 0, 1) := by decide +kernel
theorem dX6_plan_92 : decode cX6_plan 92 = .ok (.getfield 7, 3) := by decide +kernel
theorem dX6_plan_95 : decode cX6_plan 95 = .ok (.bipush 7, 2) := by decide +kernel
theorem dX6_plan_97 : decode cX6_plan 97 = .ok (.iaload, 1) := by decide +kernel
theorem dX6_plan_98 : decode cX6_plan 98 = .ok (.ineg, 1) := by decide +kernel
theorem dX6_plan_99 : decode cX6_plan 99 = .ok (.if_icmp .ge 14, 3) := by decide +kernel
theorem dX6_plan_102 : decode cX6_plan 102 = .ok (.aload_n 0, 1) := by decide +kernel
theorem dX6_plan_103 : decode cX6_plan 103 = .ok (.getfield 7, 3) := by decide +kernel
theorem dX6_plan_106 : decode cX6_plan 106 = .ok (.bipush 7, 2) := by decide +kernel
theorem dX6_plan_108 : decode cX6_plan 108 = .ok (.iaload, 1) := by decide +kernel
theorem dX6_plan_109 : decode cX6_plan 109 = .ok (.ineg, 1) := by decide +kernel
theorem dX6_plan_110 : decode cX6_plan 110 = .ok (.goto 4, 3) := by decide +kernel
theorem dX6_plan_113 : decode cX6_plan 113 = .ok (.iload_n 2, 1) := by decide +kernel
theorem dX6_plan_114 : decode cX6_plan 114 = .ok (.istore_n 2, 1) := by decide +kernel
theorem dX6_plan_115 : decode cX6_plan 115 = .ok (.iload_n 3, 1) := by decide +kernel
theorem dX6_plan_116 : decode cX6_plan 116 = .ok (.iload_n 2, 1) := by decide +kernel
theorem dX6_plan_117 : decode cX6_plan 117 = .ok (.ifCond .le 10, 3) := by decide +kernel
theorem dX6_plan_120 : decode cX6_plan 120 = .ok (.iload_n 2, 1) := by decide +kernel
theorem dX6_plan_121 : decode cX6_plan 121 = .ok (.bipush 10, 2) := by decide +kernel
theorem dX6_plan_123 : decode cX6_plan 123 = .ok (.idiv, 1) := by decide +kernel
theorem dX6_plan_124 : decode cX6_plan 124 = .ok (.goto 4, 3) := by decide +kernel
theorem dX6_plan_127 : decode cX6_plan 127 = .ok (.iconst 0, 1) := by decide +kernel
theorem dX6_plan_128 : decode cX6_plan 128 = .ok (.iadd, 1) := by decide +kernel
theorem dX6_plan_129 : decode cX6_plan 129 = .ok (.istore_n 3, 1) := by decide +kernel
theorem dX6_plan_130 : decode cX6_plan 130 = .ok (.iload 5, 2) := by decide +kernel
theorem dX6_plan_132 : decode cX6_plan 132 = .ok (.aload_n 0, 1) := by decide +kernel
theorem dX6_plan_133 : decode cX6_plan 133 = .ok (.getfield 32, 3) := by decide +kernel
theorem dX6_plan_136 : decode cX6_plan 136 = .ok (.bipush 21, 2) := by decide +kernel
theorem dX6_plan_138 : decode cX6_plan 138 = .ok (.iload 6, 2) := by decide +kernel
theorem dX6_plan_140 : decode cX6_plan 140 = .ok (.imul, 1) := by decide +kernel
theorem dX6_plan_141 : decode cX6_plan 141 = .ok (.iload 5, 2) := by decide +kernel
theorem dX6_plan_143 : decode cX6_plan 143 = .ok (.iadd, 1) := by decide +kernel
theorem dX6_plan_144 : decode cX6_plan 144 = .ok (.iaload, 1) := by decide +kernel
theorem dX6_plan_145 : decode cX6_plan 145 = .ok (.iadd, 1) := by decide +kernel
theorem dX6_plan_146 : decode cX6_plan 146 = .ok (.istore 5, 2) := by decide +kernel
theorem dX6_plan_148 : decode cX6_plan 148 = .ok (.iinc 6 1, 3) := by decide +kernel
theorem dX6_plan_151 : decode cX6_plan 151 = .ok (.goto (-104), 3) := by decide +kernel
theorem dX6_plan_154 : decode cX6_plan 154 = .ok (.iload_n 1, 1) := by decide +kernel
theorem dX6_plan_155 : decode cX6_plan 155 = .ok (.ifCond .ne 12, 3) := by decide +kernel
theorem dX6_plan_158 : decode cX6_plan 158 = .ok (.aload_n 0, 1) := by decide +kernel
theorem dX6_plan_159 : decode cX6_plan 159 = .ok (.getfield 26, 3) := by decide +kernel
theorem dX6_plan_162 : decode cX6_plan 162 = .ok (.iconst 0, 1) := by decide +kernel
theorem dX6_plan_163 : decode cX6_plan 163 = .ok (.iaload, 1) := by decide +kernel
theorem dX6_plan_164 : decode cX6_plan 164 = .ok (.goto 55, 3) := by decide +kernel
theorem dX6_plan_167 : decode cX6_plan 167 = .ok (.iload_n 1, 1) := by decide +kernel
theorem dX6_plan_168 : decode cX6_plan 168 = .ok (.iconst 1, 1) := by decide +kernel
theorem dX6_plan_169 : decode cX6_plan 169 = .ok (.if_icmp .ne 12, 3) := by decide +kernel
theorem dX6_plan_172 : decode cX6_plan 172 = .ok (.aload_n 0, 1) := by decide +kernel
theorem dX6_plan_173 : decode cX6_plan 173 = .ok (.getfield 29, 3) := by decide +kernel
theorem dX6_plan_176 : decode cX6_plan 176 = .ok (.iconst 0, 1) := by decide +kernel
theorem dX6_plan_177 : decode cX6_plan 177 = .ok (.iaload, 1) := by decide +kernel
theorem dX6_plan_178 : decode cX6_plan 178 = .ok (.goto 41, 3) := by decide +kernel
theorem dX6_plan_181 : decode cX6_plan 181 = .ok (.iload_n 1, 1) := by decide +kernel
theorem dX6_plan_182 : decode cX6_plan 182 = .ok (.iconst 2, 1) := by decide +kernel
theorem dX6_plan_183 : decode cX6_plan 183 = .ok (.if_icmp .ne 7, 3) := by decide +kernel
theorem dX6_plan_186 : decode cX6_plan 186 = .ok (.iload_n 2, 1) := by decide +kernel
theorem dX6_plan_187 : decode cX6_plan 187 = .ok (.goto 32, 3) := by decide +kernel
theorem dX6_plan_190 : decode cX6_plan 190 = .ok (.iload_n 1, 1) := by decide +kernel
theorem dX6_plan_191 : decode cX6_plan 191 = .ok (.iconst 3, 1) := by decide +kernel
theorem dX6_plan_192 : decode cX6_plan 192 = .ok (.if_icmp .ne 26, 3) := by decide +kernel
theorem dX6_plan_195 : decode cX6_plan 195 = .ok (.aload_n 0, 1) := by decide +kernel
theorem dX6_plan_196 : decode cX6_plan 196 = .ok (.getfield 7, 3) := by decide +kernel
theorem dX6_plan_199 : decode cX6_plan 199 = .ok (.bipush 8, 2) := by decide +kernel
theorem dX6_plan_201 : decode cX6_plan 201 = .ok (.iaload, 1) := by decide +kernel
theorem dX6_plan_202 : decode cX6_plan 202 = .ok (.iload 4, 2) := by decide +kernel
theorem dX6_plan_204 : decode cX6_plan 204 = .ok (.imul, 1) := by decide +kernel
theorem dX6_plan_205 : decode cX6_plan 205 = .ok (.bipush 10, 2) := by decide +kernel
theorem dX6_plan_207 : decode cX6_plan 207 = .ok (.aload_n 0, 1) := by decide +kernel
theorem dX6_plan_208 : decode cX6_plan 208 = .ok (.getfield 29, 3) := by decide +kernel
theorem dX6_plan_211 : decode cX6_plan 211 = .ok (.iconst 0, 1) := by decide +kernel
theorem dX6_plan_212 : decode cX6_plan 212 = .ok (.iaload, 1) := by decide +kernel
theorem dX6_plan_213 : decode cX6_plan 213 = .ok (.imul, 1) := by decide +kernel
theorem dX6_plan_214 : decode cX6_plan 214 = .ok (.iadd, 1) := by decide +kernel
theorem dX6_plan_215 : decode cX6_plan 215 = .ok (.goto 4, 3) := by decide +kernel
theorem dX6_plan_218 : decode cX6_plan 218 = .ok (.iload_n 3, 1) := by decide +kernel
theorem dX6_plan_219 : decode cX6_plan 219 = .ok (.ireturn, 1) := by decide +kernel
theorem dX6_planned_0 : decode cX6_planned 0 = .ok (.iload_n 1, 1) := by decide +kernel
theorem dX6_planned_1 : decode cX6_planned 1 = .ok (.ifCond .lt 12, 3) := by decide +kernel
theorem dX6_planned_4 : decode cX6_planned 4 = .ok (.iload_n 2, 1) := by decide +kernel
theorem dX6_planned_5 : decode cX6_planned 5 = .ok (.iconst 0, 1) := by decide +kernel
theorem dX6_planned_6 : decode cX6_planned 6 = .ok (.iconst 2, 1) := by decide +kernel
theorem dX6_planned_7 : decode cX6_planned 7 = .ok (.invokestatic 72, 3) := by decide +kernel
theorem dX6_planned_10 : decode cX6_planned 10 = .ok (.ifCond .ne 6, 3) := by decide +kernel
theorem dX6_planned_13 : decode cX6_planned 13 = .ok (.ldc 76, 2) := by decide +kernel
theorem dX6_planned_15 : decode cX6_planned 15 = .ok (.ireturn, 1) := by decide +kernel
theorem dX6_planned_16 : decode cX6_planned 16 = .ok (.aload_n 0, 1) := by decide +kernel
theorem dX6_planned_17 : decode cX6_planned 17 = .ok (.aload_n 0, 1) := by decide +kernel
theorem dX6_planned_18 : decode cX6_planned 18 = .ok (.getfield 7, 3) := by decide +kernel
theorem dX6_planned_21 : decode cX6_planned 21 = .ok (.iconst 3, 1) := by decide +kernel
theorem dX6_planned_22 : decode cX6_planned 22 = .ok (.iaload, 1) := by decide +kernel
theorem dX6_planned_23 : decode cX6_planned 23 = .ok (.invokevirtual 133, 3) := by decide +kernel
theorem dX6_planned_26 : decode cX6_planned 26 = .ok (.ifCond .eq 13, 3) := by decide +kernel
theorem dX6_planned_29 : decode cX6_planned 29 = .ok (.iload_n 1, 1) := by decide +kernel
theorem dX6_planned_30 : decode cX6_planned 30 = .ok (.aload_n 0, 1) := by decide +kernel
theorem dX6_planned_31 : decode cX6_planned 31 = .ok (.getfield 26, 3) := by decide +kernel
theorem dX6_planned_34 : decode cX6_planned 34 = .ok (.iconst 0, 1) := by decide +kernel
theorem dX6_planned_35 : decode cX6_planned 35 = .ok (.iaload, 1) := by decide +kernel
theorem dX6_planned_36 : decode cX6_planned 36 = .ok (.if_icmp .lt 6, 3) := by decide +kernel
theorem dX6_planned_39 : decode cX6_planned 39 = .ok (.ldc 38, 2) := by decide +kernel
theorem dX6_planned_41 : decode cX6_planned 41 = .ok (.ireturn, 1) := by decide +kernel
theorem dX6_planned_42 : decode cX6_planned 42 = .ok (.iconst 0, 1) := by decide +kernel
theorem dX6_planned_43 : decode cX6_planned 43 = .ok (.istore_n 3, 1) := by decide +kernel
theorem dX6_planned_44 : decode cX6_planned 44 = .ok (.iconst 0, 1) := by decide +kernel
theorem dX6_planned_45 : decode cX6_planned 45 = .ok (.istore 4, 2) := by decide +kernel
theorem dX6_planned_47 : decode cX6_planned 47 = .ok (.iload 4, 2) := by decide +kernel
theorem dX6_planned_49 : decode cX6_planned 49 = .ok (.iload_n 1, 1) := by decide +kernel
theorem dX6_planned_50 : decode cX6_planned 50 = .ok (.if_icmp .ge 24, 3) := by decide +kernel
theorem dX6_planned_53 : decode cX6_planned 53 = .ok (.iload_n 3, 1) := by decide +kernel
theorem dX6_planned_54 : decode cX6_planned 54 = .ok (.aload_n 0, 1) := by decide +kernel
theorem dX6_planned_55 : decode cX6_planned 55 = .ok (.getfield 32, 3) := by decide +kernel
theorem dX6_planned_58 : decode cX6_planned 58 = .ok (.bipush 21, 2) := by decide +kernel
theorem dX6_planned_60 : decode cX6_planned 60 = .ok (.iload 4, 2) := by decide +kernel
theorem dX6_planned_62 : decode cX6_planned 62 = .ok (.imul, 1) := by decide +kernel
theorem dX6_planned_63 : decode cX6_planned 63 = .ok (.iload_n 3, 1) := by decide +kernel
theorem dX6_planned_64 : decode cX6_planned 64 = .ok (.iadd, 1) := by decide +kernel
theorem dX6_planned_65 : decode cX6_planned 65 = .ok (.iaload, 1) := by decide +kernel
theorem dX6_planned_66 : decode cX6_planned 66 = .ok (.iadd, 1) := by decide +kernel
theorem dX6_planned_67 : decode cX6_planned 67 = .ok (.istore_n 3, 1) := by decide +kernel
theorem dX6_planned_68 : decode cX6_planned 68 = .ok (.iinc 4 1, 3) := by decide +kernel
theorem dX6_planned_71 : decode cX6_planned 71 = .ok (.goto (-24), 3) := by decide +kernel
theorem dX6_planned_74 : decode cX6_planned 74 = .ok (.aload_n 0, 1) := by decide +kernel
theorem dX6_planned_75 : decode cX6_planned 75 = .ok (.iload_n 1, 1) := by decide +kernel
theorem dX6_planned_76 : decode cX6_planned 76 = .ok (.iload_n 3, 1) := by decide +kernel
theorem dX6_planned_77 : decode cX6_planned 77 = .ok (.invokevirtual 136, 3) := by decide +kernel
theorem dX6_planned_80 : decode cX6_planned 80 = .ok (.istore 4, 2) := by decide +kernel
theorem dX6_planned_82 : decode cX6_planned 82 = .ok (.iload_n 2, 1) := by decide +kernel
theorem dX6_planned_83 : decode cX6_planned 83 = .ok (.ifCond .ne 17, 3) := by decide +kernel
theorem dX6_planned_86 : decode cX6_planned 86 = .ok (.aload_n 0, 1) := by decide +kernel
theorem dX6_planned_87 : decode cX6_planned 87 = .ok (.getfield 32, 3) := by decide +kernel
theorem dX6_planned_90 : decode cX6_planned 90 = .ok (.bipush 21, 2) := by decide +kernel
theorem dX6_planned_92 : decode cX6_planned 92 = .ok (.iload_n 1, 1) := by decide +kernel
theorem dX6_planned_93 : decode cX6_planned 93 = .ok (.imul, 1) := by decide +kernel
theorem dX6_planned_94 : decode cX6_planned 94 = .ok (.iload_n 3, 1) := by decide +kernel
theorem dX6_planned_95 : decode cX6_planned 95 = .ok (.iadd, 1) := by decide +kernel
theorem dX6_planned_96 : decode cX6_planned 96 = .ok (.iaload, 1) := by decide +kernel
theorem dX6_planned_97 : decode cX6_planned 97 = .ok (.goto 28, 3) := by decide +kernel
theorem dX6_planned_100 : decode cX6_planned 100 = .ok (.iload_n 2, 1) := by decide +kernel
theorem dX6_planned_101 : decode cX6_planned 101 = .ok (.iconst 1, 1) := by decide +kernel
theorem dX6_planned_102 : decode cX6_planned 102 = .ok (.if_icmp .ne 8, 3) := by decide +kernel
theorem dX6_planned_105 : decode cX6_planned 105 = .ok (.iload 4, 2) := by decide +kernel
theorem dX6_planned_107 : decode cX6_planned 107 = .ok (.goto 18, 3) := by decide +kernel
theorem dX6_planned_110 : decode cX6_planned 110 = .ok (.aload_n 0, 1) := by decide +kernel
theorem dX6_planned_111 : decode cX6_planned 111 = .ok (.aload_n 0, 1) := by decide +kernel
theorem dX6_planned_112 : decode cX6_planned 112 = .ok (.getfield 7, 3) := by decide +kernel
theorem dX6_planned_115 : decode cX6_planned 115 = .ok (.iconst 2, 1) := by decide +kernel
theorem dX6_planned_116 : decode cX6_planned 116 = .ok (.iaload, 1) := by decide +kernel
theorem dX6_planned_117 : decode cX6_planned 117 = .ok (.iload_n 1, 1) := by decide +kernel
theorem dX6_planned_118 : decode cX6_planned 118 = .ok (.iadd, 1) := by decide +kernel
theorem dX6_planned_119 : decode cX6_planned 119 = .ok (.invokevirtual 60, 3) := by decide +kernel
theorem dX6_planned_122 : decode cX6_planned 122 = .ok (.iload 4, 2) := by decide +kernel
theorem dX6_planned_124 : decode cX6_planned 124 = .ok (.isub, 1) := by decide +kernel
theorem dX6_planned_125 : decode cX6_planned 125 = .ok (.ireturn, 1) := by decide +kernel
theorem dX6_plans_0 : decode cX6_plans 0 = .ok (.aload_n 0, 1) := by decide +kernel
theorem dX6_plans_1 : decode cX6_plans 1 = .ok (.aload_n 0, 1) := by decide +kernel
theorem dX6_plans_2 : decode cX6_plans 2 = .ok (.getfield 7, 3) := by decide +kernel
theorem dX6_plans_5 : decode cX6_plans 5 = .ok (.iconst 3, 1) := by decide +kernel
theorem dX6_plans_6 : decode cX6_plans 6 = .ok (.iaload, 1) := by decide +kernel
theorem dX6_plans_7 : decode cX6_plans 7 = .ok (.invokevirtual 133, 3) := by decide +kernel
theorem dX6_plans_10 : decode cX6_plans 10 = .ok (.ifCond .eq 12, 3) := by decide +kernel
theorem dX6_plans_13 : decode cX6_plans 13 = .ok (.aload_n 0, 1) := by decide +kernel
theorem dX6_plans_14 : decode cX6_plans 14 = .ok (.getfield 35, 3) := by decide +kernel
theorem dX6_plans_17 : decode cX6_plans 17 = .ok (.iconst 0, 1) := by decide +kernel
theorem dX6_plans_18 : decode cX6_plans 18 = .ok (.iaload, 1) := by decide +kernel
theorem dX6_plans_19 : decode cX6_plans 19 = .ok (.goto 4, 3) := by decide +kernel
theorem dX6_plans_22 : decode cX6_plans 22 = .ok (.iconst 0, 1) := by decide +kernel
theorem dX6_plans_23 : decode cX6_plans 23 = .ok (.ireturn, 1) := by decide +kernel
theorem dX6_mostCut_0 : decode cX6_mostCut 0 = .ok (.aload_n 0, 1) := by decide +kernel
theorem dX6_mostCut_1 : decode cX6_mostCut 1 = .ok (.iconst 0, 1) := by decide +kernel
theorem dX6_mostCut_2 : decode cX6_mostCut 2 = .ok (.invokevirtual 129, 3) := by decide +kernel
theorem dX6_mostCut_5 : decode cX6_mostCut 5 = .ok (.sipush 999, 3) := by decide +kernel
theorem dX6_mostCut_8 : decode cX6_mostCut 8 = .ok (.istore_n 1, 1) := by decide +kernel
theorem dX6_mostCut_9 : decode cX6_mostCut 9 = .ok (.iload_n 1, 1) := by decide +kernel
theorem dX6_mostCut_10 : decode cX6_mostCut 10 = .ok (.ifCond .lt 67, 3) := by decide +kernel
theorem dX6_mostCut_13 : decode cX6_mostCut 13 = .ok (.aload_n 0, 1) := by decide +kernel
theorem dX6_mostCut_14 : decode cX6_mostCut 14 = .ok (.invokevirtual 97, 3) := by decide +kernel
theorem dX6_mostCut_17 : decode cX6_mostCut 17 = .ok (.ifCond .ne 60, 3) := by decide +kernel
theorem dX6_mostCut_20 : decode cX6_mostCut 20 = .ok (.iconst 1, 1) := by decide +kernel
theorem dX6_mostCut_21 : decode cX6_mostCut 21 = .ok (.istore_n 2, 1) := by decide +kernel
theorem dX6_mostCut_22 : decode cX6_mostCut 22 = .ok (.iload_n 2, 1) := by decide +kernel
theorem dX6_mostCut_23 : decode cX6_mostCut 23 = .ok (.aload_n 0, 1) := by decide +kernel
theorem dX6_mostCut_24 : decode cX6_mostCut 24 = .ok (.invokevirtual 93, 3) := by decide +kernel
theorem dX6_mostCut_27 : decode cX6_mostCut 27 = .ok (.if_icmp .gt 44, 3) := by decide +kernel
theorem dX6_mostCut_30 : decode cX6_mostCut 30 = .ok (.aload_n 0, 1) := by decide +kernel
theorem dX6_mostCut_31 : decode cX6_mostCut 31 = .ok (.getfield 35, 3) := by decide +kernel
theorem dX6_mostCut_34 : decode cX6_mostCut 34 = .ok (.bipush 21, 2) := by decide +kernel
theorem dX6_mostCut_36 : decode cX6_mostCut 36 = .ok (.iload_n 2, 1) := by decide +kernel
theorem dX6_mostCut_37 : decode cX6_mostCut 37 = .ok (.iadd, 1) := by decide +kernel
theorem dX6_mostCut_38 : decode cX6_mostCut 38 = .ok (.iaload, 1) := by decide +kernel
theorem dX6_mostCut_39 : decode cX6_mostCut 39 = .ok (.ifCond .le 26, 3) := by decide +kernel
theorem dX6_mostCut_42 : decode cX6_mostCut 42 = .ok (.aload_n 0, 1) := by decide +kernel
theorem dX6_mostCut_43 : decode cX6_mostCut 43 = .ok (.aload_n 0, 1) := by decide +kernel
theorem dX6_mostCut_44 : decode cX6_mostCut 44 = .ok (.getfield 7, 3) := by decide +kernel
theorem dX6_mostCut_47 : decode cX6_mostCut 47 = .ok (.iconst 1, 1) := by decide +kernel
theorem dX6_mostCut_48 : decode cX6_mostCut 48 = .ok (.iaload, 1) := by decide +kernel
theorem dX6_mostCut_49 : decode cX6_mostCut 49 = .ok (.iload_n 2, 1) := by decide +kernel
theorem dX6_mostCut_50 : decode cX6_mostCut 50 = .ok (.aload_n 0, 1) := by decide +kernel
theorem dX6_mostCut_51 : decode cX6_mostCut 51 = .ok (.getfield 7, 3) := by decide +kernel
theorem dX6_mostCut_54 : decode cX6_mostCut 54 = .ok (.iconst 2, 1) := by decide +kernel
theorem dX6_mostCut_55 : decode cX6_mostCut 55 = .ok (.iaload, 1) := by decide +kernel
theorem dX6_mostCut_56 : decode cX6_mostCut 56 = .ok (.iload_n 1, 1) := by decide +kernel
theorem dX6_mostCut_57 : decode cX6_mostCut 57 = .ok (.invokevirtual 68, 3) := by decide +kernel
theorem dX6_mostCut_60 : decode cX6_mostCut 60 = .ok (.ifCond .ne 5, 3) := by decide +kernel
theorem dX6_mostCut_63 : decode cX6_mostCut 63 = .ok (.iload_n 1, 1) := by decide +kernel
theorem dX6_mostCut_64 : decode cX6_mostCut 64 = .ok (.ireturn, 1) := by decide +kernel
theorem dX6_mostCut_65 : decode cX6_mostCut 65 = .ok (.iinc 2 1, 3) := by decide +kernel
theorem dX6_mostCut_68 : decode cX6_mostCut 68 = .ok (.goto (-46), 3) := by decide +kernel
theorem dX6_mostCut_71 : decode cX6_mostCut 71 = .ok (.iinc 1 (-1), 3) := by decide +kernel
theorem dX6_mostCut_74 : decode cX6_mostCut 74 = .ok (.goto (-65), 3) := by decide +kernel
theorem dX6_mostCut_77 : decode cX6_mostCut 77 = .ok (.ldc 38, 2) := by decide +kernel
theorem dX6_mostCut_79 : decode cX6_mostCut 79 = .ok (.ireturn, 1) := by decide +kernel
theorem dX6_tooHigh_0 : decode cX6_tooHigh 0 = .ok (.aload_n 0, 1) := by decide +kernel
theorem dX6_tooHigh_1 : decode cX6_tooHigh 1 = .ok (.getfield 7, 3) := by decide +kernel
theorem dX6_tooHigh_4 : decode cX6_tooHigh 4 = .ok (.bipush 6, 2) := by decide +kernel
theorem dX6_tooHigh_6 : decode cX6_tooHigh 6 = .ok (.iaload, 1) := by decide +kernel
theorem dX6_tooHigh_7 : decode cX6_tooHigh 7 = .ok (.istore_n 1, 1) := by decide +kernel
theorem dX6_tooHigh_8 : decode cX6_tooHigh 8 = .ok (.ldc 38, 2) := by decide +kernel
theorem dX6_tooHigh_10 : decode cX6_tooHigh 10 = .ok (.istore_n 2, 1) := by decide +kernel
theorem dX6_tooHigh_11 : decode cX6_tooHigh 11 = .ok (.iconst 0, 1) := by decide +kernel
theorem dX6_tooHigh_12 : decode cX6_tooHigh 12 = .ok (.istore_n 3, 1) := by decide +kernel
theorem dX6_tooHigh_13 : decode cX6_tooHigh 13 = .ok (.iload_n 3, 1) := by decide +kernel
theorem dX6_tooHigh_14 : decode cX6_tooHigh 14 = .ok (.bipush 10, 2) := by decide +kernel
theorem dX6_tooHigh_16 : decode cX6_tooHigh 16 = .ok (.if_icmp .ge 43, 3) := by decide +kernel
theorem dX6_tooHigh_19 : decode cX6_tooHigh 19 = .ok (.iload_n 2, 1) := by decide +kernel
theorem dX6_tooHigh_20 : decode cX6_tooHigh 20 = .ok (.ldc 38, 2) := by decide +kernel
theorem dX6_tooHigh_22 : decode cX6_tooHigh 22 = .ok (.if_icmp .ne 37, 3) := by decide +kernel
theorem dX6_tooHigh_25 : decode cX6_tooHigh 25 = .ok (.aload_n 0, 1) := by decide +kernel
theorem dX6_tooHigh_26 : decode cX6_tooHigh 26 = .ok (.getfield 7, 3) := by decide +kernel
theorem dX6_tooHigh_29 : decode cX6_tooHigh 29 = .ok (.bipush 6, 2) := by decide +kernel
theorem dX6_tooHigh_31 : decode cX6_tooHigh 31 = .ok (.iload_n 3, 1) := by decide +kernel
theorem dX6_tooHigh_32 : decode cX6_tooHigh 32 = .ok (.iastore, 1) := by decide +kernel
theorem dX6_tooHigh_33 : decode cX6_tooHigh 33 = .ok (.aload_n 0, 1) := by decide +kernel
theorem dX6_tooHigh_34 : decode cX6_tooHigh 34 = .ok (.aload_n 0, 1) := by decide +kernel
theorem dX6_tooHigh_35 : decode cX6_tooHigh 35 = .ok (.getfield 7, 3) := by decide +kernel
theorem dX6_tooHigh_38 : decode cX6_tooHigh 38 = .ok (.iconst 3, 1) := by decide +kernel
theorem dX6_tooHigh_39 : decode cX6_tooHigh 39 = .ok (.iaload, 1) := by decide +kernel
theorem dX6_tooHigh_40 : decode cX6_tooHigh 40 = .ok (.invokevirtual 133, 3) := by decide +kernel
theorem dX6_tooHigh_43 : decode cX6_tooHigh 43 = .ok (.ifCond .eq 8, 3) := by decide +kernel
theorem dX6_tooHigh_46 : decode cX6_tooHigh 46 = .ok (.ldc 38, 2) := by decide +kernel
theorem dX6_tooHigh_48 : decode cX6_tooHigh 48 = .ok (.goto 4, 3) := by decide +kernel
theorem dX6_tooHigh_51 : decode cX6_tooHigh 51 = .ok (.iload_n 3, 1) := by decide +kernel
theorem dX6_tooHigh_52 : decode cX6_tooHigh 52 = .ok (.istore_n 2, 1) := by decide +kernel
theorem dX6_tooHigh_53 : decode cX6_tooHigh 53 = .ok (.iinc 3 1, 3) := by decide +kernel
theorem dX6_tooHigh_56 : decode cX6_tooHigh 56 = .ok (.goto (-43), 3) := by decide +kernel
theorem dX6_tooHigh_59 : decode cX6_tooHigh 59 = .ok (.aload_n 0, 1) := by decide +kernel
theorem dX6_tooHigh_60 : decode cX6_tooHigh 60 = .ok (.getfield 7, 3) := by decide +kernel
theorem dX6_tooHigh_63 : decode cX6_tooHigh 63 = .ok (.bipush 6, 2) := by decide +kernel
theorem dX6_tooHigh_65 : decode cX6_tooHigh 65 = .ok (.iload_n 1, 1) := by decide +kernel
theorem dX6_tooHigh_66 : decode cX6_tooHigh 66 = .ok (.iastore, 1) := by decide +kernel
theorem dX6_tooHigh_67 : decode cX6_tooHigh 67 = .ok (.iload_n 2, 1) := by decide +kernel
theorem dX6_tooHigh_68 : decode cX6_tooHigh 68 = .ok (.ireturn, 1) := by decide +kernel
theorem dL_law_0 : decode cL_law 0 = .ok (.new 7, 3) := by decide +kernel
theorem dL_law_3 : decode cL_law 3 = .ok (.dup, 1) := by decide +kernel
theorem dL_law_4 : decode cL_law 4 = .ok (.invokespecial 9, 3) := by decide +kernel
theorem dL_law_7 : decode cL_law 7 = .ok (.astore_n 1, 1) := by decide +kernel
theorem dL_law_8 : decode cL_law 8 = .ok (.new 10, 3) := by decide +kernel
theorem dL_law_11 : decode cL_law 11 = .ok (.dup, 1) := by decide +kernel
theorem dL_law_12 : decode cL_law 12 = .ok (.invokespecial 12, 3) := by decide +kernel
theorem dL_law_15 : decode cL_law 15 = .ok (.astore_n 2, 1) := by decide +kernel
theorem dL_law_16 : decode cL_law 16 = .ok (.iconst 0, 1) := by decide +kernel
theorem dL_law_17 : decode cL_law 17 = .ok (.istore_n 3, 1) := by decide +kernel
theorem dL_law_18 : decode cL_law 18 = .ok (.iload_n 3, 1) := by decide +kernel
theorem dL_law_19 : decode cL_law 19 = .ok (.aload_n 0, 1) := by decide +kernel
theorem dL_law_20 : decode cL_law 20 = .ok (.arraylength, 1) := by decide +kernel
theorem dL_law_21 : decode cL_law 21 = .ok (.bipush 6, 2) := by decide +kernel
theorem dL_law_23 : decode cL_law 23 = .ok (.isub, 1) := by decide +kernel
theorem dL_law_24 : decode cL_law 24 = .ok (.if_icmp .gt 853, 3) := by decide +kernel
theorem dL_law_27 : decode cL_law 27 = .ok (.aload_n 0, 1) := by decide +kernel
theorem dL_law_28 : decode cL_law 28 = .ok (.iload_n 3, 1) := by decide +kernel
theorem dL_law_29 : decode cL_law 29 = .ok (.iaload, 1) := by decide +kernel
theorem dL_law_30 : decode cL_law 30 = .ok (.bipush 31, 2) := by decide +kernel
theorem dL_law_32 : decode cL_law 32 = .ok (.iand, 1) := by decide +kernel
theorem dL_law_33 : decode cL_law 33 = .ok (.tableswitch 838 0 28 #[131, 194, 217, 260, 303, 336, 359, 382, 395, 408, 421, 434, 457, 480, 493, 516, 529, 542, 565, 598, 631, 654, 687, 710, 743, 766, 799, 812, 825], 131) := by decide +kernel
theorem dL_law_164 : decode cL_law 164 = .ok (.aload_n 1, 1) := by decide +kernel
theorem dL_law_165 : decode cL_law 165 = .ok (.aload_n 0, 1) := by decide +kernel
theorem dL_law_166 : decode cL_law 166 = .ok (.iload_n 3, 1) := by decide +kernel
theorem dL_law_167 : decode cL_law 167 = .ok (.iconst 1, 1) := by decide +kernel
theorem dL_law_168 : decode cL_law 168 = .ok (.iadd, 1) := by decide +kernel
theorem dL_law_169 : decode cL_law 169 = .ok (.iaload, 1) := by decide +kernel
theorem dL_law_170 : decode cL_law 170 = .ok (.aload_n 0, 1) := by decide +kernel
theorem dL_law_171 : decode cL_law 171 = .ok (.iload_n 3, 1) := by decide +kernel
theorem dL_law_172 : decode cL_law 172 = .ok (.iconst 2, 1) := by decide +kernel
theorem dL_law_173 : decode cL_law 173 = .ok (.iadd, 1) := by decide +kernel
theorem dL_law_174 : decode cL_law 174 = .ok (.iaload, 1) := by decide +kernel
theorem dL_law_175 : decode cL_law 175 = .ok (.aload_n 0, 1) := by decide +kernel
theorem dL_law_176 : decode cL_law 176 = .ok (.iload_n 3, 1) := by decide +kernel
theorem dL_law_177 : decode cL_law 177 = .ok (.iconst 3, 1) := by decide +kernel
theorem dL_law_178 : decode cL_law 178 = .ok (.iadd, 1) := by decide +kernel
theorem dL_law_179 : decode cL_law 179 = .ok (.iaload, 1) := by decide +kernel
theorem dL_law_180 : decode cL_law 180 = .ok (.aload_n 0, 1) := by decide +kernel
theorem dL_law_181 : decode cL_law 181 = .ok (.iload_n 3, 1) := by decide +kernel
theorem dL_law_182 : decode cL_law 182 = .ok (.iconst 4, 1) := by decide +kernel
theorem dL_law_183 : decode cL_law 183 = .ok (.iadd, 1) := by decide +kernel
theorem dL_law_184 : decode cL_law 184 = .ok (.iaload, 1) := by decide +kernel
theorem dL_law_185 : decode cL_law 185 = .ok (.aload_n 0, 1) := by decide +kernel
theorem dL_law_186 : decode cL_law 186 = .ok (.iload_n 3, 1) := by decide +kernel
theorem dL_law_187 : decode cL_law 187 = .ok (.iconst 5, 1) := by decide +kernel
theorem dL_law_188 : decode cL_law 188 = .ok (.iadd, 1) := by decide +kernel
theorem dL_law_189 : decode cL_law 189 = .ok (.iaload, 1) := by decide +kernel
theorem dL_law_190 : decode cL_law 190 = .ok (.invokevirtual 13, 3) := by decide +kernel
theorem dL_law_193 : decode cL_law 193 = .ok (.aload_n 2, 1) := by decide +kernel
theorem dL_law_194 : decode cL_law 194 = .ok (.aload_n 0, 1) := by decide +kernel
theorem dL_law_195 : decode cL_law 195 = .ok (.iload_n 3, 1) := by decide +kernel
theorem dL_law_196 : decode cL_law 196 = .ok (.iconst 1, 1) := by decide +kernel
theorem dL_law_197 : decode cL_law 197 = .ok (.iadd, 1) := by decide +kernel
theorem dL_law_198 : decode cL_law 198 = .ok (.iaload, 1) := by decide +kernel
theorem dL_law_199 : decode cL_law 199 = .ok (.aload_n 0, 1) := by decide +kernel
theorem dL_law_200 : decode cL_law 200 = .ok (.iload_n 3, 1) := by decide +kernel
theorem dL_law_201 : decode cL_law 201 = .ok (.iconst 2, 1) := by decide +kernel
theorem dL_law_202 : decode cL_law 202 = .ok (.iadd, 1) := by decide +kernel
theorem dL_law_203 : decode cL_law 203 = .ok (.iaload, 1) := by decide +kernel
theorem dL_law_204 : decode cL_law 204 = .ok (.aload_n 0, 1) := by decide +kernel
theorem dL_law_205 : decode cL_law 205 = .ok (.iload_n 3, 1) := by decide +kernel
theorem dL_law_206 : decode cL_law 206 = .ok (.iconst 3, 1) := by decide +kernel
theorem dL_law_207 : decode cL_law 207 = .ok (.iadd, 1) := by decide +kernel
theorem dL_law_208 : decode cL_law 208 = .ok (.iaload, 1) := by decide +kernel
theorem dL_law_209 : decode cL_law 209 = .ok (.aload_n 0, 1) := by decide +kernel
theorem dL_law_210 : decode cL_law 210 = .ok (.iload_n 3, 1) := by decide +kernel
theorem dL_law_211 : decode cL_law 211 = .ok (.iconst 4, 1) := by decide +kernel
theorem dL_law_212 : decode cL_law 212 = .ok (.iadd, 1) := by decide +kernel
theorem dL_law_213 : decode cL_law 213 = .ok (.iaload, 1) := by decide +kernel
theorem dL_law_214 : decode cL_law 214 = .ok (.aload_n 0, 1) := by decide +kernel
theorem dL_law_215 : decode cL_law 215 = .ok (.iload_n 3, 1) := by decide +kernel
theorem dL_law_216 : decode cL_law 216 = .ok (.iconst 5, 1) := by decide +kernel
theorem dL_law_217 : decode cL_law 217 = .ok (.iadd, 1) := by decide +kernel
theorem dL_law_218 : decode cL_law 218 = .ok (.iaload, 1) := by decide +kernel
theorem dL_law_219 : decode cL_law 219 = .ok (.invokevirtual 17, 3) := by decide +kernel
theorem dL_law_222 : decode cL_law 222 = .ok (.if_icmp .eq 649, 3) := by decide +kernel
theorem dL_law_225 : decode cL_law 225 = .ok (.iconst 0, 1) := by decide +kernel
theorem dL_law_226 : decode cL_law 226 = .ok (.ireturn, 1) := by decide +kernel
theorem dL_law_227 : decode cL_law 227 = .ok (.aload_n 1, 1) := by decide +kernel
theorem dL_law_228 : decode cL_law 228 = .ok (.aload_n 0, 1) := by decide +kernel
theorem dL_law_229 : decode cL_law 229 = .ok (.iload_n 3, 1) := by decide +kernel
theorem dL_law_230 : decode cL_law 230 = .ok (.iconst 1, 1) := by decide +kernel
theorem dL_law_231 : decode cL_law 231 = .ok (.iadd, 1) := by decide +kernel
theorem dL_law_232 : decode cL_law 232 = .ok (.iaload, 1) := by decide +kernel
theorem dL_law_233 : decode cL_law 233 = .ok (.invokevirtual 18, 3) := by decide +kernel
theorem dL_law_236 : decode cL_law 236 = .ok (.aload_n 2, 1) := by decide +kernel
theorem dL_law_237 : decode cL_law 237 = .ok (.aload_n 0, 1) := by decide +kernel
theorem dL_law_238 : decode cL_law 238 = .ok (.iload_n 3, 1) := by decide +kernel
theorem dL_law_239 : decode cL_law 239 = .ok (.iconst 1, 1) := by decide +kernel
theorem dL_law_240 : decode cL_law 240 = .ok (.iadd, 1) := by decide +kernel
theorem dL_law_241 : decode cL_law 241 = .ok (.iaload, 1) := by decide +kernel
theorem dL_law_242 : decode cL_law 242 = .ok (.invokevirtual 22, 3) := by decide +kernel
theorem dL_law_245 : decode cL_law 245 = .ok (.if_icmp .eq 626, 3) := by decide +kernel
theorem dL_law_248 : decode cL_law 248 = .ok (.iconst 0, 1) := by decide +kernel
theorem dL_law_249 : decode cL_law 249 = .ok (.ireturn, 1) := by decide +kernel
theorem dL_law_250 : decode cL_law 250 = .ok (.aload_n 1, 1) := by decide +kernel
theorem dL_law_251 : decode cL_law 251 = .ok (.aload_n 0, 1) := by decide +kernel
theorem dL_law_252 : decode cL_law 252 = .ok (.iload_n 3, 1) := by decide +kernel
theorem dL_law_253 : decode cL_law 253 = .ok (.iconst 1, 1) := by decide +kernel
theorem dL_law_254 : decode cL_law 254 = .ok (.iadd, 1) := by decide +kernel
theorem dL_law_255 : decode cL_law 255 = .ok (.iaload, 1) := by decide +kernel
theorem dL_law_256 : decode cL_law 256 = .ok (.aload_n 0, 1) := by decide +kernel
theorem dL_law_257 : decode cL_law 257 = .ok (.iload_n 3, 1) := by decide +kernel
theorem dL_law_258 : decode cL_law 258 = .ok (.iconst 2, 1) := by decide +kernel
theorem dL_law_259 : decode cL_law 259 = .ok (.iadd, 1) := by decide +kernel
theorem dL_law_260 : decode cL_law 260 = .ok (.iaload, 1) := by decide +kernel
theorem dL_law_261 : decode cL_law 261 = .ok (.aload_n 0, 1) := by decide +kernel
theorem dL_law_262 : decode cL_law 262 = .ok (.iload_n 3, 1) := by decide +kernel
theorem dL_law_263 : decode cL_law 263 = .ok (.iconst 3, 1) := by decide +kernel
theorem dL_law_264 : decode cL_law 264 = .ok (.iadd, 1) := by decide +kernel
theorem dL_law_265 : decode cL_law 265 = .ok (.iaload, 1) := by decide +kernel
theorem dL_law_266 : decode cL_law 266 = .ok (.invokevirtual 23, 3) := by decide +kernel
theorem dL_law_269 : decode cL_law 269 = .ok (.aload_n 2, 1) := by decide +kernel
theorem dL_law_270 : decode cL_law 270 = .ok (.aload_n 0, 1) := by decide +kernel
theorem dL_law_271 : decode cL_law 271 = .ok (.iload_n 3, 1) := by decide +kernel
theorem dL_law_272 : decode cL_law 272 = .ok (.iconst 1, 1) := by decide +kernel
theorem dL_law_273 : decode cL_law 273 = .ok (.iadd, 1) := by decide +kernel
theorem dL_law_274 : decode cL_law 274 = .ok (.iaload, 1) := by decide +kernel
theorem dL_law_275 : decode cL_law 275 = .ok (.aload_n 0, 1) := by decide +kernel
theorem dL_law_276 : decode cL_law 276 = .ok (.iload_n 3, 1) := by decide +kernel
theorem dL_law_277 : decode cL_law 277 = .ok (.iconst 2, 1) := by decide +kernel
theorem dL_law_278 : decode cL_law 278 = .ok (.iadd, 1) := by decide +kernel
theorem dL_law_279 : decode cL_law 279 = .ok (.iaload, 1) := by decide +kernel
theorem dL_law_280 : decode cL_law 280 = .ok (.aload_n 0, 1) := by decide +kernel
theorem dL_law_281 : decode cL_law 281 = .ok (.iload_n 3, 1) := by decide +kernel
theorem dL_law_282 : decode cL_law 282 = .ok (.iconst 3, 1) := by decide +kernel
theorem dL_law_283 : decode cL_law 283 = .ok (.iadd, 1) := by decide +kernel
theorem dL_law_284 : decode cL_law 284 = .ok (.iaload, 1) := by decide +kernel
theorem dL_law_285 : decode cL_law 285 = .ok (.invokevirtual 27, 3) := by decide +kernel
theorem dL_law_288 : decode cL_law 288 = .ok (.if_icmp .eq 583, 3) := by decide +kernel
theorem dL_law_291 : decode cL_law 291 = .ok (.iconst 0, 1) := by decide +kernel
theorem dL_law_292 : decode cL_law 292 = .ok (.ireturn, 1) := by decide +kernel
theorem dL_law_293 : decode cL_law 293 = .ok (.aload_n 1, 1) := by decide +kernel
theorem dL_law_294 : decode cL_law 294 = .ok (.aload_n 0, 1) := by decide +kernel
theorem dL_law_295 : decode cL_law 295 = .ok (.iload_n 3, 1) := by decide +kernel
theorem dL_law_296 : decode cL_law 296 = .ok (.iconst 1, 1) := by decide +kernel
theorem dL_law_297 : decode cL_law 297 = .ok (.iadd, 1) := by decide +kernel
theorem dL_law_298 : decode cL_law 298 = .ok (.iaload, 1) := by decide +kernel
theorem dL_law_299 : decode cL_law 299 = .ok (.aload_n 0, 1) := by decide +kernel
theorem dL_law_300 : decode cL_law 300 = .ok (.iload_n 3, 1) := by decide +kernel
theorem dL_law_301 : decode cL_law 301 = .ok (.iconst 2, 1) := by decide +kernel
theorem dL_law_302 : decode cL_law 302 = .ok (.iadd, 1) := by decide +kernel
theorem dL_law_303 : decode cL_law 303 = .ok (.iaload, 1) := by decide +kernel
theorem dL_law_304 : decode cL_law 304 = .ok (.aload_n 0, 1) := by decide +kernel
theorem dL_law_305 : decode cL_law 305 = .ok (.iload_n 3, 1) := by decide +kernel
theorem dL_law_306 : decode cL_law 306 = .ok (.iconst 3, 1) := by decide +kernel
theorem dL_law_307 : decode cL_law 307 = .ok (.iadd, 1) := by decide +kernel
theorem dL_law_308 : decode cL_law 308 = .ok (.iaload, 1) := by decide +kernel
theorem dL_law_309 : decode cL_law 309 = .ok (.invokevirtual 28, 3) := by decide +kernel
theorem dL_law_312 : decode cL_law 312 = .ok (.aload_n 2, 1) := by decide +kernel
theorem dL_law_313 : decode cL_law 313 = .ok (.aload_n 0, 1) := by decide +kernel
theorem dL_law_314 : decode cL_law 314 = .ok (.iload_n 3, 1) := by decide +kernel
theorem dL_law_315 : decode cL_law 315 = .ok (.iconst 1, 1) := by decide +kernel
theorem dL_law_316 : decode cL_law 316 = .ok (.iadd, 1) := by decide +kernel
theorem dL_law_317 : decode cL_law 317 = .ok (.iaload, 1) := by decide +kernel
theorem dL_law_318 : decode cL_law 318 = .ok (.aload_n 0, 1) := by decide +kernel
theorem dL_law_319 : decode cL_law 319 = .ok (.iload_n 3, 1) := by decide +kernel
theorem dL_law_320 : decode cL_law 320 = .ok (.iconst 2, 1) := by decide +kernel
theorem dL_law_321 : decode cL_law 321 = .ok (.iadd, 1) := by decide +kernel
theorem dL_law_322 : decode cL_law 322 = .ok (.iaload, 1) := by decide +kernel
theorem dL_law_323 : decode cL_law 323 = .ok (.aload_n 0, 1) := by decide +kernel
theorem dL_law_324 : decode cL_law 324 = .ok (.iload_n 3, 1) := by decide +kernel
theorem dL_law_325 : decode cL_law 325 = .ok (.iconst 3, 1) := by decide +kernel
theorem dL_law_326 : decode cL_law 326 = .ok (.iadd, 1) := by decide +kernel
theorem dL_law_327 : decode cL_law 327 = .ok (.iaload, 1) := by decide +kernel
theorem dL_law_328 : decode cL_law 328 = .ok (.invokevirtual 31, 3) := by decide +kernel
theorem dL_law_331 : decode cL_law 331 = .ok (.if_icmp .eq 540, 3) := by decide +kernel
theorem dL_law_334 : decode cL_law 334 = .ok (.iconst 0, 1) := by decide +kernel
theorem dL_law_335 : decode cL_law 335 = .ok (.ireturn, 1) := by decide +kernel
theorem dL_law_336 : decode cL_law 336 = .ok (.aload_n 1, 1) := by decide +kernel
theorem dL_law_337 : decode cL_law 337 = .ok (.aload_n 0, 1) := by decide +kernel
theorem dL_law_338 : decode cL_law 338 = .ok (.iload_n 3, 1) := by decide +kernel
theorem dL_law_339 : decode cL_law 339 = .ok (.iconst 1, 1) := by decide +kernel
theorem dL_law_340 : decode cL_law 340 = .ok (.iadd, 1) := by decide +kernel
theorem dL_law_341 : decode cL_law 341 = .ok (.iaload, 1) := by decide +kernel
theorem dL_law_342 : decode cL_law 342 = .ok (.aload_n 0, 1) := by decide +kernel
theorem dL_law_343 : decode cL_law 343 = .ok (.iload_n 3, 1) := by decide +kernel
theorem dL_law_344 : decode cL_law 344 = .ok (.iconst 2, 1) := by decide +kernel
theorem dL_law_345 : decode cL_law 345 = .ok (.iadd, 1) := by decide +kernel
theorem dL_law_346 : decode cL_law 346 = .ok (.iaload, 1) := by decide +kernel
theorem dL_law_347 : decode cL_law 347 = .ok (.invokevirtual 32, 3) := by decide +kernel
theorem dL_law_350 : decode cL_law 350 = .ok (.aload_n 2, 1) := by decide +kernel
theorem dL_law_351 : decode cL_law 351 = .ok (.aload_n 0, 1) := by decide +kernel
theorem dL_law_352 : decode cL_law 352 = .ok (.iload_n 3, 1) := by decide +kernel
theorem dL_law_353 : decode cL_law 353 = .ok (.iconst 1, 1) := by decide +kernel
theorem dL_law_354 : decode cL_law 354 = .ok (.iadd, 1) := by decide +kernel
theorem dL_law_355 : decode cL_law 355 = .ok (.iaload, 1) := by decide +kernel
theorem dL_law_356 : decode cL_law 356 = .ok (.aload_n 0, 1) := by decide +kernel
theorem dL_law_357 : decode cL_law 357 = .ok (.iload_n 3, 1) := by decide +kernel
theorem dL_law_358 : decode cL_law 358 = .ok (.iconst 2, 1) := by decide +kernel
theorem dL_law_359 : decode cL_law 359 = .ok (.iadd, 1) := by decide +kernel
theorem dL_law_360 : decode cL_law 360 = .ok (.iaload, 1) := by decide +kernel
theorem dL_law_361 : decode cL_law 361 = .ok (.invokevirtual 36, 3) := by decide +kernel
theorem dL_law_364 : decode cL_law 364 = .ok (.if_icmp .eq 507, 3) := by decide +kernel
theorem dL_law_367 : decode cL_law 367 = .ok (.iconst 0, 1) := by decide +kernel
theorem dL_law_368 : decode cL_law 368 = .ok (.ireturn, 1) := by decide +kernel
theorem dL_law_369 : decode cL_law 369 = .ok (.aload_n 1, 1) := by decide +kernel
theorem dL_law_370 : decode cL_law 370 = .ok (.aload_n 0, 1) := by decide +kernel
theorem dL_law_371 : decode cL_law 371 = .ok (.iload_n 3, 1) := by decide +kernel
theorem dL_law_372 : decode cL_law 372 = .ok (.iconst 1, 1) := by decide +kernel
theorem dL_law_373 : decode cL_law 373 = .ok (.iadd, 1) := by decide +kernel
theorem dL_law_374 : decode cL_law 374 = .ok (.iaload, 1) := by decide +kernel
theorem dL_law_375 : decode cL_law 375 = .ok (.invokevirtual 37, 3) := by decide +kernel
theorem dL_law_378 : decode cL_law 378 = .ok (.aload_n 2, 1) := by decide +kernel
theorem dL_law_379 : decode cL_law 379 = .ok (.aload_n 0, 1) := by decide +kernel
theorem dL_law_380 : decode cL_law 380 = .ok (.iload_n 3, 1) := by decide +kernel
theorem dL_law_381 : decode cL_law 381 = .ok (.iconst 1, 1) := by decide +kernel
theorem dL_law_382 : decode cL_law 382 = .ok (.iadd, 1) := by decide +kernel
theorem dL_law_383 : decode cL_law 383 = .ok (.iaload, 1) := by decide +kernel
theorem dL_law_384 : decode cL_law 384 = .ok (.invokevirtual 40, 3) := by decide +kernel
theorem dL_law_387 : decode cL_law 387 = .ok (.if_icmp .eq 484, 3) := by decide +kernel
theorem dL_law_390 : decode cL_law 390 = .ok (.iconst 0, 1) := by decide +kernel
theorem dL_law_391 : decode cL_law 391 = .ok (.ireturn, 1) := by decide +kernel
theorem dL_law_392 : decode cL_law 392 = .ok (.aload_n 1, 1) := by decide +kernel
theorem dL_law_393 : decode cL_law 393 = .ok (.aload_n 0, 1) := by decide +kernel
theorem dL_law_394 : decode cL_law 394 = .ok (.iload_n 3, 1) := by decide +kernel
theorem dL_law_395 : decode cL_law 395 = .ok (.iconst 1, 1) := by decide +kernel
theorem dL_law_396 : decode cL_law 396 = .ok (.iadd, 1) := by decide +kernel
theorem dL_law_397 : decode cL_law 397 = .ok (.iaload, 1) := by decide +kernel
theorem dL_law_398 : decode cL_law 398 = .ok (.invokevirtual 41, 3) := by decide +kernel
theorem dL_law_401 : decode cL_law 401 = .ok (.aload_n 2, 1) := by decide +kernel
theorem dL_law_402 : decode cL_law 402 = .ok (.aload_n 0, 1) := by decide +kernel
theorem dL_law_403 : decode cL_law 403 = .ok (.iload_n 3, 1) := by decide +kernel
theorem dL_law_404 : decode cL_law 404 = .ok (.iconst 1, 1) := by decide +kernel
theorem dL_law_405 : decode cL_law 405 = .ok (.iadd, 1) := by decide +kernel
theorem dL_law_406 : decode cL_law 406 = .ok (.iaload, 1) := by decide +kernel
theorem dL_law_407 : decode cL_law 407 = .ok (.invokevirtual 44, 3) := by decide +kernel
theorem dL_law_410 : decode cL_law 410 = .ok (.if_icmp .eq 461, 3) := by decide +kernel
theorem dL_law_413 : decode cL_law 413 = .ok (.iconst 0, 1) := by decide +kernel
theorem dL_law_414 : decode cL_law 414 = .ok (.ireturn, 1) := by decide +kernel
theorem dL_law_415 : decode cL_law 415 = .ok (.aload_n 1, 1) := by decide +kernel
theorem dL_law_416 : decode cL_law 416 = .ok (.invokevirtual 45, 3) := by decide +kernel
theorem dL_law_419 : decode cL_law 419 = .ok (.aload_n 2, 1) := by decide +kernel
theorem dL_law_420 : decode cL_law 420 = .ok (.invokevirtual 49, 3) := by decide +kernel
theorem dL_law_423 : decode cL_law 423 = .ok (.if_icmp .eq 448, 3) := by decide +kernel
theorem dL_law_426 : decode cL_law 426 = .ok (.iconst 0, 1) := by decide +kernel
theorem dL_law_427 : decode cL_law 427 = .ok (.ireturn, 1) := by decide +kernel
theorem dL_law_428 : decode cL_law 428 = .ok (.aload_n 1, 1) := by decide +kernel
theorem dL_law_429 : decode cL_law 429 = .ok (.invokevirtual 50, 3) := by decide +kernel
theorem dL_law_432 : decode cL_law 432 = .ok (.aload_n 2, 1) := by decide +kernel
theorem dL_law_433 : decode cL_law 433 = .ok (.invokevirtual 53, 3) := by decide +kernel
theorem dL_law_436 : decode cL_law 436 = .ok (.if_icmp .eq 435, 3) := by decide +kernel
theorem dL_law_439 : decode cL_law 439 = .ok (.iconst 0, 1) := by decide +kernel
theorem dL_law_440 : decode cL_law 440 = .ok (.ireturn, 1) := by decide +kernel
theorem dL_law_441 : decode cL_law 441 = .ok (.aload_n 1, 1) := by decide +kernel
theorem dL_law_442 : decode cL_law 442 = .ok (.invokevirtual 54, 3) := by decide +kernel
theorem dL_law_445 : decode cL_law 445 = .ok (.aload_n 2, 1) := by decide +kernel
theorem dL_law_446 : decode cL_law 446 = .ok (.invokevirtual 57, 3) := by decide +kernel
theorem dL_law_449 : decode cL_law 449 = .ok (.if_icmp .eq 422, 3) := by decide +kernel
theorem dL_law_452 : decode cL_law 452 = .ok (.iconst 0, 1) := by decide +kernel
theorem dL_law_453 : decode cL_law 453 = .ok (.ireturn, 1) := by decide +kernel
theorem dL_law_454 : decode cL_law 454 = .ok (.aload_n 1, 1) := by decide +kernel
theorem dL_law_455 : decode cL_law 455 = .ok (.invokevirtual 58, 3) := by decide +kernel
theorem dL_law_458 : decode cL_law 458 = .ok (.aload_n 2, 1) := by decide +kernel
theorem dL_law_459 : decode cL_law 459 = .ok (.invokevirtual 61, 3) := by decide +kernel
theorem dL_law_462 : decode cL_law 462 = .ok (.if_icmp .eq 409, 3) := by decide +kernel
theorem dL_law_465 : decode cL_law 465 = .ok (.iconst 0, 1) := by decide +kernel
theorem dL_law_466 : decode cL_law 466 = .ok (.ireturn, 1) := by decide +kernel
theorem dL_law_467 : decode cL_law 467 = .ok (.aload_n 1, 1) := by decide +kernel
theorem dL_law_468 : decode cL_law 468 = .ok (.aload_n 0, 1) := by decide +kernel
theorem dL_law_469 : decode cL_law 469 = .ok (.iload_n 3, 1) := by decide +kernel
theorem dL_law_470 : decode cL_law 470 = .ok (.iconst 1, 1) := by decide +kernel
theorem dL_law_471 : decode cL_law 471 = .ok (.iadd, 1) := by decide +kernel
theorem dL_law_472 : decode cL_law 472 = .ok (.iaload, 1) := by decide +kernel
theorem dL_law_473 : decode cL_law 473 = .ok (.invokevirtual 62, 3) := by decide +kernel
theorem dL_law_476 : decode cL_law 476 = .ok (.aload_n 2, 1) := by decide +kernel
theorem dL_law_477 : decode cL_law 477 = .ok (.aload_n 0, 1) := by decide +kernel
theorem dL_law_478 : decode cL_law 478 = .ok (.iload_n 3, 1) := by decide +kernel
theorem dL_law_479 : decode cL_law 479 = .ok (.iconst 1, 1) := by decide +kernel
theorem dL_law_480 : decode cL_law 480 = .ok (.iadd, 1) := by decide +kernel
theorem dL_law_481 : decode cL_law 481 = .ok (.iaload, 1) := by decide +kernel
theorem dL_law_482 : decode cL_law 482 = .ok (.invokevirtual 65, 3) := by decide +kernel
theorem dL_law_485 : decode cL_law 485 = .ok (.if_icmp .eq 386, 3) := by decide +kernel
theorem dL_law_488 : decode cL_law 488 = .ok (.iconst 0, 1) := by decide +kernel
theorem dL_law_489 : decode cL_law 489 = .ok (.ireturn, 1) := by decide +kernel
theorem dL_law_490 : decode cL_law 490 = .ok (.aload_n 1, 1) := by decide +kernel
theorem dL_law_491 : decode cL_law 491 = .ok (.aload_n 0, 1) := by decide +kernel
theorem dL_law_492 : decode cL_law 492 = .ok (.iload_n 3, 1) := by decide +kernel
theorem dL_law_493 : decode cL_law 493 = .ok (.iconst 1, 1) := by decide +kernel
theorem dL_law_494 : decode cL_law 494 = .ok (.iadd, 1) := by decide +kernel
theorem dL_law_495 : decode cL_law 495 = .ok (.iaload, 1) := by decide +kernel
theorem dL_law_496 : decode cL_law 496 = .ok (.invokevirtual 66, 3) := by decide +kernel
theorem dL_law_499 : decode cL_law 499 = .ok (.aload_n 2, 1) := by decide +kernel
theorem dL_law_500 : decode cL_law 500 = .ok (.aload_n 0, 1) := by decide +kernel
theorem dL_law_501 : decode cL_law 501 = .ok (.iload_n 3, 1) := by decide +kernel
theorem dL_law_502 : decode cL_law 502 = .ok (.iconst 1, 1) := by decide +kernel
theorem dL_law_503 : decode cL_law 503 = .ok (.iadd, 1) := by decide +kernel
theorem dL_law_504 : decode cL_law 504 = .ok (.iaload, 1) := by decide +kernel
theorem dL_law_505 : decode cL_law 505 = .ok (.invokevirtual 69, 3) := by decide +kernel
theorem dL_law_508 : decode cL_law 508 = .ok (.if_icmp .eq 363, 3) := by decide +kernel
theorem dL_law_511 : decode cL_law 511 = .ok (.iconst 0, 1) := by decide +kernel
theorem dL_law_512 : decode cL_law 512 = .ok (.ireturn, 1) := by decide +kernel
theorem dL_law_513 : decode cL_law 513 = .ok (.aload_n 1, 1) := by decide +kernel
theorem dL_law_514 : decode cL_law 514 = .ok (.invokevirtual 70, 3) := by decide +kernel
theorem dL_law_517 : decode cL_law 517 = .ok (.aload_n 2, 1) := by decide +kernel
theorem dL_law_518 : decode cL_law 518 = .ok (.invokevirtual 73, 3) := by decide +kernel
theorem dL_law_521 : decode cL_law 521 = .ok (.if_icmp .eq 350, 3) := by decide +kernel
theorem dL_law_524 : decode cL_law 524 = .ok (.iconst 0, 1) := by decide +kernel
theorem dL_law_525 : decode cL_law 525 = .ok (.ireturn, 1) := by decide +kernel
theorem dL_law_526 : decode cL_law 526 = .ok (.aload_n 1, 1) := by decide +kernel
theorem dL_law_527 : decode cL_law 527 = .ok (.aload_n 0, 1) := by decide +kernel
theorem dL_law_528 : decode cL_law 528 = .ok (.iload_n 3, 1) := by decide +kernel
theorem dL_law_529 : decode cL_law 529 = .ok (.iconst 1, 1) := by decide +kernel
theorem dL_law_530 : decode cL_law 530 = .ok (.iadd, 1) := by decide +kernel
theorem dL_law_531 : decode cL_law 531 = .ok (.iaload, 1) := by decide +kernel
theorem dL_law_532 : decode cL_law 532 = .ok (.invokevirtual 74, 3) := by decide +kernel
theorem dL_law_535 : decode cL_law 535 = .ok (.aload_n 2, 1) := by decide +kernel
theorem dL_law_536 : decode cL_law 536 = .ok (.aload_n 0, 1) := by decide +kernel
theorem dL_law_537 : decode cL_law 537 = .ok (.iload_n 3, 1) := by decide +kernel
theorem dL_law_538 : decode cL_law 538 = .ok (.iconst 1, 1) := by decide +kernel
theorem dL_law_539 : decode cL_law 539 = .ok (.iadd, 1) := by decide +kernel
theorem dL_law_540 : decode cL_law 540 = .ok (.iaload, 1) := by decide +kernel
theorem dL_law_541 : decode cL_law 541 = .ok (.invokevirtual 77, 3) := by decide +kernel
theorem dL_law_544 : decode cL_law 544 = .ok (.if_icmp .eq 327, 3) := by decide +kernel
theorem dL_law_547 : decode cL_law 547 = .ok (.iconst 0, 1) := by decide +kernel
theorem dL_law_548 : decode cL_law 548 = .ok (.ireturn, 1) := by decide +kernel
theorem dL_law_549 : decode cL_law 549 = .ok (.aload_n 1, 1) := by decide +kernel
theorem dL_law_550 : decode cL_law 550 = .ok (.invokevirtual 78, 3) := by decide +kernel
theorem dL_law_553 : decode cL_law 553 = .ok (.aload_n 2, 1) := by decide +kernel
theorem dL_law_554 : decode cL_law 554 = .ok (.invokevirtual 81, 3) := by decide +kernel
theorem dL_law_557 : decode cL_law 557 = .ok (.if_icmp .eq 314, 3) := by decide +kernel
theorem dL_law_560 : decode cL_law 560 = .ok (.iconst 0, 1) := by decide +kernel
theorem dL_law_561 : decode cL_law 561 = .ok (.ireturn, 1) := by decide +kernel
theorem dL_law_562 : decode cL_law 562 = .ok (.aload_n 1, 1) := by decide +kernel
theorem dL_law_563 : decode cL_law 563 = .ok (.invokevirtual 82, 3) := by decide +kernel
theorem dL_law_566 : decode cL_law 566 = .ok (.aload_n 2, 1) := by decide +kernel
theorem dL_law_567 : decode cL_law 567 = .ok (.invokevirtual 85, 3) := by decide +kernel
theorem dL_law_570 : decode cL_law 570 = .ok (.if_icmp .eq 301, 3) := by decide +kernel
theorem dL_law_573 : decode cL_law 573 = .ok (.iconst 0, 1) := by decide +kernel
theorem dL_law_574 : decode cL_law 574 = .ok (.ireturn, 1) := by decide +kernel
theorem dL_law_575 : decode cL_law 575 = .ok (.aload_n 1, 1) := by decide +kernel
theorem dL_law_576 : decode cL_law 576 = .ok (.aload_n 0, 1) := by decide +kernel
theorem dL_law_577 : decode cL_law 577 = .ok (.iload_n 3, 1) := by decide +kernel
theorem dL_law_578 : decode cL_law 578 = .ok (.iconst 1, 1) := by decide +kernel
theorem dL_law_579 : decode cL_law 579 = .ok (.iadd, 1) := by decide +kernel
theorem dL_law_580 : decode cL_law 580 = .ok (.iaload, 1) := by decide +kernel
theorem dL_law_581 : decode cL_law 581 = .ok (.invokevirtual 86, 3) := by decide +kernel
theorem dL_law_584 : decode cL_law 584 = .ok (.aload_n 2, 1) := by decide +kernel
theorem dL_law_585 : decode cL_law 585 = .ok (.aload_n 0, 1) := by decide +kernel
theorem dL_law_586 : decode cL_law 586 = .ok (.iload_n 3, 1) := by decide +kernel
theorem dL_law_587 : decode cL_law 587 = .ok (.iconst 1, 1) := by decide +kernel
theorem dL_law_588 : decode cL_law 588 = .ok (.iadd, 1) := by decide +kernel
theorem dL_law_589 : decode cL_law 589 = .ok (.iaload, 1) := by decide +kernel
theorem dL_law_590 : decode cL_law 590 = .ok (.invokevirtual 89, 3) := by decide +kernel
theorem dL_law_593 : decode cL_law 593 = .ok (.if_icmp .eq 278, 3) := by decide +kernel
theorem dL_law_596 : decode cL_law 596 = .ok (.iconst 0, 1) := by decide +kernel
theorem dL_law_597 : decode cL_law 597 = .ok (.ireturn, 1) := by decide +kernel
theorem dL_law_598 : decode cL_law 598 = .ok (.aload_n 1, 1) := by decide +kernel
theorem dL_law_599 : decode cL_law 599 = .ok (.aload_n 0, 1) := by decide +kernel
theorem dL_law_600 : decode cL_law 600 = .ok (.iload_n 3, 1) := by decide +kernel
theorem dL_law_601 : decode cL_law 601 = .ok (.iconst 1, 1) := by decide +kernel
theorem dL_law_602 : decode cL_law 602 = .ok (.iadd, 1) := by decide +kernel
theorem dL_law_603 : decode cL_law 603 = .ok (.iaload, 1) := by decide +kernel
theorem dL_law_604 : decode cL_law 604 = .ok (.aload_n 0, 1) := by decide +kernel
theorem dL_law_605 : decode cL_law 605 = .ok (.iload_n 3, 1) := by decide +kernel
theorem dL_law_606 : decode cL_law 606 = .ok (.iconst 2, 1) := by decide +kernel
theorem dL_law_607 : decode cL_law 607 = .ok (.iadd, 1) := by decide +kernel
theorem dL_law_608 : decode cL_law 608 = .ok (.iaload, 1) := by decide +kernel
theorem dL_law_609 : decode cL_law 609 = .ok (.invokevirtual 90, 3) := by decide +kernel
theorem dL_law_612 : decode cL_law 612 = .ok (.aload_n 2, 1) := by decide +kernel
theorem dL_law_613 : decode cL_law 613 = .ok (.aload_n 0, 1) := by decide +kernel
theorem dL_law_614 : decode cL_law 614 = .ok (.iload_n 3, 1) := by decide +kernel
theorem dL_law_615 : decode cL_law 615 = .ok (.iconst 1, 1) := by decide +kernel
theorem dL_law_616 : decode cL_law 616 = .ok (.iadd, 1) := by decide +kernel
theorem dL_law_617 : decode cL_law 617 = .ok (.iaload, 1) := by decide +kernel
theorem dL_law_618 : decode cL_law 618 = .ok (.aload_n 0, 1) := by decide +kernel
theorem dL_law_619 : decode cL_law 619 = .ok (.iload_n 3, 1) := by decide +kernel
theorem dL_law_620 : decode cL_law 620 = .ok (.iconst 2, 1) := by decide +kernel
theorem dL_law_621 : decode cL_law 621 = .ok (.iadd, 1) := by decide +kernel
theorem dL_law_622 : decode cL_law 622 = .ok (.iaload, 1) := by decide +kernel
theorem dL_law_623 : decode cL_law 623 = .ok (.invokevirtual 93, 3) := by decide +kernel
theorem dL_law_626 : decode cL_law 626 = .ok (.if_icmp .eq 245, 3) := by decide +kernel
theorem dL_law_629 : decode cL_law 629 = .ok (.iconst 0, 1) := by decide +kernel
theorem dL_law_630 : decode cL_law 630 = .ok (.ireturn, 1) := by decide +kernel
theorem dL_law_631 : decode cL_law 631 = .ok (.aload_n 1, 1) := by decide +kernel
theorem dL_law_632 : decode cL_law 632 = .ok (.aload_n 0, 1) := by decide +kernel
theorem dL_law_633 : decode cL_law 633 = .ok (.iload_n 3, 1) := by decide +kernel
theorem dL_law_634 : decode cL_law 634 = .ok (.iconst 1, 1) := by decide +kernel
theorem dL_law_635 : decode cL_law 635 = .ok (.iadd, 1) := by decide +kernel
theorem dL_law_636 : decode cL_law 636 = .ok (.iaload, 1) := by decide +kernel
theorem dL_law_637 : decode cL_law 637 = .ok (.aload_n 0, 1) := by decide +kernel
theorem dL_law_638 : decode cL_law 638 = .ok (.iload_n 3, 1) := by decide +kernel
theorem dL_law_639 : decode cL_law 639 = .ok (.iconst 2, 1) := by decide +kernel
theorem dL_law_640 : decode cL_law 640 = .ok (.iadd, 1) := by decide +kernel
theorem dL_law_641 : decode cL_law 641 = .ok (.iaload, 1) := by decide +kernel
theorem dL_law_642 : decode cL_law 642 = .ok (.invokevirtual 94, 3) := by decide +kernel
theorem dL_law_645 : decode cL_law 645 = .ok (.aload_n 2, 1) := by decide +kernel
theorem dL_law_646 : decode cL_law 646 = .ok (.aload_n 0, 1) := by decide +kernel
theorem dL_law_647 : decode cL_law 647 = .ok (.iload_n 3, 1) := by decide +kernel
theorem dL_law_648 : decode cL_law 648 = .ok (.iconst 1, 1) := by decide +kernel
theorem dL_law_649 : decode cL_law 649 = .ok (.iadd, 1) := by decide +kernel
theorem dL_law_650 : decode cL_law 650 = .ok (.iaload, 1) := by decide +kernel
theorem dL_law_651 : decode cL_law 651 = .ok (.aload_n 0, 1) := by decide +kernel
theorem dL_law_652 : decode cL_law 652 = .ok (.iload_n 3, 1) := by decide +kernel
theorem dL_law_653 : decode cL_law 653 = .ok (.iconst 2, 1) := by decide +kernel
theorem dL_law_654 : decode cL_law 654 = .ok (.iadd, 1) := by decide +kernel
theorem dL_law_655 : decode cL_law 655 = .ok (.iaload, 1) := by decide +kernel
theorem dL_law_656 : decode cL_law 656 = .ok (.invokevirtual 97, 3) := by decide +kernel
theorem dL_law_659 : decode cL_law 659 = .ok (.if_icmp .eq 212, 3) := by decide +kernel
theorem dL_law_662 : decode cL_law 662 = .ok (.iconst 0, 1) := by decide +kernel
theorem dL_law_663 : decode cL_law 663 = .ok (.ireturn, 1) := by decide +kernel
theorem dL_law_664 : decode cL_law 664 = .ok (.aload_n 1, 1) := by decide +kernel
theorem dL_law_665 : decode cL_law 665 = .ok (.aload_n 0, 1) := by decide +kernel
theorem dL_law_666 : decode cL_law 666 = .ok (.iload_n 3, 1) := by decide +kernel
theorem dL_law_667 : decode cL_law 667 = .ok (.iconst 1, 1) := by decide +kernel
theorem dL_law_668 : decode cL_law 668 = .ok (.iadd, 1) := by decide +kernel
theorem dL_law_669 : decode cL_law 669 = .ok (.iaload, 1) := by decide +kernel
theorem dL_law_670 : decode cL_law 670 = .ok (.invokevirtual 98, 3) := by decide +kernel
theorem dL_law_673 : decode cL_law 673 = .ok (.aload_n 2, 1) := by decide +kernel
theorem dL_law_674 : decode cL_law 674 = .ok (.aload_n 0, 1) := by decide +kernel
theorem dL_law_675 : decode cL_law 675 = .ok (.iload_n 3, 1) := by decide +kernel
theorem dL_law_676 : decode cL_law 676 = .ok (.iconst 1, 1) := by decide +kernel
theorem dL_law_677 : decode cL_law 677 = .ok (.iadd, 1) := by decide +kernel
theorem dL_law_678 : decode cL_law 678 = .ok (.iaload, 1) := by decide +kernel
theorem dL_law_679 : decode cL_law 679 = .ok (.invokevirtual 101, 3) := by decide +kernel
theorem dL_law_682 : decode cL_law 682 = .ok (.if_icmp .eq 189, 3) := by decide +kernel
theorem dL_law_685 : decode cL_law 685 = .ok (.iconst 0, 1) := by decide +kernel
theorem dL_law_686 : decode cL_law 686 = .ok (.ireturn, 1) := by decide +kernel
theorem dL_law_687 : decode cL_law 687 = .ok (.aload_n 1, 1) := by decide +kernel
theorem dL_law_688 : decode cL_law 688 = .ok (.aload_n 0, 1) := by decide +kernel
theorem dL_law_689 : decode cL_law 689 = .ok (.iload_n 3, 1) := by decide +kernel
theorem dL_law_690 : decode cL_law 690 = .ok (.iconst 1, 1) := by decide +kernel
theorem dL_law_691 : decode cL_law 691 = .ok (.iadd, 1) := by decide +kernel
theorem dL_law_692 : decode cL_law 692 = .ok (.iaload, 1) := by decide +kernel
theorem dL_law_693 : decode cL_law 693 = .ok (.aload_n 0, 1) := by decide +kernel
theorem dL_law_694 : decode cL_law 694 = .ok (.iload_n 3, 1) := by decide +kernel
theorem dL_law_695 : decode cL_law 695 = .ok (.iconst 2, 1) := by decide +kernel
theorem dL_law_696 : decode cL_law 696 = .ok (.iadd, 1) := by decide +kernel
theorem dL_law_697 : decode cL_law 697 = .ok (.iaload, 1) := by decide +kernel
theorem dL_law_698 : decode cL_law 698 = .ok (.invokevirtual 102, 3) := by decide +kernel
theorem dL_law_701 : decode cL_law 701 = .ok (.aload_n 2, 1) := by decide +kernel
theorem dL_law_702 : decode cL_law 702 = .ok (.aload_n 0, 1) := by decide +kernel
theorem dL_law_703 : decode cL_law 703 = .ok (.iload_n 3, 1) := by decide +kernel
theorem dL_law_704 : decode cL_law 704 = .ok (.iconst 1, 1) := by decide +kernel
theorem dL_law_705 : decode cL_law 705 = .ok (.iadd, 1) := by decide +kernel
theorem dL_law_706 : decode cL_law 706 = .ok (.iaload, 1) := by decide +kernel
theorem dL_law_707 : decode cL_law 707 = .ok (.aload_n 0, 1) := by decide +kernel
theorem dL_law_708 : decode cL_law 708 = .ok (.iload_n 3, 1) := by decide +kernel
theorem dL_law_709 : decode cL_law 709 = .ok (.iconst 2, 1) := by decide +kernel
theorem dL_law_710 : decode cL_law 710 = .ok (.iadd, 1) := by decide +kernel
theorem dL_law_711 : decode cL_law 711 = .ok (.iaload, 1) := by decide +kernel
theorem dL_law_712 : decode cL_law 712 = .ok (.invokevirtual 105, 3) := by decide +kernel
theorem dL_law_715 : decode cL_law 715 = .ok (.if_icmp .eq 156, 3) := by decide +kernel
theorem dL_law_718 : decode cL_law 718 = .ok (.iconst 0, 1) := by decide +kernel
theorem dL_law_719 : decode cL_law 719 = .ok (.ireturn, 1) := by decide +kernel
theorem dL_law_720 : decode cL_law 720 = .ok (.aload_n 1, 1) := by decide +kernel
theorem dL_law_721 : decode cL_law 721 = .ok (.aload_n 0, 1) := by decide +kernel
theorem dL_law_722 : decode cL_law 722 = .ok (.iload_n 3, 1) := by decide +kernel
theorem dL_law_723 : decode cL_law 723 = .ok (.iconst 1, 1) := by decide +kernel
theorem dL_law_724 : decode cL_law 724 = .ok (.iadd, 1) := by decide +kernel
theorem dL_law_725 : decode cL_law 725 = .ok (.iaload, 1) := by decide +kernel
theorem dL_law_726 : decode cL_law 726 = .ok (.invokevirtual 106, 3) := by decide +kernel
theorem dL_law_729 : decode cL_law 729 = .ok (.aload_n 2, 1) := by decide +kernel
theorem dL_law_730 : decode cL_law 730 = .ok (.aload_n 0, 1) := by decide +kernel
theorem dL_law_731 : decode cL_law 731 = .ok (.iload_n 3, 1) := by decide +kernel
theorem dL_law_732 : decode cL_law 732 = .ok (.iconst 1, 1) := by decide +kernel
theorem dL_law_733 : decode cL_law 733 = .ok (.iadd, 1) := by decide +kernel
theorem dL_law_734 : decode cL_law 734 = .ok (.iaload, 1) := by decide +kernel
theorem dL_law_735 : decode cL_law 735 = .ok (.invokevirtual 109, 3) := by decide +kernel
theorem dL_law_738 : decode cL_law 738 = .ok (.if_icmp .eq 133, 3) := by decide +kernel
theorem dL_law_741 : decode cL_law 741 = .ok (.iconst 0, 1) := by decide +kernel
theorem dL_law_742 : decode cL_law 742 = .ok (.ireturn, 1) := by decide +kernel
theorem dL_law_743 : decode cL_law 743 = .ok (.aload_n 1, 1) := by decide +kernel
theorem dL_law_744 : decode cL_law 744 = .ok (.aload_n 0, 1) := by decide +kernel
theorem dL_law_745 : decode cL_law 745 = .ok (.iload_n 3, 1) := by decide +kernel
theorem dL_law_746 : decode cL_law 746 = .ok (.iconst 1, 1) := by decide +kernel
theorem dL_law_747 : decode cL_law 747 = .ok (.iadd, 1) := by decide +kernel
theorem dL_law_748 : decode cL_law 748 = .ok (.iaload, 1) := by decide +kernel
theorem dL_law_749 : decode cL_law 749 = .ok (.aload_n 0, 1) := by decide +kernel
theorem dL_law_750 : decode cL_law 750 = .ok (.iload_n 3, 1) := by decide +kernel
theorem dL_law_751 : decode cL_law 751 = .ok (.iconst 2, 1) := by decide +kernel
theorem dL_law_752 : decode cL_law 752 = .ok (.iadd, 1) := by decide +kernel
theorem dL_law_753 : decode cL_law 753 = .ok (.iaload, 1) := by decide +kernel
theorem dL_law_754 : decode cL_law 754 = .ok (.invokevirtual 110, 3) := by decide +kernel
theorem dL_law_757 : decode cL_law 757 = .ok (.aload_n 2, 1) := by decide +kernel
theorem dL_law_758 : decode cL_law 758 = .ok (.aload_n 0, 1) := by decide +kernel
theorem dL_law_759 : decode cL_law 759 = .ok (.iload_n 3, 1) := by decide +kernel
theorem dL_law_760 : decode cL_law 760 = .ok (.iconst 1, 1) := by decide +kernel
theorem dL_law_761 : decode cL_law 761 = .ok (.iadd, 1) := by decide +kernel
theorem dL_law_762 : decode cL_law 762 = .ok (.iaload, 1) := by decide +kernel
theorem dL_law_763 : decode cL_law 763 = .ok (.aload_n 0, 1) := by decide +kernel
theorem dL_law_764 : decode cL_law 764 = .ok (.iload_n 3, 1) := by decide +kernel
theorem dL_law_765 : decode cL_law 765 = .ok (.iconst 2, 1) := by decide +kernel
theorem dL_law_766 : decode cL_law 766 = .ok (.iadd, 1) := by decide +kernel
theorem dL_law_767 : decode cL_law 767 = .ok (.iaload, 1) := by decide +kernel
theorem dL_law_768 : decode cL_law 768 = .ok (.invokevirtual 113, 3) := by decide +kernel
theorem dL_law_771 : decode cL_law 771 = .ok (.if_icmp .eq 100, 3) := by decide +kernel
theorem dL_law_774 : decode cL_law 774 = .ok (.iconst 0, 1) := by decide +kernel
theorem dL_law_775 : decode cL_law 775 = .ok (.ireturn, 1) := by decide +kernel
theorem dL_law_776 : decode cL_law 776 = .ok (.aload_n 1, 1) := by decide +kernel
theorem dL_law_777 : decode cL_law 777 = .ok (.aload_n 0, 1) := by decide +kernel
theorem dL_law_778 : decode cL_law 778 = .ok (.iload_n 3, 1) := by decide +kernel
theorem dL_law_779 : decode cL_law 779 = .ok (.iconst 1, 1) := by decide +kernel
theorem dL_law_780 : decode cL_law 780 = .ok (.iadd, 1) := by decide +kernel
theorem dL_law_781 : decode cL_law 781 = .ok (.iaload, 1) := by decide +kernel
theorem dL_law_782 : decode cL_law 782 = .ok (.invokevirtual 114, 3) := by decide +kernel
theorem dL_law_785 : decode cL_law 785 = .ok (.aload_n 2, 1) := by decide +kernel
theorem dL_law_786 : decode cL_law 786 = .ok (.aload_n 0, 1) := by decide +kernel
theorem dL_law_787 : decode cL_law 787 = .ok (.iload_n 3, 1) := by decide +kernel
theorem dL_law_788 : decode cL_law 788 = .ok (.iconst 1, 1) := by decide +kernel
theorem dL_law_789 : decode cL_law 789 = .ok (.iadd, 1) := by decide +kernel
theorem dL_law_790 : decode cL_law 790 = .ok (.iaload, 1) := by decide +kernel
theorem dL_law_791 : decode cL_law 791 = .ok (.invokevirtual 117, 3) := by decide +kernel
theorem dL_law_794 : decode cL_law 794 = .ok (.if_icmp .eq 77, 3) := by decide +kernel
theorem dL_law_797 : decode cL_law 797 = .ok (.iconst 0, 1) := by decide +kernel
theorem dL_law_798 : decode cL_law 798 = .ok (.ireturn, 1) := by decide +kernel
theorem dL_law_799 : decode cL_law 799 = .ok (.aload_n 1, 1) := by decide +kernel
theorem dL_law_800 : decode cL_law 800 = .ok (.aload_n 0, 1) := by decide +kernel
theorem dL_law_801 : decode cL_law 801 = .ok (.iload_n 3, 1) := by decide +kernel
theorem dL_law_802 : decode cL_law 802 = .ok (.iconst 1, 1) := by decide +kernel
theorem dL_law_803 : decode cL_law 803 = .ok (.iadd, 1) := by decide +kernel
theorem dL_law_804 : decode cL_law 804 = .ok (.iaload, 1) := by decide +kernel
theorem dL_law_805 : decode cL_law 805 = .ok (.aload_n 0, 1) := by decide +kernel
theorem dL_law_806 : decode cL_law 806 = .ok (.iload_n 3, 1) := by decide +kernel
theorem dL_law_807 : decode cL_law 807 = .ok (.iconst 2, 1) := by decide +kernel
theorem dL_law_808 : decode cL_law 808 = .ok (.iadd, 1) := by decide +kernel
theorem dL_law_809 : decode cL_law 809 = .ok (.iaload, 1) := by decide +kernel
theorem dL_law_810 : decode cL_law 810 = .ok (.invokevirtual 118, 3) := by decide +kernel
theorem dL_law_813 : decode cL_law 813 = .ok (.aload_n 2, 1) := by decide +kernel
theorem dL_law_814 : decode cL_law 814 = .ok (.aload_n 0, 1) := by decide +kernel
theorem dL_law_815 : decode cL_law 815 = .ok (.iload_n 3, 1) := by decide +kernel
theorem dL_law_816 : decode cL_law 816 = .ok (.iconst 1, 1) := by decide +kernel
theorem dL_law_817 : decode cL_law 817 = .ok (.iadd, 1) := by decide +kernel
theorem dL_law_818 : decode cL_law 818 = .ok (.iaload, 1) := by decide +kernel
theorem dL_law_819 : decode cL_law 819 = .ok (.aload_n 0, 1) := by decide +kernel
theorem dL_law_820 : decode cL_law 820 = .ok (.iload_n 3, 1) := by decide +kernel
theorem dL_law_821 : decode cL_law 821 = .ok (.iconst 2, 1) := by decide +kernel
theorem dL_law_822 : decode cL_law 822 = .ok (.iadd, 1) := by decide +kernel
theorem dL_law_823 : decode cL_law 823 = .ok (.iaload, 1) := by decide +kernel
theorem dL_law_824 : decode cL_law 824 = .ok (.invokevirtual 121, 3) := by decide +kernel
theorem dL_law_827 : decode cL_law 827 = .ok (.if_icmp .eq 44, 3) := by decide +kernel
theorem dL_law_830 : decode cL_law 830 = .ok (.iconst 0, 1) := by decide +kernel
theorem dL_law_831 : decode cL_law 831 = .ok (.ireturn, 1) := by decide +kernel
theorem dL_law_832 : decode cL_law 832 = .ok (.aload_n 1, 1) := by decide +kernel
theorem dL_law_833 : decode cL_law 833 = .ok (.invokevirtual 122, 3) := by decide +kernel
theorem dL_law_836 : decode cL_law 836 = .ok (.aload_n 2, 1) := by decide +kernel
theorem dL_law_837 : decode cL_law 837 = .ok (.invokevirtual 125, 3) := by decide +kernel
theorem dL_law_840 : decode cL_law 840 = .ok (.if_icmp .eq 31, 3) := by decide +kernel
theorem dL_law_843 : decode cL_law 843 = .ok (.iconst 0, 1) := by decide +kernel
theorem dL_law_844 : decode cL_law 844 = .ok (.ireturn, 1) := by decide +kernel
theorem dL_law_845 : decode cL_law 845 = .ok (.aload_n 1, 1) := by decide +kernel
theorem dL_law_846 : decode cL_law 846 = .ok (.invokevirtual 126, 3) := by decide +kernel
theorem dL_law_849 : decode cL_law 849 = .ok (.aload_n 2, 1) := by decide +kernel
theorem dL_law_850 : decode cL_law 850 = .ok (.invokevirtual 129, 3) := by decide +kernel
theorem dL_law_853 : decode cL_law 853 = .ok (.if_icmp .eq 18, 3) := by decide +kernel
theorem dL_law_856 : decode cL_law 856 = .ok (.iconst 0, 1) := by decide +kernel
theorem dL_law_857 : decode cL_law 857 = .ok (.ireturn, 1) := by decide +kernel
theorem dL_law_858 : decode cL_law 858 = .ok (.aload_n 1, 1) := by decide +kernel
theorem dL_law_859 : decode cL_law 859 = .ok (.invokevirtual 130, 3) := by decide +kernel
theorem dL_law_862 : decode cL_law 862 = .ok (.aload_n 2, 1) := by decide +kernel
theorem dL_law_863 : decode cL_law 863 = .ok (.invokevirtual 133, 3) := by decide +kernel
theorem dL_law_866 : decode cL_law 866 = .ok (.if_icmp .eq 5, 3) := by decide +kernel
theorem dL_law_869 : decode cL_law 869 = .ok (.iconst 0, 1) := by decide +kernel
theorem dL_law_870 : decode cL_law 870 = .ok (.ireturn, 1) := by decide +kernel
theorem dL_law_871 : decode cL_law 871 = .ok (.iinc 3 6, 3) := by decide +kernel
theorem dL_law_874 : decode cL_law 874 = .ok (.goto (-856), 3) := by decide +kernel
theorem dL_law_877 : decode cL_law 877 = .ok (.iconst 1, 1) := by decide +kernel
theorem dL_law_878 : decode cL_law 878 = .ok (.ireturn, 1) := by decide +kernel
