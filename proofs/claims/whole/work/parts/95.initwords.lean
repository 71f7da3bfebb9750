/-! ===== the words of the constructors (printed by wip/whole/mk_init.py) ===== -/
theorem ac_int : Cond.arrayClass .int ∈ gT := mg 84 (by decide +kernel) (by decide +kernel)
theorem ac_boolean : Cond.arrayClass .boolean ∈ gT := mg 99 (by decide +kernel) (by decide +kernel)
theorem ac_char : Cond.arrayClass .char ∈ gT := mg 585 (by decide +kernel) (by decide +kernel)
theorem oi_m : Cond.instanceMethod Lib.objectInit ∈ gT := mg 53 (by decide +kernel) (by decide +kernel)
theorem oi_c : Cond.code Lib.objectInit ⟨#[0xb1]⟩ 1 none ∈ gT := mg 54 (by decide +kernel) (by decide +kernel)
theorem cl_L_7 : Cond.classLink RL 7 RX5 ∈ gT := mg 47 (by decide +kernel) (by decide +kernel)
theorem ins_X5 : Cond.instantiable RX5 4 ∈ gT := mg 48 (by decide +kernel) (by decide +kernel)
theorem ini_X5 : Cond.initialized RX5 ∈ gT := mg 38 (by decide +kernel) (by decide +kernel)
theorem iy_X5 : Cond.instanceMethod yX5_init ∈ gT ∧ Cond.initialized yX5_init.cls ∈ gT ∧ Cond.code yX5_init cX5_init 1 none ∈ gT := ⟨mg 50 (by decide +kernel) (by decide +kernel), mg 38 (by decide +kernel) (by decide +kernel), mg 51 (by decide +kernel) (by decide +kernel)⟩
theorem il_L_9 : Cond.methodLink RL 9 yX5_init ∈ gT := mg 49 (by decide +kernel) (by decide +kernel)
theorem ol_X5 : Cond.methodLink RX5 1 Lib.objectInit ∈ gT := mg 52 (by decide +kernel) (by decide +kernel)
theorem cl_X5_7 : Cond.classLink RX5 7 RX1 ∈ gT := mg 55 (by decide +kernel) (by decide +kernel)
theorem ins_X1 : Cond.instantiable RX1 3 ∈ gT := mg 56 (by decide +kernel) (by decide +kernel)
theorem ini_X1 : Cond.initialized RX1 ∈ gT := mg 39 (by decide +kernel) (by decide +kernel)
theorem iy_X1 : Cond.instanceMethod yX1_init ∈ gT ∧ Cond.initialized yX1_init.cls ∈ gT ∧ Cond.code yX1_init cX1_init 2 none ∈ gT := ⟨mg 58 (by decide +kernel) (by decide +kernel), mg 39 (by decide +kernel) (by decide +kernel), mg 59 (by decide +kernel) (by decide +kernel)⟩
theorem il_X5_9 : Cond.methodLink RX5 9 yX1_init ∈ gT := mg 57 (by decide +kernel) (by decide +kernel)
theorem ol_X1 : Cond.methodLink RX1 3 Lib.objectInit ∈ gT := mg 60 (by decide +kernel) (by decide +kernel)
theorem cl_X1_9 : Cond.classLink RX1 9 RX2 ∈ gT := mg 61 (by decide +kernel) (by decide +kernel)
theorem ins_X2 : Cond.instantiable RX2 3 ∈ gT := mg 62 (by decide +kernel) (by decide +kernel)
theorem ini_X2 : Cond.initialized RX2 ∈ gT := mg 40 (by decide +kernel) (by decide +kernel)
theorem iy_X2 : Cond.instanceMethod yX2_init ∈ gT ∧ Cond.initialized yX2_init.cls ∈ gT ∧ Cond.code yX2_init cX2_init 2 none ∈ gT := ⟨mg 64 (by decide +kernel) (by decide +kernel), mg 40 (by decide +kernel) (by decide +kernel), mg 65 (by decide +kernel) (by decide +kernel)⟩
theorem il_X1_11 : Cond.methodLink RX1 11 yX2_init ∈ gT := mg 63 (by decide +kernel) (by decide +kernel)
theorem ol_X2 : Cond.methodLink RX2 3 Lib.objectInit ∈ gT := mg 66 (by decide +kernel) (by decide +kernel)
theorem cl_X2_15 : Cond.classLink RX2 15 "[[I" ∈ gT := mg 67 (by decide +kernel) (by decide +kernel)
theorem cl_X5_16 : Cond.classLink RX5 16 RX0 ∈ gT := mg 100 (by decide +kernel) (by decide +kernel)
theorem ins_X0 : Cond.instantiable RX0 2 ∈ gT := mg 101 (by decide +kernel) (by decide +kernel)
theorem ini_X0 : Cond.initialized RX0 ∈ gT := mg 41 (by decide +kernel) (by decide +kernel)
theorem iy_X0 : Cond.instanceMethod yX0_init ∈ gT ∧ Cond.initialized yX0_init.cls ∈ gT ∧ Cond.code yX0_init cX0_init 2 none ∈ gT := ⟨mg 103 (by decide +kernel) (by decide +kernel), mg 41 (by decide +kernel) (by decide +kernel), mg 104 (by decide +kernel) (by decide +kernel)⟩
theorem il_X5_18 : Cond.methodLink RX5 18 yX0_init ∈ gT := mg 102 (by decide +kernel) (by decide +kernel)
theorem ol_X0 : Cond.methodLink RX0 3 Lib.objectInit ∈ gT := mg 105 (by decide +kernel) (by decide +kernel)
theorem cl_X0_9 : Cond.classLink RX0 9 RX1 ∈ gT := mg 106 (by decide +kernel) (by decide +kernel)
theorem il_X0_21 : Cond.methodLink RX0 21 yX1_init ∈ gT := mg 108 (by decide +kernel) (by decide +kernel)
theorem cl_X5_23 : Cond.classLink RX5 23 RX4 ∈ gT := mg 117 (by decide +kernel) (by decide +kernel)
theorem ins_X4 : Cond.instantiable RX4 5 ∈ gT := mg 118 (by decide +kernel) (by decide +kernel)
theorem ini_X4 : Cond.initialized RX4 ∈ gT := mg 42 (by decide +kernel) (by decide +kernel)
theorem iy_X4 : Cond.instanceMethod yX4_init ∈ gT ∧ Cond.initialized yX4_init.cls ∈ gT ∧ Cond.code yX4_init cX4_init 1 none ∈ gT := ⟨mg 120 (by decide +kernel) (by decide +kernel), mg 42 (by decide +kernel) (by decide +kernel), mg 121 (by decide +kernel) (by decide +kernel)⟩
theorem ol_X4 : Cond.methodLink RX4 3 Lib.objectInit ∈ gT := mg 122 (by decide +kernel) (by decide +kernel)
theorem cl_X4_15 : Cond.classLink RX4 15 "[[I" ∈ gT := mg 123 (by decide +kernel) (by decide +kernel)
theorem cl_X5_30 : Cond.classLink RX5 30 RX3 ∈ gT := mg 144 (by decide +kernel) (by decide +kernel)
theorem ins_X3 : Cond.instantiable RX3 6 ∈ gT := mg 145 (by decide +kernel) (by decide +kernel)
theorem ini_X3 : Cond.initialized RX3 ∈ gT := mg 43 (by decide +kernel) (by decide +kernel)
theorem iy_X3 : Cond.instanceMethod yX3_init ∈ gT ∧ Cond.initialized yX3_init.cls ∈ gT ∧ Cond.code yX3_init cX3_init 1 none ∈ gT := ⟨mg 147 (by decide +kernel) (by decide +kernel), mg 43 (by decide +kernel) (by decide +kernel), mg 148 (by decide +kernel) (by decide +kernel)⟩
theorem ol_X3 : Cond.methodLink RX3 3 Lib.objectInit ∈ gT := mg 149 (by decide +kernel) (by decide +kernel)
theorem cl_X3_9 : Cond.classLink RX3 9 "[[I" ∈ gT := mg 150 (by decide +kernel) (by decide +kernel)
theorem cl_L_10 : Cond.classLink RL 10 RX6 ∈ gT := mg 538 (by decide +kernel) (by decide +kernel)
theorem ins_X6 : Cond.instantiable RX6 13 ∈ gT := mg 539 (by decide +kernel) (by decide +kernel)
theorem ini_X6 : Cond.initialized RX6 ∈ gT := mg 44 (by decide +kernel) (by decide +kernel)
theorem iy_X6 : Cond.instanceMethod yX6_init ∈ gT ∧ Cond.initialized yX6_init.cls ∈ gT ∧ Cond.code yX6_init cX6_init 2 none ∈ gT := ⟨mg 541 (by decide +kernel) (by decide +kernel), mg 44 (by decide +kernel) (by decide +kernel), mg 542 (by decide +kernel) (by decide +kernel)⟩
theorem il_L_12 : Cond.methodLink RL 12 yX6_init ∈ gT := mg 540 (by decide +kernel) (by decide +kernel)
theorem ol_X6 : Cond.methodLink RX6 1 Lib.objectInit ∈ gT := mg 543 (by decide +kernel) (by decide +kernel)
theorem fr_X5_10 : flR RX5 10 5 0 := ⟨TX5, 4, tyX5, (.object "CliffSerial$Moment"), rfl, inG5, by decide, rfl, by decide, mg 170 (by decide +kernel) (by decide +kernel), rfl, tyX5_ok, nmX5, rfl, by decide +kernel, rfl, fun a => ⟨rfl, rfl⟩⟩
theorem fr_X5_19 : flR RX5 19 5 1 := ⟨TX5, 4, tyX5, (.object "CliffSerial$History"), rfl, inG5, by decide, rfl, by decide, mg 171 (by decide +kernel) (by decide +kernel), rfl, tyX5_ok, nmX5, rfl, by decide +kernel, rfl, fun a => ⟨rfl, rfl⟩⟩
theorem fr_X5_26 : flR RX5 26 5 2 := ⟨TX5, 4, tyX5, (.object "CliffSerial$SceneText"), rfl, inG5, by decide, rfl, by decide, mg 172 (by decide +kernel) (by decide +kernel), rfl, tyX5_ok, nmX5, rfl, by decide +kernel, rfl, fun a => ⟨rfl, rfl⟩⟩
theorem fr_X5_33 : flR RX5 33 5 3 := ⟨TX5, 4, tyX5, (.object "CliffSerial$PlanTable"), rfl, inG5, by decide, rfl, by decide, mg 173 (by decide +kernel) (by decide +kernel), rfl, tyX5_ok, nmX5, rfl, by decide +kernel, rfl, fun a => ⟨rfl, rfl⟩⟩
theorem fr_X0_11 : flR RX0 11 0 0 := ⟨TX0, 2, tyX0, (.array (.object "CliffSerial$Moment")), rfl, inG0, by decide, rfl, by decide, mg 109 (by decide +kernel) (by decide +kernel), rfl, tyX0_ok, nmX0, rfl, by decide +kernel, rfl, fun a => ⟨rfl, rfl⟩⟩
theorem fr_X1_12 : flR RX1 12 1 0 := ⟨TX1, 3, tyX1, (.object "CliffSerial$Novel"), rfl, inG1, by decide, rfl, by decide, mg 86 (by decide +kernel) (by decide +kernel), rfl, tyX1_ok, nmX1, rfl, by decide +kernel, rfl, fun a => ⟨rfl, rfl⟩⟩
theorem fr_X1_18 : flR RX1 18 1 1 := ⟨TX1, 3, tyX1, (.array (.object "CliffSerial$Novel")), rfl, inG1, by decide, rfl, by decide, mg 88 (by decide +kernel) (by decide +kernel), rfl, tyX1_ok, nmX1, rfl, by decide +kernel, rfl, fun a => ⟨rfl, rfl⟩⟩
theorem fr_X1_22 : flR RX1 22 1 2 := ⟨TX1, 3, tyX1, (.array .boolean), rfl, inG1, by decide, rfl, by decide, mg 90 (by decide +kernel) (by decide +kernel), rfl, tyX1_ok, nmX1, rfl, by decide +kernel, rfl, fun a => ⟨rfl, rfl⟩⟩
theorem fr_X2_9 : flR RX2 9 2 0 := ⟨TX2, 3, tyX2, (.array .int), rfl, inG2, by decide, rfl, by decide, mg 70 (by decide +kernel) (by decide +kernel), rfl, tyX2_ok, nmX2, rfl, by decide +kernel, rfl, fun a => ⟨rfl, rfl⟩⟩
theorem fr_X2_17 : flR RX2 17 2 1 := ⟨TX2, 3, tyX2, (.array (.array .int)), rfl, inG2, by decide, rfl, by decide, mg 73 (by decide +kernel) (by decide +kernel), rfl, tyX2_ok, nmX2, rfl, by decide +kernel, rfl, fun a => ⟨rfl, rfl⟩⟩
theorem fr_X2_20 : flR RX2 20 2 2 := ⟨TX2, 3, tyX2, (.array (.array .int)), rfl, inG2, by decide, rfl, by decide, mg 75 (by decide +kernel) (by decide +kernel), rfl, tyX2_ok, nmX2, rfl, by decide +kernel, rfl, fun a => ⟨rfl, rfl⟩⟩
theorem fr_X3_11 : flR RX3 11 3 0 := ⟨TX3, 6, tyX3, (.array (.array .int)), rfl, inG3, by decide, rfl, by decide, mg 151 (by decide +kernel) (by decide +kernel), rfl, tyX3_ok, nmX3, rfl, by decide +kernel, rfl, fun a => ⟨rfl, rfl⟩⟩
theorem fr_X3_16 : flR RX3 16 3 1 := ⟨TX3, 6, tyX3, (.array (.array .int)), rfl, inG3, by decide, rfl, by decide, mg 152 (by decide +kernel) (by decide +kernel), rfl, tyX3_ok, nmX3, rfl, by decide +kernel, rfl, fun a => ⟨rfl, rfl⟩⟩
theorem fr_X3_19 : flR RX3 19 3 2 := ⟨TX3, 6, tyX3, (.array (.array .int)), rfl, inG3, by decide, rfl, by decide, mg 153 (by decide +kernel) (by decide +kernel), rfl, tyX3_ok, nmX3, rfl, by decide +kernel, rfl, fun a => ⟨rfl, rfl⟩⟩
theorem fr_X3_22 : flR RX3 22 3 3 := ⟨TX3, 6, tyX3, (.array (.array .int)), rfl, inG3, by decide, rfl, by decide, mg 154 (by decide +kernel) (by decide +kernel), rfl, tyX3_ok, nmX3, rfl, by decide +kernel, rfl, fun a => ⟨rfl, rfl⟩⟩
theorem fr_X4_9 : flR RX4 9 4 0 := ⟨TX4, 5, tyX4, (.array .int), rfl, inG4, by decide, rfl, by decide, mg 124 (by decide +kernel) (by decide +kernel), rfl, tyX4_ok, nmX4, rfl, by decide +kernel, rfl, fun a => ⟨rfl, rfl⟩⟩
theorem fr_X4_17 : flR RX4 17 4 1 := ⟨TX4, 5, tyX4, (.array (.array .int)), rfl, inG4, by decide, rfl, by decide, mg 126 (by decide +kernel) (by decide +kernel), rfl, tyX4_ok, nmX4, rfl, by decide +kernel, rfl, fun a => ⟨rfl, rfl⟩⟩
theorem fr_X6_7 : flR RX6 7 6 0 := ⟨TX6, 13, tyX6, (.array .int), rfl, inG6, by decide, rfl, by decide, mg 545 (by decide +kernel) (by decide +kernel), rfl, tyX6_ok, nmX6, rfl, by decide +kernel, rfl, fun a => ⟨rfl, rfl⟩⟩
theorem fr_X6_13 : flR RX6 13 6 1 := ⟨TX6, 13, tyX6, (.array .int), rfl, inG6, by decide, rfl, by decide, mg 546 (by decide +kernel) (by decide +kernel), rfl, tyX6_ok, nmX6, rfl, by decide +kernel, rfl, fun a => ⟨rfl, rfl⟩⟩
theorem fr_X6_16 : flR RX6 16 6 2 := ⟨TX6, 13, tyX6, (.array .int), rfl, inG6, by decide, rfl, by decide, mg 547 (by decide +kernel) (by decide +kernel), rfl, tyX6_ok, nmX6, rfl, by decide +kernel, rfl, fun a => ⟨rfl, rfl⟩⟩
theorem fr_X6_19 : flR RX6 19 6 4 := ⟨TX6, 13, tyX6, (.array .char), rfl, inG6, by decide, rfl, by decide, mg 549 (by decide +kernel) (by decide +kernel), rfl, tyX6_ok, nmX6, rfl, by decide +kernel, rfl, fun a => ⟨rfl, rfl⟩⟩
theorem fr_X6_23 : flR RX6 23 6 8 := ⟨TX6, 13, tyX6, (.array .int), rfl, inG6, by decide, rfl, by decide, mg 553 (by decide +kernel) (by decide +kernel), rfl, tyX6_ok, nmX6, rfl, by decide +kernel, rfl, fun a => ⟨rfl, rfl⟩⟩
theorem fr_X6_26 : flR RX6 26 6 9 := ⟨TX6, 13, tyX6, (.array .int), rfl, inG6, by decide, rfl, by decide, mg 554 (by decide +kernel) (by decide +kernel), rfl, tyX6_ok, nmX6, rfl, by decide +kernel, rfl, fun a => ⟨rfl, rfl⟩⟩
theorem fr_X6_29 : flR RX6 29 6 10 := ⟨TX6, 13, tyX6, (.array .int), rfl, inG6, by decide, rfl, by decide, mg 555 (by decide +kernel) (by decide +kernel), rfl, tyX6_ok, nmX6, rfl, by decide +kernel, rfl, fun a => ⟨rfl, rfl⟩⟩
theorem fr_X6_32 : flR RX6 32 6 11 := ⟨TX6, 13, tyX6, (.array .int), rfl, inG6, by decide, rfl, by decide, mg 556 (by decide +kernel) (by decide +kernel), rfl, tyX6_ok, nmX6, rfl, by decide +kernel, rfl, fun a => ⟨rfl, rfl⟩⟩
theorem fr_X6_35 : flR RX6 35 6 12 := ⟨TX6, 13, tyX6, (.array .int), rfl, inG6, by decide, rfl, by decide, mg 557 (by decide +kernel) (by decide +kernel), rfl, tyX6_ok, nmX6, rfl, by decide +kernel, rfl, fun a => ⟨rfl, rfl⟩⟩
