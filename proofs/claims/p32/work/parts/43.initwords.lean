/-! ===== the words of the constructors (printed by wip/p32/mk_init.py) ===== -/
theorem ac_int : Cond.arrayClass .int ∈ gT := mg 49 (by decide +kernel) (by decide +kernel)
theorem ac_boolean : Cond.arrayClass .boolean ∈ gT := mg 64 (by decide +kernel) (by decide +kernel)
theorem oi_m : Cond.instanceMethod Lib.objectInit ∈ gT := mg 19 (by decide +kernel) (by decide +kernel)
theorem oi_c : Cond.code Lib.objectInit ⟨#[0xb1]⟩ 1 none ∈ gT := mg 20 (by decide +kernel) (by decide +kernel)
theorem cl_L_10 : Cond.classLink RL 10 RX5 ∈ gT := mg 13 (by decide +kernel) (by decide +kernel)
theorem ins_X5 : Cond.instantiable RX5 4 ∈ gT := mg 14 (by decide +kernel) (by decide +kernel)
theorem ini_X5 : Cond.initialized RX5 ∈ gT := mg 5 (by decide +kernel) (by decide +kernel)
theorem iy_X5 : Cond.instanceMethod yX5_init ∈ gT ∧ Cond.initialized yX5_init.cls ∈ gT ∧ Cond.code yX5_init cX5_init 1 none ∈ gT := ⟨mg 16 (by decide +kernel) (by decide +kernel), mg 5 (by decide +kernel) (by decide +kernel), mg 17 (by decide +kernel) (by decide +kernel)⟩
theorem il_L_60 : Cond.methodLink RL 60 yX5_init ∈ gT := mg 15 (by decide +kernel) (by decide +kernel)
theorem ol_X5 : Cond.methodLink RX5 1 Lib.objectInit ∈ gT := mg 18 (by decide +kernel) (by decide +kernel)
theorem cl_X5_7 : Cond.classLink RX5 7 RX1 ∈ gT := mg 21 (by decide +kernel) (by decide +kernel)
theorem ins_X1 : Cond.instantiable RX1 3 ∈ gT := mg 22 (by decide +kernel) (by decide +kernel)
theorem ini_X1 : Cond.initialized RX1 ∈ gT := mg 6 (by decide +kernel) (by decide +kernel)
theorem iy_X1 : Cond.instanceMethod yX1_init ∈ gT ∧ Cond.initialized yX1_init.cls ∈ gT ∧ Cond.code yX1_init cX1_init 2 none ∈ gT := ⟨mg 24 (by decide +kernel) (by decide +kernel), mg 6 (by decide +kernel) (by decide +kernel), mg 25 (by decide +kernel) (by decide +kernel)⟩
theorem il_X5_9 : Cond.methodLink RX5 9 yX1_init ∈ gT := mg 23 (by decide +kernel) (by decide +kernel)
theorem ol_X1 : Cond.methodLink RX1 3 Lib.objectInit ∈ gT := mg 26 (by decide +kernel) (by decide +kernel)
theorem cl_X1_9 : Cond.classLink RX1 9 RX2 ∈ gT := mg 27 (by decide +kernel) (by decide +kernel)
theorem ins_X2 : Cond.instantiable RX2 3 ∈ gT := mg 28 (by decide +kernel) (by decide +kernel)
theorem ini_X2 : Cond.initialized RX2 ∈ gT := mg 7 (by decide +kernel) (by decide +kernel)
theorem iy_X2 : Cond.instanceMethod yX2_init ∈ gT ∧ Cond.initialized yX2_init.cls ∈ gT ∧ Cond.code yX2_init cX2_init 2 none ∈ gT := ⟨mg 30 (by decide +kernel) (by decide +kernel), mg 7 (by decide +kernel) (by decide +kernel), mg 31 (by decide +kernel) (by decide +kernel)⟩
theorem il_X1_11 : Cond.methodLink RX1 11 yX2_init ∈ gT := mg 29 (by decide +kernel) (by decide +kernel)
theorem ol_X2 : Cond.methodLink RX2 3 Lib.objectInit ∈ gT := mg 32 (by decide +kernel) (by decide +kernel)
theorem cl_X2_15 : Cond.classLink RX2 15 "[[I" ∈ gT := mg 33 (by decide +kernel) (by decide +kernel)
theorem cl_X5_16 : Cond.classLink RX5 16 RX0 ∈ gT := mg 65 (by decide +kernel) (by decide +kernel)
theorem ins_X0 : Cond.instantiable RX0 2 ∈ gT := mg 66 (by decide +kernel) (by decide +kernel)
theorem ini_X0 : Cond.initialized RX0 ∈ gT := mg 8 (by decide +kernel) (by decide +kernel)
theorem iy_X0 : Cond.instanceMethod yX0_init ∈ gT ∧ Cond.initialized yX0_init.cls ∈ gT ∧ Cond.code yX0_init cX0_init 2 none ∈ gT := ⟨mg 68 (by decide +kernel) (by decide +kernel), mg 8 (by decide +kernel) (by decide +kernel), mg 69 (by decide +kernel) (by decide +kernel)⟩
theorem il_X5_18 : Cond.methodLink RX5 18 yX0_init ∈ gT := mg 67 (by decide +kernel) (by decide +kernel)
theorem ol_X0 : Cond.methodLink RX0 3 Lib.objectInit ∈ gT := mg 70 (by decide +kernel) (by decide +kernel)
theorem cl_X0_9 : Cond.classLink RX0 9 RX1 ∈ gT := mg 71 (by decide +kernel) (by decide +kernel)
theorem il_X0_21 : Cond.methodLink RX0 21 yX1_init ∈ gT := mg 73 (by decide +kernel) (by decide +kernel)
theorem cl_X5_23 : Cond.classLink RX5 23 RX4 ∈ gT := mg 82 (by decide +kernel) (by decide +kernel)
theorem ins_X4 : Cond.instantiable RX4 5 ∈ gT := mg 83 (by decide +kernel) (by decide +kernel)
theorem ini_X4 : Cond.initialized RX4 ∈ gT := mg 9 (by decide +kernel) (by decide +kernel)
theorem iy_X4 : Cond.instanceMethod yX4_init ∈ gT ∧ Cond.initialized yX4_init.cls ∈ gT ∧ Cond.code yX4_init cX4_init 1 none ∈ gT := ⟨mg 85 (by decide +kernel) (by decide +kernel), mg 9 (by decide +kernel) (by decide +kernel), mg 86 (by decide +kernel) (by decide +kernel)⟩
theorem ol_X4 : Cond.methodLink RX4 3 Lib.objectInit ∈ gT := mg 87 (by decide +kernel) (by decide +kernel)
theorem cl_X4_15 : Cond.classLink RX4 15 "[[I" ∈ gT := mg 88 (by decide +kernel) (by decide +kernel)
theorem cl_X5_30 : Cond.classLink RX5 30 RX3 ∈ gT := mg 106 (by decide +kernel) (by decide +kernel)
theorem ins_X3 : Cond.instantiable RX3 6 ∈ gT := mg 107 (by decide +kernel) (by decide +kernel)
theorem ini_X3 : Cond.initialized RX3 ∈ gT := mg 10 (by decide +kernel) (by decide +kernel)
theorem iy_X3 : Cond.instanceMethod yX3_init ∈ gT ∧ Cond.initialized yX3_init.cls ∈ gT ∧ Cond.code yX3_init cX3_init 1 none ∈ gT := ⟨mg 109 (by decide +kernel) (by decide +kernel), mg 10 (by decide +kernel) (by decide +kernel), mg 110 (by decide +kernel) (by decide +kernel)⟩
theorem ol_X3 : Cond.methodLink RX3 3 Lib.objectInit ∈ gT := mg 111 (by decide +kernel) (by decide +kernel)
theorem cl_X3_9 : Cond.classLink RX3 9 "[[I" ∈ gT := mg 112 (by decide +kernel) (by decide +kernel)
theorem fr_X5_10 : flR RX5 10 5 0 := ⟨TX5, 4, tyX5, (.object "CliffSerial$Moment"), rfl, inG5, by decide, rfl, by decide, mg 132 (by decide +kernel) (by decide +kernel), rfl, tyX5_ok, nmX5, rfl, by decide +kernel, rfl, fun a => ⟨rfl, rfl⟩⟩
theorem fr_X5_19 : flR RX5 19 5 1 := ⟨TX5, 4, tyX5, (.object "CliffSerial$History"), rfl, inG5, by decide, rfl, by decide, mg 133 (by decide +kernel) (by decide +kernel), rfl, tyX5_ok, nmX5, rfl, by decide +kernel, rfl, fun a => ⟨rfl, rfl⟩⟩
theorem fr_X5_26 : flR RX5 26 5 2 := ⟨TX5, 4, tyX5, (.object "CliffSerial$SceneText"), rfl, inG5, by decide, rfl, by decide, mg 134 (by decide +kernel) (by decide +kernel), rfl, tyX5_ok, nmX5, rfl, by decide +kernel, rfl, fun a => ⟨rfl, rfl⟩⟩
theorem fr_X5_33 : flR RX5 33 5 3 := ⟨TX5, 4, tyX5, (.object "CliffSerial$PlanTable"), rfl, inG5, by decide, rfl, by decide, mg 135 (by decide +kernel) (by decide +kernel), rfl, tyX5_ok, nmX5, rfl, by decide +kernel, rfl, fun a => ⟨rfl, rfl⟩⟩
theorem fr_X0_11 : flR RX0 11 0 0 := ⟨TX0, 2, tyX0, (.array (.object "CliffSerial$Moment")), rfl, inG0, by decide, rfl, by decide, mg 74 (by decide +kernel) (by decide +kernel), rfl, tyX0_ok, nmX0, rfl, by decide +kernel, rfl, fun a => ⟨rfl, rfl⟩⟩
theorem fr_X1_12 : flR RX1 12 1 0 := ⟨TX1, 3, tyX1, (.object "CliffSerial$Novel"), rfl, inG1, by decide, rfl, by decide, mg 51 (by decide +kernel) (by decide +kernel), rfl, tyX1_ok, nmX1, rfl, by decide +kernel, rfl, fun a => ⟨rfl, rfl⟩⟩
theorem fr_X1_18 : flR RX1 18 1 1 := ⟨TX1, 3, tyX1, (.array (.object "CliffSerial$Novel")), rfl, inG1, by decide, rfl, by decide, mg 53 (by decide +kernel) (by decide +kernel), rfl, tyX1_ok, nmX1, rfl, by decide +kernel, rfl, fun a => ⟨rfl, rfl⟩⟩
theorem fr_X1_22 : flR RX1 22 1 2 := ⟨TX1, 3, tyX1, (.array .boolean), rfl, inG1, by decide, rfl, by decide, mg 55 (by decide +kernel) (by decide +kernel), rfl, tyX1_ok, nmX1, rfl, by decide +kernel, rfl, fun a => ⟨rfl, rfl⟩⟩
theorem fr_X2_9 : flR RX2 9 2 0 := ⟨TX2, 3, tyX2, (.array .int), rfl, inG2, by decide, rfl, by decide, mg 36 (by decide +kernel) (by decide +kernel), rfl, tyX2_ok, nmX2, rfl, by decide +kernel, rfl, fun a => ⟨rfl, rfl⟩⟩
theorem fr_X2_17 : flR RX2 17 2 1 := ⟨TX2, 3, tyX2, (.array (.array .int)), rfl, inG2, by decide, rfl, by decide, mg 38 (by decide +kernel) (by decide +kernel), rfl, tyX2_ok, nmX2, rfl, by decide +kernel, rfl, fun a => ⟨rfl, rfl⟩⟩
theorem fr_X2_20 : flR RX2 20 2 2 := ⟨TX2, 3, tyX2, (.array (.array .int)), rfl, inG2, by decide, rfl, by decide, mg 40 (by decide +kernel) (by decide +kernel), rfl, tyX2_ok, nmX2, rfl, by decide +kernel, rfl, fun a => ⟨rfl, rfl⟩⟩
theorem fr_X3_11 : flR RX3 11 3 0 := ⟨TX3, 6, tyX3, (.array (.array .int)), rfl, inG3, by decide, rfl, by decide, mg 113 (by decide +kernel) (by decide +kernel), rfl, tyX3_ok, nmX3, rfl, by decide +kernel, rfl, fun a => ⟨rfl, rfl⟩⟩
theorem fr_X3_16 : flR RX3 16 3 1 := ⟨TX3, 6, tyX3, (.array (.array .int)), rfl, inG3, by decide, rfl, by decide, mg 114 (by decide +kernel) (by decide +kernel), rfl, tyX3_ok, nmX3, rfl, by decide +kernel, rfl, fun a => ⟨rfl, rfl⟩⟩
theorem fr_X3_19 : flR RX3 19 3 2 := ⟨TX3, 6, tyX3, (.array (.array .int)), rfl, inG3, by decide, rfl, by decide, mg 115 (by decide +kernel) (by decide +kernel), rfl, tyX3_ok, nmX3, rfl, by decide +kernel, rfl, fun a => ⟨rfl, rfl⟩⟩
theorem fr_X3_22 : flR RX3 22 3 3 := ⟨TX3, 6, tyX3, (.array (.array .int)), rfl, inG3, by decide, rfl, by decide, mg 116 (by decide +kernel) (by decide +kernel), rfl, tyX3_ok, nmX3, rfl, by decide +kernel, rfl, fun a => ⟨rfl, rfl⟩⟩
theorem fr_X4_9 : flR RX4 9 4 0 := ⟨TX4, 5, tyX4, (.array .int), rfl, inG4, by decide, rfl, by decide, mg 89 (by decide +kernel) (by decide +kernel), rfl, tyX4_ok, nmX4, rfl, by decide +kernel, rfl, fun a => ⟨rfl, rfl⟩⟩
theorem fr_X4_17 : flR RX4 17 4 1 := ⟨TX4, 5, tyX4, (.array (.array .int)), rfl, inG4, by decide, rfl, by decide, mg 90 (by decide +kernel) (by decide +kernel), rfl, tyX4_ok, nmX4, rfl, by decide +kernel, rfl, fun a => ⟨rfl, rfl⟩⟩
