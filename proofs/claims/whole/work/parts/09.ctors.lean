set_option maxRecDepth 20000
set_option maxHeartbeats 4000000
theorem ac_boolean : Cond.arrayClass .boolean ∈ WD := WD_mem (i := 281) (by decide +kernel) rfl
theorem ac_byte : Cond.arrayClass .byte ∈ WD := WD_mem (i := 153) (by decide +kernel) rfl
theorem ac_int : Cond.arrayClass .int ∈ WD := WD_mem (i := 229) (by decide +kernel) rfl
theorem ac_long : Cond.arrayClass .long ∈ WD := WD_mem (i := 314) (by decide +kernel) rfl
theorem oi_inst : Cond.instanceMethod objectInit ∈ WD := WD_mem (i := 136) (by decide +kernel) rfl
theorem oi_code : Cond.code objectInit ⟨#[0xb1]⟩ 1 none ∈ WD := WD_mem (i := 137) (by decide +kernel) rfl
theorem oiX11_1 : Cond.methodLink RX11 1 objectInit ∈ WD := WD_mem (i := 135) (by decide +kernel) rfl
theorem oiX0_3 : Cond.methodLink RX0 3 objectInit ∈ WD := WD_mem (i := 287) (by decide +kernel) rfl
theorem oiX1_5 : Cond.methodLink RX1 5 objectInit ∈ WD := WD_mem (i := 293) (by decide +kernel) rfl
theorem oiX2_3 : Cond.methodLink RX2 3 objectInit ∈ WD := WD_mem (i := 204) (by decide +kernel) rfl
theorem oiX3_3 : Cond.methodLink RX3 3 objectInit ∈ WD := WD_mem (i := 422) (by decide +kernel) rfl
theorem oiX4_3 : Cond.methodLink RX4 3 objectInit ∈ WD := WD_mem (i := 159) (by decide +kernel) rfl
theorem oiX5_3 : Cond.methodLink RX5 3 objectInit ∈ WD := WD_mem (i := 235) (by decide +kernel) rfl
theorem oiX6_3 : Cond.methodLink RX6 3 objectInit ∈ WD := WD_mem (i := 475) (by decide +kernel) rfl
theorem oiX7_3 : Cond.methodLink RX7 3 objectInit ∈ WD := WD_mem (i := 143) (by decide +kernel) rfl
theorem oiX8_1 : Cond.methodLink RX8 1 objectInit ∈ WD := WD_mem (i := 165) (by decide +kernel) rfl
theorem oiX9_3 : Cond.methodLink RX9 3 objectInit ∈ WD := WD_mem (i := 389) (by decide +kernel) rfl
theorem oiX10_3 : Cond.methodLink RX10 3 objectInit ∈ WD := WD_mem (i := 444) (by decide +kernel) rfl
theorem oiX12_18 : Cond.methodLink RX12 18 objectInit ∈ WD := WD_mem (i := 1422) (by decide +kernel) rfl
theorem clX11_7 : Cond.classLink RX11 7 RX7 ∈ WD := WD_mem (i := 138) (by decide +kernel) rfl
theorem clX11_16 : Cond.classLink RX11 16 RX4 ∈ WD := WD_mem (i := 154) (by decide +kernel) rfl
theorem clX11_25 : Cond.classLink RX11 25 RX2 ∈ WD := WD_mem (i := 199) (by decide +kernel) rfl
theorem clX11_32 : Cond.classLink RX11 32 RX5 ∈ WD := WD_mem (i := 230) (by decide +kernel) rfl
theorem clX11_39 : Cond.classLink RX11 39 RX0 ∈ WD := WD_mem (i := 282) (by decide +kernel) rfl
theorem clX11_49 : Cond.classLink RX11 49 RX9 ∈ WD := WD_mem (i := 384) (by decide +kernel) rfl
theorem clX11_59 : Cond.classLink RX11 59 RX3 ∈ WD := WD_mem (i := 417) (by decide +kernel) rfl
theorem clX11_68 : Cond.classLink RX11 68 RX10 ∈ WD := WD_mem (i := 439) (by decide +kernel) rfl
theorem clX11_75 : Cond.classLink RX11 75 RX6 ∈ WD := WD_mem (i := 470) (by decide +kernel) rfl
theorem clX0_18 : Cond.classLink RX0 18 RX1 ∈ WD := WD_mem (i := 288) (by decide +kernel) rfl
theorem clX4_15 : Cond.classLink RX4 15 RX8 ∈ WD := WD_mem (i := 160) (by decide +kernel) rfl
theorem ins_X0 : Cond.instantiable RX0 17 ∈ WD := WD_mem (i := 283) (by decide +kernel) rfl
theorem dv_X0 : ∀ j, j < 17 → defaultValue (tyX0 j) = vp_V [.null, .null, .null, .int 0, .int 0, .null, .null, .null, .null, .null, .null, .null, .null, .null, .null, .null, .int 0] j := by decide +kernel
theorem ins_X1 : Cond.instantiable RX1 6 ∈ WD := WD_mem (i := 289) (by decide +kernel) rfl
theorem dv_X1 : ∀ j, j < 6 → defaultValue (tyX1 j) = vp_V [.null, .null, .null, .null, .null, .int 0] j := by decide +kernel
theorem ins_X2 : Cond.instantiable RX2 5 ∈ WD := WD_mem (i := 200) (by decide +kernel) rfl
theorem dv_X2 : ∀ j, j < 5 → defaultValue (tyX2 j) = vp_V [.null, .null, .null, .null, .null] j := by decide +kernel
theorem ins_X3 : Cond.instantiable RX3 5 ∈ WD := WD_mem (i := 418) (by decide +kernel) rfl
theorem dv_X3 : ∀ j, j < 5 → defaultValue (tyX3 j) = vp_V [.null, .null, .null, .null, .int 0] j := by decide +kernel
theorem ins_X4 : Cond.instantiable RX4 3 ∈ WD := WD_mem (i := 155) (by decide +kernel) rfl
theorem dv_X4 : ∀ j, j < 3 → defaultValue (tyX4 j) = vp_V [.null, .null, .int 0] j := by decide +kernel
theorem ins_X5 : Cond.instantiable RX5 13 ∈ WD := WD_mem (i := 231) (by decide +kernel) rfl
theorem dv_X5 : ∀ j, j < 13 → defaultValue (tyX5 j) = vp_V [.null, .null, .null, .null, .null, .null, .null, .null, .int 0, .int 0, .int 0, .int 0, .int 0] j := by decide +kernel
theorem ins_X6 : Cond.instantiable RX6 4 ∈ WD := WD_mem (i := 471) (by decide +kernel) rfl
theorem dv_X6 : ∀ j, j < 4 → defaultValue (tyX6 j) = vp_V [.null, .null, .null, .null] j := by decide +kernel
theorem ins_X7 : Cond.instantiable RX7 2 ∈ WD := WD_mem (i := 139) (by decide +kernel) rfl
theorem dv_X7 : ∀ j, j < 2 → defaultValue (tyX7 j) = vp_V [.null, .int 0] j := by decide +kernel
theorem ins_X8 : Cond.instantiable RX8 6 ∈ WD := WD_mem (i := 161) (by decide +kernel) rfl
theorem dv_X8 : ∀ j, j < 6 → defaultValue (tyX8 j) = vp_V [.null, .int 0, .int 0, .int 0, .int 0, .long 0] j := by decide +kernel
theorem ins_X9 : Cond.instantiable RX9 7 ∈ WD := WD_mem (i := 385) (by decide +kernel) rfl
theorem dv_X9 : ∀ j, j < 7 → defaultValue (tyX9 j) = vp_V [.null, .null, .null, .int 0, .int 0, .int 0, .int 0] j := by decide +kernel
theorem ins_X10 : Cond.instantiable RX10 8 ∈ WD := WD_mem (i := 440) (by decide +kernel) rfl
theorem dv_X10 : ∀ j, j < 8 → defaultValue (tyX10 j) = vp_V [.null, .null, .null, .null, .null, .int 0, .int 0, .int 0] j := by decide +kernel
theorem wcX8_init : Cond.code yX8_init cX8_init 2 none ∈ WD := WD_mem (i := 164) rfl rfl
theorem wiX8_init : Cond.initialized RX8 ∈ WD := WD_mem (i := 114) (by decide +kernel) rfl
theorem wnX8_init : Cond.instanceMethod yX8_init ∈ WD := WD_mem (i := 163) (by decide +kernel) rfl
theorem ycX8_init : (yX8_init).cls ≠ "java/lang/invoke/MethodHandle" ∧ (yX8_init).cls ≠ "java/lang/invoke/VarHandle" ∧ (parseMethodDescriptor (yX8_init).desc).map (fun d => d.parameters.length) = some 1 := by decide +kernel
theorem wcX1_init : Cond.code yX1_init cX1_init 1 none ∈ WD := WD_mem (i := 292) rfl rfl
theorem wiX1_init : Cond.initialized RX1 ∈ WD := WD_mem (i := 118) (by decide +kernel) rfl
theorem wnX1_init : Cond.instanceMethod yX1_init ∈ WD := WD_mem (i := 291) (by decide +kernel) rfl
theorem ycX1_init : (yX1_init).cls ≠ "java/lang/invoke/MethodHandle" ∧ (yX1_init).cls ≠ "java/lang/invoke/VarHandle" ∧ (parseMethodDescriptor (yX1_init).desc).map (fun d => d.parameters.length) = some 0 := by decide +kernel
theorem wcX7_init : Cond.code yX7_init cX7_init 1 none ∈ WD := WD_mem (i := 142) rfl rfl
theorem wiX7_init : Cond.initialized RX7 ∈ WD := WD_mem (i := 112) (by decide +kernel) rfl
theorem wnX7_init : Cond.instanceMethod yX7_init ∈ WD := WD_mem (i := 141) (by decide +kernel) rfl
theorem ycX7_init : (yX7_init).cls ≠ "java/lang/invoke/MethodHandle" ∧ (yX7_init).cls ≠ "java/lang/invoke/VarHandle" ∧ (parseMethodDescriptor (yX7_init).desc).map (fun d => d.parameters.length) = some 0 := by decide +kernel
theorem wcX4_init : Cond.code yX4_init cX4_init 2 none ∈ WD := WD_mem (i := 158) rfl rfl
theorem wiX4_init : Cond.initialized RX4 ∈ WD := WD_mem (i := 113) (by decide +kernel) rfl
theorem wnX4_init : Cond.instanceMethod yX4_init ∈ WD := WD_mem (i := 157) (by decide +kernel) rfl
theorem ycX4_init : (yX4_init).cls ≠ "java/lang/invoke/MethodHandle" ∧ (yX4_init).cls ≠ "java/lang/invoke/VarHandle" ∧ (parseMethodDescriptor (yX4_init).desc).map (fun d => d.parameters.length) = some 1 := by decide +kernel
theorem wcX2_init : Cond.code yX2_init cX2_init 5 none ∈ WD := WD_mem (i := 203) rfl rfl
theorem wiX2_init : Cond.initialized RX2 ∈ WD := WD_mem (i := 115) (by decide +kernel) rfl
theorem wnX2_init : Cond.instanceMethod yX2_init ∈ WD := WD_mem (i := 202) (by decide +kernel) rfl
theorem ycX2_init : (yX2_init).cls ≠ "java/lang/invoke/MethodHandle" ∧ (yX2_init).cls ≠ "java/lang/invoke/VarHandle" ∧ (parseMethodDescriptor (yX2_init).desc).map (fun d => d.parameters.length) = some 0 := by decide +kernel
theorem wcX5_init : Cond.code yX5_init cX5_init 1 none ∈ WD := WD_mem (i := 234) rfl rfl
theorem wiX5_init : Cond.initialized RX5 ∈ WD := WD_mem (i := 116) (by decide +kernel) rfl
theorem wnX5_init : Cond.instanceMethod yX5_init ∈ WD := WD_mem (i := 233) (by decide +kernel) rfl
theorem ycX5_init : (yX5_init).cls ≠ "java/lang/invoke/MethodHandle" ∧ (yX5_init).cls ≠ "java/lang/invoke/VarHandle" ∧ (parseMethodDescriptor (yX5_init).desc).map (fun d => d.parameters.length) = some 0 := by decide +kernel
theorem wcX0_init : Cond.code yX0_init cX0_init 1 none ∈ WD := WD_mem (i := 286) rfl rfl
theorem wiX0_init : Cond.initialized RX0 ∈ WD := WD_mem (i := 117) (by decide +kernel) rfl
theorem wnX0_init : Cond.instanceMethod yX0_init ∈ WD := WD_mem (i := 285) (by decide +kernel) rfl
theorem ycX0_init : (yX0_init).cls ≠ "java/lang/invoke/MethodHandle" ∧ (yX0_init).cls ≠ "java/lang/invoke/VarHandle" ∧ (parseMethodDescriptor (yX0_init).desc).map (fun d => d.parameters.length) = some 0 := by decide +kernel
theorem wcX9_init : Cond.code yX9_init cX9_init 1 none ∈ WD := WD_mem (i := 388) rfl rfl
theorem wiX9_init : Cond.initialized RX9 ∈ WD := WD_mem (i := 119) (by decide +kernel) rfl
theorem wnX9_init : Cond.instanceMethod yX9_init ∈ WD := WD_mem (i := 387) (by decide +kernel) rfl
theorem ycX9_init : (yX9_init).cls ≠ "java/lang/invoke/MethodHandle" ∧ (yX9_init).cls ≠ "java/lang/invoke/VarHandle" ∧ (parseMethodDescriptor (yX9_init).desc).map (fun d => d.parameters.length) = some 0 := by decide +kernel
theorem wcX3_init : Cond.code yX3_init cX3_init 3 none ∈ WD := WD_mem (i := 421) rfl rfl
theorem wiX3_init : Cond.initialized RX3 ∈ WD := WD_mem (i := 120) (by decide +kernel) rfl
theorem wnX3_init : Cond.instanceMethod yX3_init ∈ WD := WD_mem (i := 420) (by decide +kernel) rfl
theorem ycX3_init : (yX3_init).cls ≠ "java/lang/invoke/MethodHandle" ∧ (yX3_init).cls ≠ "java/lang/invoke/VarHandle" ∧ (parseMethodDescriptor (yX3_init).desc).map (fun d => d.parameters.length) = some 2 := by decide +kernel
theorem wcX10_init : Cond.code yX10_init cX10_init 3 none ∈ WD := WD_mem (i := 443) rfl rfl
theorem wiX10_init : Cond.initialized RX10 ∈ WD := WD_mem (i := 121) (by decide +kernel) rfl
theorem wnX10_init : Cond.instanceMethod yX10_init ∈ WD := WD_mem (i := 442) (by decide +kernel) rfl
theorem ycX10_init : (yX10_init).cls ≠ "java/lang/invoke/MethodHandle" ∧ (yX10_init).cls ≠ "java/lang/invoke/VarHandle" ∧ (parseMethodDescriptor (yX10_init).desc).map (fun d => d.parameters.length) = some 2 := by decide +kernel
theorem wcX6_init : Cond.code yX6_init cX6_init 4 none ∈ WD := WD_mem (i := 474) rfl rfl
theorem wiX6_init : Cond.initialized RX6 ∈ WD := WD_mem (i := 122) (by decide +kernel) rfl
theorem wnX6_init : Cond.instanceMethod yX6_init ∈ WD := WD_mem (i := 473) (by decide +kernel) rfl
theorem ycX6_init : (yX6_init).cls ≠ "java/lang/invoke/MethodHandle" ∧ (yX6_init).cls ≠ "java/lang/invoke/VarHandle" ∧ (parseMethodDescriptor (yX6_init).desc).map (fun d => d.parameters.length) = some 3 := by decide +kernel
theorem iokX11_9 : iok RX11 9 yX7_init cX7_init 1 := ⟨Or.inr ⟨_, List.mem_of_getElem? (i := 0) rfl⟩, wnX7_init, wiX7_init, wcX7_init⟩
theorem iokX11_18 : iok RX11 18 yX4_init cX4_init 2 := ⟨Or.inl (WD_mem (i := 156) (by decide +kernel) rfl), wnX4_init, wiX4_init, wcX4_init⟩
theorem iokX11_27 : iok RX11 27 yX2_init cX2_init 5 := ⟨Or.inl (WD_mem (i := 201) (by decide +kernel) rfl), wnX2_init, wiX2_init, wcX2_init⟩
theorem iokX11_34 : iok RX11 34 yX5_init cX5_init 1 := ⟨Or.inr ⟨_, List.mem_of_getElem? (i := 1) rfl⟩, wnX5_init, wiX5_init, wcX5_init⟩
theorem iokX11_41 : iok RX11 41 yX0_init cX0_init 1 := ⟨Or.inl (WD_mem (i := 284) (by decide +kernel) rfl), wnX0_init, wiX0_init, wcX0_init⟩
theorem iokX11_51 : iok RX11 51 yX9_init cX9_init 1 := ⟨Or.inr ⟨_, List.mem_of_getElem? (i := 2) rfl⟩, wnX9_init, wiX9_init, wcX9_init⟩
theorem iokX11_61 : iok RX11 61 yX3_init cX3_init 3 := ⟨Or.inl (WD_mem (i := 419) (by decide +kernel) rfl), wnX3_init, wiX3_init, wcX3_init⟩
theorem iokX11_70 : iok RX11 70 yX10_init cX10_init 3 := ⟨Or.inl (WD_mem (i := 441) (by decide +kernel) rfl), wnX10_init, wiX10_init, wcX10_init⟩
theorem iokX11_77 : iok RX11 77 yX6_init cX6_init 4 := ⟨Or.inl (WD_mem (i := 472) (by decide +kernel) rfl), wnX6_init, wiX6_init, wcX6_init⟩
theorem iokX0_20 : iok RX0 20 yX1_init cX1_init 1 := ⟨Or.inr ⟨_, List.mem_of_getElem? (i := 3) rfl⟩, wnX1_init, wiX1_init, wcX1_init⟩
theorem iokX4_17 : iok RX4 17 yX8_init cX8_init 2 := ⟨Or.inl (WD_mem (i := 162) (by decide +kernel) rfl), wnX8_init, wiX8_init, wcX8_init⟩
/-! new PassHuts$Tape()V -/
theorem dX7_init_0 : decode cX7_init 0 = .ok (.aload_n 0, 1) := by decide +kernel
theorem dX7_init_1 : decode cX7_init 1 = .ok (.invokespecial 3, 3) := by decide +kernel
theorem dX7_init_4 : decode cX7_init 4 = .ok (.aload_n 0, 1) := by decide +kernel
theorem dX7_init_5 : decode cX7_init 5 = .ok (.sipush 1000, 3) := by decide +kernel
theorem dX7_init_8 : decode cX7_init 8 = .ok (.newarray .byte, 2) := by decide +kernel
theorem dX7_init_10 : decode cX7_init 10 = .ok (.putfield 9, 3) := by decide +kernel
theorem dX7_init_13 : decode cX7_init 13 = .ok (.return_, 1) := by decide +kernel
abbrev tX7_init (k : Nat) : MT := (RX7, cX7_init, 1, k, none)
def nX7_init : KX := ctorOf 1 1 1000 (fun cN => (nSeq nSuper (nArr cN 1000 7 0 2 1000 (1000, .inl (fun _ => 0)))))
theorem kkX7_init (g : GT) : KK g 1 yX7_init cX7_init 1 1 1000 nX7_init := KK.of (pc1 := 13) rfl rfl (fun cN => (Nok.seq (pc1 := 4) (Nok.super oiX7_3 oi_inst oi_code (by decide) dX7_init_0 dX7_init_1) (Nok.arrB (ci := 7) (T := TX7) (NN := 2) (tt := tyX7) (j := 0) (L := 1000) (n := 1000) (pc1 := 8) rfl wsX7_in tyX7_ok nmX7 (by decide) flX7_9 rfl (fun _ => rfl) (fun _ => rfl) ac_byte (by decide) (by decide) (by decide) dX7_init_4 (fun _ => (EokI.sipush (v := 1000) dX7_init_5 (by decide))) dX7_init_8 dX7_init_10))) dX7_init_13
/-! new PassHuts$Tokens(LPassHuts$Tape;)V -/
theorem dX8_init_0 : decode cX8_init 0 = .ok (.aload_n 0, 1) := by decide +kernel
theorem dX8_init_1 : decode cX8_init 1 = .ok (.invokespecial 1, 3) := by decide +kernel
theorem dX8_init_4 : decode cX8_init 4 = .ok (.aload_n 0, 1) := by decide +kernel
theorem dX8_init_5 : decode cX8_init 5 = .ok (.aload_n 1, 1) := by decide +kernel
theorem dX8_init_6 : decode cX8_init 6 = .ok (.putfield 7, 3) := by decide +kernel
theorem dX8_init_9 : decode cX8_init 9 = .ok (.return_, 1) := by decide +kernel
abbrev tX8_init (k : Nat) : MT := (RX8, cX8_init, 2, k, none)
def nX8_init : KX := ctorOf 2 0 0 (fun cN => (nSeq nSuper (nPutR 8 0 1)))
theorem kkX8_init (g : GT) : KK g 1 yX8_init cX8_init 2 0 0 nX8_init := KK.of (pc1 := 9) rfl rfl (fun cN => (Nok.seq (pc1 := 4) (Nok.super oiX8_1 oi_inst oi_code (by decide) dX8_init_0 dX8_init_1) (Nok.putR (ci := 8) (T := TX8) (NN := 6) (tt := tyX8) (j := 0) (i := 1) (i4 := 1) rfl wsX8_in tyX8_ok nmX8 (by decide) flX8_7 rfl (fun _ => rfl) (fun _ => rfl) rfl dX8_init_4 dX8_init_5 dX8_init_6))) dX8_init_9
/-! new PassHuts$Reader(LPassHuts$Tape;)V -/
theorem dX4_init_0 : decode cX4_init 0 = .ok (.aload_n 0, 1) := by decide +kernel
theorem dX4_init_1 : decode cX4_init 1 = .ok (.invokespecial 3, 3) := by decide +kernel
theorem dX4_init_4 : decode cX4_init 4 = .ok (.aload_n 0, 1) := by decide +kernel
theorem dX4_init_5 : decode cX4_init 5 = .ok (.aload_n 1, 1) := by decide +kernel
theorem dX4_init_6 : decode cX4_init 6 = .ok (.putfield 9, 3) := by decide +kernel
theorem dX4_init_9 : decode cX4_init 9 = .ok (.aload_n 0, 1) := by decide +kernel
theorem dX4_init_10 : decode cX4_init 10 = .ok (.new 15, 3) := by decide +kernel
theorem dX4_init_13 : decode cX4_init 13 = .ok (.dup, 1) := by decide +kernel
theorem dX4_init_14 : decode cX4_init 14 = .ok (.aload_n 1, 1) := by decide +kernel
theorem dX4_init_15 : decode cX4_init 15 = .ok (.invokespecial 17, 3) := by decide +kernel
theorem dX4_init_18 : decode cX4_init 18 = .ok (.putfield 20, 3) := by decide +kernel
theorem dX4_init_21 : decode cX4_init 21 = .ok (.return_, 1) := by decide +kernel
abbrev tX4_init (k : Nat) : MT := (RX4, cX4_init, 2, k, none)
def nX4_init : KX := ctorOf 2 1 6 (fun cN => (nSeq nSuper (nSeq (nPutR 4 0 1) (nObj cN 6 4 1 8 6 0 0 [.null, .int 0, .int 0, .int 0, .int 0, .long 0] (aR (rLoc 1) aNil) nX8_init))))
theorem kkX4_init (g : GT) : KK g 2 yX4_init cX4_init 2 1 6 nX4_init := KK.of (pc1 := 21) rfl rfl (fun cN => (Nok.seq (pc1 := 4) (Nok.super oiX4_3 oi_inst oi_code (by decide) dX4_init_0 dX4_init_1) (Nok.seq (pc1 := 9) (Nok.putR (ci := 4) (T := TX4) (NN := 3) (tt := tyX4) (j := 0) (i := 1) (i4 := 1) rfl wsX4_in tyX4_ok nmX4 (by decide) flX4_9 rfl (fun _ => rfl) (fun _ => rfl) rfl dX4_init_4 dX4_init_5 dX4_init_6) (Nok.obj (ci := 4) (T := TX4) (NN := 3) (tt := tyX4) (j := 1) (ci2 := 8) (T2 := TX8) (NN2 := 6) (tt2 := tyX8) (fs2 := [.null, .int 0, .int 0, .int 0, .int 0, .long 0]) (mc := 0) (ms := 0) (pc1 := 15) rfl wsX4_in tyX4_ok nmX4 (by decide) flX4_20 rfl (fun _ => rfl) (fun _ => rfl) rfl wsX8_in tyX8_ok clX4_15 ins_X8 wiX8_init dv_X8 (fun _ => rfl) (kkX8_init g) ycX8_init rfl iokX4_17 (by decide) (by decide) dX4_init_9 dX4_init_10 dX4_init_13 (fun _ => (Aok.aR (pc1 := 15) (EokR.aload_n (q := 1) dX4_init_14) Aok.nil)) (by decide) dX4_init_15 dX4_init_18)))) dX4_init_21
/-! new PassHuts$Lyings()V -/
theorem dX2_init_0 : decode cX2_init 0 = .ok (.aload_n 0, 1) := by decide +kernel
theorem dX2_init_1 : decode cX2_init 1 = .ok (.invokespecial 3, 3) := by decide +kernel
theorem dX2_init_4 : decode cX2_init 4 = .ok (.aload_n 0, 1) := by decide +kernel
theorem dX2_init_5 : decode cX2_init 5 = .ok (.sipush 6188, 3) := by decide +kernel
theorem dX2_init_8 : decode cX2_init 8 = .ok (.newarray .int, 2) := by decide +kernel
theorem dX2_init_10 : decode cX2_init 10 = .ok (.putfield 9, 3) := by decide +kernel
theorem dX2_init_13 : decode cX2_init 13 = .ok (.aload_n 0, 1) := by decide +kernel
theorem dX2_init_14 : decode cX2_init 14 = .ok (.sipush 3328, 3) := by decide +kernel
theorem dX2_init_17 : decode cX2_init 17 = .ok (.newarray .int, 2) := by decide +kernel
theorem dX2_init_19 : decode cX2_init 19 = .ok (.putfield 15, 3) := by decide +kernel
theorem dX2_init_22 : decode cX2_init 22 = .ok (.aload_n 0, 1) := by decide +kernel
theorem dX2_init_23 : decode cX2_init 23 = .ok (.sipush 3328, 3) := by decide +kernel
theorem dX2_init_26 : decode cX2_init 26 = .ok (.newarray .int, 2) := by decide +kernel
theorem dX2_init_28 : decode cX2_init 28 = .ok (.putfield 18, 3) := by decide +kernel
theorem dX2_init_31 : decode cX2_init 31 = .ok (.aload_n 0, 1) := by decide +kernel
theorem dX2_init_32 : decode cX2_init 32 = .ok (.bipush 13, 2) := by decide +kernel
theorem dX2_init_34 : decode cX2_init 34 = .ok (.newarray .int, 2) := by decide +kernel
theorem dX2_init_36 : decode cX2_init 36 = .ok (.putfield 21, 3) := by decide +kernel
theorem dX2_init_39 : decode cX2_init 39 = .ok (.aload_n 0, 1) := by decide +kernel
theorem dX2_init_40 : decode cX2_init 40 = .ok (.bipush 78, 2) := by decide +kernel
theorem dX2_init_42 : decode cX2_init 42 = .ok (.newarray .int, 2) := by decide +kernel
theorem dX2_init_44 : decode cX2_init 44 = .ok (.putfield 24, 3) := by decide +kernel
theorem dX2_init_47 : decode cX2_init 47 = .ok (.iconst 0, 1) := by decide +kernel
theorem dX2_init_48 : decode cX2_init 48 = .ok (.istore_n 1, 1) := by decide +kernel
theorem dX2_init_49 : decode cX2_init 49 = .ok (.iconst 0, 1) := by decide +kernel
theorem dX2_init_50 : decode cX2_init 50 = .ok (.istore_n 2, 1) := by decide +kernel
theorem dX2_init_51 : decode cX2_init 51 = .ok (.iload_n 2, 1) := by decide +kernel
theorem dX2_init_52 : decode cX2_init 52 = .ok (.bipush 13, 2) := by decide +kernel
theorem dX2_init_54 : decode cX2_init 54 = .ok (.if_icmp .ge 81, 3) := by decide +kernel
theorem dX2_init_57 : decode cX2_init 57 = .ok (.aload_n 0, 1) := by decide +kernel
theorem dX2_init_58 : decode cX2_init 58 = .ok (.getfield 21, 3) := by decide +kernel
theorem dX2_init_61 : decode cX2_init 61 = .ok (.iload_n 2, 1) := by decide +kernel
theorem dX2_init_62 : decode cX2_init 62 = .ok (.iload_n 1, 1) := by decide +kernel
theorem dX2_init_63 : decode cX2_init 63 = .ok (.iastore, 1) := by decide +kernel
theorem dX2_init_64 : decode cX2_init 64 = .ok (.iconst 0, 1) := by decide +kernel
theorem dX2_init_65 : decode cX2_init 65 = .ok (.istore_n 3, 1) := by decide +kernel
theorem dX2_init_66 : decode cX2_init 66 = .ok (.iload_n 3, 1) := by decide +kernel
theorem dX2_init_67 : decode cX2_init 67 = .ok (.iload_n 2, 1) := by decide +kernel
theorem dX2_init_68 : decode cX2_init 68 = .ok (.if_icmp .gt 61, 3) := by decide +kernel
theorem dX2_init_71 : decode cX2_init 71 = .ok (.iconst 0, 1) := by decide +kernel
theorem dX2_init_72 : decode cX2_init 72 = .ok (.istore 4, 2) := by decide +kernel
theorem dX2_init_74 : decode cX2_init 74 = .ok (.iload 4, 2) := by decide +kernel
theorem dX2_init_76 : decode cX2_init 76 = .ok (.iload_n 2, 1) := by decide +kernel
theorem dX2_init_77 : decode cX2_init 77 = .ok (.iload_n 3, 1) := by decide +kernel
theorem dX2_init_78 : decode cX2_init 78 = .ok (.isub, 1) := by decide +kernel
theorem dX2_init_79 : decode cX2_init 79 = .ok (.if_icmp .gt 44, 3) := by decide +kernel
theorem dX2_init_82 : decode cX2_init 82 = .ok (.aload_n 0, 1) := by decide +kernel
theorem dX2_init_83 : decode cX2_init 83 = .ok (.getfield 15, 3) := by decide +kernel
theorem dX2_init_86 : decode cX2_init 86 = .ok (.iload_n 2, 1) := by decide +kernel
theorem dX2_init_87 : decode cX2_init 87 = .ok (.bipush 8, 2) := by decide +kernel
theorem dX2_init_89 : decode cX2_init 89 = .ok (.ishl, 1) := by decide +kernel
theorem dX2_init_90 : decode cX2_init 90 = .ok (.iload_n 3, 1) := by decide +kernel
theorem dX2_init_91 : decode cX2_init 91 = .ok (.iconst 4, 1) := by decide +kernel
theorem dX2_init_92 : decode cX2_init 92 = .ok (.ishl, 1) := by decide +kernel
theorem dX2_init_93 : decode cX2_init 93 = .ok (.ior, 1) := by decide +kernel
theorem dX2_init_94 : decode cX2_init 94 = .ok (.iload 4, 2) := by decide +kernel
theorem dX2_init_96 : decode cX2_init 96 = .ok (.ior, 1) := by decide +kernel
theorem dX2_init_97 : decode cX2_init 97 = .ok (.iload_n 1, 1) := by decide +kernel
theorem dX2_init_98 : decode cX2_init 98 = .ok (.iastore, 1) := by decide +kernel
theorem dX2_init_99 : decode cX2_init 99 = .ok (.aload_n 0, 1) := by decide +kernel
theorem dX2_init_100 : decode cX2_init 100 = .ok (.iload_n 2, 1) := by decide +kernel
theorem dX2_init_101 : decode cX2_init 101 = .ok (.iload_n 3, 1) := by decide +kernel
theorem dX2_init_102 : decode cX2_init 102 = .ok (.isub, 1) := by decide +kernel
theorem dX2_init_103 : decode cX2_init 103 = .ok (.iload 4, 2) := by decide +kernel
theorem dX2_init_105 : decode cX2_init 105 = .ok (.isub, 1) := by decide +kernel
theorem dX2_init_106 : decode cX2_init 106 = .ok (.iload_n 3, 1) := by decide +kernel
theorem dX2_init_107 : decode cX2_init 107 = .ok (.iconst 4, 1) := by decide +kernel
theorem dX2_init_108 : decode cX2_init 108 = .ok (.ishl, 1) := by decide +kernel
theorem dX2_init_109 : decode cX2_init 109 = .ok (.iload 4, 2) := by decide +kernel
theorem dX2_init_111 : decode cX2_init 111 = .ok (.ior, 1) := by decide +kernel
theorem dX2_init_112 : decode cX2_init 112 = .ok (.iload_n 1, 1) := by decide +kernel
theorem dX2_init_113 : decode cX2_init 113 = .ok (.invokevirtual 27, 3) := by decide +kernel
theorem dX2_init_116 : decode cX2_init 116 = .ok (.istore_n 1, 1) := by decide +kernel
theorem dX2_init_117 : decode cX2_init 117 = .ok (.iinc 4 1, 3) := by decide +kernel
theorem dX2_init_120 : decode cX2_init 120 = .ok (.goto (-46), 3) := by decide +kernel
theorem dX2_init_123 : decode cX2_init 123 = .ok (.iinc 3 1, 3) := by decide +kernel
theorem dX2_init_126 : decode cX2_init 126 = .ok (.goto (-60), 3) := by decide +kernel
theorem dX2_init_129 : decode cX2_init 129 = .ok (.iinc 2 1, 3) := by decide +kernel
theorem dX2_init_132 : decode cX2_init 132 = .ok (.goto (-81), 3) := by decide +kernel
theorem dX2_init_135 : decode cX2_init 135 = .ok (.aload_n 0, 1) := by decide +kernel
theorem dX2_init_136 : decode cX2_init 136 = .ok (.invokevirtual 31, 3) := by decide +kernel
theorem dX2_init_139 : decode cX2_init 139 = .ok (.return_, 1) := by decide +kernel
abbrev tX2_init (k : Nat) : MT := (RX2, cX2_init, 5, k, none)
def lX2_init_1 : SX := (sLoop (cB rle (iLoc 4) (iB gT2 (· - ·) (iLoc 2) (iLoc 3))) (sSeq (sASt 0 narI (rGet 2 1 (rLoc 0)) (iB gT2 (· ||| ·) (iB gT2 (· ||| ·) (iB gT2 jshl (iLoc 2) (iK 8)) (iB gT2 jshl (iLoc 3) (iK 4))) (iLoc 4)) (iLoc 1)) (sSetI 1 (iCallV 2 mX2_addLowest (aR (rLoc 0) (aI (iB gT2 (· - ·) (iB gT2 (· - ·) (iLoc 2) (iLoc 3)) (iLoc 4)) (aI (iB gT2 (· ||| ·) (iB gT2 jshl (iLoc 3) (iK 4)) (iLoc 4)) (aI (iLoc 1) aNil))))))) (sInc 4 1))
def lX2_init_2 : SX := (sLoop (cB rle (iLoc 3) (iLoc 2)) (sSeq (sSetI 4 (iK 0)) lX2_init_1) (sSeq (sForget 4) (sInc 3 1)))
def lX2_init_3 : SX := (sLoop (cB rlt (iLoc 2) (iK 13)) (sSeq (sASt 0 narI (rGet 2 3 (rLoc 0)) (iLoc 2) (iLoc 1)) (sSeq (sSetI 3 (iK 0)) lX2_init_2)) (sSeq (sForget 3) (sInc 2 1)))
theorem olX2_init_1 (g : GT) {pcB pcC : Nat} : Sok g (tX2_init 1) 74 123 pcB pcC lX2_init_1 := (Sok.loop (pc := 74) (pc1 := 82) (pc2 := 117) (pcN := 123) (Cok.cmp (pc1 := 76) (pc2 := 79) (pcT := 82) (pcF := 123) (EokI.iload (i := 4) dX2_init_74) (EokI.bin (pc1 := 77) (pc2 := 78) (EokI.iload_n (q := 2) dX2_init_76) (EokI.iload_n (q := 3) dX2_init_77) (OPI.isub dX2_init_78)) (JI.leF (tgt := 123) dX2_init_79 (by decide))) (by decide) (Sok.seq (pc1 := 99) (Sok.iASt (pc1 := 86) (pc2 := 97) (pc3 := 98) (EokR.getf (pc1 := 83) (j := 1) (ci := 2) (T := TX2) (N := 5) (EokR.aload_n (q := 0) dX2_init_82) rfl wsX2_in (by decide) flX2_15 dX2_init_83) (EokI.bin (pc1 := 94) (pc2 := 96) (EokI.bin (pc1 := 90) (pc2 := 93) (EokI.bin (pc1 := 87) (pc2 := 89) (EokI.iload_n (q := 2) dX2_init_86) (EokI.bipush (v := 8) dX2_init_87 (by decide)) (OPI.ishl dX2_init_89)) (EokI.bin (pc1 := 91) (pc2 := 92) (EokI.iload_n (q := 3) dX2_init_90) (EokI.iconst (v := 4) dX2_init_91 (by decide)) (OPI.ishl dX2_init_92)) (OPI.ior dX2_init_93)) (EokI.iload (i := 4) dX2_init_94) (OPI.ior dX2_init_96)) (EokI.iload_n (q := 1) dX2_init_97) (by decide) dX2_init_98) (Sok.setI_n (q := 1) (pc1 := 116) (EokI.iCallV (pc1 := 113) (Aok.aR (pc1 := 100) (EokR.aload_n (q := 0) dX2_init_99) (Aok.aI (pc1 := 106) (EokI.bin (pc1 := 103) (pc2 := 105) (EokI.bin (pc1 := 101) (pc2 := 102) (EokI.iload_n (q := 2) dX2_init_100) (EokI.iload_n (q := 3) dX2_init_101) (OPI.isub dX2_init_102)) (EokI.iload (i := 4) dX2_init_103) (OPI.isub dX2_init_105)) (Aok.aI (pc1 := 112) (EokI.bin (pc1 := 109) (pc2 := 111) (EokI.bin (pc1 := 107) (pc2 := 108) (EokI.iload_n (q := 3) dX2_init_106) (EokI.iconst (v := 4) dX2_init_107 (by decide)) (OPI.ishl dX2_init_108)) (EokI.iload (i := 4) dX2_init_109) (OPI.ior dX2_init_111)) (Aok.aI (pc1 := 113) (EokI.iload_n (q := 1) dX2_init_112) Aok.nil)))) (kX2_addLowest g) rfl ykX2_addLowest vkX2_27 (by decide) (by decide) dX2_init_113) (by decide) dX2_init_116 (show 1 < 5 by decide))) (Sok.goto (pc1 := 120) (pcN := 74) (Sok.iinc (i := 4) (v := 1) dX2_init_117 (show 4 < 5 by decide) (by decide)) dX2_init_120 (by decide)))
theorem olX2_init_2 (g : GT) {pcB pcC : Nat} : Sok g (tX2_init 1) 66 129 pcB pcC lX2_init_2 := (Sok.loop (pc := 66) (pc1 := 71) (pc2 := 123) (pcN := 129) (Cok.cmp (pc1 := 67) (pc2 := 68) (pcT := 71) (pcF := 129) (EokI.iload_n (q := 3) dX2_init_66) (EokI.iload_n (q := 2) dX2_init_67) (JI.leF (tgt := 129) dX2_init_68 (by decide))) (by decide) (Sok.seq (pc1 := 74) (Sok.setI (i := 4) (pc1 := 72) (EokI.iconst (v := 0) dX2_init_71 (by decide)) (by decide) dX2_init_72 (show 4 < 5 by decide)) (olX2_init_1 g )) (Sok.seq (pc1 := 123) Sok.forget (Sok.goto (pc1 := 126) (pcN := 66) (Sok.iinc (i := 3) (v := 1) dX2_init_123 (show 3 < 5 by decide) (by decide)) dX2_init_126 (by decide))))
theorem olX2_init_3 (g : GT) {pcB pcC : Nat} : Sok g (tX2_init 1) 51 135 pcB pcC lX2_init_3 := (Sok.loop (pc := 51) (pc1 := 57) (pc2 := 129) (pcN := 135) (Cok.cmp (pc1 := 52) (pc2 := 54) (pcT := 57) (pcF := 135) (EokI.iload_n (q := 2) dX2_init_51) (EokI.bipush (v := 13) dX2_init_52 (by decide)) (JI.ltF (tgt := 135) dX2_init_54 (by decide))) (by decide) (Sok.seq (pc1 := 64) (Sok.iASt (pc1 := 61) (pc2 := 62) (pc3 := 63) (EokR.getf (pc1 := 58) (j := 3) (ci := 2) (T := TX2) (N := 5) (EokR.aload_n (q := 0) dX2_init_57) rfl wsX2_in (by decide) flX2_21 dX2_init_58) (EokI.iload_n (q := 2) dX2_init_61) (EokI.iload_n (q := 1) dX2_init_62) (by decide) dX2_init_63) (Sok.seq (pc1 := 66) (Sok.setI_n (q := 3) (pc1 := 65) (EokI.iconst (v := 0) dX2_init_64 (by decide)) (by decide) dX2_init_65 (show 3 < 5 by decide)) (olX2_init_2 g ))) (Sok.seq (pc1 := 129) Sok.forget (Sok.goto (pc1 := 132) (pcN := 51) (Sok.iinc (i := 2) (v := 1) dX2_init_129 (show 2 < 5 by decide) (by decide)) dX2_init_132 (by decide))))
def nX2_init : KX := ctorOf 5 5 12935 (fun cN => (nSeq nSuper (nSeq (nArr cN 12935 2 0 0 6188 (6188, .inl (fun _ => 0))) (nSeq (nArr cN 12935 2 1 0 3328 (3328, .inl (fun _ => 0))) (nSeq (nArr cN 12935 2 2 0 3328 (3328, .inl (fun _ => 0))) (nSeq (nArr cN 12935 2 3 0 13 (13, .inl (fun _ => 0))) (nSeq (nArr cN 12935 2 4 0 78 (78, .inl (fun _ => 0))) (nStmt (sSeq (sSetI 1 (iK 0)) (sSeq (sSeq (sSeq (sSetI 2 (iK 0)) lX2_init_3) (sForget 2)) (sCallV 2 mX2_fillEnds (aR (rLoc 0) aNil))))))))))))
theorem kkX2_init (g : GT) : KK g 1 yX2_init cX2_init 5 5 12935 nX2_init := KK.of (pc1 := 139) rfl rfl (fun cN => (Nok.seq (pc1 := 4) (Nok.super oiX2_3 oi_inst oi_code (by decide) dX2_init_0 dX2_init_1) (Nok.seq (pc1 := 13) (Nok.arrI (ci := 2) (T := TX2) (NN := 5) (tt := tyX2) (j := 0) (L := 6188) (n := 6188) (pc1 := 8) rfl wsX2_in tyX2_ok nmX2 (by decide) flX2_9 rfl (fun _ => rfl) (fun _ => rfl) ac_int (by decide) (by decide) (by decide) dX2_init_4 (fun _ => (EokI.sipush (v := 6188) dX2_init_5 (by decide))) dX2_init_8 dX2_init_10) (Nok.seq (pc1 := 22) (Nok.arrI (ci := 2) (T := TX2) (NN := 5) (tt := tyX2) (j := 1) (L := 3328) (n := 3328) (pc1 := 17) rfl wsX2_in tyX2_ok nmX2 (by decide) flX2_15 rfl (fun _ => rfl) (fun _ => rfl) ac_int (by decide) (by decide) (by decide) dX2_init_13 (fun _ => (EokI.sipush (v := 3328) dX2_init_14 (by decide))) dX2_init_17 dX2_init_19) (Nok.seq (pc1 := 31) (Nok.arrI (ci := 2) (T := TX2) (NN := 5) (tt := tyX2) (j := 2) (L := 3328) (n := 3328) (pc1 := 26) rfl wsX2_in tyX2_ok nmX2 (by decide) flX2_18 rfl (fun _ => rfl) (fun _ => rfl) ac_int (by decide) (by decide) (by decide) dX2_init_22 (fun _ => (EokI.sipush (v := 3328) dX2_init_23 (by decide))) dX2_init_26 dX2_init_28) (Nok.seq (pc1 := 39) (Nok.arrI (ci := 2) (T := TX2) (NN := 5) (tt := tyX2) (j := 3) (L := 13) (n := 13) (pc1 := 34) rfl wsX2_in tyX2_ok nmX2 (by decide) flX2_21 rfl (fun _ => rfl) (fun _ => rfl) ac_int (by decide) (by decide) (by decide) dX2_init_31 (fun _ => (EokI.bipush (v := 13) dX2_init_32 (by decide))) dX2_init_34 dX2_init_36) (Nok.seq (pc1 := 47) (Nok.arrI (ci := 2) (T := TX2) (NN := 5) (tt := tyX2) (j := 4) (L := 78) (n := 78) (pc1 := 42) rfl wsX2_in tyX2_ok nmX2 (by decide) flX2_24 rfl (fun _ => rfl) (fun _ => rfl) ac_int (by decide) (by decide) (by decide) dX2_init_39 (fun _ => (EokI.bipush (v := 78) dX2_init_40 (by decide))) dX2_init_42 dX2_init_44) (Nok.stmt (fun g9 => (Sok.seq (pc1 := 49) (Sok.setI_n (q := 1) (pc1 := 48) (EokI.iconst (v := 0) dX2_init_47 (by decide)) (by decide) dX2_init_48 (show 1 < 5 by decide)) (Sok.seq (pc1 := 135) (Sok.seq (pc1 := 135) (Sok.seq (pc1 := 51) (Sok.setI_n (q := 2) (pc1 := 50) (EokI.iconst (v := 0) dX2_init_49 (by decide)) (by decide) dX2_init_50 (show 2 < 5 by decide)) (olX2_init_3 g9 )) (Sok.forget (pc := 135))) (Sok.sCallV (pc1 := 136) (Aok.aR (pc1 := 136) (EokR.aload_n (q := 0) dX2_init_135) Aok.nil) (by decide) (kX2_fillEnds g9) rfl ykX2_fillEnds vkX2_31 (by decide) (by decide) dX2_init_136)))))))))))) dX2_init_139
/-! new PassHuts$Story()V -/
theorem dX5_init_0 : decode cX5_init 0 = .ok (.aload_n 0, 1) := by decide +kernel
theorem dX5_init_1 : decode cX5_init 1 = .ok (.invokespecial 3, 3) := by decide +kernel
theorem dX5_init_4 : decode cX5_init 4 = .ok (.aload_n 0, 1) := by decide +kernel
theorem dX5_init_5 : decode cX5_init 5 = .ok (.bipush 16, 2) := by decide +kernel
theorem dX5_init_7 : decode cX5_init 7 = .ok (.newarray .int, 2) := by decide +kernel
theorem dX5_init_9 : decode cX5_init 9 = .ok (.putfield 9, 3) := by decide +kernel
theorem dX5_init_12 : decode cX5_init 12 = .ok (.aload_n 0, 1) := by decide +kernel
theorem dX5_init_13 : decode cX5_init 13 = .ok (.bipush 16, 2) := by decide +kernel
theorem dX5_init_15 : decode cX5_init 15 = .ok (.newarray .int, 2) := by decide +kernel
theorem dX5_init_17 : decode cX5_init 17 = .ok (.putfield 15, 3) := by decide +kernel
theorem dX5_init_20 : decode cX5_init 20 = .ok (.aload_n 0, 1) := by decide +kernel
theorem dX5_init_21 : decode cX5_init 21 = .ok (.bipush 8, 2) := by decide +kernel
theorem dX5_init_23 : decode cX5_init 23 = .ok (.newarray .int, 2) := by decide +kernel
theorem dX5_init_25 : decode cX5_init 25 = .ok (.putfield 18, 3) := by decide +kernel
theorem dX5_init_28 : decode cX5_init 28 = .ok (.aload_n 0, 1) := by decide +kernel
theorem dX5_init_29 : decode cX5_init 29 = .ok (.iconst 4, 1) := by decide +kernel
theorem dX5_init_30 : decode cX5_init 30 = .ok (.newarray .boolean, 2) := by decide +kernel
theorem dX5_init_32 : decode cX5_init 32 = .ok (.putfield 21, 3) := by decide +kernel
theorem dX5_init_35 : decode cX5_init 35 = .ok (.aload_n 0, 1) := by decide +kernel
theorem dX5_init_36 : decode cX5_init 36 = .ok (.iconst 4, 1) := by decide +kernel
theorem dX5_init_37 : decode cX5_init 37 = .ok (.newarray .int, 2) := by decide +kernel
theorem dX5_init_39 : decode cX5_init 39 = .ok (.putfield 25, 3) := by decide +kernel
theorem dX5_init_42 : decode cX5_init 42 = .ok (.aload_n 0, 1) := by decide +kernel
theorem dX5_init_43 : decode cX5_init 43 = .ok (.iconst 4, 1) := by decide +kernel
theorem dX5_init_44 : decode cX5_init 44 = .ok (.newarray .int, 2) := by decide +kernel
theorem dX5_init_46 : decode cX5_init 46 = .ok (.putfield 28, 3) := by decide +kernel
theorem dX5_init_49 : decode cX5_init 49 = .ok (.aload_n 0, 1) := by decide +kernel
theorem dX5_init_50 : decode cX5_init 50 = .ok (.iconst 4, 1) := by decide +kernel
theorem dX5_init_51 : decode cX5_init 51 = .ok (.newarray .int, 2) := by decide +kernel
theorem dX5_init_53 : decode cX5_init 53 = .ok (.putfield 31, 3) := by decide +kernel
theorem dX5_init_56 : decode cX5_init 56 = .ok (.aload_n 0, 1) := by decide +kernel
theorem dX5_init_57 : decode cX5_init 57 = .ok (.bipush 32, 2) := by decide +kernel
theorem dX5_init_59 : decode cX5_init 59 = .ok (.newarray .int, 2) := by decide +kernel
theorem dX5_init_61 : decode cX5_init 61 = .ok (.putfield 34, 3) := by decide +kernel
theorem dX5_init_64 : decode cX5_init 64 = .ok (.return_, 1) := by decide +kernel
abbrev tX5_init (k : Nat) : MT := (RX5, cX5_init, 1, k, none)
def nX5_init : KX := ctorOf 1 8 88 (fun cN => (nSeq nSuper (nSeq (nArr cN 88 5 0 0 16 (16, .inl (fun _ => 0))) (nSeq (nArr cN 88 5 1 0 16 (16, .inl (fun _ => 0))) (nSeq (nArr cN 88 5 2 0 8 (8, .inl (fun _ => 0))) (nSeq (nArr cN 88 5 3 3 4 (4, .inl (fun _ => 0))) (nSeq (nArr cN 88 5 4 0 4 (4, .inl (fun _ => 0))) (nSeq (nArr cN 88 5 5 0 4 (4, .inl (fun _ => 0))) (nSeq (nArr cN 88 5 6 0 4 (4, .inl (fun _ => 0))) (nArr cN 88 5 7 0 32 (32, .inl (fun _ => 0))))))))))))
theorem kkX5_init (g : GT) : KK g 1 yX5_init cX5_init 1 8 88 nX5_init := KK.of (pc1 := 64) rfl rfl (fun cN => (Nok.seq (pc1 := 4) (Nok.super oiX5_3 oi_inst oi_code (by decide) dX5_init_0 dX5_init_1) (Nok.seq (pc1 := 12) (Nok.arrI (ci := 5) (T := TX5) (NN := 13) (tt := tyX5) (j := 0) (L := 16) (n := 16) (pc1 := 7) rfl wsX5_in tyX5_ok nmX5 (by decide) flX5_9 rfl (fun _ => rfl) (fun _ => rfl) ac_int (by decide) (by decide) (by decide) dX5_init_4 (fun _ => (EokI.bipush (v := 16) dX5_init_5 (by decide))) dX5_init_7 dX5_init_9) (Nok.seq (pc1 := 20) (Nok.arrI (ci := 5) (T := TX5) (NN := 13) (tt := tyX5) (j := 1) (L := 16) (n := 16) (pc1 := 15) rfl wsX5_in tyX5_ok nmX5 (by decide) flX5_15 rfl (fun _ => rfl) (fun _ => rfl) ac_int (by decide) (by decide) (by decide) dX5_init_12 (fun _ => (EokI.bipush (v := 16) dX5_init_13 (by decide))) dX5_init_15 dX5_init_17) (Nok.seq (pc1 := 28) (Nok.arrI (ci := 5) (T := TX5) (NN := 13) (tt := tyX5) (j := 2) (L := 8) (n := 8) (pc1 := 23) rfl wsX5_in tyX5_ok nmX5 (by decide) flX5_18 rfl (fun _ => rfl) (fun _ => rfl) ac_int (by decide) (by decide) (by decide) dX5_init_20 (fun _ => (EokI.bipush (v := 8) dX5_init_21 (by decide))) dX5_init_23 dX5_init_25) (Nok.seq (pc1 := 35) (Nok.arrZ (ci := 5) (T := TX5) (NN := 13) (tt := tyX5) (j := 3) (L := 4) (n := 4) (pc1 := 30) rfl wsX5_in tyX5_ok nmX5 (by decide) flX5_21 rfl (fun _ => rfl) (fun _ => rfl) ac_boolean (by decide) (by decide) (by decide) dX5_init_28 (fun _ => (EokI.iconst (v := 4) dX5_init_29 (by decide))) dX5_init_30 dX5_init_32) (Nok.seq (pc1 := 42) (Nok.arrI (ci := 5) (T := TX5) (NN := 13) (tt := tyX5) (j := 4) (L := 4) (n := 4) (pc1 := 37) rfl wsX5_in tyX5_ok nmX5 (by decide) flX5_25 rfl (fun _ => rfl) (fun _ => rfl) ac_int (by decide) (by decide) (by decide) dX5_init_35 (fun _ => (EokI.iconst (v := 4) dX5_init_36 (by decide))) dX5_init_37 dX5_init_39) (Nok.seq (pc1 := 49) (Nok.arrI (ci := 5) (T := TX5) (NN := 13) (tt := tyX5) (j := 5) (L := 4) (n := 4) (pc1 := 44) rfl wsX5_in tyX5_ok nmX5 (by decide) flX5_28 rfl (fun _ => rfl) (fun _ => rfl) ac_int (by decide) (by decide) (by decide) dX5_init_42 (fun _ => (EokI.iconst (v := 4) dX5_init_43 (by decide))) dX5_init_44 dX5_init_46) (Nok.seq (pc1 := 56) (Nok.arrI (ci := 5) (T := TX5) (NN := 13) (tt := tyX5) (j := 6) (L := 4) (n := 4) (pc1 := 51) rfl wsX5_in tyX5_ok nmX5 (by decide) flX5_31 rfl (fun _ => rfl) (fun _ => rfl) ac_int (by decide) (by decide) (by decide) dX5_init_49 (fun _ => (EokI.iconst (v := 4) dX5_init_50 (by decide))) dX5_init_51 dX5_init_53) (Nok.arrI (ci := 5) (T := TX5) (NN := 13) (tt := tyX5) (j := 7) (L := 32) (n := 32) (pc1 := 59) rfl wsX5_in tyX5_ok nmX5 (by decide) flX5_34 rfl (fun _ => rfl) (fun _ => rfl) ac_int (by decide) (by decide) (by decide) dX5_init_56 (fun _ => (EokI.bipush (v := 32) dX5_init_57 (by decide))) dX5_init_59 dX5_init_61)))))))))) dX5_init_64
/-! new PassHuts$Law()V -/
theorem dX1_init_0 : decode cX1_init 0 = .ok (.aload_n 0, 1) := by decide +kernel
theorem dX1_init_1 : decode cX1_init 1 = .ok (.invokespecial 5, 3) := by decide +kernel
theorem dX1_init_4 : decode cX1_init 4 = .ok (.aload_n 0, 1) := by decide +kernel
theorem dX1_init_5 : decode cX1_init 5 = .ok (.sipush 1000, 3) := by decide +kernel
theorem dX1_init_8 : decode cX1_init 8 = .ok (.newarray .int, 2) := by decide +kernel
theorem dX1_init_10 : decode cX1_init 10 = .ok (.putfield 11, 3) := by decide +kernel
theorem dX1_init_13 : decode cX1_init 13 = .ok (.aload_n 0, 1) := by decide +kernel
theorem dX1_init_14 : decode cX1_init 14 = .ok (.bipush 32, 2) := by decide +kernel
theorem dX1_init_16 : decode cX1_init 16 = .ok (.newarray .int, 2) := by decide +kernel
theorem dX1_init_18 : decode cX1_init 18 = .ok (.putfield 15, 3) := by decide +kernel
theorem dX1_init_21 : decode cX1_init 21 = .ok (.aload_n 0, 1) := by decide +kernel
theorem dX1_init_22 : decode cX1_init 22 = .ok (.iconst 4, 1) := by decide +kernel
theorem dX1_init_23 : decode cX1_init 23 = .ok (.newarray .int, 2) := by decide +kernel
theorem dX1_init_25 : decode cX1_init 25 = .ok (.putfield 18, 3) := by decide +kernel
theorem dX1_init_28 : decode cX1_init 28 = .ok (.aload_n 0, 1) := by decide +kernel
theorem dX1_init_29 : decode cX1_init 29 = .ok (.sipush 138, 3) := by decide +kernel
theorem dX1_init_32 : decode cX1_init 32 = .ok (.newarray .long, 2) := by decide +kernel
theorem dX1_init_34 : decode cX1_init 34 = .ok (.putfield 21, 3) := by decide +kernel
theorem dX1_init_37 : decode cX1_init 37 = .ok (.aload_n 0, 1) := by decide +kernel
theorem dX1_init_38 : decode cX1_init 38 = .ok (.sipush 138, 3) := by decide +kernel
theorem dX1_init_41 : decode cX1_init 41 = .ok (.newarray .long, 2) := by decide +kernel
theorem dX1_init_43 : decode cX1_init 43 = .ok (.putfield 25, 3) := by decide +kernel
theorem dX1_init_46 : decode cX1_init 46 = .ok (.return_, 1) := by decide +kernel
abbrev tX1_init (k : Nat) : MT := (RX1, cX1_init, 1, k, none)
def nX1_init : KX := ctorOf 1 5 1312 (fun cN => (nSeq nSuper (nSeq (nArr cN 1312 1 0 0 1000 (1000, .inl (fun _ => 0))) (nSeq (nArr cN 1312 1 1 0 32 (32, .inl (fun _ => 0))) (nSeq (nArr cN 1312 1 2 0 4 (4, .inl (fun _ => 0))) (nSeq (nArr cN 1312 1 3 1 138 (138, .inr (.inl (fun _ => 0)))) (nArr cN 1312 1 4 1 138 (138, .inr (.inl (fun _ => 0))))))))))
theorem kkX1_init (g : GT) : KK g 1 yX1_init cX1_init 1 5 1312 nX1_init := KK.of (pc1 := 46) rfl rfl (fun cN => (Nok.seq (pc1 := 4) (Nok.super oiX1_5 oi_inst oi_code (by decide) dX1_init_0 dX1_init_1) (Nok.seq (pc1 := 13) (Nok.arrI (ci := 1) (T := TX1) (NN := 6) (tt := tyX1) (j := 0) (L := 1000) (n := 1000) (pc1 := 8) rfl wsX1_in tyX1_ok nmX1 (by decide) flX1_11 rfl (fun _ => rfl) (fun _ => rfl) ac_int (by decide) (by decide) (by decide) dX1_init_4 (fun _ => (EokI.sipush (v := 1000) dX1_init_5 (by decide))) dX1_init_8 dX1_init_10) (Nok.seq (pc1 := 21) (Nok.arrI (ci := 1) (T := TX1) (NN := 6) (tt := tyX1) (j := 1) (L := 32) (n := 32) (pc1 := 16) rfl wsX1_in tyX1_ok nmX1 (by decide) flX1_15 rfl (fun _ => rfl) (fun _ => rfl) ac_int (by decide) (by decide) (by decide) dX1_init_13 (fun _ => (EokI.bipush (v := 32) dX1_init_14 (by decide))) dX1_init_16 dX1_init_18) (Nok.seq (pc1 := 28) (Nok.arrI (ci := 1) (T := TX1) (NN := 6) (tt := tyX1) (j := 2) (L := 4) (n := 4) (pc1 := 23) rfl wsX1_in tyX1_ok nmX1 (by decide) flX1_18 rfl (fun _ => rfl) (fun _ => rfl) ac_int (by decide) (by decide) (by decide) dX1_init_21 (fun _ => (EokI.iconst (v := 4) dX1_init_22 (by decide))) dX1_init_23 dX1_init_25) (Nok.seq (pc1 := 37) (Nok.arrL (ci := 1) (T := TX1) (NN := 6) (tt := tyX1) (j := 3) (L := 138) (n := 138) (pc1 := 32) rfl wsX1_in tyX1_ok nmX1 (by decide) flX1_21 rfl (fun _ => rfl) (fun _ => rfl) ac_long (by decide) (by decide) (by decide) dX1_init_28 (fun _ => (EokI.sipush (v := 138) dX1_init_29 (by decide))) dX1_init_32 dX1_init_34) (Nok.arrL (ci := 1) (T := TX1) (NN := 6) (tt := tyX1) (j := 4) (L := 138) (n := 138) (pc1 := 41) rfl wsX1_in tyX1_ok nmX1 (by decide) flX1_25 rfl (fun _ => rfl) (fun _ => rfl) ac_long (by decide) (by decide) (by decide) dX1_init_37 (fun _ => (EokI.sipush (v := 138) dX1_init_38 (by decide))) dX1_init_41 dX1_init_43))))))) dX1_init_46
/-! new PassHuts$Hills()V -/
theorem dX0_init_0 : decode cX0_init 0 = .ok (.aload_n 0, 1) := by decide +kernel
theorem dX0_init_1 : decode cX0_init 1 = .ok (.invokespecial 3, 3) := by decide +kernel
theorem dX0_init_4 : decode cX0_init 4 = .ok (.aload_n 0, 1) := by decide +kernel
theorem dX0_init_5 : decode cX0_init 5 = .ok (.iconst 5, 1) := by decide +kernel
theorem dX0_init_6 : decode cX0_init 6 = .ok (.newarray .int, 2) := by decide +kernel
theorem dX0_init_8 : decode cX0_init 8 = .ok (.putfield 9, 3) := by decide +kernel
theorem dX0_init_11 : decode cX0_init 11 = .ok (.aload_n 0, 1) := by decide +kernel
theorem dX0_init_12 : decode cX0_init 12 = .ok (.bipush 20, 2) := by decide +kernel
theorem dX0_init_14 : decode cX0_init 14 = .ok (.newarray .int, 2) := by decide +kernel
theorem dX0_init_16 : decode cX0_init 16 = .ok (.putfield 15, 3) := by decide +kernel
theorem dX0_init_19 : decode cX0_init 19 = .ok (.aload_n 0, 1) := by decide +kernel
theorem dX0_init_20 : decode cX0_init 20 = .ok (.new 18, 3) := by decide +kernel
theorem dX0_init_23 : decode cX0_init 23 = .ok (.dup, 1) := by decide +kernel
theorem dX0_init_24 : decode cX0_init 24 = .ok (.invokespecial 20, 3) := by decide +kernel
theorem dX0_init_27 : decode cX0_init 27 = .ok (.putfield 21, 3) := by decide +kernel
theorem dX0_init_30 : decode cX0_init 30 = .ok (.aload_n 0, 1) := by decide +kernel
theorem dX0_init_31 : decode cX0_init 31 = .ok (.iconst 5, 1) := by decide +kernel
theorem dX0_init_32 : decode cX0_init 32 = .ok (.newarray .long, 2) := by decide +kernel
theorem dX0_init_34 : decode cX0_init 34 = .ok (.putfield 25, 3) := by decide +kernel
theorem dX0_init_37 : decode cX0_init 37 = .ok (.aload_n 0, 1) := by decide +kernel
theorem dX0_init_38 : decode cX0_init 38 = .ok (.iconst 5, 1) := by decide +kernel
theorem dX0_init_39 : decode cX0_init 39 = .ok (.newarray .int, 2) := by decide +kernel
theorem dX0_init_41 : decode cX0_init 41 = .ok (.putfield 29, 3) := by decide +kernel
theorem dX0_init_44 : decode cX0_init 44 = .ok (.aload_n 0, 1) := by decide +kernel
theorem dX0_init_45 : decode cX0_init 45 = .ok (.bipush 25, 2) := by decide +kernel
theorem dX0_init_47 : decode cX0_init 47 = .ok (.newarray .int, 2) := by decide +kernel
theorem dX0_init_49 : decode cX0_init 49 = .ok (.putfield 32, 3) := by decide +kernel
theorem dX0_init_52 : decode cX0_init 52 = .ok (.aload_n 0, 1) := by decide +kernel
theorem dX0_init_53 : decode cX0_init 53 = .ok (.bipush 25, 2) := by decide +kernel
theorem dX0_init_55 : decode cX0_init 55 = .ok (.newarray .int, 2) := by decide +kernel
theorem dX0_init_57 : decode cX0_init 57 = .ok (.putfield 35, 3) := by decide +kernel
theorem dX0_init_60 : decode cX0_init 60 = .ok (.aload_n 0, 1) := by decide +kernel
theorem dX0_init_61 : decode cX0_init 61 = .ok (.bipush 20, 2) := by decide +kernel
theorem dX0_init_63 : decode cX0_init 63 = .ok (.newarray .int, 2) := by decide +kernel
theorem dX0_init_65 : decode cX0_init 65 = .ok (.putfield 38, 3) := by decide +kernel
theorem dX0_init_68 : decode cX0_init 68 = .ok (.aload_n 0, 1) := by decide +kernel
theorem dX0_init_69 : decode cX0_init 69 = .ok (.bipush 20, 2) := by decide +kernel
theorem dX0_init_71 : decode cX0_init 71 = .ok (.newarray .int, 2) := by decide +kernel
theorem dX0_init_73 : decode cX0_init 73 = .ok (.putfield 41, 3) := by decide +kernel
theorem dX0_init_76 : decode cX0_init 76 = .ok (.aload_n 0, 1) := by decide +kernel
theorem dX0_init_77 : decode cX0_init 77 = .ok (.bipush 20, 2) := by decide +kernel
theorem dX0_init_79 : decode cX0_init 79 = .ok (.newarray .int, 2) := by decide +kernel
theorem dX0_init_81 : decode cX0_init 81 = .ok (.putfield 44, 3) := by decide +kernel
theorem dX0_init_84 : decode cX0_init 84 = .ok (.aload_n 0, 1) := by decide +kernel
theorem dX0_init_85 : decode cX0_init 85 = .ok (.bipush 20, 2) := by decide +kernel
theorem dX0_init_87 : decode cX0_init 87 = .ok (.newarray .int, 2) := by decide +kernel
theorem dX0_init_89 : decode cX0_init 89 = .ok (.putfield 47, 3) := by decide +kernel
theorem dX0_init_92 : decode cX0_init 92 = .ok (.aload_n 0, 1) := by decide +kernel
theorem dX0_init_93 : decode cX0_init 93 = .ok (.bipush 20, 2) := by decide +kernel
theorem dX0_init_95 : decode cX0_init 95 = .ok (.newarray .int, 2) := by decide +kernel
theorem dX0_init_97 : decode cX0_init 97 = .ok (.putfield 50, 3) := by decide +kernel
theorem dX0_init_100 : decode cX0_init 100 = .ok (.aload_n 0, 1) := by decide +kernel
theorem dX0_init_101 : decode cX0_init 101 = .ok (.bipush 20, 2) := by decide +kernel
theorem dX0_init_103 : decode cX0_init 103 = .ok (.newarray .int, 2) := by decide +kernel
theorem dX0_init_105 : decode cX0_init 105 = .ok (.putfield 53, 3) := by decide +kernel
theorem dX0_init_108 : decode cX0_init 108 = .ok (.aload_n 0, 1) := by decide +kernel
theorem dX0_init_109 : decode cX0_init 109 = .ok (.iconst 5, 1) := by decide +kernel
theorem dX0_init_110 : decode cX0_init 110 = .ok (.newarray .int, 2) := by decide +kernel
theorem dX0_init_112 : decode cX0_init 112 = .ok (.putfield 56, 3) := by decide +kernel
theorem dX0_init_115 : decode cX0_init 115 = .ok (.aload_n 0, 1) := by decide +kernel
theorem dX0_init_116 : decode cX0_init 116 = .ok (.invokevirtual 59, 3) := by decide +kernel
theorem dX0_init_119 : decode cX0_init 119 = .ok (.return_, 1) := by decide +kernel
abbrev tX0_init (k : Nat) : MT := (RX0, cX0_init, 1, k, none)
def nX0_init : KX := ctorOf 1 19 1528 (fun cN => (nSeq nSuper (nSeq (nArr cN 1528 0 0 0 5 (5, .inl (fun _ => 0))) (nSeq (nArr cN 1528 0 1 0 20 (20, .inl (fun _ => 0))) (nSeq (nObj cN 1528 0 2 1 6 5 1312 [.null, .null, .null, .null, .null, .int 0] aNil nX1_init) (nSeq (nArr cN 1528 0 5 1 5 (5, .inr (.inl (fun _ => 0)))) (nSeq (nArr cN 1528 0 6 0 5 (5, .inl (fun _ => 0))) (nSeq (nArr cN 1528 0 7 0 25 (25, .inl (fun _ => 0))) (nSeq (nArr cN 1528 0 8 0 25 (25, .inl (fun _ => 0))) (nSeq (nArr cN 1528 0 9 0 20 (20, .inl (fun _ => 0))) (nSeq (nArr cN 1528 0 10 0 20 (20, .inl (fun _ => 0))) (nSeq (nArr cN 1528 0 11 0 20 (20, .inl (fun _ => 0))) (nSeq (nArr cN 1528 0 12 0 20 (20, .inl (fun _ => 0))) (nSeq (nArr cN 1528 0 13 0 20 (20, .inl (fun _ => 0))) (nSeq (nArr cN 1528 0 14 0 20 (20, .inl (fun _ => 0))) (nSeq (nArr cN 1528 0 15 0 5 (5, .inl (fun _ => 0))) (nStmt (sCallV 0 mX0_fillNone (aR (rLoc 0) aNil)))))))))))))))))))
theorem kkX0_init (g : GT) : KK g 2 yX0_init cX0_init 1 19 1528 nX0_init := KK.of (pc1 := 119) rfl rfl (fun cN => (Nok.seq (pc1 := 4) (Nok.super oiX0_3 oi_inst oi_code (by decide) dX0_init_0 dX0_init_1) (Nok.seq (pc1 := 11) (Nok.arrI (ci := 0) (T := TX0) (NN := 17) (tt := tyX0) (j := 0) (L := 5) (n := 5) (pc1 := 6) rfl wsX0_in tyX0_ok nmX0 (by decide) flX0_9 rfl (fun _ => rfl) (fun _ => rfl) ac_int (by decide) (by decide) (by decide) dX0_init_4 (fun _ => (EokI.iconst (v := 5) dX0_init_5 (by decide))) dX0_init_6 dX0_init_8) (Nok.seq (pc1 := 19) (Nok.arrI (ci := 0) (T := TX0) (NN := 17) (tt := tyX0) (j := 1) (L := 20) (n := 20) (pc1 := 14) rfl wsX0_in tyX0_ok nmX0 (by decide) flX0_15 rfl (fun _ => rfl) (fun _ => rfl) ac_int (by decide) (by decide) (by decide) dX0_init_11 (fun _ => (EokI.bipush (v := 20) dX0_init_12 (by decide))) dX0_init_14 dX0_init_16) (Nok.seq (pc1 := 30) (Nok.obj (ci := 0) (T := TX0) (NN := 17) (tt := tyX0) (j := 2) (ci2 := 1) (T2 := TX1) (NN2 := 6) (tt2 := tyX1) (fs2 := [.null, .null, .null, .null, .null, .int 0]) (mc := 5) (ms := 1312) (pc1 := 24) rfl wsX0_in tyX0_ok nmX0 (by decide) flX0_21 rfl (fun _ => rfl) (fun _ => rfl) rfl wsX1_in tyX1_ok clX0_18 ins_X1 wiX1_init dv_X1 (fun _ => rfl) (kkX1_init g) ycX1_init rfl iokX0_20 (by decide) (by decide) dX0_init_19 dX0_init_20 dX0_init_23 (fun _ => Aok.nil) (by decide) dX0_init_24 dX0_init_27) (Nok.seq (pc1 := 37) (Nok.arrL (ci := 0) (T := TX0) (NN := 17) (tt := tyX0) (j := 5) (L := 5) (n := 5) (pc1 := 32) rfl wsX0_in tyX0_ok nmX0 (by decide) flX0_25 rfl (fun _ => rfl) (fun _ => rfl) ac_long (by decide) (by decide) (by decide) dX0_init_30 (fun _ => (EokI.iconst (v := 5) dX0_init_31 (by decide))) dX0_init_32 dX0_init_34) (Nok.seq (pc1 := 44) (Nok.arrI (ci := 0) (T := TX0) (NN := 17) (tt := tyX0) (j := 6) (L := 5) (n := 5) (pc1 := 39) rfl wsX0_in tyX0_ok nmX0 (by decide) flX0_29 rfl (fun _ => rfl) (fun _ => rfl) ac_int (by decide) (by decide) (by decide) dX0_init_37 (fun _ => (EokI.iconst (v := 5) dX0_init_38 (by decide))) dX0_init_39 dX0_init_41) (Nok.seq (pc1 := 52) (Nok.arrI (ci := 0) (T := TX0) (NN := 17) (tt := tyX0) (j := 7) (L := 25) (n := 25) (pc1 := 47) rfl wsX0_in tyX0_ok nmX0 (by decide) flX0_32 rfl (fun _ => rfl) (fun _ => rfl) ac_int (by decide) (by decide) (by decide) dX0_init_44 (fun _ => (EokI.bipush (v := 25) dX0_init_45 (by decide))) dX0_init_47 dX0_init_49) (Nok.seq (pc1 := 60) (Nok.arrI (ci := 0) (T := TX0) (NN := 17) (tt := tyX0) (j := 8) (L := 25) (n := 25) (pc1 := 55) rfl wsX0_in tyX0_ok nmX0 (by decide) flX0_35 rfl (fun _ => rfl) (fun _ => rfl) ac_int (by decide) (by decide) (by decide) dX0_init_52 (fun _ => (EokI.bipush (v := 25) dX0_init_53 (by decide))) dX0_init_55 dX0_init_57) (Nok.seq (pc1 := 68) (Nok.arrI (ci := 0) (T := TX0) (NN := 17) (tt := tyX0) (j := 9) (L := 20) (n := 20) (pc1 := 63) rfl wsX0_in tyX0_ok nmX0 (by decide) flX0_38 rfl (fun _ => rfl) (fun _ => rfl) ac_int (by decide) (by decide) (by decide) dX0_init_60 (fun _ => (EokI.bipush (v := 20) dX0_init_61 (by decide))) dX0_init_63 dX0_init_65) (Nok.seq (pc1 := 76) (Nok.arrI (ci := 0) (T := TX0) (NN := 17) (tt := tyX0) (j := 10) (L := 20) (n := 20) (pc1 := 71) rfl wsX0_in tyX0_ok nmX0 (by decide) flX0_41 rfl (fun _ => rfl) (fun _ => rfl) ac_int (by decide) (by decide) (by decide) dX0_init_68 (fun _ => (EokI.bipush (v := 20) dX0_init_69 (by decide))) dX0_init_71 dX0_init_73) (Nok.seq (pc1 := 84) (Nok.arrI (ci := 0) (T := TX0) (NN := 17) (tt := tyX0) (j := 11) (L := 20) (n := 20) (pc1 := 79) rfl wsX0_in tyX0_ok nmX0 (by decide) flX0_44 rfl (fun _ => rfl) (fun _ => rfl) ac_int (by decide) (by decide) (by decide) dX0_init_76 (fun _ => (EokI.bipush (v := 20) dX0_init_77 (by decide))) dX0_init_79 dX0_init_81) (Nok.seq (pc1 := 92) (Nok.arrI (ci := 0) (T := TX0) (NN := 17) (tt := tyX0) (j := 12) (L := 20) (n := 20) (pc1 := 87) rfl wsX0_in tyX0_ok nmX0 (by decide) flX0_47 rfl (fun _ => rfl) (fun _ => rfl) ac_int (by decide) (by decide) (by decide) dX0_init_84 (fun _ => (EokI.bipush (v := 20) dX0_init_85 (by decide))) dX0_init_87 dX0_init_89) (Nok.seq (pc1 := 100) (Nok.arrI (ci := 0) (T := TX0) (NN := 17) (tt := tyX0) (j := 13) (L := 20) (n := 20) (pc1 := 95) rfl wsX0_in tyX0_ok nmX0 (by decide) flX0_50 rfl (fun _ => rfl) (fun _ => rfl) ac_int (by decide) (by decide) (by decide) dX0_init_92 (fun _ => (EokI.bipush (v := 20) dX0_init_93 (by decide))) dX0_init_95 dX0_init_97) (Nok.seq (pc1 := 108) (Nok.arrI (ci := 0) (T := TX0) (NN := 17) (tt := tyX0) (j := 14) (L := 20) (n := 20) (pc1 := 103) rfl wsX0_in tyX0_ok nmX0 (by decide) flX0_53 rfl (fun _ => rfl) (fun _ => rfl) ac_int (by decide) (by decide) (by decide) dX0_init_100 (fun _ => (EokI.bipush (v := 20) dX0_init_101 (by decide))) dX0_init_103 dX0_init_105) (Nok.seq (pc1 := 115) (Nok.arrI (ci := 0) (T := TX0) (NN := 17) (tt := tyX0) (j := 15) (L := 5) (n := 5) (pc1 := 110) rfl wsX0_in tyX0_ok nmX0 (by decide) flX0_56 rfl (fun _ => rfl) (fun _ => rfl) ac_int (by decide) (by decide) (by decide) dX0_init_108 (fun _ => (EokI.iconst (v := 5) dX0_init_109 (by decide))) dX0_init_110 dX0_init_112) (Nok.stmt (fun g9 => (Sok.sCallV (pc1 := 116) (Aok.aR (pc1 := 116) (EokR.aload_n (q := 0) dX0_init_115) Aok.nil) (by decide) (kX0_fillNone g9) rfl ykX0_fillNone vkX0_59 (by decide) (by decide) dX0_init_116))))))))))))))))))) dX0_init_119
/-! new PassHuts$Trip()V -/
theorem dX9_init_0 : decode cX9_init 0 = .ok (.aload_n 0, 1) := by decide +kernel
theorem dX9_init_1 : decode cX9_init 1 = .ok (.invokespecial 3, 3) := by decide +kernel
theorem dX9_init_4 : decode cX9_init 4 = .ok (.aload_n 0, 1) := by decide +kernel
theorem dX9_init_5 : decode cX9_init 5 = .ok (.bipush 40, 2) := by decide +kernel
theorem dX9_init_7 : decode cX9_init 7 = .ok (.newarray .int, 2) := by decide +kernel
theorem dX9_init_9 : decode cX9_init 9 = .ok (.putfield 9, 3) := by decide +kernel
theorem dX9_init_12 : decode cX9_init 12 = .ok (.aload_n 0, 1) := by decide +kernel
theorem dX9_init_13 : decode cX9_init 13 = .ok (.bipush 40, 2) := by decide +kernel
theorem dX9_init_15 : decode cX9_init 15 = .ok (.newarray .int, 2) := by decide +kernel
theorem dX9_init_17 : decode cX9_init 17 = .ok (.putfield 15, 3) := by decide +kernel
theorem dX9_init_20 : decode cX9_init 20 = .ok (.aload_n 0, 1) := by decide +kernel
theorem dX9_init_21 : decode cX9_init 21 = .ok (.bipush 40, 2) := by decide +kernel
theorem dX9_init_23 : decode cX9_init 23 = .ok (.newarray .int, 2) := by decide +kernel
theorem dX9_init_25 : decode cX9_init 25 = .ok (.putfield 18, 3) := by decide +kernel
theorem dX9_init_28 : decode cX9_init 28 = .ok (.return_, 1) := by decide +kernel
abbrev tX9_init (k : Nat) : MT := (RX9, cX9_init, 1, k, none)
def nX9_init : KX := ctorOf 1 3 120 (fun cN => (nSeq nSuper (nSeq (nArr cN 120 9 0 0 40 (40, .inl (fun _ => 0))) (nSeq (nArr cN 120 9 1 0 40 (40, .inl (fun _ => 0))) (nArr cN 120 9 2 0 40 (40, .inl (fun _ => 0)))))))
theorem kkX9_init (g : GT) : KK g 1 yX9_init cX9_init 1 3 120 nX9_init := KK.of (pc1 := 28) rfl rfl (fun cN => (Nok.seq (pc1 := 4) (Nok.super oiX9_3 oi_inst oi_code (by decide) dX9_init_0 dX9_init_1) (Nok.seq (pc1 := 12) (Nok.arrI (ci := 9) (T := TX9) (NN := 7) (tt := tyX9) (j := 0) (L := 40) (n := 40) (pc1 := 7) rfl wsX9_in tyX9_ok nmX9 (by decide) flX9_9 rfl (fun _ => rfl) (fun _ => rfl) ac_int (by decide) (by decide) (by decide) dX9_init_4 (fun _ => (EokI.bipush (v := 40) dX9_init_5 (by decide))) dX9_init_7 dX9_init_9) (Nok.seq (pc1 := 20) (Nok.arrI (ci := 9) (T := TX9) (NN := 7) (tt := tyX9) (j := 1) (L := 40) (n := 40) (pc1 := 15) rfl wsX9_in tyX9_ok nmX9 (by decide) flX9_15 rfl (fun _ => rfl) (fun _ => rfl) ac_int (by decide) (by decide) (by decide) dX9_init_12 (fun _ => (EokI.bipush (v := 40) dX9_init_13 (by decide))) dX9_init_15 dX9_init_17) (Nok.arrI (ci := 9) (T := TX9) (NN := 7) (tt := tyX9) (j := 2) (L := 40) (n := 40) (pc1 := 23) rfl wsX9_in tyX9_ok nmX9 (by decide) flX9_18 rfl (fun _ => rfl) (fun _ => rfl) ac_int (by decide) (by decide) (by decide) dX9_init_20 (fun _ => (EokI.bipush (v := 40) dX9_init_21 (by decide))) dX9_init_23 dX9_init_25))))) dX9_init_28
/-! new PassHuts$Prospects(LPassHuts$Lyings;LPassHuts$Hills;)V -/
theorem dX3_init_0 : decode cX3_init 0 = .ok (.aload_n 0, 1) := by decide +kernel
theorem dX3_init_1 : decode cX3_init 1 = .ok (.invokespecial 3, 3) := by decide +kernel
theorem dX3_init_4 : decode cX3_init 4 = .ok (.aload_n 0, 1) := by decide +kernel
theorem dX3_init_5 : decode cX3_init 5 = .ok (.sipush 6188, 3) := by decide +kernel
theorem dX3_init_8 : decode cX3_init 8 = .ok (.newarray .long, 2) := by decide +kernel
theorem dX3_init_10 : decode cX3_init 10 = .ok (.putfield 9, 3) := by decide +kernel
theorem dX3_init_13 : decode cX3_init 13 = .ok (.aload_n 0, 1) := by decide +kernel
theorem dX3_init_14 : decode cX3_init 14 = .ok (.sipush 6188, 3) := by decide +kernel
theorem dX3_init_17 : decode cX3_init 17 = .ok (.newarray .int, 2) := by decide +kernel
theorem dX3_init_19 : decode cX3_init 19 = .ok (.putfield 15, 3) := by decide +kernel
theorem dX3_init_22 : decode cX3_init 22 = .ok (.aload_n 0, 1) := by decide +kernel
theorem dX3_init_23 : decode cX3_init 23 = .ok (.aload_n 1, 1) := by decide +kernel
theorem dX3_init_24 : decode cX3_init 24 = .ok (.putfield 19, 3) := by decide +kernel
theorem dX3_init_27 : decode cX3_init 27 = .ok (.aload_n 0, 1) := by decide +kernel
theorem dX3_init_28 : decode cX3_init 28 = .ok (.aload_n 2, 1) := by decide +kernel
theorem dX3_init_29 : decode cX3_init 29 = .ok (.putfield 23, 3) := by decide +kernel
theorem dX3_init_32 : decode cX3_init 32 = .ok (.return_, 1) := by decide +kernel
abbrev tX3_init (k : Nat) : MT := (RX3, cX3_init, 3, k, none)
def nX3_init : KX := ctorOf 3 2 12376 (fun cN => (nSeq nSuper (nSeq (nArr cN 12376 3 1 1 6188 (6188, .inr (.inl (fun _ => 0)))) (nSeq (nArr cN 12376 3 2 0 6188 (6188, .inl (fun _ => 0))) (nSeq (nPutR 3 0 1) (nPutR 3 3 2))))))
theorem kkX3_init (g : GT) : KK g 1 yX3_init cX3_init 3 2 12376 nX3_init := KK.of (pc1 := 32) rfl rfl (fun cN => (Nok.seq (pc1 := 4) (Nok.super oiX3_3 oi_inst oi_code (by decide) dX3_init_0 dX3_init_1) (Nok.seq (pc1 := 13) (Nok.arrL (ci := 3) (T := TX3) (NN := 5) (tt := tyX3) (j := 1) (L := 6188) (n := 6188) (pc1 := 8) rfl wsX3_in tyX3_ok nmX3 (by decide) flX3_9 rfl (fun _ => rfl) (fun _ => rfl) ac_long (by decide) (by decide) (by decide) dX3_init_4 (fun _ => (EokI.sipush (v := 6188) dX3_init_5 (by decide))) dX3_init_8 dX3_init_10) (Nok.seq (pc1 := 22) (Nok.arrI (ci := 3) (T := TX3) (NN := 5) (tt := tyX3) (j := 2) (L := 6188) (n := 6188) (pc1 := 17) rfl wsX3_in tyX3_ok nmX3 (by decide) flX3_15 rfl (fun _ => rfl) (fun _ => rfl) ac_int (by decide) (by decide) (by decide) dX3_init_13 (fun _ => (EokI.sipush (v := 6188) dX3_init_14 (by decide))) dX3_init_17 dX3_init_19) (Nok.seq (pc1 := 27) (Nok.putR (ci := 3) (T := TX3) (NN := 5) (tt := tyX3) (j := 0) (i := 1) (i4 := 1) rfl wsX3_in tyX3_ok nmX3 (by decide) flX3_19 rfl (fun _ => rfl) (fun _ => rfl) rfl dX3_init_22 dX3_init_23 dX3_init_24) (Nok.putR (ci := 3) (T := TX3) (NN := 5) (tt := tyX3) (j := 3) (i := 2) (i4 := 2) rfl wsX3_in tyX3_ok nmX3 (by decide) flX3_23 rfl (fun _ => rfl) (fun _ => rfl) rfl dX3_init_27 dX3_init_28 dX3_init_29)))))) dX3_init_32
/-! new PassHuts$Walk(LPassHuts$Lyings;LPassHuts$Hills;)V -/
theorem dX10_init_0 : decode cX10_init 0 = .ok (.aload_n 0, 1) := by decide +kernel
theorem dX10_init_1 : decode cX10_init 1 = .ok (.invokespecial 3, 3) := by decide +kernel
theorem dX10_init_4 : decode cX10_init 4 = .ok (.aload_n 0, 1) := by decide +kernel
theorem dX10_init_5 : decode cX10_init 5 = .ok (.sipush 6188, 3) := by decide +kernel
theorem dX10_init_8 : decode cX10_init 8 = .ok (.newarray .int, 2) := by decide +kernel
theorem dX10_init_10 : decode cX10_init 10 = .ok (.putfield 9, 3) := by decide +kernel
theorem dX10_init_13 : decode cX10_init 13 = .ok (.aload_n 0, 1) := by decide +kernel
theorem dX10_init_14 : decode cX10_init 14 = .ok (.sipush 6188, 3) := by decide +kernel
theorem dX10_init_17 : decode cX10_init 17 = .ok (.newarray .int, 2) := by decide +kernel
theorem dX10_init_19 : decode cX10_init 19 = .ok (.putfield 15, 3) := by decide +kernel
theorem dX10_init_22 : decode cX10_init 22 = .ok (.aload_n 0, 1) := by decide +kernel
theorem dX10_init_23 : decode cX10_init 23 = .ok (.sipush 6188, 3) := by decide +kernel
theorem dX10_init_26 : decode cX10_init 26 = .ok (.newarray .int, 2) := by decide +kernel
theorem dX10_init_28 : decode cX10_init 28 = .ok (.putfield 18, 3) := by decide +kernel
theorem dX10_init_31 : decode cX10_init 31 = .ok (.aload_n 0, 1) := by decide +kernel
theorem dX10_init_32 : decode cX10_init 32 = .ok (.aload_n 1, 1) := by decide +kernel
theorem dX10_init_33 : decode cX10_init 33 = .ok (.putfield 21, 3) := by decide +kernel
theorem dX10_init_36 : decode cX10_init 36 = .ok (.aload_n 0, 1) := by decide +kernel
theorem dX10_init_37 : decode cX10_init 37 = .ok (.aload_n 2, 1) := by decide +kernel
theorem dX10_init_38 : decode cX10_init 38 = .ok (.putfield 25, 3) := by decide +kernel
theorem dX10_init_41 : decode cX10_init 41 = .ok (.return_, 1) := by decide +kernel
abbrev tX10_init (k : Nat) : MT := (RX10, cX10_init, 3, k, none)
def nX10_init : KX := ctorOf 3 3 18564 (fun cN => (nSeq nSuper (nSeq (nArr cN 18564 10 1 0 6188 (6188, .inl (fun _ => 0))) (nSeq (nArr cN 18564 10 2 0 6188 (6188, .inl (fun _ => 0))) (nSeq (nArr cN 18564 10 3 0 6188 (6188, .inl (fun _ => 0))) (nSeq (nPutR 10 0 1) (nPutR 10 4 2)))))))
theorem kkX10_init (g : GT) : KK g 1 yX10_init cX10_init 3 3 18564 nX10_init := KK.of (pc1 := 41) rfl rfl (fun cN => (Nok.seq (pc1 := 4) (Nok.super oiX10_3 oi_inst oi_code (by decide) dX10_init_0 dX10_init_1) (Nok.seq (pc1 := 13) (Nok.arrI (ci := 10) (T := TX10) (NN := 8) (tt := tyX10) (j := 1) (L := 6188) (n := 6188) (pc1 := 8) rfl wsX10_in tyX10_ok nmX10 (by decide) flX10_9 rfl (fun _ => rfl) (fun _ => rfl) ac_int (by decide) (by decide) (by decide) dX10_init_4 (fun _ => (EokI.sipush (v := 6188) dX10_init_5 (by decide))) dX10_init_8 dX10_init_10) (Nok.seq (pc1 := 22) (Nok.arrI (ci := 10) (T := TX10) (NN := 8) (tt := tyX10) (j := 2) (L := 6188) (n := 6188) (pc1 := 17) rfl wsX10_in tyX10_ok nmX10 (by decide) flX10_15 rfl (fun _ => rfl) (fun _ => rfl) ac_int (by decide) (by decide) (by decide) dX10_init_13 (fun _ => (EokI.sipush (v := 6188) dX10_init_14 (by decide))) dX10_init_17 dX10_init_19) (Nok.seq (pc1 := 31) (Nok.arrI (ci := 10) (T := TX10) (NN := 8) (tt := tyX10) (j := 3) (L := 6188) (n := 6188) (pc1 := 26) rfl wsX10_in tyX10_ok nmX10 (by decide) flX10_18 rfl (fun _ => rfl) (fun _ => rfl) ac_int (by decide) (by decide) (by decide) dX10_init_22 (fun _ => (EokI.sipush (v := 6188) dX10_init_23 (by decide))) dX10_init_26 dX10_init_28) (Nok.seq (pc1 := 36) (Nok.putR (ci := 10) (T := TX10) (NN := 8) (tt := tyX10) (j := 0) (i := 1) (i4 := 1) rfl wsX10_in tyX10_ok nmX10 (by decide) flX10_21 rfl (fun _ => rfl) (fun _ => rfl) rfl dX10_init_31 dX10_init_32 dX10_init_33) (Nok.putR (ci := 10) (T := TX10) (NN := 8) (tt := tyX10) (j := 4) (i := 2) (i4 := 2) rfl wsX10_in tyX10_ok nmX10 (by decide) flX10_25 rfl (fun _ => rfl) (fun _ => rfl) rfl dX10_init_36 dX10_init_37 dX10_init_38))))))) dX10_init_41
/-! new PassHuts$Survey(LPassHuts$Lyings;LPassHuts$Prospects;LPassHuts$Hills;)V -/
theorem dX6_init_0 : decode cX6_init 0 = .ok (.aload_n 0, 1) := by decide +kernel
theorem dX6_init_1 : decode cX6_init 1 = .ok (.invokespecial 3, 3) := by decide +kernel
theorem dX6_init_4 : decode cX6_init 4 = .ok (.aload_n 0, 1) := by decide +kernel
theorem dX6_init_5 : decode cX6_init 5 = .ok (.bipush 65, 2) := by decide +kernel
theorem dX6_init_7 : decode cX6_init 7 = .ok (.newarray .int, 2) := by decide +kernel
theorem dX6_init_9 : decode cX6_init 9 = .ok (.putfield 9, 3) := by decide +kernel
theorem dX6_init_12 : decode cX6_init 12 = .ok (.aload_n 0, 1) := by decide +kernel
theorem dX6_init_13 : decode cX6_init 13 = .ok (.aload_n 1, 1) := by decide +kernel
theorem dX6_init_14 : decode cX6_init 14 = .ok (.putfield 15, 3) := by decide +kernel
theorem dX6_init_17 : decode cX6_init 17 = .ok (.aload_n 0, 1) := by decide +kernel
theorem dX6_init_18 : decode cX6_init 18 = .ok (.aload_n 2, 1) := by decide +kernel
theorem dX6_init_19 : decode cX6_init 19 = .ok (.putfield 19, 3) := by decide +kernel
theorem dX6_init_22 : decode cX6_init 22 = .ok (.aload_n 0, 1) := by decide +kernel
theorem dX6_init_23 : decode cX6_init 23 = .ok (.aload_n 3, 1) := by decide +kernel
theorem dX6_init_24 : decode cX6_init 24 = .ok (.putfield 23, 3) := by decide +kernel
theorem dX6_init_27 : decode cX6_init 27 = .ok (.return_, 1) := by decide +kernel
abbrev tX6_init (k : Nat) : MT := (RX6, cX6_init, 4, k, none)
def nX6_init : KX := ctorOf 4 1 65 (fun cN => (nSeq nSuper (nSeq (nArr cN 65 6 2 0 65 (65, .inl (fun _ => 0))) (nSeq (nPutR 6 0 1) (nSeq (nPutR 6 1 2) (nPutR 6 3 3))))))
theorem kkX6_init (g : GT) : KK g 1 yX6_init cX6_init 4 1 65 nX6_init := KK.of (pc1 := 27) rfl rfl (fun cN => (Nok.seq (pc1 := 4) (Nok.super oiX6_3 oi_inst oi_code (by decide) dX6_init_0 dX6_init_1) (Nok.seq (pc1 := 12) (Nok.arrI (ci := 6) (T := TX6) (NN := 4) (tt := tyX6) (j := 2) (L := 65) (n := 65) (pc1 := 7) rfl wsX6_in tyX6_ok nmX6 (by decide) flX6_9 rfl (fun _ => rfl) (fun _ => rfl) ac_int (by decide) (by decide) (by decide) dX6_init_4 (fun _ => (EokI.bipush (v := 65) dX6_init_5 (by decide))) dX6_init_7 dX6_init_9) (Nok.seq (pc1 := 17) (Nok.putR (ci := 6) (T := TX6) (NN := 4) (tt := tyX6) (j := 0) (i := 1) (i4 := 1) rfl wsX6_in tyX6_ok nmX6 (by decide) flX6_15 rfl (fun _ => rfl) (fun _ => rfl) rfl dX6_init_12 dX6_init_13 dX6_init_14) (Nok.seq (pc1 := 22) (Nok.putR (ci := 6) (T := TX6) (NN := 4) (tt := tyX6) (j := 1) (i := 2) (i4 := 2) rfl wsX6_in tyX6_ok nmX6 (by decide) flX6_19 rfl (fun _ => rfl) (fun _ => rfl) rfl dX6_init_17 dX6_init_18 dX6_init_19) (Nok.putR (ci := 6) (T := TX6) (NN := 4) (tt := tyX6) (j := 3) (i := 3) (i4 := 3) rfl wsX6_in tyX6_ok nmX6 (by decide) flX6_23 rfl (fun _ => rfl) (fun _ => rfl) rfl dX6_init_22 dX6_init_23 dX6_init_24)))))) dX6_init_27
/-! new PassHuts()V -/
theorem dX11_init_0 : decode cX11_init 0 = .ok (.aload_n 0, 1) := by decide +kernel
theorem dX11_init_1 : decode cX11_init 1 = .ok (.invokespecial 1, 3) := by decide +kernel
theorem dX11_init_4 : decode cX11_init 4 = .ok (.aload_n 0, 1) := by decide +kernel
theorem dX11_init_5 : decode cX11_init 5 = .ok (.new 7, 3) := by decide +kernel
theorem dX11_init_8 : decode cX11_init 8 = .ok (.dup, 1) := by decide +kernel
theorem dX11_init_9 : decode cX11_init 9 = .ok (.invokespecial 9, 3) := by decide +kernel
theorem dX11_init_12 : decode cX11_init 12 = .ok (.putfield 10, 3) := by decide +kernel
theorem dX11_init_15 : decode cX11_init 15 = .ok (.aload_n 0, 1) := by decide +kernel
theorem dX11_init_16 : decode cX11_init 16 = .ok (.new 16, 3) := by decide +kernel
theorem dX11_init_19 : decode cX11_init 19 = .ok (.dup, 1) := by decide +kernel
theorem dX11_init_20 : decode cX11_init 20 = .ok (.aload_n 0, 1) := by decide +kernel
theorem dX11_init_21 : decode cX11_init 21 = .ok (.getfield 10, 3) := by decide +kernel
theorem dX11_init_24 : decode cX11_init 24 = .ok (.invokespecial 18, 3) := by decide +kernel
theorem dX11_init_27 : decode cX11_init 27 = .ok (.putfield 21, 3) := by decide +kernel
theorem dX11_init_30 : decode cX11_init 30 = .ok (.aload_n 0, 1) := by decide +kernel
theorem dX11_init_31 : decode cX11_init 31 = .ok (.new 25, 3) := by decide +kernel
theorem dX11_init_34 : decode cX11_init 34 = .ok (.dup, 1) := by decide +kernel
theorem dX11_init_35 : decode cX11_init 35 = .ok (.invokespecial 27, 3) := by decide +kernel
theorem dX11_init_38 : decode cX11_init 38 = .ok (.putfield 28, 3) := by decide +kernel
theorem dX11_init_41 : decode cX11_init 41 = .ok (.aload_n 0, 1) := by decide +kernel
theorem dX11_init_42 : decode cX11_init 42 = .ok (.new 32, 3) := by decide +kernel
theorem dX11_init_45 : decode cX11_init 45 = .ok (.dup, 1) := by decide +kernel
theorem dX11_init_46 : decode cX11_init 46 = .ok (.invokespecial 34, 3) := by decide +kernel
theorem dX11_init_49 : decode cX11_init 49 = .ok (.putfield 35, 3) := by decide +kernel
theorem dX11_init_52 : decode cX11_init 52 = .ok (.aload_n 0, 1) := by decide +kernel
theorem dX11_init_53 : decode cX11_init 53 = .ok (.new 39, 3) := by decide +kernel
theorem dX11_init_56 : decode cX11_init 56 = .ok (.dup, 1) := by decide +kernel
theorem dX11_init_57 : decode cX11_init 57 = .ok (.invokespecial 41, 3) := by decide +kernel
theorem dX11_init_60 : decode cX11_init 60 = .ok (.putfield 42, 3) := by decide +kernel
theorem dX11_init_63 : decode cX11_init 63 = .ok (.aload_n 0, 1) := by decide +kernel
theorem dX11_init_64 : decode cX11_init 64 = .ok (.new 39, 3) := by decide +kernel
theorem dX11_init_67 : decode cX11_init 67 = .ok (.dup, 1) := by decide +kernel
theorem dX11_init_68 : decode cX11_init 68 = .ok (.invokespecial 41, 3) := by decide +kernel
theorem dX11_init_71 : decode cX11_init 71 = .ok (.putfield 46, 3) := by decide +kernel
theorem dX11_init_74 : decode cX11_init 74 = .ok (.aload_n 0, 1) := by decide +kernel
theorem dX11_init_75 : decode cX11_init 75 = .ok (.new 49, 3) := by decide +kernel
theorem dX11_init_78 : decode cX11_init 78 = .ok (.dup, 1) := by decide +kernel
theorem dX11_init_79 : decode cX11_init 79 = .ok (.invokespecial 51, 3) := by decide +kernel
theorem dX11_init_82 : decode cX11_init 82 = .ok (.putfield 52, 3) := by decide +kernel
theorem dX11_init_85 : decode cX11_init 85 = .ok (.aload_n 0, 1) := by decide +kernel
theorem dX11_init_86 : decode cX11_init 86 = .ok (.new 49, 3) := by decide +kernel
theorem dX11_init_89 : decode cX11_init 89 = .ok (.dup, 1) := by decide +kernel
theorem dX11_init_90 : decode cX11_init 90 = .ok (.invokespecial 51, 3) := by decide +kernel
theorem dX11_init_93 : decode cX11_init 93 = .ok (.putfield 56, 3) := by decide +kernel
theorem dX11_init_96 : decode cX11_init 96 = .ok (.aload_n 0, 1) := by decide +kernel
theorem dX11_init_97 : decode cX11_init 97 = .ok (.new 59, 3) := by decide +kernel
theorem dX11_init_100 : decode cX11_init 100 = .ok (.dup, 1) := by decide +kernel
theorem dX11_init_101 : decode cX11_init 101 = .ok (.aload_n 0, 1) := by decide +kernel
theorem dX11_init_102 : decode cX11_init 102 = .ok (.getfield 28, 3) := by decide +kernel
theorem dX11_init_105 : decode cX11_init 105 = .ok (.aload_n 0, 1) := by decide +kernel
theorem dX11_init_106 : decode cX11_init 106 = .ok (.getfield 42, 3) := by decide +kernel
theorem dX11_init_109 : decode cX11_init 109 = .ok (.invokespecial 61, 3) := by decide +kernel
theorem dX11_init_112 : decode cX11_init 112 = .ok (.putfield 64, 3) := by decide +kernel
theorem dX11_init_115 : decode cX11_init 115 = .ok (.aload_n 0, 1) := by decide +kernel
theorem dX11_init_116 : decode cX11_init 116 = .ok (.new 68, 3) := by decide +kernel
theorem dX11_init_119 : decode cX11_init 119 = .ok (.dup, 1) := by decide +kernel
theorem dX11_init_120 : decode cX11_init 120 = .ok (.aload_n 0, 1) := by decide +kernel
theorem dX11_init_121 : decode cX11_init 121 = .ok (.getfield 28, 3) := by decide +kernel
theorem dX11_init_124 : decode cX11_init 124 = .ok (.aload_n 0, 1) := by decide +kernel
theorem dX11_init_125 : decode cX11_init 125 = .ok (.getfield 42, 3) := by decide +kernel
theorem dX11_init_128 : decode cX11_init 128 = .ok (.invokespecial 70, 3) := by decide +kernel
theorem dX11_init_131 : decode cX11_init 131 = .ok (.putfield 71, 3) := by decide +kernel
theorem dX11_init_134 : decode cX11_init 134 = .ok (.aload_n 0, 1) := by decide +kernel
theorem dX11_init_135 : decode cX11_init 135 = .ok (.new 75, 3) := by decide +kernel
theorem dX11_init_138 : decode cX11_init 138 = .ok (.dup, 1) := by decide +kernel
theorem dX11_init_139 : decode cX11_init 139 = .ok (.aload_n 0, 1) := by decide +kernel
theorem dX11_init_140 : decode cX11_init 140 = .ok (.getfield 28, 3) := by decide +kernel
theorem dX11_init_143 : decode cX11_init 143 = .ok (.aload_n 0, 1) := by decide +kernel
theorem dX11_init_144 : decode cX11_init 144 = .ok (.getfield 64, 3) := by decide +kernel
theorem dX11_init_147 : decode cX11_init 147 = .ok (.aload_n 0, 1) := by decide +kernel
theorem dX11_init_148 : decode cX11_init 148 = .ok (.getfield 42, 3) := by decide +kernel
theorem dX11_init_151 : decode cX11_init 151 = .ok (.invokespecial 77, 3) := by decide +kernel
theorem dX11_init_154 : decode cX11_init 154 = .ok (.putfield 80, 3) := by decide +kernel
theorem dX11_init_157 : decode cX11_init 157 = .ok (.return_, 1) := by decide +kernel
abbrev tX11_init (k : Nat) : MT := (RX11, cX11_init, 1, k, none)
def nX11_init : KX := ctorOf 1 76 48418 (fun cN => (nSeq nSuper (nSeq (nObj cN 48418 11 0 7 2 1 1000 [.null, .int 0] aNil nX7_init) (nSeq (nObj cN 48418 11 1 4 3 1 6 [.null, .null, .int 0] (aR (rGet 11 0 (rLoc 0)) aNil) nX4_init) (nSeq (nObj cN 48418 11 2 2 5 5 12935 [.null, .null, .null, .null, .null] aNil nX2_init) (nSeq (nObj cN 48418 11 3 5 13 8 88 [.null, .null, .null, .null, .null, .null, .null, .null, .int 0, .int 0, .int 0, .int 0, .int 0] aNil nX5_init) (nSeq (nObj cN 48418 11 7 0 17 19 1528 [.null, .null, .null, .int 0, .int 0, .null, .null, .null, .null, .null, .null, .null, .null, .null, .null, .null, .int 0] aNil nX0_init) (nSeq (nObj cN 48418 11 8 0 17 19 1528 [.null, .null, .null, .int 0, .int 0, .null, .null, .null, .null, .null, .null, .null, .null, .null, .null, .null, .int 0] aNil nX0_init) (nSeq (nObj cN 48418 11 9 9 7 3 120 [.null, .null, .null, .int 0, .int 0, .int 0, .int 0] aNil nX9_init) (nSeq (nObj cN 48418 11 10 9 7 3 120 [.null, .null, .null, .int 0, .int 0, .int 0, .int 0] aNil nX9_init) (nSeq (nObj cN 48418 11 4 3 5 2 12376 [.null, .null, .null, .null, .int 0] (aR (rGet 11 2 (rLoc 0)) (aR (rGet 11 7 (rLoc 0)) aNil)) nX3_init) (nSeq (nObj cN 48418 11 5 10 8 3 18564 [.null, .null, .null, .null, .null, .int 0, .int 0, .int 0] (aR (rGet 11 2 (rLoc 0)) (aR (rGet 11 7 (rLoc 0)) aNil)) nX10_init) (nObj cN 48418 11 6 6 4 1 65 [.null, .null, .null, .null] (aR (rGet 11 2 (rLoc 0)) (aR (rGet 11 4 (rLoc 0)) (aR (rGet 11 7 (rLoc 0)) aNil))) nX6_init)))))))))))))
theorem kkX11_init (g : GT) : KK g 3 yX11_init cX11_init 1 76 48418 nX11_init := KK.of (pc1 := 157) rfl rfl (fun cN => (Nok.seq (pc1 := 4) (Nok.super oiX11_1 oi_inst oi_code (by decide) dX11_init_0 dX11_init_1) (Nok.seq (pc1 := 15) (Nok.obj (ci := 11) (T := TX11) (NN := 11) (tt := tyX11) (j := 0) (ci2 := 7) (T2 := TX7) (NN2 := 2) (tt2 := tyX7) (fs2 := [.null, .int 0]) (mc := 1) (ms := 1000) (pc1 := 9) rfl wsX11_in tyX11_ok nmX11 (by decide) flX11_10 rfl (fun _ => rfl) (fun _ => rfl) rfl wsX7_in tyX7_ok clX11_7 ins_X7 wiX7_init dv_X7 (fun _ => rfl) (kkX7_init g) ycX7_init rfl iokX11_9 (by decide) (by decide) dX11_init_4 dX11_init_5 dX11_init_8 (fun _ => Aok.nil) (by decide) dX11_init_9 dX11_init_12) (Nok.seq (pc1 := 30) (Nok.obj (ci := 11) (T := TX11) (NN := 11) (tt := tyX11) (j := 1) (ci2 := 4) (T2 := TX4) (NN2 := 3) (tt2 := tyX4) (fs2 := [.null, .null, .int 0]) (mc := 1) (ms := 6) (pc1 := 24) rfl wsX11_in tyX11_ok nmX11 (by decide) flX11_21 rfl (fun _ => rfl) (fun _ => rfl) rfl wsX4_in tyX4_ok clX11_16 ins_X4 wiX4_init dv_X4 (fun _ => rfl) (kkX4_init g) ycX4_init rfl iokX11_18 (by decide) (by decide) dX11_init_15 dX11_init_16 dX11_init_19 (fun _ => (Aok.aR (pc1 := 24) (EokR.getf (pc1 := 21) (j := 0) (ci := 11) (T := TX11) (N := 11) (EokR.aload_n (q := 0) dX11_init_20) rfl wsX11_in (by decide) flX11_10 dX11_init_21) Aok.nil)) (by decide) dX11_init_24 dX11_init_27) (Nok.seq (pc1 := 41) (Nok.obj (ci := 11) (T := TX11) (NN := 11) (tt := tyX11) (j := 2) (ci2 := 2) (T2 := TX2) (NN2 := 5) (tt2 := tyX2) (fs2 := [.null, .null, .null, .null, .null]) (mc := 5) (ms := 12935) (pc1 := 35) rfl wsX11_in tyX11_ok nmX11 (by decide) flX11_28 rfl (fun _ => rfl) (fun _ => rfl) rfl wsX2_in tyX2_ok clX11_25 ins_X2 wiX2_init dv_X2 (fun _ => rfl) (kkX2_init g) ycX2_init rfl iokX11_27 (by decide) (by decide) dX11_init_30 dX11_init_31 dX11_init_34 (fun _ => Aok.nil) (by decide) dX11_init_35 dX11_init_38) (Nok.seq (pc1 := 52) (Nok.obj (ci := 11) (T := TX11) (NN := 11) (tt := tyX11) (j := 3) (ci2 := 5) (T2 := TX5) (NN2 := 13) (tt2 := tyX5) (fs2 := [.null, .null, .null, .null, .null, .null, .null, .null, .int 0, .int 0, .int 0, .int 0, .int 0]) (mc := 8) (ms := 88) (pc1 := 46) rfl wsX11_in tyX11_ok nmX11 (by decide) flX11_35 rfl (fun _ => rfl) (fun _ => rfl) rfl wsX5_in tyX5_ok clX11_32 ins_X5 wiX5_init dv_X5 (fun _ => rfl) (kkX5_init g) ycX5_init rfl iokX11_34 (by decide) (by decide) dX11_init_41 dX11_init_42 dX11_init_45 (fun _ => Aok.nil) (by decide) dX11_init_46 dX11_init_49) (Nok.seq (pc1 := 63) (Nok.obj (ci := 11) (T := TX11) (NN := 11) (tt := tyX11) (j := 7) (ci2 := 0) (T2 := TX0) (NN2 := 17) (tt2 := tyX0) (fs2 := [.null, .null, .null, .int 0, .int 0, .null, .null, .null, .null, .null, .null, .null, .null, .null, .null, .null, .int 0]) (mc := 19) (ms := 1528) (pc1 := 57) rfl wsX11_in tyX11_ok nmX11 (by decide) flX11_42 rfl (fun _ => rfl) (fun _ => rfl) rfl wsX0_in tyX0_ok clX11_39 ins_X0 wiX0_init dv_X0 (fun _ => rfl) (kkX0_init g) ycX0_init rfl iokX11_41 (by decide) (by decide) dX11_init_52 dX11_init_53 dX11_init_56 (fun _ => Aok.nil) (by decide) dX11_init_57 dX11_init_60) (Nok.seq (pc1 := 74) (Nok.obj (ci := 11) (T := TX11) (NN := 11) (tt := tyX11) (j := 8) (ci2 := 0) (T2 := TX0) (NN2 := 17) (tt2 := tyX0) (fs2 := [.null, .null, .null, .int 0, .int 0, .null, .null, .null, .null, .null, .null, .null, .null, .null, .null, .null, .int 0]) (mc := 19) (ms := 1528) (pc1 := 68) rfl wsX11_in tyX11_ok nmX11 (by decide) flX11_46 rfl (fun _ => rfl) (fun _ => rfl) rfl wsX0_in tyX0_ok clX11_39 ins_X0 wiX0_init dv_X0 (fun _ => rfl) (kkX0_init g) ycX0_init rfl iokX11_41 (by decide) (by decide) dX11_init_63 dX11_init_64 dX11_init_67 (fun _ => Aok.nil) (by decide) dX11_init_68 dX11_init_71) (Nok.seq (pc1 := 85) (Nok.obj (ci := 11) (T := TX11) (NN := 11) (tt := tyX11) (j := 9) (ci2 := 9) (T2 := TX9) (NN2 := 7) (tt2 := tyX9) (fs2 := [.null, .null, .null, .int 0, .int 0, .int 0, .int 0]) (mc := 3) (ms := 120) (pc1 := 79) rfl wsX11_in tyX11_ok nmX11 (by decide) flX11_52 rfl (fun _ => rfl) (fun _ => rfl) rfl wsX9_in tyX9_ok clX11_49 ins_X9 wiX9_init dv_X9 (fun _ => rfl) (kkX9_init g) ycX9_init rfl iokX11_51 (by decide) (by decide) dX11_init_74 dX11_init_75 dX11_init_78 (fun _ => Aok.nil) (by decide) dX11_init_79 dX11_init_82) (Nok.seq (pc1 := 96) (Nok.obj (ci := 11) (T := TX11) (NN := 11) (tt := tyX11) (j := 10) (ci2 := 9) (T2 := TX9) (NN2 := 7) (tt2 := tyX9) (fs2 := [.null, .null, .null, .int 0, .int 0, .int 0, .int 0]) (mc := 3) (ms := 120) (pc1 := 90) rfl wsX11_in tyX11_ok nmX11 (by decide) flX11_56 rfl (fun _ => rfl) (fun _ => rfl) rfl wsX9_in tyX9_ok clX11_49 ins_X9 wiX9_init dv_X9 (fun _ => rfl) (kkX9_init g) ycX9_init rfl iokX11_51 (by decide) (by decide) dX11_init_85 dX11_init_86 dX11_init_89 (fun _ => Aok.nil) (by decide) dX11_init_90 dX11_init_93) (Nok.seq (pc1 := 115) (Nok.obj (ci := 11) (T := TX11) (NN := 11) (tt := tyX11) (j := 4) (ci2 := 3) (T2 := TX3) (NN2 := 5) (tt2 := tyX3) (fs2 := [.null, .null, .null, .null, .int 0]) (mc := 2) (ms := 12376) (pc1 := 109) rfl wsX11_in tyX11_ok nmX11 (by decide) flX11_64 rfl (fun _ => rfl) (fun _ => rfl) rfl wsX3_in tyX3_ok clX11_59 ins_X3 wiX3_init dv_X3 (fun _ => rfl) (kkX3_init g) ycX3_init rfl iokX11_61 (by decide) (by decide) dX11_init_96 dX11_init_97 dX11_init_100 (fun _ => (Aok.aR (pc1 := 105) (EokR.getf (pc1 := 102) (j := 2) (ci := 11) (T := TX11) (N := 11) (EokR.aload_n (q := 0) dX11_init_101) rfl wsX11_in (by decide) flX11_28 dX11_init_102) (Aok.aR (pc1 := 109) (EokR.getf (pc1 := 106) (j := 7) (ci := 11) (T := TX11) (N := 11) (EokR.aload_n (q := 0) dX11_init_105) rfl wsX11_in (by decide) flX11_42 dX11_init_106) Aok.nil))) (by decide) dX11_init_109 dX11_init_112) (Nok.seq (pc1 := 134) (Nok.obj (ci := 11) (T := TX11) (NN := 11) (tt := tyX11) (j := 5) (ci2 := 10) (T2 := TX10) (NN2 := 8) (tt2 := tyX10) (fs2 := [.null, .null, .null, .null, .null, .int 0, .int 0, .int 0]) (mc := 3) (ms := 18564) (pc1 := 128) rfl wsX11_in tyX11_ok nmX11 (by decide) flX11_71 rfl (fun _ => rfl) (fun _ => rfl) rfl wsX10_in tyX10_ok clX11_68 ins_X10 wiX10_init dv_X10 (fun _ => rfl) (kkX10_init g) ycX10_init rfl iokX11_70 (by decide) (by decide) dX11_init_115 dX11_init_116 dX11_init_119 (fun _ => (Aok.aR (pc1 := 124) (EokR.getf (pc1 := 121) (j := 2) (ci := 11) (T := TX11) (N := 11) (EokR.aload_n (q := 0) dX11_init_120) rfl wsX11_in (by decide) flX11_28 dX11_init_121) (Aok.aR (pc1 := 128) (EokR.getf (pc1 := 125) (j := 7) (ci := 11) (T := TX11) (N := 11) (EokR.aload_n (q := 0) dX11_init_124) rfl wsX11_in (by decide) flX11_42 dX11_init_125) Aok.nil))) (by decide) dX11_init_128 dX11_init_131) (Nok.obj (ci := 11) (T := TX11) (NN := 11) (tt := tyX11) (j := 6) (ci2 := 6) (T2 := TX6) (NN2 := 4) (tt2 := tyX6) (fs2 := [.null, .null, .null, .null]) (mc := 1) (ms := 65) (pc1 := 151) rfl wsX11_in tyX11_ok nmX11 (by decide) flX11_80 rfl (fun _ => rfl) (fun _ => rfl) rfl wsX6_in tyX6_ok clX11_75 ins_X6 wiX6_init dv_X6 (fun _ => rfl) (kkX6_init g) ycX6_init rfl iokX11_77 (by decide) (by decide) dX11_init_134 dX11_init_135 dX11_init_138 (fun _ => (Aok.aR (pc1 := 143) (EokR.getf (pc1 := 140) (j := 2) (ci := 11) (T := TX11) (N := 11) (EokR.aload_n (q := 0) dX11_init_139) rfl wsX11_in (by decide) flX11_28 dX11_init_140) (Aok.aR (pc1 := 147) (EokR.getf (pc1 := 144) (j := 4) (ci := 11) (T := TX11) (N := 11) (EokR.aload_n (q := 0) dX11_init_143) rfl wsX11_in (by decide) flX11_64 dX11_init_144) (Aok.aR (pc1 := 151) (EokR.getf (pc1 := 148) (j := 7) (ci := 11) (T := TX11) (N := 11) (EokR.aload_n (q := 0) dX11_init_147) rfl wsX11_in (by decide) flX11_42 dX11_init_148) Aok.nil)))) (by decide) dX11_init_151 dX11_init_154))))))))))))) dX11_init_157
/-! new PassHutsModel()V -/
theorem dX12_init_0 : decode cX12_init 0 = .ok (.aload_n 0, 1) := by decide +kernel
theorem dX12_init_1 : decode cX12_init 1 = .ok (.invokespecial 18, 3) := by decide +kernel
theorem dX12_init_4 : decode cX12_init 4 = .ok (.aload_n 0, 1) := by decide +kernel
theorem dX12_init_5 : decode cX12_init 5 = .ok (.sipush 1000, 3) := by decide +kernel
theorem dX12_init_8 : decode cX12_init 8 = .ok (.newarray .int, 2) := by decide +kernel
theorem dX12_init_10 : decode cX12_init 10 = .ok (.putfield 14, 3) := by decide +kernel
theorem dX12_init_13 : decode cX12_init 13 = .ok (.aload_n 0, 1) := by decide +kernel
theorem dX12_init_14 : decode cX12_init 14 = .ok (.sipush 1002, 3) := by decide +kernel
theorem dX12_init_17 : decode cX12_init 17 = .ok (.newarray .int, 2) := by decide +kernel
theorem dX12_init_19 : decode cX12_init 19 = .ok (.putfield 24, 3) := by decide +kernel
theorem dX12_init_22 : decode cX12_init 22 = .ok (.aload_n 0, 1) := by decide +kernel
theorem dX12_init_23 : decode cX12_init 23 = .ok (.sipush 1002, 3) := by decide +kernel
theorem dX12_init_26 : decode cX12_init 26 = .ok (.newarray .int, 2) := by decide +kernel
theorem dX12_init_28 : decode cX12_init 28 = .ok (.putfield 27, 3) := by decide +kernel
theorem dX12_init_31 : decode cX12_init 31 = .ok (.aload_n 0, 1) := by decide +kernel
theorem dX12_init_32 : decode cX12_init 32 = .ok (.sipush 1002, 3) := by decide +kernel
theorem dX12_init_35 : decode cX12_init 35 = .ok (.newarray .long, 2) := by decide +kernel
theorem dX12_init_37 : decode cX12_init 37 = .ok (.putfield 30, 3) := by decide +kernel
theorem dX12_init_40 : decode cX12_init 40 = .ok (.aload_n 0, 1) := by decide +kernel
theorem dX12_init_41 : decode cX12_init 41 = .ok (.bipush 19, 2) := by decide +kernel
theorem dX12_init_43 : decode cX12_init 43 = .ok (.newarray .long, 2) := by decide +kernel
theorem dX12_init_45 : decode cX12_init 45 = .ok (.dup, 1) := by decide +kernel
theorem dX12_init_46 : decode cX12_init 46 = .ok (.iconst 0, 1) := by decide +kernel
theorem dX12_init_47 : decode cX12_init 47 = .ok (.ldc2_w 34, 3) := by decide +kernel
theorem dX12_init_50 : decode cX12_init 50 = .ok (.lastore, 1) := by decide +kernel
theorem dX12_init_51 : decode cX12_init 51 = .ok (.dup, 1) := by decide +kernel
theorem dX12_init_52 : decode cX12_init 52 = .ok (.iconst 1, 1) := by decide +kernel
theorem dX12_init_53 : decode cX12_init 53 = .ok (.ldc2_w 36, 3) := by decide +kernel
theorem dX12_init_56 : decode cX12_init 56 = .ok (.lastore, 1) := by decide +kernel
theorem dX12_init_57 : decode cX12_init 57 = .ok (.dup, 1) := by decide +kernel
theorem dX12_init_58 : decode cX12_init 58 = .ok (.iconst 2, 1) := by decide +kernel
theorem dX12_init_59 : decode cX12_init 59 = .ok (.ldc2_w 38, 3) := by decide +kernel
theorem dX12_init_62 : decode cX12_init 62 = .ok (.lastore, 1) := by decide +kernel
theorem dX12_init_63 : decode cX12_init 63 = .ok (.dup, 1) := by decide +kernel
theorem dX12_init_64 : decode cX12_init 64 = .ok (.iconst 3, 1) := by decide +kernel
theorem dX12_init_65 : decode cX12_init 65 = .ok (.ldc2_w 40, 3) := by decide +kernel
theorem dX12_init_68 : decode cX12_init 68 = .ok (.lastore, 1) := by decide +kernel
theorem dX12_init_69 : decode cX12_init 69 = .ok (.dup, 1) := by decide +kernel
theorem dX12_init_70 : decode cX12_init 70 = .ok (.iconst 4, 1) := by decide +kernel
theorem dX12_init_71 : decode cX12_init 71 = .ok (.ldc2_w 42, 3) := by decide +kernel
theorem dX12_init_74 : decode cX12_init 74 = .ok (.lastore, 1) := by decide +kernel
theorem dX12_init_75 : decode cX12_init 75 = .ok (.dup, 1) := by decide +kernel
theorem dX12_init_76 : decode cX12_init 76 = .ok (.iconst 5, 1) := by decide +kernel
theorem dX12_init_77 : decode cX12_init 77 = .ok (.ldc2_w 44, 3) := by decide +kernel
theorem dX12_init_80 : decode cX12_init 80 = .ok (.lastore, 1) := by decide +kernel
theorem dX12_init_81 : decode cX12_init 81 = .ok (.dup, 1) := by decide +kernel
theorem dX12_init_82 : decode cX12_init 82 = .ok (.bipush 6, 2) := by decide +kernel
theorem dX12_init_84 : decode cX12_init 84 = .ok (.ldc2_w 46, 3) := by decide +kernel
theorem dX12_init_87 : decode cX12_init 87 = .ok (.lastore, 1) := by decide +kernel
theorem dX12_init_88 : decode cX12_init 88 = .ok (.dup, 1) := by decide +kernel
theorem dX12_init_89 : decode cX12_init 89 = .ok (.bipush 7, 2) := by decide +kernel
theorem dX12_init_91 : decode cX12_init 91 = .ok (.ldc2_w 48, 3) := by decide +kernel
theorem dX12_init_94 : decode cX12_init 94 = .ok (.lastore, 1) := by decide +kernel
theorem dX12_init_95 : decode cX12_init 95 = .ok (.dup, 1) := by decide +kernel
theorem dX12_init_96 : decode cX12_init 96 = .ok (.bipush 8, 2) := by decide +kernel
theorem dX12_init_98 : decode cX12_init 98 = .ok (.ldc2_w 50, 3) := by decide +kernel
theorem dX12_init_101 : decode cX12_init 101 = .ok (.lastore, 1) := by decide +kernel
theorem dX12_init_102 : decode cX12_init 102 = .ok (.dup, 1) := by decide +kernel
theorem dX12_init_103 : decode cX12_init 103 = .ok (.bipush 9, 2) := by decide +kernel
theorem dX12_init_105 : decode cX12_init 105 = .ok (.ldc2_w 52, 3) := by decide +kernel
theorem dX12_init_108 : decode cX12_init 108 = .ok (.lastore, 1) := by decide +kernel
theorem dX12_init_109 : decode cX12_init 109 = .ok (.dup, 1) := by decide +kernel
theorem dX12_init_110 : decode cX12_init 110 = .ok (.bipush 10, 2) := by decide +kernel
theorem dX12_init_112 : decode cX12_init 112 = .ok (.ldc2_w 54, 3) := by decide +kernel
theorem dX12_init_115 : decode cX12_init 115 = .ok (.lastore, 1) := by decide +kernel
theorem dX12_init_116 : decode cX12_init 116 = .ok (.dup, 1) := by decide +kernel
theorem dX12_init_117 : decode cX12_init 117 = .ok (.bipush 11, 2) := by decide +kernel
theorem dX12_init_119 : decode cX12_init 119 = .ok (.ldc2_w 56, 3) := by decide +kernel
theorem dX12_init_122 : decode cX12_init 122 = .ok (.lastore, 1) := by decide +kernel
theorem dX12_init_123 : decode cX12_init 123 = .ok (.dup, 1) := by decide +kernel
theorem dX12_init_124 : decode cX12_init 124 = .ok (.bipush 12, 2) := by decide +kernel
theorem dX12_init_126 : decode cX12_init 126 = .ok (.ldc2_w 58, 3) := by decide +kernel
theorem dX12_init_129 : decode cX12_init 129 = .ok (.lastore, 1) := by decide +kernel
theorem dX12_init_130 : decode cX12_init 130 = .ok (.dup, 1) := by decide +kernel
theorem dX12_init_131 : decode cX12_init 131 = .ok (.bipush 13, 2) := by decide +kernel
theorem dX12_init_133 : decode cX12_init 133 = .ok (.ldc2_w 60, 3) := by decide +kernel
theorem dX12_init_136 : decode cX12_init 136 = .ok (.lastore, 1) := by decide +kernel
theorem dX12_init_137 : decode cX12_init 137 = .ok (.dup, 1) := by decide +kernel
theorem dX12_init_138 : decode cX12_init 138 = .ok (.bipush 14, 2) := by decide +kernel
theorem dX12_init_140 : decode cX12_init 140 = .ok (.ldc2_w 62, 3) := by decide +kernel
theorem dX12_init_143 : decode cX12_init 143 = .ok (.lastore, 1) := by decide +kernel
theorem dX12_init_144 : decode cX12_init 144 = .ok (.dup, 1) := by decide +kernel
theorem dX12_init_145 : decode cX12_init 145 = .ok (.bipush 15, 2) := by decide +kernel
theorem dX12_init_147 : decode cX12_init 147 = .ok (.ldc2_w 64, 3) := by decide +kernel
theorem dX12_init_150 : decode cX12_init 150 = .ok (.lastore, 1) := by decide +kernel
theorem dX12_init_151 : decode cX12_init 151 = .ok (.dup, 1) := by decide +kernel
theorem dX12_init_152 : decode cX12_init 152 = .ok (.bipush 16, 2) := by decide +kernel
theorem dX12_init_154 : decode cX12_init 154 = .ok (.ldc2_w 66, 3) := by decide +kernel
theorem dX12_init_157 : decode cX12_init 157 = .ok (.lastore, 1) := by decide +kernel
theorem dX12_init_158 : decode cX12_init 158 = .ok (.dup, 1) := by decide +kernel
theorem dX12_init_159 : decode cX12_init 159 = .ok (.bipush 17, 2) := by decide +kernel
theorem dX12_init_161 : decode cX12_init 161 = .ok (.ldc2_w 68, 3) := by decide +kernel
theorem dX12_init_164 : decode cX12_init 164 = .ok (.lastore, 1) := by decide +kernel
theorem dX12_init_165 : decode cX12_init 165 = .ok (.dup, 1) := by decide +kernel
theorem dX12_init_166 : decode cX12_init 166 = .ok (.bipush 18, 2) := by decide +kernel
theorem dX12_init_168 : decode cX12_init 168 = .ok (.ldc2_w 70, 3) := by decide +kernel
theorem dX12_init_171 : decode cX12_init 171 = .ok (.lastore, 1) := by decide +kernel
theorem dX12_init_172 : decode cX12_init 172 = .ok (.putfield 72, 3) := by decide +kernel
theorem dX12_init_175 : decode cX12_init 175 = .ok (.aload_n 0, 1) := by decide +kernel
theorem dX12_init_176 : decode cX12_init 176 = .ok (.bipush 80, 2) := by decide +kernel
theorem dX12_init_178 : decode cX12_init 178 = .ok (.newarray .int, 2) := by decide +kernel
theorem dX12_init_180 : decode cX12_init 180 = .ok (.putfield 75, 3) := by decide +kernel
theorem dX12_init_183 : decode cX12_init 183 = .ok (.aload_n 0, 1) := by decide +kernel
theorem dX12_init_184 : decode cX12_init 184 = .ok (.sipush 2200, 3) := by decide +kernel
theorem dX12_init_187 : decode cX12_init 187 = .ok (.newarray .int, 2) := by decide +kernel
theorem dX12_init_189 : decode cX12_init 189 = .ok (.putfield 78, 3) := by decide +kernel
theorem dX12_init_192 : decode cX12_init 192 = .ok (.aload_n 0, 1) := by decide +kernel
theorem dX12_init_193 : decode cX12_init 193 = .ok (.bipush 10, 2) := by decide +kernel
theorem dX12_init_195 : decode cX12_init 195 = .ok (.newarray .long, 2) := by decide +kernel
theorem dX12_init_197 : decode cX12_init 197 = .ok (.putfield 81, 3) := by decide +kernel
theorem dX12_init_200 : decode cX12_init 200 = .ok (.aload_n 0, 1) := by decide +kernel
theorem dX12_init_201 : decode cX12_init 201 = .ok (.sipush 250, 3) := by decide +kernel
theorem dX12_init_204 : decode cX12_init 204 = .ok (.newarray .int, 2) := by decide +kernel
theorem dX12_init_206 : decode cX12_init 206 = .ok (.putfield 84, 3) := by decide +kernel
theorem dX12_init_209 : decode cX12_init 209 = .ok (.aload_n 0, 1) := by decide +kernel
theorem dX12_init_210 : decode cX12_init 210 = .ok (.iconst 4, 1) := by decide +kernel
theorem dX12_init_211 : decode cX12_init 211 = .ok (.newarray .int, 2) := by decide +kernel
theorem dX12_init_213 : decode cX12_init 213 = .ok (.putfield 87, 3) := by decide +kernel
theorem dX12_init_216 : decode cX12_init 216 = .ok (.aload_n 0, 1) := by decide +kernel
theorem dX12_init_217 : decode cX12_init 217 = .ok (.bipush 64, 2) := by decide +kernel
theorem dX12_init_219 : decode cX12_init 219 = .ok (.newarray .int, 2) := by decide +kernel
theorem dX12_init_221 : decode cX12_init 221 = .ok (.putfield 90, 3) := by decide +kernel
theorem dX12_init_224 : decode cX12_init 224 = .ok (.aload_n 0, 1) := by decide +kernel
theorem dX12_init_225 : decode cX12_init 225 = .ok (.sipush 651, 3) := by decide +kernel
theorem dX12_init_228 : decode cX12_init 228 = .ok (.newarray .int, 2) := by decide +kernel
theorem dX12_init_230 : decode cX12_init 230 = .ok (.putfield 93, 3) := by decide +kernel
theorem dX12_init_233 : decode cX12_init 233 = .ok (.aload_n 0, 1) := by decide +kernel
theorem dX12_init_234 : decode cX12_init 234 = .ok (.iconst 4, 1) := by decide +kernel
theorem dX12_init_235 : decode cX12_init 235 = .ok (.newarray .boolean, 2) := by decide +kernel
theorem dX12_init_237 : decode cX12_init 237 = .ok (.putfield 96, 3) := by decide +kernel
theorem dX12_init_240 : decode cX12_init 240 = .ok (.aload_n 0, 1) := by decide +kernel
theorem dX12_init_241 : decode cX12_init 241 = .ok (.iconst 5, 1) := by decide +kernel
theorem dX12_init_242 : decode cX12_init 242 = .ok (.newarray .int, 2) := by decide +kernel
theorem dX12_init_244 : decode cX12_init 244 = .ok (.putfield 100, 3) := by decide +kernel
theorem dX12_init_247 : decode cX12_init 247 = .ok (.aload_n 0, 1) := by decide +kernel
theorem dX12_init_248 : decode cX12_init 248 = .ok (.sipush 6188, 3) := by decide +kernel
theorem dX12_init_251 : decode cX12_init 251 = .ok (.newarray .long, 2) := by decide +kernel
theorem dX12_init_253 : decode cX12_init 253 = .ok (.putfield 103, 3) := by decide +kernel
theorem dX12_init_256 : decode cX12_init 256 = .ok (.aload_n 0, 1) := by decide +kernel
theorem dX12_init_257 : decode cX12_init 257 = .ok (.iconst 5, 1) := by decide +kernel
theorem dX12_init_258 : decode cX12_init 258 = .ok (.newarray .int, 2) := by decide +kernel
theorem dX12_init_260 : decode cX12_init 260 = .ok (.putfield 106, 3) := by decide +kernel
theorem dX12_init_263 : decode cX12_init 263 = .ok (.aload_n 0, 1) := by decide +kernel
theorem dX12_init_264 : decode cX12_init 264 = .ok (.iconst 5, 1) := by decide +kernel
theorem dX12_init_265 : decode cX12_init 265 = .ok (.newarray .int, 2) := by decide +kernel
theorem dX12_init_267 : decode cX12_init 267 = .ok (.putfield 109, 3) := by decide +kernel
theorem dX12_init_270 : decode cX12_init 270 = .ok (.aload_n 0, 1) := by decide +kernel
theorem dX12_init_271 : decode cX12_init 271 = .ok (.bipush 65, 2) := by decide +kernel
theorem dX12_init_273 : decode cX12_init 273 = .ok (.newarray .int, 2) := by decide +kernel
theorem dX12_init_275 : decode cX12_init 275 = .ok (.putfield 112, 3) := by decide +kernel
theorem dX12_init_278 : decode cX12_init 278 = .ok (.aload_n 0, 1) := by decide +kernel
theorem dX12_init_279 : decode cX12_init 279 = .ok (.iconst 0, 1) := by decide +kernel
theorem dX12_init_280 : decode cX12_init 280 = .ok (.invokevirtual 115, 3) := by decide +kernel
theorem dX12_init_283 : decode cX12_init 283 = .ok (.aload_n 0, 1) := by decide +kernel
theorem dX12_init_284 : decode cX12_init 284 = .ok (.invokevirtual 119, 3) := by decide +kernel
theorem dX12_init_287 : decode cX12_init 287 = .ok (.return_, 1) := by decide +kernel
abbrev tX12_init (k : Nat) : MT := (RX12, cX12_init, 1, k, none)
def nX12_init : KX := ctorOf 1 18 13556 (fun cN => (nSeq nSuper (nSeq (nArr cN 13556 12 1 0 1000 (1000, .inl (fun _ => 0))) (nSeq (nArr cN 13556 12 4 0 1002 (1002, .inl (fun _ => 0))) (nSeq (nArr cN 13556 12 5 0 1002 (1002, .inl (fun _ => 0))) (nSeq (nArr cN 13556 12 6 1 1002 (1002, .inr (.inl (fun _ => 0)))) (nSeq (nLit cN 13556 12 9 (fun f => (vp_updL (vp_updL (vp_updL (vp_updL (vp_updL (vp_updL (vp_updL (vp_updL (vp_updL (vp_updL (vp_updL (vp_updL (vp_updL (vp_updL (vp_updL (vp_updL (vp_updL (vp_updL (vp_updL f 0 11749) 1 23251263) 2 812565) 3 37549136) 4 103360) 5 5698469) 6 16490) 7 6902) 8 30596128) 9 12853) 10 36629165) 11 36269373) 12 19741) 13 1891) 14 573) 15 412740) 16 37895960) 17 30910767) 18 1825))) (nSeq (nArr cN 13556 12 10 0 80 (80, .inl (fun _ => 0))) (nSeq (nArr cN 13556 12 11 0 2200 (2200, .inl (fun _ => 0))) (nSeq (nArr cN 13556 12 13 1 10 (10, .inr (.inl (fun _ => 0)))) (nSeq (nArr cN 13556 12 14 0 250 (250, .inl (fun _ => 0))) (nSeq (nArr cN 13556 12 15 0 4 (4, .inl (fun _ => 0))) (nSeq (nArr cN 13556 12 16 0 64 (64, .inl (fun _ => 0))) (nSeq (nArr cN 13556 12 17 0 651 (651, .inl (fun _ => 0))) (nSeq (nArr cN 13556 12 19 3 4 (4, .inl (fun _ => 0))) (nSeq (nArr cN 13556 12 20 0 5 (5, .inl (fun _ => 0))) (nSeq (nArr cN 13556 12 21 1 6188 (6188, .inr (.inl (fun _ => 0)))) (nSeq (nArr cN 13556 12 23 0 5 (5, .inl (fun _ => 0))) (nSeq (nArr cN 13556 12 24 0 5 (5, .inl (fun _ => 0))) (nSeq (nArr cN 13556 12 25 0 65 (65, .inl (fun _ => 0))) (nStmt (sSeq (sCallV 12 mX12_standsAsAlways (aR (rLoc 0) (aI (iK 0) aNil))) (sCallV 12 mX12_begins (aR (rLoc 0) aNil))))))))))))))))))))))))
theorem kkX12_init (g : GT) : KK g 3 yX12_init cX12_init 1 18 13556 nX12_init := KK.of (pc1 := 287) rfl rfl (fun cN => (Nok.seq (pc1 := 4) (Nok.super oiX12_18 oi_inst oi_code (by decide) dX12_init_0 dX12_init_1) (Nok.seq (pc1 := 13) (Nok.arrI (ci := 12) (T := TX12) (NN := 27) (tt := tyX12) (j := 1) (L := 1000) (n := 1000) (pc1 := 8) rfl wsX12_in tyX12_ok nmX12 (by decide) flX12_14 rfl (fun _ => rfl) (fun _ => rfl) ac_int (by decide) (by decide) (by decide) dX12_init_4 (fun _ => (EokI.sipush (v := 1000) dX12_init_5 (by decide))) dX12_init_8 dX12_init_10) (Nok.seq (pc1 := 22) (Nok.arrI (ci := 12) (T := TX12) (NN := 27) (tt := tyX12) (j := 4) (L := 1002) (n := 1002) (pc1 := 17) rfl wsX12_in tyX12_ok nmX12 (by decide) flX12_24 rfl (fun _ => rfl) (fun _ => rfl) ac_int (by decide) (by decide) (by decide) dX12_init_13 (fun _ => (EokI.sipush (v := 1002) dX12_init_14 (by decide))) dX12_init_17 dX12_init_19) (Nok.seq (pc1 := 31) (Nok.arrI (ci := 12) (T := TX12) (NN := 27) (tt := tyX12) (j := 5) (L := 1002) (n := 1002) (pc1 := 26) rfl wsX12_in tyX12_ok nmX12 (by decide) flX12_27 rfl (fun _ => rfl) (fun _ => rfl) ac_int (by decide) (by decide) (by decide) dX12_init_22 (fun _ => (EokI.sipush (v := 1002) dX12_init_23 (by decide))) dX12_init_26 dX12_init_28) (Nok.seq (pc1 := 40) (Nok.arrL (ci := 12) (T := TX12) (NN := 27) (tt := tyX12) (j := 6) (L := 1002) (n := 1002) (pc1 := 35) rfl wsX12_in tyX12_ok nmX12 (by decide) flX12_30 rfl (fun _ => rfl) (fun _ => rfl) ac_long (by decide) (by decide) (by decide) dX12_init_31 (fun _ => (EokI.sipush (v := 1002) dX12_init_32 (by decide))) dX12_init_35 dX12_init_37) (Nok.seq (pc1 := 175) (Nok.lit (ci := 12) (T := TX12) (NN := 27) (tt := tyX12) (j := 9) (u := fun f => (vp_updL (vp_updL (vp_updL (vp_updL (vp_updL (vp_updL (vp_updL (vp_updL (vp_updL (vp_updL (vp_updL (vp_updL (vp_updL (vp_updL (vp_updL (vp_updL (vp_updL (vp_updL (vp_updL f 0 11749) 1 23251263) 2 812565) 3 37549136) 4 103360) 5 5698469) 6 16490) 7 6902) 8 30596128) 9 12853) 10 36629165) 11 36269373) 12 19741) 13 1891) 14 573) 15 412740) 16 37895960) 17 30910767) 18 1825)) (pc1 := 172) rfl wsX12_in tyX12_ok nmX12 (by decide) flX12_72 rfl (fun _ => rfl) (fun _ => rfl) ac_long dX12_init_40 dX12_init_41 dX12_init_43 (Lk.seq (pc1 := 165) (Lk.seq (pc1 := 158) (Lk.seq (pc1 := 151) (Lk.seq (pc1 := 144) (Lk.seq (pc1 := 137) (Lk.seq (pc1 := 130) (Lk.seq (pc1 := 123) (Lk.seq (pc1 := 116) (Lk.seq (pc1 := 109) (Lk.seq (pc1 := 102) (Lk.seq (pc1 := 95) (Lk.seq (pc1 := 88) (Lk.seq (pc1 := 81) (Lk.seq (pc1 := 75) (Lk.seq (pc1 := 69) (Lk.seq (pc1 := 63) (Lk.seq (pc1 := 57) (Lk.seq (pc1 := 51) (Lk.one (i := 0) (v := 11749) (iv := 0) (pc1 := 47) (pc2 := 50) (by decide) (by decide) dX12_init_45 (fun _ => (EokI.iconst (v := 0) dX12_init_46 (by decide))) (fun _ => (EokL.ldc2 (v := 11749) ckX12_34 dX12_init_47)) dX12_init_50) (Lk.one (i := 1) (v := 23251263) (iv := 1) (pc1 := 53) (pc2 := 56) (by decide) (by decide) dX12_init_51 (fun _ => (EokI.iconst (v := 1) dX12_init_52 (by decide))) (fun _ => (EokL.ldc2 (v := 23251263) ckX12_36 dX12_init_53)) dX12_init_56)) (Lk.one (i := 2) (v := 812565) (iv := 2) (pc1 := 59) (pc2 := 62) (by decide) (by decide) dX12_init_57 (fun _ => (EokI.iconst (v := 2) dX12_init_58 (by decide))) (fun _ => (EokL.ldc2 (v := 812565) ckX12_38 dX12_init_59)) dX12_init_62)) (Lk.one (i := 3) (v := 37549136) (iv := 3) (pc1 := 65) (pc2 := 68) (by decide) (by decide) dX12_init_63 (fun _ => (EokI.iconst (v := 3) dX12_init_64 (by decide))) (fun _ => (EokL.ldc2 (v := 37549136) ckX12_40 dX12_init_65)) dX12_init_68)) (Lk.one (i := 4) (v := 103360) (iv := 4) (pc1 := 71) (pc2 := 74) (by decide) (by decide) dX12_init_69 (fun _ => (EokI.iconst (v := 4) dX12_init_70 (by decide))) (fun _ => (EokL.ldc2 (v := 103360) ckX12_42 dX12_init_71)) dX12_init_74)) (Lk.one (i := 5) (v := 5698469) (iv := 5) (pc1 := 77) (pc2 := 80) (by decide) (by decide) dX12_init_75 (fun _ => (EokI.iconst (v := 5) dX12_init_76 (by decide))) (fun _ => (EokL.ldc2 (v := 5698469) ckX12_44 dX12_init_77)) dX12_init_80)) (Lk.one (i := 6) (v := 16490) (iv := 6) (pc1 := 84) (pc2 := 87) (by decide) (by decide) dX12_init_81 (fun _ => (EokI.bipush (v := 6) dX12_init_82 (by decide))) (fun _ => (EokL.ldc2 (v := 16490) ckX12_46 dX12_init_84)) dX12_init_87)) (Lk.one (i := 7) (v := 6902) (iv := 7) (pc1 := 91) (pc2 := 94) (by decide) (by decide) dX12_init_88 (fun _ => (EokI.bipush (v := 7) dX12_init_89 (by decide))) (fun _ => (EokL.ldc2 (v := 6902) ckX12_48 dX12_init_91)) dX12_init_94)) (Lk.one (i := 8) (v := 30596128) (iv := 8) (pc1 := 98) (pc2 := 101) (by decide) (by decide) dX12_init_95 (fun _ => (EokI.bipush (v := 8) dX12_init_96 (by decide))) (fun _ => (EokL.ldc2 (v := 30596128) ckX12_50 dX12_init_98)) dX12_init_101)) (Lk.one (i := 9) (v := 12853) (iv := 9) (pc1 := 105) (pc2 := 108) (by decide) (by decide) dX12_init_102 (fun _ => (EokI.bipush (v := 9) dX12_init_103 (by decide))) (fun _ => (EokL.ldc2 (v := 12853) ckX12_52 dX12_init_105)) dX12_init_108)) (Lk.one (i := 10) (v := 36629165) (iv := 10) (pc1 := 112) (pc2 := 115) (by decide) (by decide) dX12_init_109 (fun _ => (EokI.bipush (v := 10) dX12_init_110 (by decide))) (fun _ => (EokL.ldc2 (v := 36629165) ckX12_54 dX12_init_112)) dX12_init_115)) (Lk.one (i := 11) (v := 36269373) (iv := 11) (pc1 := 119) (pc2 := 122) (by decide) (by decide) dX12_init_116 (fun _ => (EokI.bipush (v := 11) dX12_init_117 (by decide))) (fun _ => (EokL.ldc2 (v := 36269373) ckX12_56 dX12_init_119)) dX12_init_122)) (Lk.one (i := 12) (v := 19741) (iv := 12) (pc1 := 126) (pc2 := 129) (by decide) (by decide) dX12_init_123 (fun _ => (EokI.bipush (v := 12) dX12_init_124 (by decide))) (fun _ => (EokL.ldc2 (v := 19741) ckX12_58 dX12_init_126)) dX12_init_129)) (Lk.one (i := 13) (v := 1891) (iv := 13) (pc1 := 133) (pc2 := 136) (by decide) (by decide) dX12_init_130 (fun _ => (EokI.bipush (v := 13) dX12_init_131 (by decide))) (fun _ => (EokL.ldc2 (v := 1891) ckX12_60 dX12_init_133)) dX12_init_136)) (Lk.one (i := 14) (v := 573) (iv := 14) (pc1 := 140) (pc2 := 143) (by decide) (by decide) dX12_init_137 (fun _ => (EokI.bipush (v := 14) dX12_init_138 (by decide))) (fun _ => (EokL.ldc2 (v := 573) ckX12_62 dX12_init_140)) dX12_init_143)) (Lk.one (i := 15) (v := 412740) (iv := 15) (pc1 := 147) (pc2 := 150) (by decide) (by decide) dX12_init_144 (fun _ => (EokI.bipush (v := 15) dX12_init_145 (by decide))) (fun _ => (EokL.ldc2 (v := 412740) ckX12_64 dX12_init_147)) dX12_init_150)) (Lk.one (i := 16) (v := 37895960) (iv := 16) (pc1 := 154) (pc2 := 157) (by decide) (by decide) dX12_init_151 (fun _ => (EokI.bipush (v := 16) dX12_init_152 (by decide))) (fun _ => (EokL.ldc2 (v := 37895960) ckX12_66 dX12_init_154)) dX12_init_157)) (Lk.one (i := 17) (v := 30910767) (iv := 17) (pc1 := 161) (pc2 := 164) (by decide) (by decide) dX12_init_158 (fun _ => (EokI.bipush (v := 17) dX12_init_159 (by decide))) (fun _ => (EokL.ldc2 (v := 30910767) ckX12_68 dX12_init_161)) dX12_init_164)) (Lk.one (i := 18) (v := 1825) (iv := 18) (pc1 := 168) (pc2 := 171) (by decide) (by decide) dX12_init_165 (fun _ => (EokI.bipush (v := 18) dX12_init_166 (by decide))) (fun _ => (EokL.ldc2 (v := 1825) ckX12_70 dX12_init_168)) dX12_init_171)) dX12_init_172) (Nok.seq (pc1 := 183) (Nok.arrI (ci := 12) (T := TX12) (NN := 27) (tt := tyX12) (j := 10) (L := 80) (n := 80) (pc1 := 178) rfl wsX12_in tyX12_ok nmX12 (by decide) flX12_75 rfl (fun _ => rfl) (fun _ => rfl) ac_int (by decide) (by decide) (by decide) dX12_init_175 (fun _ => (EokI.bipush (v := 80) dX12_init_176 (by decide))) dX12_init_178 dX12_init_180) (Nok.seq (pc1 := 192) (Nok.arrI (ci := 12) (T := TX12) (NN := 27) (tt := tyX12) (j := 11) (L := 2200) (n := 2200) (pc1 := 187) rfl wsX12_in tyX12_ok nmX12 (by decide) flX12_78 rfl (fun _ => rfl) (fun _ => rfl) ac_int (by decide) (by decide) (by decide) dX12_init_183 (fun _ => (EokI.sipush (v := 2200) dX12_init_184 (by decide))) dX12_init_187 dX12_init_189) (Nok.seq (pc1 := 200) (Nok.arrL (ci := 12) (T := TX12) (NN := 27) (tt := tyX12) (j := 13) (L := 10) (n := 10) (pc1 := 195) rfl wsX12_in tyX12_ok nmX12 (by decide) flX12_81 rfl (fun _ => rfl) (fun _ => rfl) ac_long (by decide) (by decide) (by decide) dX12_init_192 (fun _ => (EokI.bipush (v := 10) dX12_init_193 (by decide))) dX12_init_195 dX12_init_197) (Nok.seq (pc1 := 209) (Nok.arrI (ci := 12) (T := TX12) (NN := 27) (tt := tyX12) (j := 14) (L := 250) (n := 250) (pc1 := 204) rfl wsX12_in tyX12_ok nmX12 (by decide) flX12_84 rfl (fun _ => rfl) (fun _ => rfl) ac_int (by decide) (by decide) (by decide) dX12_init_200 (fun _ => (EokI.sipush (v := 250) dX12_init_201 (by decide))) dX12_init_204 dX12_init_206) (Nok.seq (pc1 := 216) (Nok.arrI (ci := 12) (T := TX12) (NN := 27) (tt := tyX12) (j := 15) (L := 4) (n := 4) (pc1 := 211) rfl wsX12_in tyX12_ok nmX12 (by decide) flX12_87 rfl (fun _ => rfl) (fun _ => rfl) ac_int (by decide) (by decide) (by decide) dX12_init_209 (fun _ => (EokI.iconst (v := 4) dX12_init_210 (by decide))) dX12_init_211 dX12_init_213) (Nok.seq (pc1 := 224) (Nok.arrI (ci := 12) (T := TX12) (NN := 27) (tt := tyX12) (j := 16) (L := 64) (n := 64) (pc1 := 219) rfl wsX12_in tyX12_ok nmX12 (by decide) flX12_90 rfl (fun _ => rfl) (fun _ => rfl) ac_int (by decide) (by decide) (by decide) dX12_init_216 (fun _ => (EokI.bipush (v := 64) dX12_init_217 (by decide))) dX12_init_219 dX12_init_221) (Nok.seq (pc1 := 233) (Nok.arrI (ci := 12) (T := TX12) (NN := 27) (tt := tyX12) (j := 17) (L := 651) (n := 651) (pc1 := 228) rfl wsX12_in tyX12_ok nmX12 (by decide) flX12_93 rfl (fun _ => rfl) (fun _ => rfl) ac_int (by decide) (by decide) (by decide) dX12_init_224 (fun _ => (EokI.sipush (v := 651) dX12_init_225 (by decide))) dX12_init_228 dX12_init_230) (Nok.seq (pc1 := 240) (Nok.arrZ (ci := 12) (T := TX12) (NN := 27) (tt := tyX12) (j := 19) (L := 4) (n := 4) (pc1 := 235) rfl wsX12_in tyX12_ok nmX12 (by decide) flX12_96 rfl (fun _ => rfl) (fun _ => rfl) ac_boolean (by decide) (by decide) (by decide) dX12_init_233 (fun _ => (EokI.iconst (v := 4) dX12_init_234 (by decide))) dX12_init_235 dX12_init_237) (Nok.seq (pc1 := 247) (Nok.arrI (ci := 12) (T := TX12) (NN := 27) (tt := tyX12) (j := 20) (L := 5) (n := 5) (pc1 := 242) rfl wsX12_in tyX12_ok nmX12 (by decide) flX12_100 rfl (fun _ => rfl) (fun _ => rfl) ac_int (by decide) (by decide) (by decide) dX12_init_240 (fun _ => (EokI.iconst (v := 5) dX12_init_241 (by decide))) dX12_init_242 dX12_init_244) (Nok.seq (pc1 := 256) (Nok.arrL (ci := 12) (T := TX12) (NN := 27) (tt := tyX12) (j := 21) (L := 6188) (n := 6188) (pc1 := 251) rfl wsX12_in tyX12_ok nmX12 (by decide) flX12_103 rfl (fun _ => rfl) (fun _ => rfl) ac_long (by decide) (by decide) (by decide) dX12_init_247 (fun _ => (EokI.sipush (v := 6188) dX12_init_248 (by decide))) dX12_init_251 dX12_init_253) (Nok.seq (pc1 := 263) (Nok.arrI (ci := 12) (T := TX12) (NN := 27) (tt := tyX12) (j := 23) (L := 5) (n := 5) (pc1 := 258) rfl wsX12_in tyX12_ok nmX12 (by decide) flX12_106 rfl (fun _ => rfl) (fun _ => rfl) ac_int (by decide) (by decide) (by decide) dX12_init_256 (fun _ => (EokI.iconst (v := 5) dX12_init_257 (by decide))) dX12_init_258 dX12_init_260) (Nok.seq (pc1 := 270) (Nok.arrI (ci := 12) (T := TX12) (NN := 27) (tt := tyX12) (j := 24) (L := 5) (n := 5) (pc1 := 265) rfl wsX12_in tyX12_ok nmX12 (by decide) flX12_109 rfl (fun _ => rfl) (fun _ => rfl) ac_int (by decide) (by decide) (by decide) dX12_init_263 (fun _ => (EokI.iconst (v := 5) dX12_init_264 (by decide))) dX12_init_265 dX12_init_267) (Nok.seq (pc1 := 278) (Nok.arrI (ci := 12) (T := TX12) (NN := 27) (tt := tyX12) (j := 25) (L := 65) (n := 65) (pc1 := 273) rfl wsX12_in tyX12_ok nmX12 (by decide) flX12_112 rfl (fun _ => rfl) (fun _ => rfl) ac_int (by decide) (by decide) (by decide) dX12_init_270 (fun _ => (EokI.bipush (v := 65) dX12_init_271 (by decide))) dX12_init_273 dX12_init_275) (Nok.stmt (fun g9 => (Sok.seq (pc1 := 283) (Sok.sCallV (pc1 := 280) (Aok.aR (pc1 := 279) (EokR.aload_n (q := 0) dX12_init_278) (Aok.aI (pc1 := 280) (EokI.iconst (v := 0) dX12_init_279 (by decide)) Aok.nil)) (by decide) (kX12_standsAsAlways g9) rfl ykX12_standsAsAlways vkX12_115 (by decide) (by decide) dX12_init_280) (Sok.sCallV (pc1 := 284) (Aok.aR (pc1 := 284) (EokR.aload_n (q := 0) dX12_init_283) Aok.nil) (by decide) (kX12_begins g9) rfl ykX12_begins vkX12_119 (by decide) (by decide) dX12_init_284)))))))))))))))))))))))) dX12_init_287
