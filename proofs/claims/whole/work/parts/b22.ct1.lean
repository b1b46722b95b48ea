set_option maxRecDepth 20000
set_option maxHeartbeats 4000000
set_option linter.all false
theorem ac_boolean : Cond.arrayClass .boolean ∈ WD := WD_mem (i := 289) (by decide +kernel) rfl
theorem ac_byte : Cond.arrayClass .byte ∈ WD := WD_mem (i := 161) (by decide +kernel) rfl
theorem ac_int : Cond.arrayClass .int ∈ WD := WD_mem (i := 237) (by decide +kernel) rfl
theorem ac_long : Cond.arrayClass .long ∈ WD := WD_mem (i := 322) (by decide +kernel) rfl
theorem oi_inst : Cond.instanceMethod objectInit ∈ WD := WD_mem (i := 144) (by decide +kernel) rfl
theorem oi_code : Cond.code objectInit ⟨#[0xb1]⟩ 1 none ∈ WD := WD_mem (i := 145) (by decide +kernel) rfl
theorem oiX11_1 : Cond.methodLink RX11 1 objectInit ∈ WD := WD_mem (i := 143) (by decide +kernel) rfl
theorem oiX0_3 : Cond.methodLink RX0 3 objectInit ∈ WD := WD_mem (i := 295) (by decide +kernel) rfl
theorem oiX1_5 : Cond.methodLink RX1 5 objectInit ∈ WD := WD_mem (i := 301) (by decide +kernel) rfl
theorem oiX2_3 : Cond.methodLink RX2 3 objectInit ∈ WD := WD_mem (i := 212) (by decide +kernel) rfl
theorem oiX3_3 : Cond.methodLink RX3 3 objectInit ∈ WD := WD_mem (i := 428) (by decide +kernel) rfl
theorem oiX4_3 : Cond.methodLink RX4 3 objectInit ∈ WD := WD_mem (i := 167) (by decide +kernel) rfl
theorem oiX5_3 : Cond.methodLink RX5 3 objectInit ∈ WD := WD_mem (i := 243) (by decide +kernel) rfl
theorem oiX6_3 : Cond.methodLink RX6 3 objectInit ∈ WD := WD_mem (i := 481) (by decide +kernel) rfl
theorem oiX7_3 : Cond.methodLink RX7 3 objectInit ∈ WD := WD_mem (i := 151) (by decide +kernel) rfl
theorem oiX8_1 : Cond.methodLink RX8 1 objectInit ∈ WD := WD_mem (i := 173) (by decide +kernel) rfl
theorem oiX9_3 : Cond.methodLink RX9 3 objectInit ∈ WD := WD_mem (i := 395) (by decide +kernel) rfl
theorem oiX10_3 : Cond.methodLink RX10 3 objectInit ∈ WD := WD_mem (i := 450) (by decide +kernel) rfl
theorem oiX12_18 : Cond.methodLink RX12 18 objectInit ∈ WD := WD_mem (i := 1466) (by decide +kernel) rfl
theorem clX11_7 : Cond.classLink RX11 7 RX7 ∈ WD := WD_mem (i := 146) (by decide +kernel) rfl
theorem clX11_16 : Cond.classLink RX11 16 RX4 ∈ WD := WD_mem (i := 162) (by decide +kernel) rfl
theorem clX11_25 : Cond.classLink RX11 25 RX2 ∈ WD := WD_mem (i := 207) (by decide +kernel) rfl
theorem clX11_32 : Cond.classLink RX11 32 RX5 ∈ WD := WD_mem (i := 238) (by decide +kernel) rfl
theorem clX11_39 : Cond.classLink RX11 39 RX0 ∈ WD := WD_mem (i := 290) (by decide +kernel) rfl
theorem clX11_49 : Cond.classLink RX11 49 RX9 ∈ WD := WD_mem (i := 390) (by decide +kernel) rfl
theorem clX11_59 : Cond.classLink RX11 59 RX3 ∈ WD := WD_mem (i := 423) (by decide +kernel) rfl
theorem clX11_68 : Cond.classLink RX11 68 RX10 ∈ WD := WD_mem (i := 445) (by decide +kernel) rfl
theorem clX11_75 : Cond.classLink RX11 75 RX6 ∈ WD := WD_mem (i := 476) (by decide +kernel) rfl
theorem clX0_15 : Cond.classLink RX0 15 RX1 ∈ WD := WD_mem (i := 296) (by decide +kernel) rfl
theorem clX4_15 : Cond.classLink RX4 15 RX8 ∈ WD := WD_mem (i := 168) (by decide +kernel) rfl
theorem ins_X0 : Cond.instantiable RX0 17 ∈ WD := WD_mem (i := 291) (by decide +kernel) rfl
theorem dv_X0 : ∀ j, j < 17 → defaultValue (tyX0 j) = vp_V [.null, .null, .null, .int 0, .int 0, .null, .null, .null, .null, .null, .null, .null, .null, .null, .null, .null, .int 0] j := by decide +kernel
theorem ins_X1 : Cond.instantiable RX1 6 ∈ WD := WD_mem (i := 297) (by decide +kernel) rfl
theorem dv_X1 : ∀ j, j < 6 → defaultValue (tyX1 j) = vp_V [.null, .null, .null, .null, .null, .int 0] j := by decide +kernel
theorem ins_X2 : Cond.instantiable RX2 5 ∈ WD := WD_mem (i := 208) (by decide +kernel) rfl
theorem dv_X2 : ∀ j, j < 5 → defaultValue (tyX2 j) = vp_V [.null, .null, .null, .null, .null] j := by decide +kernel
theorem ins_X3 : Cond.instantiable RX3 5 ∈ WD := WD_mem (i := 424) (by decide +kernel) rfl
theorem dv_X3 : ∀ j, j < 5 → defaultValue (tyX3 j) = vp_V [.null, .null, .null, .null, .int 0] j := by decide +kernel
theorem ins_X4 : Cond.instantiable RX4 3 ∈ WD := WD_mem (i := 163) (by decide +kernel) rfl
theorem dv_X4 : ∀ j, j < 3 → defaultValue (tyX4 j) = vp_V [.null, .null, .int 0] j := by decide +kernel
theorem ins_X5 : Cond.instantiable RX5 13 ∈ WD := WD_mem (i := 239) (by decide +kernel) rfl
theorem dv_X5 : ∀ j, j < 13 → defaultValue (tyX5 j) = vp_V [.null, .null, .null, .null, .null, .null, .null, .null, .int 0, .int 0, .int 0, .int 0, .int 0] j := by decide +kernel
theorem ins_X6 : Cond.instantiable RX6 4 ∈ WD := WD_mem (i := 477) (by decide +kernel) rfl
theorem dv_X6 : ∀ j, j < 4 → defaultValue (tyX6 j) = vp_V [.null, .null, .null, .null] j := by decide +kernel
theorem ins_X7 : Cond.instantiable RX7 2 ∈ WD := WD_mem (i := 147) (by decide +kernel) rfl
theorem dv_X7 : ∀ j, j < 2 → defaultValue (tyX7 j) = vp_V [.null, .int 0] j := by decide +kernel
theorem ins_X8 : Cond.instantiable RX8 6 ∈ WD := WD_mem (i := 169) (by decide +kernel) rfl
theorem dv_X8 : ∀ j, j < 6 → defaultValue (tyX8 j) = vp_V [.null, .int 0, .int 0, .int 0, .int 0, .long 0] j := by decide +kernel
theorem ins_X9 : Cond.instantiable RX9 7 ∈ WD := WD_mem (i := 391) (by decide +kernel) rfl
theorem dv_X9 : ∀ j, j < 7 → defaultValue (tyX9 j) = vp_V [.null, .null, .null, .int 0, .int 0, .int 0, .int 0] j := by decide +kernel
theorem ins_X10 : Cond.instantiable RX10 8 ∈ WD := WD_mem (i := 446) (by decide +kernel) rfl
theorem dv_X10 : ∀ j, j < 8 → defaultValue (tyX10 j) = vp_V [.null, .null, .null, .null, .null, .int 0, .int 0, .int 0] j := by decide +kernel
theorem wcX8_init : Cond.code yX8_init cX8_init 2 none ∈ WD := WD_mem (i := 172) rfl rfl
theorem wiX8_init : Cond.initialized RX8 ∈ WD := WD_mem (i := 122) (by decide +kernel) rfl
theorem wnX8_init : Cond.instanceMethod yX8_init ∈ WD := WD_mem (i := 171) (by decide +kernel) rfl
theorem ycX8_init : (yX8_init).cls ≠ "java/lang/invoke/MethodHandle" ∧ (yX8_init).cls ≠ "java/lang/invoke/VarHandle" ∧ (parseMethodDescriptor (yX8_init).desc).map (fun d => d.parameters.length) = some 1 := by decide +kernel
theorem wcX1_init : Cond.code yX1_init cX1_init 1 none ∈ WD := WD_mem (i := 300) rfl rfl
theorem wiX1_init : Cond.initialized RX1 ∈ WD := WD_mem (i := 126) (by decide +kernel) rfl
theorem wnX1_init : Cond.instanceMethod yX1_init ∈ WD := WD_mem (i := 299) (by decide +kernel) rfl
theorem ycX1_init : (yX1_init).cls ≠ "java/lang/invoke/MethodHandle" ∧ (yX1_init).cls ≠ "java/lang/invoke/VarHandle" ∧ (parseMethodDescriptor (yX1_init).desc).map (fun d => d.parameters.length) = some 0 := by decide +kernel
theorem wcX7_init : Cond.code yX7_init cX7_init 1 none ∈ WD := WD_mem (i := 150) rfl rfl
theorem wiX7_init : Cond.initialized RX7 ∈ WD := WD_mem (i := 120) (by decide +kernel) rfl
theorem wnX7_init : Cond.instanceMethod yX7_init ∈ WD := WD_mem (i := 149) (by decide +kernel) rfl
theorem ycX7_init : (yX7_init).cls ≠ "java/lang/invoke/MethodHandle" ∧ (yX7_init).cls ≠ "java/lang/invoke/VarHandle" ∧ (parseMethodDescriptor (yX7_init).desc).map (fun d => d.parameters.length) = some 0 := by decide +kernel
theorem wcX4_init : Cond.code yX4_init cX4_init 2 none ∈ WD := WD_mem (i := 166) rfl rfl
theorem wiX4_init : Cond.initialized RX4 ∈ WD := WD_mem (i := 121) (by decide +kernel) rfl
theorem wnX4_init : Cond.instanceMethod yX4_init ∈ WD := WD_mem (i := 165) (by decide +kernel) rfl
theorem ycX4_init : (yX4_init).cls ≠ "java/lang/invoke/MethodHandle" ∧ (yX4_init).cls ≠ "java/lang/invoke/VarHandle" ∧ (parseMethodDescriptor (yX4_init).desc).map (fun d => d.parameters.length) = some 1 := by decide +kernel
theorem wcX2_init : Cond.code yX2_init cX2_init 5 none ∈ WD := WD_mem (i := 211) rfl rfl
theorem wiX2_init : Cond.initialized RX2 ∈ WD := WD_mem (i := 123) (by decide +kernel) rfl
theorem wnX2_init : Cond.instanceMethod yX2_init ∈ WD := WD_mem (i := 210) (by decide +kernel) rfl
theorem ycX2_init : (yX2_init).cls ≠ "java/lang/invoke/MethodHandle" ∧ (yX2_init).cls ≠ "java/lang/invoke/VarHandle" ∧ (parseMethodDescriptor (yX2_init).desc).map (fun d => d.parameters.length) = some 0 := by decide +kernel
theorem wcX5_init : Cond.code yX5_init cX5_init 1 none ∈ WD := WD_mem (i := 242) rfl rfl
theorem wiX5_init : Cond.initialized RX5 ∈ WD := WD_mem (i := 124) (by decide +kernel) rfl
theorem wnX5_init : Cond.instanceMethod yX5_init ∈ WD := WD_mem (i := 241) (by decide +kernel) rfl
theorem ycX5_init : (yX5_init).cls ≠ "java/lang/invoke/MethodHandle" ∧ (yX5_init).cls ≠ "java/lang/invoke/VarHandle" ∧ (parseMethodDescriptor (yX5_init).desc).map (fun d => d.parameters.length) = some 0 := by decide +kernel
theorem wcX0_init : Cond.code yX0_init cX0_init 1 none ∈ WD := WD_mem (i := 294) rfl rfl
theorem wiX0_init : Cond.initialized RX0 ∈ WD := WD_mem (i := 125) (by decide +kernel) rfl
theorem wnX0_init : Cond.instanceMethod yX0_init ∈ WD := WD_mem (i := 293) (by decide +kernel) rfl
theorem ycX0_init : (yX0_init).cls ≠ "java/lang/invoke/MethodHandle" ∧ (yX0_init).cls ≠ "java/lang/invoke/VarHandle" ∧ (parseMethodDescriptor (yX0_init).desc).map (fun d => d.parameters.length) = some 0 := by decide +kernel
theorem wcX9_init : Cond.code yX9_init cX9_init 1 none ∈ WD := WD_mem (i := 394) rfl rfl
theorem wiX9_init : Cond.initialized RX9 ∈ WD := WD_mem (i := 127) (by decide +kernel) rfl
theorem wnX9_init : Cond.instanceMethod yX9_init ∈ WD := WD_mem (i := 393) (by decide +kernel) rfl
theorem ycX9_init : (yX9_init).cls ≠ "java/lang/invoke/MethodHandle" ∧ (yX9_init).cls ≠ "java/lang/invoke/VarHandle" ∧ (parseMethodDescriptor (yX9_init).desc).map (fun d => d.parameters.length) = some 0 := by decide +kernel
theorem wcX3_init : Cond.code yX3_init cX3_init 3 none ∈ WD := WD_mem (i := 427) rfl rfl
theorem wiX3_init : Cond.initialized RX3 ∈ WD := WD_mem (i := 128) (by decide +kernel) rfl
theorem wnX3_init : Cond.instanceMethod yX3_init ∈ WD := WD_mem (i := 426) (by decide +kernel) rfl
theorem ycX3_init : (yX3_init).cls ≠ "java/lang/invoke/MethodHandle" ∧ (yX3_init).cls ≠ "java/lang/invoke/VarHandle" ∧ (parseMethodDescriptor (yX3_init).desc).map (fun d => d.parameters.length) = some 2 := by decide +kernel
theorem wcX10_init : Cond.code yX10_init cX10_init 3 none ∈ WD := WD_mem (i := 449) rfl rfl
theorem wiX10_init : Cond.initialized RX10 ∈ WD := WD_mem (i := 129) (by decide +kernel) rfl
theorem wnX10_init : Cond.instanceMethod yX10_init ∈ WD := WD_mem (i := 448) (by decide +kernel) rfl
theorem ycX10_init : (yX10_init).cls ≠ "java/lang/invoke/MethodHandle" ∧ (yX10_init).cls ≠ "java/lang/invoke/VarHandle" ∧ (parseMethodDescriptor (yX10_init).desc).map (fun d => d.parameters.length) = some 2 := by decide +kernel
theorem wcX6_init : Cond.code yX6_init cX6_init 4 none ∈ WD := WD_mem (i := 480) rfl rfl
theorem wiX6_init : Cond.initialized RX6 ∈ WD := WD_mem (i := 130) (by decide +kernel) rfl
theorem wnX6_init : Cond.instanceMethod yX6_init ∈ WD := WD_mem (i := 479) (by decide +kernel) rfl
theorem ycX6_init : (yX6_init).cls ≠ "java/lang/invoke/MethodHandle" ∧ (yX6_init).cls ≠ "java/lang/invoke/VarHandle" ∧ (parseMethodDescriptor (yX6_init).desc).map (fun d => d.parameters.length) = some 3 := by decide +kernel
theorem iokX11_9 : iok RX11 9 yX7_init cX7_init 1 := ⟨Or.inr ⟨_, List.mem_of_getElem? (i := 0) rfl⟩, wnX7_init, wiX7_init, wcX7_init⟩
theorem iokX11_18 : iok RX11 18 yX4_init cX4_init 2 := ⟨Or.inl (WD_mem (i := 164) (by decide +kernel) rfl), wnX4_init, wiX4_init, wcX4_init⟩
theorem iokX11_27 : iok RX11 27 yX2_init cX2_init 5 := ⟨Or.inl (WD_mem (i := 209) (by decide +kernel) rfl), wnX2_init, wiX2_init, wcX2_init⟩
theorem iokX11_34 : iok RX11 34 yX5_init cX5_init 1 := ⟨Or.inr ⟨_, List.mem_of_getElem? (i := 1) rfl⟩, wnX5_init, wiX5_init, wcX5_init⟩
theorem iokX11_41 : iok RX11 41 yX0_init cX0_init 1 := ⟨Or.inl (WD_mem (i := 292) (by decide +kernel) rfl), wnX0_init, wiX0_init, wcX0_init⟩
theorem iokX11_51 : iok RX11 51 yX9_init cX9_init 1 := ⟨Or.inr ⟨_, List.mem_of_getElem? (i := 2) rfl⟩, wnX9_init, wiX9_init, wcX9_init⟩
theorem iokX11_61 : iok RX11 61 yX3_init cX3_init 3 := ⟨Or.inl (WD_mem (i := 425) (by decide +kernel) rfl), wnX3_init, wiX3_init, wcX3_init⟩
theorem iokX11_70 : iok RX11 70 yX10_init cX10_init 3 := ⟨Or.inl (WD_mem (i := 447) (by decide +kernel) rfl), wnX10_init, wiX10_init, wcX10_init⟩
theorem iokX11_77 : iok RX11 77 yX6_init cX6_init 4 := ⟨Or.inl (WD_mem (i := 478) (by decide +kernel) rfl), wnX6_init, wiX6_init, wcX6_init⟩
theorem iokX0_17 : iok RX0 17 yX1_init cX1_init 1 := ⟨Or.inr ⟨_, List.mem_of_getElem? (i := 3) rfl⟩, wnX1_init, wiX1_init, wcX1_init⟩
theorem iokX4_17 : iok RX4 17 yX8_init cX8_init 2 := ⟨Or.inl (WD_mem (i := 170) (by decide +kernel) rfl), wnX8_init, wiX8_init, wcX8_init⟩
/-! new PassHuts$Tape()V -/
theorem dX7_init_0 : decode cX7_init 0 = .ok (.aload_n 0, 1) := by decide +kernel
theorem dX7_init_1 : decode cX7_init 1 = .ok (.invokespecial 3, 3) := by decide +kernel
theorem dX7_init_4 : decode cX7_init 4 = .ok (.aload_n 0, 1) := by decide +kernel
theorem dX7_init_5 : decode cX7_init 5 = .ok (.sipush 1000, 3) := by decide +kernel
theorem dX7_init_8 : decode cX7_init 8 = .ok (.newarray .byte, 2) := by decide +kernel
theorem dX7_init_10 : decode cX7_init 10 = .ok (.putfield 9, 3) := by decide +kernel
theorem dX7_init_13 : decode cX7_init 13 = .ok (.return_, 1) := by decide +kernel
abbrev tX7_init (k : Nat) : MT := (RX7, cX7_init, 1, k, none)
def nX7_init : KX := ctorOf 1 1 1000 (fun cN => (nSeq nSuper (nArr cN 1000 7 0 2 1000 (1000, .inl (fun _ => 0)))))
theorem kkX7_init (g : GT) : KK g 1 yX7_init cX7_init 1 1 1000 nX7_init := KK.of (pc1 := 13) rfl rfl (fun cN => (Nok.seq (pc1 := 4) (Nok.super oiX7_3 oi_inst oi_code (by decide) dX7_init_0 dX7_init_1) (Nok.arrB (ci := 7) (T := TX7) (NN := 2) (tt := tyX7) (j := 0) (L := 1000) (n := 1000) (pc1 := 8) rfl wsX7_in tyX7_ok nmX7 (by decide) flX7_9 rfl (fun _ => rfl) (fun _ => rfl) ac_byte (by decide) (by decide) (by decide) dX7_init_4 (fun _ => (EokI.sipush (v := 1000) dX7_init_5 (by decide))) dX7_init_8 dX7_init_10))) dX7_init_13
/-! new PassHuts$Tokens(LPassHuts$Tape;)V -/
theorem dX8_init_0 : decode cX8_init 0 = .ok (.aload_n 0, 1) := by decide +kernel
theorem dX8_init_1 : decode cX8_init 1 = .ok (.invokespecial 1, 3) := by decide +kernel
theorem dX8_init_4 : decode cX8_init 4 = .ok (.aload_n 0, 1) := by decide +kernel
theorem dX8_init_5 : decode cX8_init 5 = .ok (.aload_n 1, 1) := by decide +kernel
theorem dX8_init_6 : decode cX8_init 6 = .ok (.putfield 7, 3) := by decide +kernel
theorem dX8_init_9 : decode cX8_init 9 = .ok (.return_, 1) := by decide +kernel
abbrev tX8_init (k : Nat) : MT := (RX8, cX8_init, 2, k, none)
def nX8_init : KX := ctorOf 2 0 0 (fun cN => (nSeq nSuper (nPutR 8 0 1)))
theorem kkX8_init (g : GT) : KK g 1 yX8_init cX8_init 2 0 0 nX8_init := KK.of (pc1 := 9) rfl rfl (fun cN => (Nok.seq (pc1 := 4) (Nok.super oiX8_1 oi_inst oi_code (by decide) dX8_init_0 dX8_init_1) (Nok.putR (ci := 8) (T := TX8) (NN := 6) (tt := tyX8) (j := 0) (i := 1) (i4 := 1) rfl wsX8_in tyX8_ok nmX8 (by decide) flX8_7 rfl (fun _ => rfl) (fun _ => rfl) rfl dX8_init_4 dX8_init_5 dX8_init_6))) dX8_init_9
/-! new PassHuts$Reader(LPassHuts$Tape;)V -/
theorem dX4_init_0 : decode cX4_init 0 = .ok (.aload_n 0, 1) := by decide +kernel
theorem dX4_init_1 : decode cX4_init 1 = .ok (.invokespecial 3, 3) := by decide +kernel
theorem dX4_init_4 : decode cX4_init 4 = .ok (.aload_n 0, 1) := by decide +kernel
theorem dX4_init_5 : decode cX4_init 5 = .ok (.aload_n 1, 1) := by decide +kernel
theorem dX4_init_6 : decode cX4_init 6 = .ok (.putfield 9, 3) := by decide +kernel
theorem dX4_init_9 : decode cX4_init 9 = .ok (.aload_n 0, 1) := by decide +kernel
theorem dX4_init_10 : decode cX4_init 10 = .ok (.new 15, 3) := by decide +kernel
theorem dX4_init_13 : decode cX4_init 13 = .ok (.dup, 1) := by decide +kernel
theorem dX4_init_14 : decode cX4_init 14 = .ok (.aload_n 1, 1) := by decide +kernel
theorem dX4_init_15 : decode cX4_init 15 = .ok (.invokespecial 17, 3) := by decide +kernel
theorem dX4_init_18 : decode cX4_init 18 = .ok (.putfield 20, 3) := by decide +kernel
theorem dX4_init_21 : decode cX4_init 21 = .ok (.return_, 1) := by decide +kernel
abbrev tX4_init (k : Nat) : MT := (RX4, cX4_init, 2, k, none)
def nX4_init : KX := ctorOf 2 1 6 (fun cN => (nSeq nSuper (nSeq (nPutR 4 0 1) (nObj cN 6 4 1 8 6 0 0 [.null, .int 0, .int 0, .int 0, .int 0, .long 0] (aR (rLoc 1) aNil) nX8_init))))
theorem kkX4_init (g : GT) : KK g 2 yX4_init cX4_init 2 1 6 nX4_init := KK.of (pc1 := 21) rfl rfl (fun cN => (Nok.seq (pc1 := 4) (Nok.super oiX4_3 oi_inst oi_code (by decide) dX4_init_0 dX4_init_1) (Nok.seq (pc1 := 9) (Nok.putR (ci := 4) (T := TX4) (NN := 3) (tt := tyX4) (j := 0) (i := 1) (i4 := 1) rfl wsX4_in tyX4_ok nmX4 (by decide) flX4_9 rfl (fun _ => rfl) (fun _ => rfl) rfl dX4_init_4 dX4_init_5 dX4_init_6) (Nok.obj (ci := 4) (T := TX4) (NN := 3) (tt := tyX4) (j := 1) (ci2 := 8) (T2 := TX8) (NN2 := 6) (tt2 := tyX8) (fs2 := [.null, .int 0, .int 0, .int 0, .int 0, .long 0]) (mc := 0) (ms := 0) (pc1 := 15) rfl wsX4_in tyX4_ok nmX4 (by decide) flX4_20 rfl (fun _ => rfl) (fun _ => rfl) rfl wsX8_in tyX8_ok clX4_15 ins_X8 wiX8_init dv_X8 (fun _ => rfl) (kkX8_init g) ycX8_init rfl iokX4_17 (by decide) (by decide) dX4_init_9 dX4_init_10 dX4_init_13 (fun _ => (Aok.aR (pc1 := 15) (EokR.aload_n (q := 1) dX4_init_14) Aok.nil)) (by decide) dX4_init_15 dX4_init_18)))) dX4_init_21
/-! new PassHuts$Lyings()V -/
theorem dX2_init_0 : decode cX2_init 0 = .ok (.aload_n 0, 1) := by decide +kernel
theorem dX2_init_1 : decode cX2_init 1 = .ok (.invokespecial 3, 3) := by decide +kernel
theorem dX2_init_4 : decode cX2_init 4 = .ok (.aload_n 0, 1) := by decide +kernel
theorem dX2_init_5 : decode cX2_init 5 = .ok (.sipush 6188, 3) := by decide +kernel
theorem dX2_init_8 : decode cX2_init 8 = .ok (.newarray .int, 2) := by decide +kernel
theorem dX2_init_10 : decode cX2_init 10 = .ok (.putfield 9, 3) := by decide +kernel
theorem dX2_init_13 : decode cX2_init 13 = .ok (.aload_n 0, 1) := by decide +kernel
theorem dX2_init_14 : decode cX2_init 14 = .ok (.sipush 3328, 3) := by decide +kernel
theorem dX2_init_17 : decode cX2_init 17 = .ok (.newarray .int, 2) := by decide +kernel
theorem dX2_init_19 : decode cX2_init 19 = .ok (.putfield 15, 3) := by decide +kernel
theorem dX2_init_22 : decode cX2_init 22 = .ok (.aload_n 0, 1) := by decide +kernel
theorem dX2_init_23 : decode cX2_init 23 = .ok (.sipush 3328, 3) := by decide +kernel
theorem dX2_init_26 : decode cX2_init 26 = .ok (.newarray .int, 2) := by decide +kernel
theorem dX2_init_28 : decode cX2_init 28 = .ok (.putfield 18, 3) := by decide +kernel
theorem dX2_init_31 : decode cX2_init 31 = .ok (.aload_n 0, 1) := by decide +kernel
theorem dX2_init_32 : decode cX2_init 32 = .ok (.bipush 13, 2) := by decide +kernel
theorem dX2_init_34 : decode cX2_init 34 = .ok (.newarray .int, 2) := by decide +kernel
theorem dX2_init_36 : decode cX2_init 36 = .ok (.putfield 21, 3) := by decide +kernel
theorem dX2_init_39 : decode cX2_init 39 = .ok (.aload_n 0, 1) := by decide +kernel
theorem dX2_init_40 : decode cX2_init 40 = .ok (.bipush 78, 2) := by decide +kernel
theorem dX2_init_42 : decode cX2_init 42 = .ok (.newarray .int, 2) := by decide +kernel
theorem dX2_init_44 : decode cX2_init 44 = .ok (.putfield 24, 3) := by decide +kernel
theorem dX2_init_47 : decode cX2_init 47 = .ok (.iconst 0, 1) := by decide +kernel
theorem dX2_init_48 : decode cX2_init 48 = .ok (.istore_n 1, 1) := by decide +kernel
theorem dX2_init_49 : decode cX2_init 49 = .ok (.iconst 0, 1) := by decide +kernel
theorem dX2_init_50 : decode cX2_init 50 = .ok (.istore_n 2, 1) := by decide +kernel
theorem dX2_init_51 : decode cX2_init 51 = .ok (.iload_n 2, 1) := by decide +kernel
theorem dX2_init_52 : decode cX2_init 52 = .ok (.bipush 13, 2) := by decide +kernel
theorem dX2_init_54 : decode cX2_init 54 = .ok (.if_icmp .ge 81, 3) := by decide +kernel
theorem dX2_init_57 : decode cX2_init 57 = .ok (.aload_n 0, 1) := by decide +kernel
theorem dX2_init_58 : decode cX2_init 58 = .ok (.getfield 21, 3) := by decide +kernel
theorem dX2_init_61 : decode cX2_init 61 = .ok (.iload_n 2, 1) := by decide +kernel
theorem dX2_init_62 : decode cX2_init 62 = .ok (.iload_n 1, 1) := by decide +kernel
theorem dX2_init_63 : decode cX2_init 63 = .ok (.iastore, 1) := by decide +kernel
theorem dX2_init_64 : decode cX2_init 64 = .ok (.iconst 0, 1) := by decide +kernel
theorem dX2_init_65 : decode cX2_init 65 = .ok (.istore_n 3, 1) := by decide +kernel
theorem dX2_init_66 : decode cX2_init 66 = .ok (.iload_n 3, 1) := by decide +kernel
theorem dX2_init_67 : decode cX2_init 67 = .ok (.iload_n 2, 1) := by decide +kernel
theorem dX2_init_68 : decode cX2_init 68 = .ok (.if_icmp .gt 61, 3) := by decide +kernel
theorem dX2_init_71 : decode cX2_init 71 = .ok (.iconst 0, 1) := by decide +kernel
theorem dX2_init_72 : decode cX2_init 72 = .ok (.istore 4, 2) := by decide +kernel
theorem dX2_init_74 : decode cX2_init 74 = .ok (.iload 4, 2) := by decide +kernel
theorem dX2_init_76 : decode cX2_init 76 = .ok (.iload_n 2, 1) := by decide +kernel
theorem dX2_init_77 : decode cX2_init 77 = .ok (.iload_n 3, 1) := by decide +kernel
theorem dX2_init_78 : decode cX2_init 78 = .ok (.isub, 1) := by decide +kernel
theorem dX2_init_79 : decode cX2_init 79 = .ok (.if_icmp .gt 44, 3) := by decide +kernel
theorem dX2_init_82 : decode cX2_init 82 = .ok (.aload_n 0, 1) := by decide +kernel
theorem dX2_init_83 : decode cX2_init 83 = .ok (.getfield 15, 3) := by decide +kernel
theorem dX2_init_86 : decode cX2_init 86 = .ok (.iload_n 2, 1) := by decide +kernel
theorem dX2_init_87 : decode cX2_init 87 = .ok (.bipush 8, 2) := by decide +kernel
theorem dX2_init_89 : decode cX2_init 89 = .ok (.ishl, 1) := by decide +kernel
theorem dX2_init_90 : decode cX2_init 90 = .ok (.iload_n 3, 1) := by decide +kernel
theorem dX2_init_91 : decode cX2_init 91 = .ok (.iconst 4, 1) := by decide +kernel
theorem dX2_init_92 : decode cX2_init 92 = .ok (.ishl, 1) := by decide +kernel
theorem dX2_init_93 : decode cX2_init 93 = .ok (.ior, 1) := by decide +kernel
theorem dX2_init_94 : decode cX2_init 94 = .ok (.iload 4, 2) := by decide +kernel
theorem dX2_init_96 : decode cX2_init 96 = .ok (.ior, 1) := by decide +kernel
theorem dX2_init_97 : decode cX2_init 97 = .ok (.iload_n 1, 1) := by decide +kernel
theorem dX2_init_98 : decode cX2_init 98 = .ok (.iastore, 1) := by decide +kernel
theorem dX2_init_99 : decode cX2_init 99 = .ok (.aload_n 0, 1) := by decide +kernel
theorem dX2_init_100 : decode cX2_init 100 = .ok (.iload_n 2, 1) := by decide +kernel
theorem dX2_init_101 : decode cX2_init 101 = .ok (.iload_n 3, 1) := by decide +kernel
theorem dX2_init_102 : decode cX2_init 102 = .ok (.isub, 1) := by decide +kernel
theorem dX2_init_103 : decode cX2_init 103 = .ok (.iload 4, 2) := by decide +kernel
theorem dX2_init_105 : decode cX2_init 105 = .ok (.isub, 1) := by decide +kernel
theorem dX2_init_106 : decode cX2_init 106 = .ok (.iload_n 3, 1) := by decide +kernel
theorem dX2_init_107 : decode cX2_init 107 = .ok (.iconst 4, 1) := by decide +kernel
theorem dX2_init_108 : decode cX2_init 108 = .ok (.ishl, 1) := by decide +kernel
theorem dX2_init_109 : decode cX2_init 109 = .ok (.iload 4, 2) := by decide +kernel
theorem dX2_init_111 : decode cX2_init 111 = .ok (.ior, 1) := by decide +kernel
theorem dX2_init_112 : decode cX2_init 112 = .ok (.iload_n 1, 1) := by decide +kernel
theorem dX2_init_113 : decode cX2_init 113 = .ok (.invokevirtual 27, 3) := by decide +kernel
theorem dX2_init_116 : decode cX2_init 116 = .ok (.istore_n 1, 1) := by decide +kernel
theorem dX2_init_117 : decode cX2_init 117 = .ok (.iinc 4 1, 3) := by decide +kernel
theorem dX2_init_120 : decode cX2_init 120 = .ok (.goto (-46), 3) := by decide +kernel
theorem dX2_init_123 : decode cX2_init 123 = .ok (.iinc 3 1, 3) := by decide +kernel
theorem dX2_init_126 : decode cX2_init 126 = .ok (.goto (-60), 3) := by decide +kernel
theorem dX2_init_129 : decode cX2_init 129 = .ok (.iinc 2 1, 3) := by decide +kernel
theorem dX2_init_132 : decode cX2_init 132 = .ok (.goto (-81), 3) := by decide +kernel
theorem dX2_init_135 : decode cX2_init 135 = .ok (.aload_n 0, 1) := by decide +kernel
theorem dX2_init_136 : decode cX2_init 136 = .ok (.invokevirtual 31, 3) := by decide +kernel
theorem dX2_init_139 : decode cX2_init 139 = .ok (.return_, 1) := by decide +kernel
abbrev tX2_init (k : Nat) : MT := (RX2, cX2_init, 5, k, none)
def lX2_init_1 : SX := (sLoop (cB rle (iLoc 4) (iB gT2 (· - ·) (iLoc 2) (iLoc 3))) (sSeq (sASt 0 narI (rGet 2 1 (rLoc 0)) (iB gT2 (· ||| ·) (iB gT2 (· ||| ·) (iB gT2 jshl (iLoc 2) (iK 8)) (iB gT2 jshl (iLoc 3) (iK 4))) (iLoc 4)) (iLoc 1)) (sSetI 1 (iCallV 2 mX2_addLowest (aR (rLoc 0) (aI (iB gT2 (· - ·) (iB gT2 (· - ·) (iLoc 2) (iLoc 3)) (iLoc 4)) (aI (iB gT2 (· ||| ·) (iB gT2 jshl (iLoc 3) (iK 4)) (iLoc 4)) (aI (iLoc 1) aNil))))))) (sInc 4 1))
def lX2_init_2 : SX := (sLoop (cB rle (iLoc 3) (iLoc 2)) (sSeq (sSetI 4 (iK 0)) lX2_init_1) (sSeq (sForget 4) (sInc 3 1)))
def lX2_init_3 : SX := (sLoop (cB rlt (iLoc 2) (iK 13)) (sSeq (sASt 0 narI (rGet 2 3 (rLoc 0)) (iLoc 2) (iLoc 1)) (sSeq (sSetI 3 (iK 0)) lX2_init_2)) (sSeq (sForget 3) (sInc 2 1)))
theorem olX2_init_1 (g : GT) {pcB pcC : Nat} : Sok g (tX2_init 1) 74 123 pcB pcC lX2_init_1 := (Sok.loop (pc := 74) (pc1 := 82) (pc2 := 117) (pcN := 123) (Cok.cmp (pc1 := 76) (pc2 := 79) (pcT := 82) (pcF := 123) (EokI.iload (i := 4) dX2_init_74) (EokI.bin (pc1 := 77) (pc2 := 78) (EokI.iload_n (q := 2) dX2_init_76) (EokI.iload_n (q := 3) dX2_init_77) (OPI.isub dX2_init_78)) (JI.leF (tgt := 123) dX2_init_79 (by decide))) (by decide) (Sok.seq (pc1 := 99) (Sok.iASt (pc1 := 86) (pc2 := 97) (pc3 := 98) (EokR.getf (pc1 := 83) (j := 1) (ci := 2) (T := TX2) (N := 5) (EokR.aload_n (q := 0) dX2_init_82) rfl wsX2_in (by decide) flX2_15 dX2_init_83) (EokI.bin (pc1 := 94) (pc2 := 96) (EokI.bin (pc1 := 90) (pc2 := 93) (EokI.bin (pc1 := 87) (pc2 := 89) (EokI.iload_n (q := 2) dX2_init_86) (EokI.bipush (v := 8) dX2_init_87 (by decide)) (OPI.ishl dX2_init_89)) (EokI.bin (pc1 := 91) (pc2 := 92) (EokI.iload_n (q := 3) dX2_init_90) (EokI.iconst (v := 4) dX2_init_91 (by decide)) (OPI.ishl dX2_init_92)) (OPI.ior dX2_init_93)) (EokI.iload (i := 4) dX2_init_94) (OPI.ior dX2_init_96)) (EokI.iload_n (q := 1) dX2_init_97) (by decide) dX2_init_98) (Sok.setI_n (q := 1) (pc1 := 116) (EokI.iCallV (pc1 := 113) (Aok.aR (pc1 := 100) (EokR.aload_n (q := 0) dX2_init_99) (Aok.aI (pc1 := 106) (EokI.bin (pc1 := 103) (pc2 := 105) (EokI.bin (pc1 := 101) (pc2 := 102) (EokI.iload_n (q := 2) dX2_init_100) (EokI.iload_n (q := 3) dX2_init_101) (OPI.isub dX2_init_102)) (EokI.iload (i := 4) dX2_init_103) (OPI.isub dX2_init_105)) (Aok.aI (pc1 := 112) (EokI.bin (pc1 := 109) (pc2 := 111) (EokI.bin (pc1 := 107) (pc2 := 108) (EokI.iload_n (q := 3) dX2_init_106) (EokI.iconst (v := 4) dX2_init_107 (by decide)) (OPI.ishl dX2_init_108)) (EokI.iload (i := 4) dX2_init_109) (OPI.ior dX2_init_111)) (Aok.aI (pc1 := 113) (EokI.iload_n (q := 1) dX2_init_112) Aok.nil)))) (kX2_addLowest g) rfl ykX2_addLowest vkX2_27 (by decide) (by decide) dX2_init_113) (by decide) dX2_init_116 (show 1 < 5 by decide))) (Sok.goto (pc1 := 120) (pcN := 74) (Sok.iinc (i := 4) (v := 1) dX2_init_117 (show 4 < 5 by decide) (by decide)) dX2_init_120 (by decide)))
theorem olX2_init_2 (g : GT) {pcB pcC : Nat} : Sok g (tX2_init 1) 66 129 pcB pcC lX2_init_2 := (Sok.loop (pc := 66) (pc1 := 71) (pc2 := 123) (pcN := 129) (Cok.cmp (pc1 := 67) (pc2 := 68) (pcT := 71) (pcF := 129) (EokI.iload_n (q := 3) dX2_init_66) (EokI.iload_n (q := 2) dX2_init_67) (JI.leF (tgt := 129) dX2_init_68 (by decide))) (by decide) (Sok.seq (pc1 := 74) (Sok.setI (i := 4) (pc1 := 72) (EokI.iconst (v := 0) dX2_init_71 (by decide)) (by decide) dX2_init_72 (show 4 < 5 by decide)) (olX2_init_1 g )) (Sok.seq (pc1 := 123) Sok.forget (Sok.goto (pc1 := 126) (pcN := 66) (Sok.iinc (i := 3) (v := 1) dX2_init_123 (show 3 < 5 by decide) (by decide)) dX2_init_126 (by decide))))
theorem olX2_init_3 (g : GT) {pcB pcC : Nat} : Sok g (tX2_init 1) 51 135 pcB pcC lX2_init_3 := (Sok.loop (pc := 51) (pc1 := 57) (pc2 := 129) (pcN := 135) (Cok.cmp (pc1 := 52) (pc2 := 54) (pcT := 57) (pcF := 135) (EokI.iload_n (q := 2) dX2_init_51) (EokI.bipush (v := 13) dX2_init_52 (by decide)) (JI.ltF (tgt := 135) dX2_init_54 (by decide))) (by decide) (Sok.seq (pc1 := 64) (Sok.iASt (pc1 := 61) (pc2 := 62) (pc3 := 63) (EokR.getf (pc1 := 58) (j := 3) (ci := 2) (T := TX2) (N := 5) (EokR.aload_n (q := 0) dX2_init_57) rfl wsX2_in (by decide) flX2_21 dX2_init_58) (EokI.iload_n (q := 2) dX2_init_61) (EokI.iload_n (q := 1) dX2_init_62) (by decide) dX2_init_63) (Sok.seq (pc1 := 66) (Sok.setI_n (q := 3) (pc1 := 65) (EokI.iconst (v := 0) dX2_init_64 (by decide)) (by decide) dX2_init_65 (show 3 < 5 by decide)) (olX2_init_2 g ))) (Sok.seq (pc1 := 129) Sok.forget (Sok.goto (pc1 := 132) (pcN := 51) (Sok.iinc (i := 2) (v := 1) dX2_init_129 (show 2 < 5 by decide) (by decide)) dX2_init_132 (by decide))))
def nX2_init : KX := ctorOf 5 5 12935 (fun cN => (nSeq nSuper (nSeq (nArr cN 12935 2 0 0 6188 (6188, .inl (fun _ => 0))) (nSeq (nArr cN 12935 2 1 0 3328 (3328, .inl (fun _ => 0))) (nSeq (nArr cN 12935 2 2 0 3328 (3328, .inl (fun _ => 0))) (nSeq (nArr cN 12935 2 3 0 13 (13, .inl (fun _ => 0))) (nSeq (nArr cN 12935 2 4 0 78 (78, .inl (fun _ => 0))) (nStmt (sSeq (sSetI 1 (iK 0)) (sSeq (sSeq (sSeq (sSetI 2 (iK 0)) lX2_init_3) (sForget 2)) (sCallV 2 mX2_fillEnds (aR (rLoc 0) aNil))))))))))))
theorem kkX2_init (g : GT) : KK g 1 yX2_init cX2_init 5 5 12935 nX2_init := KK.of (pc1 := 139) rfl rfl (fun cN => (Nok.seq (pc1 := 4) (Nok.super oiX2_3 oi_inst oi_code (by decide) dX2_init_0 dX2_init_1) (Nok.seq (pc1 := 13) (Nok.arrI (ci := 2) (T := TX2) (NN := 5) (tt := tyX2) (j := 0) (L := 6188) (n := 6188) (pc1 := 8) rfl wsX2_in tyX2_ok nmX2 (by decide) flX2_9 rfl (fun _ => rfl) (fun _ => rfl) ac_int (by decide) (by decide) (by decide) dX2_init_4 (fun _ => (EokI.sipush (v := 6188) dX2_init_5 (by decide))) dX2_init_8 dX2_init_10) (Nok.seq (pc1 := 22) (Nok.arrI (ci := 2) (T := TX2) (NN := 5) (tt := tyX2) (j := 1) (L := 3328) (n := 3328) (pc1 := 17) rfl wsX2_in tyX2_ok nmX2 (by decide) flX2_15 rfl (fun _ => rfl) (fun _ => rfl) ac_int (by decide) (by decide) (by decide) dX2_init_13 (fun _ => (EokI.sipush (v := 3328) dX2_init_14 (by decide))) dX2_init_17 dX2_init_19) (Nok.seq (pc1 := 31) (Nok.arrI (ci := 2) (T := TX2) (NN := 5) (tt := tyX2) (j := 2) (L := 3328) (n := 3328) (pc1 := 26) rfl wsX2_in tyX2_ok nmX2 (by decide) flX2_18 rfl (fun _ => rfl) (fun _ => rfl) ac_int (by decide) (by decide) (by decide) dX2_init_22 (fun _ => (EokI.sipush (v := 3328) dX2_init_23 (by decide))) dX2_init_26 dX2_init_28) (Nok.seq (pc1 := 39) (Nok.arrI (ci := 2) (T := TX2) (NN := 5) (tt := tyX2) (j := 3) (L := 13) (n := 13) (pc1 := 34) rfl wsX2_in tyX2_ok nmX2 (by decide) flX2_21 rfl (fun _ => rfl) (fun _ => rfl) ac_int (by decide) (by decide) (by decide) dX2_init_31 (fun _ => (EokI.bipush (v := 13) dX2_init_32 (by decide))) dX2_init_34 dX2_init_36) (Nok.seq (pc1 := 47) (Nok.arrI (ci := 2) (T := TX2) (NN := 5) (tt := tyX2) (j := 4) (L := 78) (n := 78) (pc1 := 42) rfl wsX2_in tyX2_ok nmX2 (by decide) flX2_24 rfl (fun _ => rfl) (fun _ => rfl) ac_int (by decide) (by decide) (by decide) dX2_init_39 (fun _ => (EokI.bipush (v := 78) dX2_init_40 (by decide))) dX2_init_42 dX2_init_44) (Nok.stmt (fun g9 => (Sok.seq (pc1 := 49) (Sok.setI_n (q := 1) (pc1 := 48) (EokI.iconst (v := 0) dX2_init_47 (by decide)) (by decide) dX2_init_48 (show 1 < 5 by decide)) (Sok.seq (pc1 := 135) (Sok.seq (pc1 := 135) (Sok.seq (pc1 := 51) (Sok.setI_n (q := 2) (pc1 := 50) (EokI.iconst (v := 0) dX2_init_49 (by decide)) (by decide) dX2_init_50 (show 2 < 5 by decide)) (olX2_init_3 g9 )) (Sok.forget (pc := 135))) (Sok.sCallV (pc1 := 136) (Aok.aR (pc1 := 136) (EokR.aload_n (q := 0) dX2_init_135) Aok.nil) (by decide) (kX2_fillEnds g9) rfl ykX2_fillEnds vkX2_31 (by decide) (by decide) dX2_init_136)))))))))))) dX2_init_139
/-! new PassHuts$Story()V -/
theorem dX5_init_0 : decode cX5_init 0 = .ok (.aload_n 0, 1) := by decide +kernel
theorem dX5_init_1 : decode cX5_init 1 = .ok (.invokespecial 3, 3) := by decide +kernel
theorem dX5_init_4 : decode cX5_init 4 = .ok (.aload_n 0, 1) := by decide +kernel
theorem dX5_init_5 : decode cX5_init 5 = .ok (.bipush 16, 2) := by decide +kernel
theorem dX5_init_7 : decode cX5_init 7 = .ok (.newarray .int, 2) := by decide +kernel
theorem dX5_init_9 : decode cX5_init 9 = .ok (.putfield 9, 3) := by decide +kernel
theorem dX5_init_12 : decode cX5_init 12 = .ok (.aload_n 0, 1) := by decide +kernel
theorem dX5_init_13 : decode cX5_init 13 = .ok (.bipush 16, 2) := by decide +kernel
theorem dX5_init_15 : decode cX5_init 15 = .ok (.newarray .int, 2) := by decide +kernel
theorem dX5_init_17 : decode cX5_init 17 = .ok (.putfield 15, 3) := by decide +kernel
theorem dX5_init_20 : decode cX5_init 20 = .ok (.aload_n 0, 1) := by decide +kernel
theorem dX5_init_21 : decode cX5_init 21 = .ok (.bipush 8, 2) := by decide +kernel
theorem dX5_init_23 : decode cX5_init 23 = .ok (.newarray .int, 2) := by decide +kernel
theorem dX5_init_25 : decode cX5_init 25 = .ok (.putfield 18, 3) := by decide +kernel
theorem dX5_init_28 : decode cX5_init 28 = .ok (.aload_n 0, 1) := by decide +kernel
theorem dX5_init_29 : decode cX5_init 29 = .ok (.iconst 4, 1) := by decide +kernel
theorem dX5_init_30 : decode cX5_init 30 = .ok (.newarray .boolean, 2) := by decide +kernel
theorem dX5_init_32 : decode cX5_init 32 = .ok (.putfield 21, 3) := by decide +kernel
theorem dX5_init_35 : decode cX5_init 35 = .ok (.aload_n 0, 1) := by decide +kernel
theorem dX5_init_36 : decode cX5_init 36 = .ok (.iconst 4, 1) := by decide +kernel
theorem dX5_init_37 : decode cX5_init 37 = .ok (.newarray .int, 2) := by decide +kernel
theorem dX5_init_39 : decode cX5_init 39 = .ok (.putfield 25, 3) := by decide +kernel
theorem dX5_init_42 : decode cX5_init 42 = .ok (.aload_n 0, 1) := by decide +kernel
theorem dX5_init_43 : decode cX5_init 43 = .ok (.iconst 4, 1) := by decide +kernel
theorem dX5_init_44 : decode cX5_init 44 = .ok (.newarray .int, 2) := by decide +kernel
theorem dX5_init_46 : decode cX5_init 46 = .ok (.putfield 28, 3) := by decide +kernel
theorem dX5_init_49 : decode cX5_init 49 = .ok (.aload_n 0, 1) := by decide +kernel
theorem dX5_init_50 : decode cX5_init 50 = .ok (.iconst 4, 1) := by decide +kernel
theorem dX5_init_51 : decode cX5_init 51 = .ok (.newarray .int, 2) := by decide +kernel
theorem dX5_init_53 : decode cX5_init 53 = .ok (.putfield 31, 3) := by decide +kernel
theorem dX5_init_56 : decode cX5_init 56 = .ok (.aload_n 0, 1) := by decide +kernel
theorem dX5_init_57 : decode cX5_init 57 = .ok (.bipush 32, 2) := by decide +kernel
theorem dX5_init_59 : decode cX5_init 59 = .ok (.newarray .int, 2) := by decide +kernel
theorem dX5_init_61 : decode cX5_init 61 = .ok (.putfield 34, 3) := by decide +kernel
theorem dX5_init_64 : decode cX5_init 64 = .ok (.return_, 1) := by decide +kernel
abbrev tX5_init (k : Nat) : MT := (RX5, cX5_init, 1, k, none)
def nX5_init : KX := ctorOf 1 8 88 (fun cN => (nSeq nSuper (nSeq (nArr cN 88 5 0 0 16 (16, .inl (fun _ => 0))) (nSeq (nArr cN 88 5 1 0 16 (16, .inl (fun _ => 0))) (nSeq (nArr cN 88 5 2 0 8 (8, .inl (fun _ => 0))) (nSeq (nArr cN 88 5 3 3 4 (4, .inl (fun _ => 0))) (nSeq (nArr cN 88 5 4 0 4 (4, .inl (fun _ => 0))) (nSeq (nArr cN 88 5 5 0 4 (4, .inl (fun _ => 0))) (nSeq (nArr cN 88 5 6 0 4 (4, .inl (fun _ => 0))) (nArr cN 88 5 7 0 32 (32, .inl (fun _ => 0))))))))))))
theorem kkX5_init (g : GT) : KK g 1 yX5_init cX5_init 1 8 88 nX5_init := KK.of (pc1 := 64) rfl rfl (fun cN => (Nok.seq (pc1 := 4) (Nok.super oiX5_3 oi_inst oi_code (by decide) dX5_init_0 dX5_init_1) (Nok.seq (pc1 := 12) (Nok.arrI (ci := 5) (T := TX5) (NN := 13) (tt := tyX5) (j := 0) (L := 16) (n := 16) (pc1 := 7) rfl wsX5_in tyX5_ok nmX5 (by decide) flX5_9 rfl (fun _ => rfl) (fun _ => rfl) ac_int (by decide) (by decide) (by decide) dX5_init_4 (fun _ => (EokI.bipush (v := 16) dX5_init_5 (by decide))) dX5_init_7 dX5_init_9) (Nok.seq (pc1 := 20) (Nok.arrI (ci := 5) (T := TX5) (NN := 13) (tt := tyX5) (j := 1) (L := 16) (n := 16) (pc1 := 15) rfl wsX5_in tyX5_ok nmX5 (by decide) flX5_15 rfl (fun _ => rfl) (fun _ => rfl) ac_int (by decide) (by decide) (by decide) dX5_init_12 (fun _ => (EokI.bipush (v := 16) dX5_init_13 (by decide))) dX5_init_15 dX5_init_17) (Nok.seq (pc1 := 28) (Nok.arrI (ci := 5) (T := TX5) (NN := 13) (tt := tyX5) (j := 2) (L := 8) (n := 8) (pc1 := 23) rfl wsX5_in tyX5_ok nmX5 (by decide) flX5_18 rfl (fun _ => rfl) (fun _ => rfl) ac_int (by decide) (by decide) (by decide) dX5_init_20 (fun _ => (EokI.bipush (v := 8) dX5_init_21 (by decide))) dX5_init_23 dX5_init_25) (Nok.seq (pc1 := 35) (Nok.arrZ (ci := 5) (T := TX5) (NN := 13) (tt := tyX5) (j := 3) (L := 4) (n := 4) (pc1 := 30) rfl wsX5_in tyX5_ok nmX5 (by decide) flX5_21 rfl (fun _ => rfl) (fun _ => rfl) ac_boolean (by decide) (by decide) (by decide) dX5_init_28 (fun _ => (EokI.iconst (v := 4) dX5_init_29 (by decide))) dX5_init_30 dX5_init_32) (Nok.seq (pc1 := 42) (Nok.arrI (ci := 5) (T := TX5) (NN := 13) (tt := tyX5) (j := 4) (L := 4) (n := 4) (pc1 := 37) rfl wsX5_in tyX5_ok nmX5 (by decide) flX5_25 rfl (fun _ => rfl) (fun _ => rfl) ac_int (by decide) (by decide) (by decide) dX5_init_35 (fun _ => (EokI.iconst (v := 4) dX5_init_36 (by decide))) dX5_init_37 dX5_init_39) (Nok.seq (pc1 := 49) (Nok.arrI (ci := 5) (T := TX5) (NN := 13) (tt := tyX5) (j := 5) (L := 4) (n := 4) (pc1 := 44) rfl wsX5_in tyX5_ok nmX5 (by decide) flX5_28 rfl (fun _ => rfl) (fun _ => rfl) ac_int (by decide) (by decide) (by decide) dX5_init_42 (fun _ => (EokI.iconst (v := 4) dX5_init_43 (by decide))) dX5_init_44 dX5_init_46) (Nok.seq (pc1 := 56) (Nok.arrI (ci := 5) (T := TX5) (NN := 13) (tt := tyX5) (j := 6) (L := 4) (n := 4) (pc1 := 51) rfl wsX5_in tyX5_ok nmX5 (by decide) flX5_31 rfl (fun _ => rfl) (fun _ => rfl) ac_int (by decide) (by decide) (by decide) dX5_init_49 (fun _ => (EokI.iconst (v := 4) dX5_init_50 (by decide))) dX5_init_51 dX5_init_53) (Nok.arrI (ci := 5) (T := TX5) (NN := 13) (tt := tyX5) (j := 7) (L := 32) (n := 32) (pc1 := 59) rfl wsX5_in tyX5_ok nmX5 (by decide) flX5_34 rfl (fun _ => rfl) (fun _ => rfl) ac_int (by decide) (by decide) (by decide) dX5_init_56 (fun _ => (EokI.bipush (v := 32) dX5_init_57 (by decide))) dX5_init_59 dX5_init_61)))))))))) dX5_init_64
/-! new PassHuts$Law()V -/
theorem dX1_init_0 : decode cX1_init 0 = .ok (.aload_n 0, 1) := by decide +kernel
theorem dX1_init_1 : decode cX1_init 1 = .ok (.invokespecial 5, 3) := by decide +kernel
theorem dX1_init_4 : decode cX1_init 4 = .ok (.aload_n 0, 1) := by decide +kernel
theorem dX1_init_5 : decode cX1_init 5 = .ok (.sipush 1000, 3) := by decide +kernel
theorem dX1_init_8 : decode cX1_init 8 = .ok (.newarray .int, 2) := by decide +kernel
theorem dX1_init_10 : decode cX1_init 10 = .ok (.putfield 11, 3) := by decide +kernel
theorem dX1_init_13 : decode cX1_init 13 = .ok (.aload_n 0, 1) := by decide +kernel
theorem dX1_init_14 : decode cX1_init 14 = .ok (.bipush 32, 2) := by decide +kernel
theorem dX1_init_16 : decode cX1_init 16 = .ok (.newarray .int, 2) := by decide +kernel
theorem dX1_init_18 : decode cX1_init 18 = .ok (.putfield 15, 3) := by decide +kernel
theorem dX1_init_21 : decode cX1_init 21 = .ok (.aload_n 0, 1) := by decide +kernel
theorem dX1_init_22 : decode cX1_init 22 = .ok (.iconst 4, 1) := by decide +kernel
theorem dX1_init_23 : decode cX1_init 23 = .ok (.newarray .int, 2) := by decide +kernel
theorem dX1_init_25 : decode cX1_init 25 = .ok (.putfield 18, 3) := by decide +kernel
theorem dX1_init_28 : decode cX1_init 28 = .ok (.aload_n 0, 1) := by decide +kernel
theorem dX1_init_29 : decode cX1_init 29 = .ok (.sipush 138, 3) := by decide +kernel
theorem dX1_init_32 : decode cX1_init 32 = .ok (.newarray .long, 2) := by decide +kernel
theorem dX1_init_34 : decode cX1_init 34 = .ok (.putfield 21, 3) := by decide +kernel
theorem dX1_init_37 : decode cX1_init 37 = .ok (.aload_n 0, 1) := by decide +kernel
theorem dX1_init_38 : decode cX1_init 38 = .ok (.sipush 138, 3) := by decide +kernel
theorem dX1_init_41 : decode cX1_init 41 = .ok (.newarray .long, 2) := by decide +kernel
theorem dX1_init_43 : decode cX1_init 43 = .ok (.putfield 25, 3) := by decide +kernel
theorem dX1_init_46 : decode cX1_init 46 = .ok (.return_, 1) := by decide +kernel
abbrev tX1_init (k : Nat) : MT := (RX1, cX1_init, 1, k, none)
def nX1_init : KX := ctorOf 1 5 1312 (fun cN => (nSeq nSuper (nSeq (nArr cN 1312 1 0 0 1000 (1000, .inl (fun _ => 0))) (nSeq (nArr cN 1312 1 1 0 32 (32, .inl (fun _ => 0))) (nSeq (nArr cN 1312 1 2 0 4 (4, .inl (fun _ => 0))) (nSeq (nArr cN 1312 1 3 1 138 (138, .inr (.inl (fun _ => 0)))) (nArr cN 1312 1 4 1 138 (138, .inr (.inl (fun _ => 0))))))))))
theorem kkX1_init (g : GT) : KK g 1 yX1_init cX1_init 1 5 1312 nX1_init := KK.of (pc1 := 46) rfl rfl (fun cN => (Nok.seq (pc1 := 4) (Nok.super oiX1_5 oi_inst oi_code (by decide) dX1_init_0 dX1_init_1) (Nok.seq (pc1 := 13) (Nok.arrI (ci := 1) (T := TX1) (NN := 6) (tt := tyX1) (j := 0) (L := 1000) (n := 1000) (pc1 := 8) rfl wsX1_in tyX1_ok nmX1 (by decide) flX1_11 rfl (fun _ => rfl) (fun _ => rfl) ac_int (by decide) (by decide) (by decide) dX1_init_4 (fun _ => (EokI.sipush (v := 1000) dX1_init_5 (by decide))) dX1_init_8 dX1_init_10) (Nok.seq (pc1 := 21) (Nok.arrI (ci := 1) (T := TX1) (NN := 6) (tt := tyX1) (j := 1) (L := 32) (n := 32) (pc1 := 16) rfl wsX1_in tyX1_ok nmX1 (by decide) flX1_15 rfl (fun _ => rfl) (fun _ => rfl) ac_int (by decide) (by decide) (by decide) dX1_init_13 (fun _ => (EokI.bipush (v := 32) dX1_init_14 (by decide))) dX1_init_16 dX1_init_18) (Nok.seq (pc1 := 28) (Nok.arrI (ci := 1) (T := TX1) (NN := 6) (tt := tyX1) (j := 2) (L := 4) (n := 4) (pc1 := 23) rfl wsX1_in tyX1_ok nmX1 (by decide) flX1_18 rfl (fun _ => rfl) (fun _ => rfl) ac_int (by decide) (by decide) (by decide) dX1_init_21 (fun _ => (EokI.iconst (v := 4) dX1_init_22 (by decide))) dX1_init_23 dX1_init_25) (Nok.seq (pc1 := 37) (Nok.arrL (ci := 1) (T := TX1) (NN := 6) (tt := tyX1) (j := 3) (L := 138) (n := 138) (pc1 := 32) rfl wsX1_in tyX1_ok nmX1 (by decide) flX1_21 rfl (fun _ => rfl) (fun _ => rfl) ac_long (by decide) (by decide) (by decide) dX1_init_28 (fun _ => (EokI.sipush (v := 138) dX1_init_29 (by decide))) dX1_init_32 dX1_init_34) (Nok.arrL (ci := 1) (T := TX1) (NN := 6) (tt := tyX1) (j := 4) (L := 138) (n := 138) (pc1 := 41) rfl wsX1_in tyX1_ok nmX1 (by decide) flX1_25 rfl (fun _ => rfl) (fun _ => rfl) ac_long (by decide) (by decide) (by decide) dX1_init_37 (fun _ => (EokI.sipush (v := 138) dX1_init_38 (by decide))) dX1_init_41 dX1_init_43))))))) dX1_init_46
/-! new PassHuts$Hills()V -/
theorem dX0_init_0 : decode cX0_init 0 = .ok (.aload_n 0, 1) := by decide +kernel
theorem dX0_init_1 : decode cX0_init 1 = .ok (.invokespecial 3, 3) := by decide +kernel
theorem dX0_init_4 : decode cX0_init 4 = .ok (.aload_n 0, 1) := by decide +kernel
theorem dX0_init_5 : decode cX0_init 5 = .ok (.iconst 5, 1) := by decide +kernel
theorem dX0_init_6 : decode cX0_init 6 = .ok (.newarray .int, 2) := by decide +kernel
theorem dX0_init_8 : decode cX0_init 8 = .ok (.putfield 9, 3) := by decide +kernel
theorem dX0_init_11 : decode cX0_init 11 = .ok (.aload_n 0, 1) := by decide +kernel
theorem dX0_init_12 : decode cX0_init 12 = .ok (.new 15, 3) := by decide +kernel
theorem dX0_init_15 : decode cX0_init 15 = .ok (.dup, 1) := by decide +kernel
theorem dX0_init_16 : decode cX0_init 16 = .ok (.invokespecial 17, 3) := by decide +kernel
theorem dX0_init_19 : decode cX0_init 19 = .ok (.putfield 18, 3) := by decide +kernel
theorem dX0_init_22 : decode cX0_init 22 = .ok (.aload_n 0, 1) := by decide +kernel
theorem dX0_init_23 : decode cX0_init 23 = .ok (.iconst 5, 1) := by decide +kernel
theorem dX0_init_24 : decode cX0_init 24 = .ok (.newarray .long, 2) := by decide +kernel
theorem dX0_init_26 : decode cX0_init 26 = .ok (.putfield 22, 3) := by decide +kernel
theorem dX0_init_29 : decode cX0_init 29 = .ok (.aload_n 0, 1) := by decide +kernel
theorem dX0_init_30 : decode cX0_init 30 = .ok (.iconst 5, 1) := by decide +kernel
theorem dX0_init_31 : decode cX0_init 31 = .ok (.newarray .int, 2) := by decide +kernel
theorem dX0_init_33 : decode cX0_init 33 = .ok (.putfield 26, 3) := by decide +kernel
theorem dX0_init_36 : decode cX0_init 36 = .ok (.aload_n 0, 1) := by decide +kernel
theorem dX0_init_37 : decode cX0_init 37 = .ok (.bipush 25, 2) := by decide +kernel
theorem dX0_init_39 : decode cX0_init 39 = .ok (.newarray .int, 2) := by decide +kernel
theorem dX0_init_41 : decode cX0_init 41 = .ok (.putfield 29, 3) := by decide +kernel
theorem dX0_init_44 : decode cX0_init 44 = .ok (.aload_n 0, 1) := by decide +kernel
theorem dX0_init_45 : decode cX0_init 45 = .ok (.bipush 25, 2) := by decide +kernel
theorem dX0_init_47 : decode cX0_init 47 = .ok (.newarray .int, 2) := by decide +kernel
theorem dX0_init_49 : decode cX0_init 49 = .ok (.putfield 32, 3) := by decide +kernel
theorem dX0_init_52 : decode cX0_init 52 = .ok (.aload_n 0, 1) := by decide +kernel
theorem dX0_init_53 : decode cX0_init 53 = .ok (.bipush 20, 2) := by decide +kernel
theorem dX0_init_55 : decode cX0_init 55 = .ok (.newarray .int, 2) := by decide +kernel
theorem dX0_init_57 : decode cX0_init 57 = .ok (.putfield 35, 3) := by decide +kernel
theorem dX0_init_60 : decode cX0_init 60 = .ok (.aload_n 0, 1) := by decide +kernel
theorem dX0_init_61 : decode cX0_init 61 = .ok (.bipush 20, 2) := by decide +kernel
theorem dX0_init_63 : decode cX0_init 63 = .ok (.newarray .int, 2) := by decide +kernel
theorem dX0_init_65 : decode cX0_init 65 = .ok (.putfield 38, 3) := by decide +kernel
theorem dX0_init_68 : decode cX0_init 68 = .ok (.aload_n 0, 1) := by decide +kernel
theorem dX0_init_69 : decode cX0_init 69 = .ok (.bipush 20, 2) := by decide +kernel
theorem dX0_init_71 : decode cX0_init 71 = .ok (.newarray .int, 2) := by decide +kernel
theorem dX0_init_73 : decode cX0_init 73 = .ok (.putfield 41, 3) := by decide +kernel
theorem dX0_init_76 : decode cX0_init 76 = .ok (.aload_n 0, 1) := by decide +kernel
theorem dX0_init_77 : decode cX0_init 77 = .ok (.bipush 20, 2) := by decide +kernel
theorem dX0_init_79 : decode cX0_init 79 = .ok (.newarray .int, 2) := by decide +kernel
theorem dX0_init_81 : decode cX0_init 81 = .ok (.putfield 44, 3) := by decide +kernel
theorem dX0_init_84 : decode cX0_init 84 = .ok (.aload_n 0, 1) := by decide +kernel
theorem dX0_init_85 : decode cX0_init 85 = .ok (.bipush 20, 2) := by decide +kernel
theorem dX0_init_87 : decode cX0_init 87 = .ok (.newarray .int, 2) := by decide +kernel
theorem dX0_init_89 : decode cX0_init 89 = .ok (.putfield 47, 3) := by decide +kernel
theorem dX0_init_92 : decode cX0_init 92 = .ok (.aload_n 0, 1) := by decide +kernel
theorem dX0_init_93 : decode cX0_init 93 = .ok (.bipush 20, 2) := by decide +kernel
theorem dX0_init_95 : decode cX0_init 95 = .ok (.newarray .int, 2) := by decide +kernel
theorem dX0_init_97 : decode cX0_init 97 = .ok (.putfield 50, 3) := by decide +kernel
theorem dX0_init_100 : decode cX0_init 100 = .ok (.aload_n 0, 1) := by decide +kernel
theorem dX0_init_101 : decode cX0_init 101 = .ok (.bipush 20, 2) := by decide +kernel
theorem dX0_init_103 : decode cX0_init 103 = .ok (.newarray .int, 2) := by decide +kernel
theorem dX0_init_105 : decode cX0_init 105 = .ok (.putfield 53, 3) := by decide +kernel
theorem dX0_init_108 : decode cX0_init 108 = .ok (.aload_n 0, 1) := by decide +kernel
theorem dX0_init_109 : decode cX0_init 109 = .ok (.iconst 5, 1) := by decide +kernel
theorem dX0_init_110 : decode cX0_init 110 = .ok (.newarray .int, 2) := by decide +kernel
theorem dX0_init_112 : decode cX0_init 112 = .ok (.putfield 56, 3) := by decide +kernel
theorem dX0_init_115 : decode cX0_init 115 = .ok (.aload_n 0, 1) := by decide +kernel
theorem dX0_init_116 : decode cX0_init 116 = .ok (.invokevirtual 59, 3) := by decide +kernel
theorem dX0_init_119 : decode cX0_init 119 = .ok (.return_, 1) := by decide +kernel
abbrev tX0_init (k : Nat) : MT := (RX0, cX0_init, 1, k, none)
def nX0_init : KX := ctorOf 1 19 1528 (fun cN => (nSeq nSuper (nSeq (nArr cN 1528 0 0 0 5 (5, .inl (fun _ => 0))) (nSeq (nObj cN 1528 0 2 1 6 5 1312 [.null, .null, .null, .null, .null, .int 0] aNil nX1_init) (nSeq (nArr cN 1528 0 5 1 5 (5, .inr (.inl (fun _ => 0)))) (nSeq (nArr cN 1528 0 6 0 5 (5, .inl (fun _ => 0))) (nSeq (nArr cN 1528 0 7 0 25 (25, .inl (fun _ => 0))) (nSeq (nArr cN 1528 0 8 0 25 (25, .inl (fun _ => 0))) (nSeq (nArr cN 1528 0 1 0 20 (20, .inl (fun _ => 0))) (nSeq (nArr cN 1528 0 9 0 20 (20, .inl (fun _ => 0))) (nSeq (nArr cN 1528 0 10 0 20 (20, .inl (fun _ => 0))) (nSeq (nArr cN 1528 0 11 0 20 (20, .inl (fun _ => 0))) (nSeq (nArr cN 1528 0 12 0 20 (20, .inl (fun _ => 0))) (nSeq (nArr cN 1528 0 13 0 20 (20, .inl (fun _ => 0))) (nSeq (nArr cN 1528 0 14 0 20 (20, .inl (fun _ => 0))) (nSeq (nArr cN 1528 0 15 0 5 (5, .inl (fun _ => 0))) (nStmt (sCallV 0 mX0_fillNone (aR (rLoc 0) aNil)))))))))))))))))))
theorem kkX0_init (g : GT) : KK g 2 yX0_init cX0_init 1 19 1528 nX0_init := KK.of (pc1 := 119) rfl rfl (fun cN => (Nok.seq (pc1 := 4) (Nok.super oiX0_3 oi_inst oi_code (by decide) dX0_init_0 dX0_init_1) (Nok.seq (pc1 := 11) (Nok.arrI (ci := 0) (T := TX0) (NN := 17) (tt := tyX0) (j := 0) (L := 5) (n := 5) (pc1 := 6) rfl wsX0_in tyX0_ok nmX0 (by decide) flX0_9 rfl (fun _ => rfl) (fun _ => rfl) ac_int (by decide) (by decide) (by decide) dX0_init_4 (fun _ => (EokI.iconst (v := 5) dX0_init_5 (by decide))) dX0_init_6 dX0_init_8) (Nok.seq (pc1 := 22) (Nok.obj (ci := 0) (T := TX0) (NN := 17) (tt := tyX0) (j := 2) (ci2 := 1) (T2 := TX1) (NN2 := 6) (tt2 := tyX1) (fs2 := [.null, .null, .null, .null, .null, .int 0]) (mc := 5) (ms := 1312) (pc1 := 16) rfl wsX0_in tyX0_ok nmX0 (by decide) flX0_18 rfl (fun _ => rfl) (fun _ => rfl) rfl wsX1_in tyX1_ok clX0_15 ins_X1 wiX1_init dv_X1 (fun _ => rfl) (kkX1_init g) ycX1_init rfl iokX0_17 (by decide) (by decide) dX0_init_11 dX0_init_12 dX0_init_15 (fun _ => Aok.nil) (by decide) dX0_init_16 dX0_init_19) (Nok.seq (pc1 := 29) (Nok.arrL (ci := 0) (T := TX0) (NN := 17) (tt := tyX0) (j := 5) (L := 5) (n := 5) (pc1 := 24) rfl wsX0_in tyX0_ok nmX0 (by decide) flX0_22 rfl (fun _ => rfl) (fun _ => rfl) ac_long (by decide) (by decide) (by decide) dX0_init_22 (fun _ => (EokI.iconst (v := 5) dX0_init_23 (by decide))) dX0_init_24 dX0_init_26) (Nok.seq (pc1 := 36) (Nok.arrI (ci := 0) (T := TX0) (NN := 17) (tt := tyX0) (j := 6) (L := 5) (n := 5) (pc1 := 31) rfl wsX0_in tyX0_ok nmX0 (by decide) flX0_26 rfl (fun _ => rfl) (fun _ => rfl) ac_int (by decide) (by decide) (by decide) dX0_init_29 (fun _ => (EokI.iconst (v := 5) dX0_init_30 (by decide))) dX0_init_31 dX0_init_33) (Nok.seq (pc1 := 44) (Nok.arrI (ci := 0) (T := TX0) (NN := 17) (tt := tyX0) (j := 7) (L := 25) (n := 25) (pc1 := 39) rfl wsX0_in tyX0_ok nmX0 (by decide) flX0_29 rfl (fun _ => rfl) (fun _ => rfl) ac_int (by decide) (by decide) (by decide) dX0_init_36 (fun _ => (EokI.bipush (v := 25) dX0_init_37 (by decide))) dX0_init_39 dX0_init_41) (Nok.seq (pc1 := 52) (Nok.arrI (ci := 0) (T := TX0) (NN := 17) (tt := tyX0) (j := 8) (L := 25) (n := 25) (pc1 := 47) rfl wsX0_in tyX0_ok nmX0 (by decide) flX0_32 rfl (fun _ => rfl) (fun _ => rfl) ac_int (by decide) (by decide) (by decide) dX0_init_44 (fun _ => (EokI.bipush (v := 25) dX0_init_45 (by decide))) dX0_init_47 dX0_init_49) (Nok.seq (pc1 := 60) (Nok.arrI (ci := 0) (T := TX0) (NN := 17) (tt := tyX0) (j := 1) (L := 20) (n := 20) (pc1 := 55) rfl wsX0_in tyX0_ok nmX0 (by decide) flX0_35 rfl (fun _ => rfl) (fun _ => rfl) ac_int (by decide) (by decide) (by decide) dX0_init_52 (fun _ => (EokI.bipush (v := 20) dX0_init_53 (by decide))) dX0_init_55 dX0_init_57) (Nok.seq (pc1 := 68) (Nok.arrI (ci := 0) (T := TX0) (NN := 17) (tt := tyX0) (j := 9) (L := 20) (n := 20) (pc1 := 63) rfl wsX0_in tyX0_ok nmX0 (by decide) flX0_38 rfl (fun _ => rfl) (fun _ => rfl) ac_int (by decide) (by decide) (by decide) dX0_init_60 (fun _ => (EokI.bipush (v := 20) dX0_init_61 (by decide))) dX0_init_63 dX0_init_65) (Nok.seq (pc1 := 76) (Nok.arrI (ci := 0) (T := TX0) (NN := 17) (tt := tyX0) (j := 10) (L := 20) (n := 20) (pc1 := 71) rfl wsX0_in tyX0_ok nmX0 (by decide) flX0_41 rfl (fun _ => rfl) (fun _ => rfl) ac_int (by decide) (by decide) (by decide) dX0_init_68 (fun _ => (EokI.bipush (v := 20) dX0_init_69 (by decide))) dX0_init_71 dX0_init_73) (Nok.seq (pc1 := 84) (Nok.arrI (ci := 0) (T := TX0) (NN := 17) (tt := tyX0) (j := 11) (L := 20) (n := 20) (pc1 := 79) rfl wsX0_in tyX0_ok nmX0 (by decide) flX0_44 rfl (fun _ => rfl) (fun _ => rfl) ac_int (by decide) (by decide) (by decide) dX0_init_76 (fun _ => (EokI.bipush (v := 20) dX0_init_77 (by decide))) dX0_init_79 dX0_init_81) (Nok.seq (pc1 := 92) (Nok.arrI (ci := 0) (T := TX0) (NN := 17) (tt := tyX0) (j := 12) (L := 20) (n := 20) (pc1 := 87) rfl wsX0_in tyX0_ok nmX0 (by decide) flX0_47 rfl (fun _ => rfl) (fun _ => rfl) ac_int (by decide) (by decide) (by decide) dX0_init_84 (fun _ => (EokI.bipush (v := 20) dX0_init_85 (by decide))) dX0_init_87 dX0_init_89) (Nok.seq (pc1 := 100) (Nok.arrI (ci := 0) (T := TX0) (NN := 17) (tt := tyX0) (j := 13) (L := 20) (n := 20) (pc1 := 95) rfl wsX0_in tyX0_ok nmX0 (by decide) flX0_50 rfl (fun _ => rfl) (fun _ => rfl) ac_int (by decide) (by decide) (by decide) dX0_init_92 (fun _ => (EokI.bipush (v := 20) dX0_init_93 (by decide))) dX0_init_95 dX0_init_97) (Nok.seq (pc1 := 108) (Nok.arrI (ci := 0) (T := TX0) (NN := 17) (tt := tyX0) (j := 14) (L := 20) (n := 20) (pc1 := 103) rfl wsX0_in tyX0_ok nmX0 (by decide) flX0_53 rfl (fun _ => rfl) (fun _ => rfl) ac_int (by decide) (by decide) (by decide) dX0_init_100 (fun _ => (EokI.bipush (v := 20) dX0_init_101 (by decide))) dX0_init_103 dX0_init_105) (Nok.seq (pc1 := 115) (Nok.arrI (ci := 0) (T := TX0) (NN := 17) (tt := tyX0) (j := 15) (L := 5) (n := 5) (pc1 := 110) rfl wsX0_in tyX0_ok nmX0 (by decide) flX0_56 rfl (fun _ => rfl) (fun _ => rfl) ac_int (by decide) (by decide) (by decide) dX0_init_108 (fun _ => (EokI.iconst (v := 5) dX0_init_109 (by decide))) dX0_init_110 dX0_init_112) (Nok.stmt (fun g9 => (Sok.sCallV (pc1 := 116) (Aok.aR (pc1 := 116) (EokR.aload_n (q := 0) dX0_init_115) Aok.nil) (by decide) (kX0_fillNone g9) rfl ykX0_fillNone vkX0_59 (by decide) (by decide) dX0_init_116))))))))))))))))))) dX0_init_119
