set_option maxRecDepth 20000
set_option maxHeartbeats 4000000
set_option linter.all false
/-! new PassHuts$Trip()V -/
theorem dX9_init_0 : decode cX9_init 0 = .ok (.aload_n 0, 1) := by decide +kernel
theorem dX9_init_1 : decode cX9_init 1 = .ok (.invokespecial 3, 3) := by decide +kernel
theorem dX9_init_4 : decode cX9_init 4 = .ok (.aload_n 0, 1) := by decide +kernel
theorem dX9_init_5 : decode cX9_init 5 = .ok (.bipush 40, 2) := by decide +kernel
theorem dX9_init_7 : decode cX9_init 7 = .ok (.newarray .int, 2) := by decide +kernel
theorem dX9_init_9 : decode cX9_init 9 = .ok (.putfield 9, 3) := by decide +kernel
theorem dX9_init_12 : decode cX9_init 12 = .ok (.aload_n 0, 1) := by decide +kernel
theorem dX9_init_13 : decode cX9_init 13 = .ok (.bipush 40, 2) := by decide +kernel
theorem dX9_init_15 : decode cX9_init 15 = .ok (.newarray .int, 2) := by decide +kernel
theorem dX9_init_17 : decode cX9_init 17 = .ok (.putfield 15, 3) := by decide +kernel
theorem dX9_init_20 : decode cX9_init 20 = .ok (.aload_n 0, 1) := by decide +kernel
theorem dX9_init_21 : decode cX9_init 21 = .ok (.bipush 40, 2) := by decide +kernel
theorem dX9_init_23 : decode cX9_init 23 = .ok (.newarray .int, 2) := by decide +kernel
theorem dX9_init_25 : decode cX9_init 25 = .ok (.putfield 18, 3) := by decide +kernel
theorem dX9_init_28 : decode cX9_init 28 = .ok (.return_, 1) := by decide +kernel
abbrev tX9_init (k : Nat) : MT := (RX9, cX9_init, 1, k, none)
def nX9_init : KX := ctorOf 1 3 120 (fun cN => (nSeq nSuper (nSeq (nArr cN 120 9 0 0 40 (40, .inl (fun _ => 0))) (nSeq (nArr cN 120 9 1 0 40 (40, .inl (fun _ => 0))) (nArr cN 120 9 2 0 40 (40, .inl (fun _ => 0)))))))
theorem kkX9_init (g : GT) : KK g 1 yX9_init cX9_init 1 3 120 nX9_init := KK.of (pc1 := 28) rfl rfl (fun cN => (Nok.seq (pc1 := 4) (Nok.super oiX9_3 oi_inst oi_code (by decide) dX9_init_0 dX9_init_1) (Nok.seq (pc1 := 12) (Nok.arrI (ci := 9) (T := TX9) (NN := 7) (tt := tyX9) (j := 0) (L := 40) (n := 40) (pc1 := 7) rfl wsX9_in tyX9_ok nmX9 (by decide) flX9_9 rfl (fun _ => rfl) (fun _ => rfl) ac_int (by decide) (by decide) (by decide) dX9_init_4 (fun _ => (EokI.bipush (v := 40) dX9_init_5 (by decide))) dX9_init_7 dX9_init_9) (Nok.seq (pc1 := 20) (Nok.arrI (ci := 9) (T := TX9) (NN := 7) (tt := tyX9) (j := 1) (L := 40) (n := 40) (pc1 := 15) rfl wsX9_in tyX9_ok nmX9 (by decide) flX9_15 rfl (fun _ => rfl) (fun _ => rfl) ac_int (by decide) (by decide) (by decide) dX9_init_12 (fun _ => (EokI.bipush (v := 40) dX9_init_13 (by decide))) dX9_init_15 dX9_init_17) (Nok.arrI (ci := 9) (T := TX9) (NN := 7) (tt := tyX9) (j := 2) (L := 40) (n := 40) (pc1 := 23) rfl wsX9_in tyX9_ok nmX9 (by decide) flX9_18 rfl (fun _ => rfl) (fun _ => rfl) ac_int (by decide) (by decide) (by decide) dX9_init_20 (fun _ => (EokI.bipush (v := 40) dX9_init_21 (by decide))) dX9_init_23 dX9_init_25))))) dX9_init_28
/-! new PassHuts$Prospects(LPassHuts$Lyings;LPassHuts$Hills;)V -/
theorem dX3_init_0 : decode cX3_init 0 = .ok (.aload_n 0, 1) := by decide +kernel
theorem dX3_init_1 : decode cX3_init 1 = .ok (.invokespecial 3, 3) := by decide +kernel
theorem dX3_init_4 : decode cX3_init 4 = .ok (.aload_n 0, 1) := by decide +kernel
theorem dX3_init_5 : decode cX3_init 5 = .ok (.sipush 6188, 3) := by decide +kernel
theorem dX3_init_8 : decode cX3_init 8 = .ok (.newarray .long, 2) := by decide +kernel
theorem dX3_init_10 : decode cX3_init 10 = .ok (.putfield 9, 3) := by decide +kernel
theorem dX3_init_13 : decode cX3_init 13 = .ok (.aload_n 0, 1) := by decide +kernel
theorem dX3_init_14 : decode cX3_init 14 = .ok (.sipush 6188, 3) := by decide +kernel
theorem dX3_init_17 : decode cX3_init 17 = .ok (.newarray .int, 2) := by decide +kernel
theorem dX3_init_19 : decode cX3_init 19 = .ok (.putfield 15, 3) := by decide +kernel
theorem dX3_init_22 : decode cX3_init 22 = .ok (.aload_n 0, 1) := by decide +kernel
theorem dX3_init_23 : decode cX3_init 23 = .ok (.aload_n 1, 1) := by decide +kernel
theorem dX3_init_24 : decode cX3_init 24 = .ok (.putfield 19, 3) := by decide +kernel
theorem dX3_init_27 : decode cX3_init 27 = .ok (.aload_n 0, 1) := by decide +kernel
theorem dX3_init_28 : decode cX3_init 28 = .ok (.aload_n 2, 1) := by decide +kernel
theorem dX3_init_29 : decode cX3_init 29 = .ok (.putfield 23, 3) := by decide +kernel
theorem dX3_init_32 : decode cX3_init 32 = .ok (.return_, 1) := by decide +kernel
abbrev tX3_init (k : Nat) : MT := (RX3, cX3_init, 3, k, none)
def nX3_init : KX := ctorOf 3 2 12376 (fun cN => (nSeq nSuper (nSeq (nArr cN 12376 3 1 1 6188 (6188, .inr (.inl (fun _ => 0)))) (nSeq (nArr cN 12376 3 2 0 6188 (6188, .inl (fun _ => 0))) (nSeq (nPutR 3 0 1) (nPutR 3 3 2))))))
theorem kkX3_init (g : GT) : KK g 1 yX3_init cX3_init 3 2 12376 nX3_init := KK.of (pc1 := 32) rfl rfl (fun cN => (Nok.seq (pc1 := 4) (Nok.super oiX3_3 oi_inst oi_code (by decide) dX3_init_0 dX3_init_1) (Nok.seq (pc1 := 13) (Nok.arrL (ci := 3) (T := TX3) (NN := 5) (tt := tyX3) (j := 1) (L := 6188) (n := 6188) (pc1 := 8) rfl wsX3_in tyX3_ok nmX3 (by decide) flX3_9 rfl (fun _ => rfl) (fun _ => rfl) ac_long (by decide) (by decide) (by decide) dX3_init_4 (fun _ => (EokI.sipush (v := 6188) dX3_init_5 (by decide))) dX3_init_8 dX3_init_10) (Nok.seq (pc1 := 22) (Nok.arrI (ci := 3) (T := TX3) (NN := 5) (tt := tyX3) (j := 2) (L := 6188) (n := 6188) (pc1 := 17) rfl wsX3_in tyX3_ok nmX3 (by decide) flX3_15 rfl (fun _ => rfl) (fun _ => rfl) ac_int (by decide) (by decide) (by decide) dX3_init_13 (fun _ => (EokI.sipush (v := 6188) dX3_init_14 (by decide))) dX3_init_17 dX3_init_19) (Nok.seq (pc1 := 27) (Nok.putR (ci := 3) (T := TX3) (NN := 5) (tt := tyX3) (j := 0) (i := 1) (i4 := 1) rfl wsX3_in tyX3_ok nmX3 (by decide) flX3_19 rfl (fun _ => rfl) (fun _ => rfl) rfl dX3_init_22 dX3_init_23 dX3_init_24) (Nok.putR (ci := 3) (T := TX3) (NN := 5) (tt := tyX3) (j := 3) (i := 2) (i4 := 2) rfl wsX3_in tyX3_ok nmX3 (by decide) flX3_23 rfl (fun _ => rfl) (fun _ => rfl) rfl dX3_init_27 dX3_init_28 dX3_init_29)))))) dX3_init_32
/-! new PassHuts$Walk(LPassHuts$Lyings;LPassHuts$Hills;)V -/
theorem dX10_init_0 : decode cX10_init 0 = .ok (.aload_n 0, 1) := by decide +kernel
theorem dX10_init_1 : decode cX10_init 1 = .ok (.invokespecial 3, 3) := by decide +kernel
theorem dX10_init_4 : decode cX10_init 4 = .ok (.aload_n 0, 1) := by decide +kernel
theorem dX10_init_5 : decode cX10_init 5 = .ok (.sipush 6188, 3) := by decide +kernel
theorem dX10_init_8 : decode cX10_init 8 = .ok (.newarray .int, 2) := by decide +kernel
theorem dX10_init_10 : decode cX10_init 10 = .ok (.putfield 9, 3) := by decide +kernel
theorem dX10_init_13 : decode cX10_init 13 = .ok (.aload_n 0, 1) := by decide +kernel
theorem dX10_init_14 : decode cX10_init 14 = .ok (.sipush 6188, 3) := by decide +kernel
theorem dX10_init_17 : decode cX10_init 17 = .ok (.newarray .int, 2) := by decide +kernel
theorem dX10_init_19 : decode cX10_init 19 = .ok (.putfield 15, 3) := by decide +kernel
theorem dX10_init_22 : decode cX10_init 22 = .ok (.aload_n 0, 1) := by decide +kernel
theorem dX10_init_23 : decode cX10_init 23 = .ok (.sipush 6188, 3) := by decide +kernel
theorem dX10_init_26 : decode cX10_init 26 = .ok (.newarray .int, 2) := by decide +kernel
theorem dX10_init_28 : decode cX10_init 28 = .ok (.putfield 18, 3) := by decide +kernel
theorem dX10_init_31 : decode cX10_init 31 = .ok (.aload_n 0, 1) := by decide +kernel
theorem dX10_init_32 : decode cX10_init 32 = .ok (.aload_n 1, 1) := by decide +kernel
theorem dX10_init_33 : decode cX10_init 33 = .ok (.putfield 21, 3) := by decide +kernel
theorem dX10_init_36 : decode cX10_init 36 = .ok (.aload_n 0, 1) := by decide +kernel
theorem dX10_init_37 : decode cX10_init 37 = .ok (.aload_n 2, 1) := by decide +kernel
theorem dX10_init_38 : decode cX10_init 38 = .ok (.putfield 25, 3) := by decide +kernel
theorem dX10_init_41 : decode cX10_init 41 = .ok (.return_, 1) := by decide +kernel
abbrev tX10_init (k : Nat) : MT := (RX10, cX10_init, 3, k, none)
def nX10_init : KX := ctorOf 3 3 18564 (fun cN => (nSeq nSuper (nSeq (nArr cN 18564 10 1 0 6188 (6188, .inl (fun _ => 0))) (nSeq (nArr cN 18564 10 2 0 6188 (6188, .inl (fun _ => 0))) (nSeq (nArr cN 18564 10 3 0 6188 (6188, .inl (fun _ => 0))) (nSeq (nPutR 10 0 1) (nPutR 10 4 2)))))))
theorem kkX10_init (g : GT) : KK g 1 yX10_init cX10_init 3 3 18564 nX10_init := KK.of (pc1 := 41) rfl rfl (fun cN => (Nok.seq (pc1 := 4) (Nok.super oiX10_3 oi_inst oi_code (by decide) dX10_init_0 dX10_init_1) (Nok.seq (pc1 := 13) (Nok.arrI (ci := 10) (T := TX10) (NN := 8) (tt := tyX10) (j := 1) (L := 6188) (n := 6188) (pc1 := 8) rfl wsX10_in tyX10_ok nmX10 (by decide) flX10_9 rfl (fun _ => rfl) (fun _ => rfl) ac_int (by decide) (by decide) (by decide) dX10_init_4 (fun _ => (EokI.sipush (v := 6188) dX10_init_5 (by decide))) dX10_init_8 dX10_init_10) (Nok.seq (pc1 := 22) (Nok.arrI (ci := 10) (T := TX10) (NN := 8) (tt := tyX10) (j := 2) (L := 6188) (n := 6188) (pc1 := 17) rfl wsX10_in tyX10_ok nmX10 (by decide) flX10_15 rfl (fun _ => rfl) (fun _ => rfl) ac_int (by decide) (by decide) (by decide) dX10_init_13 (fun _ => (EokI.sipush (v := 6188) dX10_init_14 (by decide))) dX10_init_17 dX10_init_19) (Nok.seq (pc1 := 31) (Nok.arrI (ci := 10) (T := TX10) (NN := 8) (tt := tyX10) (j := 3) (L := 6188) (n := 6188) (pc1 := 26) rfl wsX10_in tyX10_ok nmX10 (by decide) flX10_18 rfl (fun _ => rfl) (fun _ => rfl) ac_int (by decide) (by decide) (by decide) dX10_init_22 (fun _ => (EokI.sipush (v := 6188) dX10_init_23 (by decide))) dX10_init_26 dX10_init_28) (Nok.seq (pc1 := 36) (Nok.putR (ci := 10) (T := TX10) (NN := 8) (tt := tyX10) (j := 0) (i := 1) (i4 := 1) rfl wsX10_in tyX10_ok nmX10 (by decide) flX10_21 rfl (fun _ => rfl) (fun _ => rfl) rfl dX10_init_31 dX10_init_32 dX10_init_33) (Nok.putR (ci := 10) (T := TX10) (NN := 8) (tt := tyX10) (j := 4) (i := 2) (i4 := 2) rfl wsX10_in tyX10_ok nmX10 (by decide) flX10_25 rfl (fun _ => rfl) (fun _ => rfl) rfl dX10_init_36 dX10_init_37 dX10_init_38))))))) dX10_init_41
/-! new PassHuts$Survey(LPassHuts$Lyings;LPassHuts$Prospects;LPassHuts$Hills;)V -/
theorem dX6_init_0 : decode cX6_init 0 = .ok (.aload_n 0, 1) := by decide +kernel
theorem dX6_init_1 : decode cX6_init 1 = .ok (.invokespecial 3, 3) := by decide +kernel
theorem dX6_init_4 : decode cX6_init 4 = .ok (.aload_n 0, 1) := by decide +kernel
theorem dX6_init_5 : decode cX6_init 5 = .ok (.bipush 65, 2) := by decide +kernel
theorem dX6_init_7 : decode cX6_init 7 = .ok (.newarray .int, 2) := by decide +kernel
theorem dX6_init_9 : decode cX6_init 9 = .ok (.putfield 9, 3) := by decide +kernel
theorem dX6_init_12 : decode cX6_init 12 = .ok (.aload_n 0, 1) := by decide +kernel
theorem dX6_init_13 : decode cX6_init 13 = .ok (.aload_n 1, 1) := by decide +kernel
theorem dX6_init_14 : decode cX6_init 14 = .ok (.putfield 15, 3) := by decide +kernel
theorem dX6_init_17 : decode cX6_init 17 = .ok (.aload_n 0, 1) := by decide +kernel
theorem dX6_init_18 : decode cX6_init 18 = .ok (.aload_n 2, 1) := by decide +kernel
theorem dX6_init_19 : decode cX6_init 19 = .ok (.putfield 19, 3) := by decide +kernel
theorem dX6_init_22 : decode cX6_init 22 = .ok (.aload_n 0, 1) := by decide +kernel
theorem dX6_init_23 : decode cX6_init 23 = .ok (.aload_n 3, 1) := by decide +kernel
theorem dX6_init_24 : decode cX6_init 24 = .ok (.putfield 23, 3) := by decide +kernel
theorem dX6_init_27 : decode cX6_init 27 = .ok (.return_, 1) := by decide +kernel
abbrev tX6_init (k : Nat) : MT := (RX6, cX6_init, 4, k, none)
def nX6_init : KX := ctorOf 4 1 65 (fun cN => (nSeq nSuper (nSeq (nArr cN 65 6 2 0 65 (65, .inl (fun _ => 0))) (nSeq (nPutR 6 0 1) (nSeq (nPutR 6 1 2) (nPutR 6 3 3))))))
theorem kkX6_init (g : GT) : KK g 1 yX6_init cX6_init 4 1 65 nX6_init := KK.of (pc1 := 27) rfl rfl (fun cN => (Nok.seq (pc1 := 4) (Nok.super oiX6_3 oi_inst oi_code (by decide) dX6_init_0 dX6_init_1) (Nok.seq (pc1 := 12) (Nok.arrI (ci := 6) (T := TX6) (NN := 4) (tt := tyX6) (j := 2) (L := 65) (n := 65) (pc1 := 7) rfl wsX6_in tyX6_ok nmX6 (by decide) flX6_9 rfl (fun _ => rfl) (fun _ => rfl) ac_int (by decide) (by decide) (by decide) dX6_init_4 (fun _ => (EokI.bipush (v := 65) dX6_init_5 (by decide))) dX6_init_7 dX6_init_9) (Nok.seq (pc1 := 17) (Nok.putR (ci := 6) (T := TX6) (NN := 4) (tt := tyX6) (j := 0) (i := 1) (i4 := 1) rfl wsX6_in tyX6_ok nmX6 (by decide) flX6_15 rfl (fun _ => rfl) (fun _ => rfl) rfl dX6_init_12 dX6_init_13 dX6_init_14) (Nok.seq (pc1 := 22) (Nok.putR (ci := 6) (T := TX6) (NN := 4) (tt := tyX6) (j := 1) (i := 2) (i4 := 2) rfl wsX6_in tyX6_ok nmX6 (by decide) flX6_19 rfl (fun _ => rfl) (fun _ => rfl) rfl dX6_init_17 dX6_init_18 dX6_init_19) (Nok.putR (ci := 6) (T := TX6) (NN := 4) (tt := tyX6) (j := 3) (i := 3) (i4 := 3) rfl wsX6_in tyX6_ok nmX6 (by decide) flX6_23 rfl (fun _ => rfl) (fun _ => rfl) rfl dX6_init_22 dX6_init_23 dX6_init_24)))))) dX6_init_27
/-! new PassHuts()V -/
theorem dX11_init_0 : decode cX11_init 0 = .ok (.aload_n 0, 1) := by decide +kernel
theorem dX11_init_1 : decode cX11_init 1 = .ok (.invokespecial 1, 3) := by decide +kernel
theorem dX11_init_4 : decode cX11_init 4 = .ok (.aload_n 0, 1) := by decide +kernel
theorem dX11_init_5 : decode cX11_init 5 = .ok (.new 7, 3) := by decide +kernel
theorem dX11_init_8 : decode cX11_init 8 = .ok (.dup, 1) := by decide +kernel
theorem dX11_init_9 : decode cX11_init 9 = .ok (.invokespecial 9, 3) := by decide +kernel
theorem dX11_init_12 : decode cX11_init 12 = .ok (.putfield 10, 3) := by decide +kernel
theorem dX11_init_15 : decode cX11_init 15 = .ok (.aload_n 0, 1) := by decide +kernel
theorem dX11_init_16 : decode cX11_init 16 = .ok (.new 16, 3) := by decide +kernel
theorem dX11_init_19 : decode cX11_init 19 = .ok (.dup, 1) := by decide +kernel
theorem dX11_init_20 : decode cX11_init 20 = .ok (.aload_n 0, 1) := by decide +kernel
theorem dX11_init_21 : decode cX11_init 21 = .ok (.getfield 10, 3) := by decide +kernel
theorem dX11_init_24 : decode cX11_init 24 = .ok (.invokespecial 18, 3) := by decide +kernel
theorem dX11_init_27 : decode cX11_init 27 = .ok (.putfield 21, 3) := by decide +kernel
theorem dX11_init_30 : decode cX11_init 30 = .ok (.aload_n 0, 1) := by decide +kernel
theorem dX11_init_31 : decode cX11_init 31 = .ok (.new 25, 3) := by decide +kernel
theorem dX11_init_34 : decode cX11_init 34 = .ok (.dup, 1) := by decide +kernel
theorem dX11_init_35 : decode cX11_init 35 = .ok (.invokespecial 27, 3) := by decide +kernel
theorem dX11_init_38 : decode cX11_init 38 = .ok (.putfield 28, 3) := by decide +kernel
theorem dX11_init_41 : decode cX11_init 41 = .ok (.aload_n 0, 1) := by decide +kernel
theorem dX11_init_42 : decode cX11_init 42 = .ok (.new 32, 3) := by decide +kernel
theorem dX11_init_45 : decode cX11_init 45 = .ok (.dup, 1) := by decide +kernel
theorem dX11_init_46 : decode cX11_init 46 = .ok (.invokespecial 34, 3) := by decide +kernel
theorem dX11_init_49 : decode cX11_init 49 = .ok (.putfield 35, 3) := by decide +kernel
theorem dX11_init_52 : decode cX11_init 52 = .ok (.aload_n 0, 1) := by decide +kernel
theorem dX11_init_53 : decode cX11_init 53 = .ok (.new 39, 3) := by decide +kernel
theorem dX11_init_56 : decode cX11_init 56 = .ok (.dup, 1) := by decide +kernel
theorem dX11_init_57 : decode cX11_init 57 = .ok (.invokespecial 41, 3) := by decide +kernel
theorem dX11_init_60 : decode cX11_init 60 = .ok (.putfield 42, 3) := by decide +kernel
theorem dX11_init_63 : decode cX11_init 63 = .ok (.aload_n 0, 1) := by decide +kernel
theorem dX11_init_64 : decode cX11_init 64 = .ok (.new 39, 3) := by decide +kernel
theorem dX11_init_67 : decode cX11_init 67 = .ok (.dup, 1) := by decide +kernel
theorem dX11_init_68 : decode cX11_init 68 = .ok (.invokespecial 41, 3) := by decide +kernel
theorem dX11_init_71 : decode cX11_init 71 = .ok (.putfield 46, 3) := by decide +kernel
theorem dX11_init_74 : decode cX11_init 74 = .ok (.aload_n 0, 1) := by decide +kernel
theorem dX11_init_75 : decode cX11_init 75 = .ok (.new 49, 3) := by decide +kernel
theorem dX11_init_78 : decode cX11_init 78 = .ok (.dup, 1) := by decide +kernel
theorem dX11_init_79 : decode cX11_init 79 = .ok (.invokespecial 51, 3) := by decide +kernel
theorem dX11_init_82 : decode cX11_init 82 = .ok (.putfield 52, 3) := by decide +kernel
theorem dX11_init_85 : decode cX11_init 85 = .ok (.aload_n 0, 1) := by decide +kernel
theorem dX11_init_86 : decode cX11_init 86 = .ok (.new 49, 3) := by decide +kernel
theorem dX11_init_89 : decode cX11_init 89 = .ok (.dup, 1) := by decide +kernel
theorem dX11_init_90 : decode cX11_init 90 = .ok (.invokespecial 51, 3) := by decide +kernel
theorem dX11_init_93 : decode cX11_init 93 = .ok (.putfield 56, 3) := by decide +kernel
theorem dX11_init_96 : decode cX11_init 96 = .ok (.aload_n 0, 1) := by decide +kernel
theorem dX11_init_97 : decode cX11_init 97 = .ok (.new 59, 3) := by decide +kernel
theorem dX11_init_100 : decode cX11_init 100 = .ok (.dup, 1) := by decide +kernel
theorem dX11_init_101 : decode cX11_init 101 = .ok (.aload_n 0, 1) := by decide +kernel
theorem dX11_init_102 : decode cX11_init 102 = .ok (.getfield 28, 3) := by decide +kernel
theorem dX11_init_105 : decode cX11_init 105 = .ok (.aload_n 0, 1) := by decide +kernel
theorem dX11_init_106 : decode cX11_init 106 = .ok (.getfield 42, 3) := by decide +kernel
theorem dX11_init_109 : decode cX11_init 109 = .ok (.invokespecial 61, 3) := by decide +kernel
theorem dX11_init_112 : decode cX11_init 112 = .ok (.putfield 64, 3) := by decide +kernel
theorem dX11_init_115 : decode cX11_init 115 = .ok (.aload_n 0, 1) := by decide +kernel
theorem dX11_init_116 : decode cX11_init 116 = .ok (.new 68, 3) := by decide +kernel
theorem dX11_init_119 : decode cX11_init 119 = .ok (.dup, 1) := by decide +kernel
theorem dX11_init_120 : decode cX11_init 120 = .ok (.aload_n 0, 1) := by decide +kernel
theorem dX11_init_121 : decode cX11_init 121 = .ok (.getfield 28, 3) := by decide +kernel
theorem dX11_init_124 : decode cX11_init 124 = .ok (.aload_n 0, 1) := by decide +kernel
theorem dX11_init_125 : decode cX11_init 125 = .ok (.getfield 42, 3) := by decide +kernel
theorem dX11_init_128 : decode cX11_init 128 = .ok (.invokespecial 70, 3) := by decide +kernel
theorem dX11_init_131 : decode cX11_init 131 = .ok (.putfield 71, 3) := by decide +kernel
theorem dX11_init_134 : decode cX11_init 134 = .ok (.aload_n 0, 1) := by decide +kernel
theorem dX11_init_135 : decode cX11_init 135 = .ok (.new 75, 3) := by decide +kernel
theorem dX11_init_138 : decode cX11_init 138 = .ok (.dup, 1) := by decide +kernel
theorem dX11_init_139 : decode cX11_init 139 = .ok (.aload_n 0, 1) := by decide +kernel
theorem dX11_init_140 : decode cX11_init 140 = .ok (.getfield 28, 3) := by decide +kernel
theorem dX11_init_143 : decode cX11_init 143 = .ok (.aload_n 0, 1) := by decide +kernel
theorem dX11_init_144 : decode cX11_init 144 = .ok (.getfield 64, 3) := by decide +kernel
theorem dX11_init_147 : decode cX11_init 147 = .ok (.aload_n 0, 1) := by decide +kernel
theorem dX11_init_148 : decode cX11_init 148 = .ok (.getfield 42, 3) := by decide +kernel
theorem dX11_init_151 : decode cX11_init 151 = .ok (.invokespecial 77, 3) := by decide +kernel
theorem dX11_init_154 : decode cX11_init 154 = .ok (.putfield 80, 3) := by decide +kernel
theorem dX11_init_157 : decode cX11_init 157 = .ok (.return_, 1) := by decide +kernel
abbrev tX11_init (k : Nat) : MT := (RX11, cX11_init, 1, k, none)
def nX11_init : KX := ctorOf 1 76 48418 (fun cN => (nSeq nSuper (nSeq (nObj cN 48418 11 0 7 2 1 1000 [.null, .int 0] aNil nX7_init) (nSeq (nObj cN 48418 11 1 4 3 1 6 [.null, .null, .int 0] (aR (rGet 11 0 (rLoc 0)) aNil) nX4_init) (nSeq (nObj cN 48418 11 2 2 5 5 12935 [.null, .null, .null, .null, .null] aNil nX2_init) (nSeq (nObj cN 48418 11 3 5 13 8 88 [.null, .null, .null, .null, .null, .null, .null, .null, .int 0, .int 0, .int 0, .int 0, .int 0] aNil nX5_init) (nSeq (nObj cN 48418 11 7 0 17 19 1528 [.null, .null, .null, .int 0, .int 0, .null, .null, .null, .null, .null, .null, .null, .null, .null, .null, .null, .int 0] aNil nX0_init) (nSeq (nObj cN 48418 11 8 0 17 19 1528 [.null, .null, .null, .int 0, .int 0, .null, .null, .null, .null, .null, .null, .null, .null, .null, .null, .null, .int 0] aNil nX0_init) (nSeq (nObj cN 48418 11 9 9 7 3 120 [.null, .null, .null, .int 0, .int 0, .int 0, .int 0] aNil nX9_init) (nSeq (nObj cN 48418 11 10 9 7 3 120 [.null, .null, .null, .int 0, .int 0, .int 0, .int 0] aNil nX9_init) (nSeq (nObj cN 48418 11 4 3 5 2 12376 [.null, .null, .null, .null, .int 0] (aR (rGet 11 2 (rLoc 0)) (aR (rGet 11 7 (rLoc 0)) aNil)) nX3_init) (nSeq (nObj cN 48418 11 5 10 8 3 18564 [.null, .null, .null, .null, .null, .int 0, .int 0, .int 0] (aR (rGet 11 2 (rLoc 0)) (aR (rGet 11 7 (rLoc 0)) aNil)) nX10_init) (nObj cN 48418 11 6 6 4 1 65 [.null, .null, .null, .null] (aR (rGet 11 2 (rLoc 0)) (aR (rGet 11 4 (rLoc 0)) (aR (rGet 11 7 (rLoc 0)) aNil))) nX6_init)))))))))))))
theorem kkX11_init (g : GT) : KK g 3 yX11_init cX11_init 1 76 48418 nX11_init := KK.of (pc1 := 157) rfl rfl (fun cN => (Nok.seq (pc1 := 4) (Nok.super oiX11_1 oi_inst oi_code (by decide) dX11_init_0 dX11_init_1) (Nok.seq (pc1 := 15) (Nok.obj (ci := 11) (T := TX11) (NN := 11) (tt := tyX11) (j := 0) (ci2 := 7) (T2 := TX7) (NN2 := 2) (tt2 := tyX7) (fs2 := [.null, .int 0]) (mc := 1) (ms := 1000) (pc1 := 9) rfl wsX11_in tyX11_ok nmX11 (by decide) flX11_10 rfl (fun _ => rfl) (fun _ => rfl) rfl wsX7_in tyX7_ok clX11_7 ins_X7 wiX7_init dv_X7 (fun _ => rfl) (kkX7_init g) ycX7_init rfl iokX11_9 (by decide) (by decide) dX11_init_4 dX11_init_5 dX11_init_8 (fun _ => Aok.nil) (by decide) dX11_init_9 dX11_init_12) (Nok.seq (pc1 := 30) (Nok.obj (ci := 11) (T := TX11) (NN := 11) (tt := tyX11) (j := 1) (ci2 := 4) (T2 := TX4) (NN2 := 3) (tt2 := tyX4) (fs2 := [.null, .null, .int 0]) (mc := 1) (ms := 6) (pc1 := 24) rfl wsX11_in tyX11_ok nmX11 (by decide) flX11_21 rfl (fun _ => rfl) (fun _ => rfl) rfl wsX4_in tyX4_ok clX11_16 ins_X4 wiX4_init dv_X4 (fun _ => rfl) (kkX4_init g) ycX4_init rfl iokX11_18 (by decide) (by decide) dX11_init_15 dX11_init_16 dX11_init_19 (fun _ => (Aok.aR (pc1 := 24) (EokR.getf (pc1 := 21) (j := 0) (ci := 11) (T := TX11) (N := 11) (EokR.aload_n (q := 0) dX11_init_20) rfl wsX11_in (by decide) flX11_10 dX11_init_21) Aok.nil)) (by decide) dX11_init_24 dX11_init_27) (Nok.seq (pc1 := 41) (Nok.obj (ci := 11) (T := TX11) (NN := 11) (tt := tyX11) (j := 2) (ci2 := 2) (T2 := TX2) (NN2 := 5) (tt2 := tyX2) (fs2 := [.null, .null, .null, .null, .null]) (mc := 5) (ms := 12935) (pc1 := 35) rfl wsX11_in tyX11_ok nmX11 (by decide) flX11_28 rfl (fun _ => rfl) (fun _ => rfl) rfl wsX2_in tyX2_ok clX11_25 ins_X2 wiX2_init dv_X2 (fun _ => rfl) (kkX2_init g) ycX2_init rfl iokX11_27 (by decide) (by decide) dX11_init_30 dX11_init_31 dX11_init_34 (fun _ => Aok.nil) (by decide) dX11_init_35 dX11_init_38) (Nok.seq (pc1 := 52) (Nok.obj (ci := 11) (T := TX11) (NN := 11) (tt := tyX11) (j := 3) (ci2 := 5) (T2 := TX5) (NN2 := 13) (tt2 := tyX5) (fs2 := [.null, .null, .null, .null, .null, .null, .null, .null, .int 0, .int 0, .int 0, .int 0, .int 0]) (mc := 8) (ms := 88) (pc1 := 46) rfl wsX11_in tyX11_ok nmX11 (by decide) flX11_35 rfl (fun _ => rfl) (fun _ => rfl) rfl wsX5_in tyX5_ok clX11_32 ins_X5 wiX5_init dv_X5 (fun _ => rfl) (kkX5_init g) ycX5_init rfl iokX11_34 (by decide) (by decide) dX11_init_41 dX11_init_42 dX11_init_45 (fun _ => Aok.nil) (by decide) dX11_init_46 dX11_init_49) (Nok.seq (pc1 := 63) (Nok.obj (ci := 11) (T := TX11) (NN := 11) (tt := tyX11) (j := 7) (ci2 := 0) (T2 := TX0) (NN2 := 17) (tt2 := tyX0) (fs2 := [.null, .null, .null, .int 0, .int 0, .null, .null, .null, .null, .null, .null, .null, .null, .null, .null, .null, .int 0]) (mc := 19) (ms := 1528) (pc1 := 57) rfl wsX11_in tyX11_ok nmX11 (by decide) flX11_42 rfl (fun _ => rfl) (fun _ => rfl) rfl wsX0_in tyX0_ok clX11_39 ins_X0 wiX0_init dv_X0 (fun _ => rfl) (kkX0_init g) ycX0_init rfl iokX11_41 (by decide) (by decide) dX11_init_52 dX11_init_53 dX11_init_56 (fun _ => Aok.nil) (by decide) dX11_init_57 dX11_init_60) (Nok.seq (pc1 := 74) (Nok.obj (ci := 11) (T := TX11) (NN := 11) (tt := tyX11) (j := 8) (ci2 := 0) (T2 := TX0) (NN2 := 17) (tt2 := tyX0) (fs2 := [.null, .null, .null, .int 0, .int 0, .null, .null, .null, .null, .null, .null, .null, .null, .null, .null, .null, .int 0]) (mc := 19) (ms := 1528) (pc1 := 68) rfl wsX11_in tyX11_ok nmX11 (by decide) flX11_46 rfl (fun _ => rfl) (fun _ => rfl) rfl wsX0_in tyX0_ok clX11_39 ins_X0 wiX0_init dv_X0 (fun _ => rfl) (kkX0_init g) ycX0_init rfl iokX11_41 (by decide) (by decide) dX11_init_63 dX11_init_64 dX11_init_67 (fun _ => Aok.nil) (by decide) dX11_init_68 dX11_init_71) (Nok.seq (pc1 := 85) (Nok.obj (ci := 11) (T := TX11) (NN := 11) (tt := tyX11) (j := 9) (ci2 := 9) (T2 := TX9) (NN2 := 7) (tt2 := tyX9) (fs2 := [.null, .null, .null, .int 0, .int 0, .int 0, .int 0]) (mc := 3) (ms := 120) (pc1 := 79) rfl wsX11_in tyX11_ok nmX11 (by decide) flX11_52 rfl (fun _ => rfl) (fun _ => rfl) rfl wsX9_in tyX9_ok clX11_49 ins_X9 wiX9_init dv_X9 (fun _ => rfl) (kkX9_init g) ycX9_init rfl iokX11_51 (by decide) (by decide) dX11_init_74 dX11_init_75 dX11_init_78 (fun _ => Aok.nil) (by decide) dX11_init_79 dX11_init_82) (Nok.seq (pc1 := 96) (Nok.obj (ci := 11) (T := TX11) (NN := 11) (tt := tyX11) (j := 10) (ci2 := 9) (T2 := TX9) (NN2 := 7) (tt2 := tyX9) (fs2 := [.null, .null, .null, .int 0, .int 0, .int 0, .int 0]) (mc := 3) (ms := 120) (pc1 := 90) rfl wsX11_in tyX11_ok nmX11 (by decide) flX11_56 rfl (fun _ => rfl) (fun _ => rfl) rfl wsX9_in tyX9_ok clX11_49 ins_X9 wiX9_init dv_X9 (fun _ => rfl) (kkX9_init g) ycX9_init rfl iokX11_51 (by decide) (by decide) dX11_init_85 dX11_init_86 dX11_init_89 (fun _ => Aok.nil) (by decide) dX11_init_90 dX11_init_93) (Nok.seq (pc1 := 115) (Nok.obj (ci := 11) (T := TX11) (NN := 11) (tt := tyX11) (j := 4) (ci2 := 3) (T2 := TX3) (NN2 := 5) (tt2 := tyX3) (fs2 := [.null, .null, .null, .null, .int 0]) (mc := 2) (ms := 12376) (pc1 := 109) rfl wsX11_in tyX11_ok nmX11 (by decide) flX11_64 rfl (fun _ => rfl) (fun _ => rfl) rfl wsX3_in tyX3_ok clX11_59 ins_X3 wiX3_init dv_X3 (fun _ => rfl) (kkX3_init g) ycX3_init rfl iokX11_61 (by decide) (by decide) dX11_init_96 dX11_init_97 dX11_init_100 (fun _ => (Aok.aR (pc1 := 105) (EokR.getf (pc1 := 102) (j := 2) (ci := 11) (T := TX11) (N := 11) (EokR.aload_n (q := 0) dX11_init_101) rfl wsX11_in (by decide) flX11_28 dX11_init_102) (Aok.aR (pc1 := 109) (EokR.getf (pc1 := 106) (j := 7) (ci := 11) (T := TX11) (N := 11) (EokR.aload_n (q := 0) dX11_init_105) rfl wsX11_in (by decide) flX11_42 dX11_init_106) Aok.nil))) (by decide) dX11_init_109 dX11_init_112) (Nok.seq (pc1 := 134) (Nok.obj (ci := 11) (T := TX11) (NN := 11) (tt := tyX11) (j := 5) (ci2 := 10) (T2 := TX10) (NN2 := 8) (tt2 := tyX10) (fs2 := [.null, .null, .null, .null, .null, .int 0, .int 0, .int 0]) (mc := 3) (ms := 18564) (pc1 := 128) rfl wsX11_in tyX11_ok nmX11 (by decide) flX11_71 rfl (fun _ => rfl) (fun _ => rfl) rfl wsX10_in tyX10_ok clX11_68 ins_X10 wiX10_init dv_X10 (fun _ => rfl) (kkX10_init g) ycX10_init rfl iokX11_70 (by decide) (by decide) dX11_init_115 dX11_init_116 dX11_init_119 (fun _ => (Aok.aR (pc1 := 124) (EokR.getf (pc1 := 121) (j := 2) (ci := 11) (T := TX11) (N := 11) (EokR.aload_n (q := 0) dX11_init_120) rfl wsX11_in (by decide) flX11_28 dX11_init_121) (Aok.aR (pc1 := 128) (EokR.getf (pc1 := 125) (j := 7) (ci := 11) (T := TX11) (N := 11) (EokR.aload_n (q := 0) dX11_init_124) rfl wsX11_in (by decide) flX11_42 dX11_init_125) Aok.nil))) (by decide) dX11_init_128 dX11_init_131) (Nok.obj (ci := 11) (T := TX11) (NN := 11) (tt := tyX11) (j := 6) (ci2 := 6) (T2 := TX6) (NN2 := 4) (tt2 := tyX6) (fs2 := [.null, .null, .null, .null]) (mc := 1) (ms := 65) (pc1 := 151) rfl wsX11_in tyX11_ok nmX11 (by decide) flX11_80 rfl (fun _ => rfl) (fun _ => rfl) rfl wsX6_in tyX6_ok clX11_75 ins_X6 wiX6_init dv_X6 (fun _ => rfl) (kkX6_init g) ycX6_init rfl iokX11_77 (by decide) (by decide) dX11_init_134 dX11_init_135 dX11_init_138 (fun _ => (Aok.aR (pc1 := 143) (EokR.getf (pc1 := 140) (j := 2) (ci := 11) (T := TX11) (N := 11) (EokR.aload_n (q := 0) dX11_init_139) rfl wsX11_in (by decide) flX11_28 dX11_init_140) (Aok.aR (pc1 := 147) (EokR.getf (pc1 := 144) (j := 4) (ci := 11) (T := TX11) (N := 11) (EokR.aload_n (q := 0) dX11_init_143) rfl wsX11_in (by decide) flX11_64 dX11_init_144) (Aok.aR (pc1 := 151) (EokR.getf (pc1 := 148) (j := 7) (ci := 11) (T := TX11) (N := 11) (EokR.aload_n (q := 0) dX11_init_147) rfl wsX11_in (by decide) flX11_42 dX11_init_148) Aok.nil)))) (by decide) dX11_init_151 dX11_init_154))))))))))))) dX11_init_157
