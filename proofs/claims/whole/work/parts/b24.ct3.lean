set_option maxRecDepth 20000
set_option maxHeartbeats 4000000
set_option linter.all false
/-! new PassHutsModel()V -/
theorem dX12_init_0 : decode cX12_init 0 = .ok (.aload_n 0, 1) := by decide +kernel
theorem dX12_init_1 : decode cX12_init 1 = .ok (.invokespecial 18, 3) := by decide +kernel
theorem dX12_init_4 : decode cX12_init 4 = .ok (.aload_n 0, 1) := by decide +kernel
theorem dX12_init_5 : decode cX12_init 5 = .ok (.sipush 1000, 3) := by decide +kernel
theorem dX12_init_8 : decode cX12_init 8 = .ok (.newarray .int, 2) := by decide +kernel
theorem dX12_init_10 : decode cX12_init 10 = .ok (.putfield 14, 3) := by decide +kernel
theorem dX12_init_13 : decode cX12_init 13 = .ok (.aload_n 0, 1) := by decide +kernel
theorem dX12_init_14 : decode cX12_init 14 = .ok (.sipush 1002, 3) := by decide +kernel
theorem dX12_init_17 : decode cX12_init 17 = .ok (.newarray .int, 2) := by decide +kernel
theorem dX12_init_19 : decode cX12_init 19 = .ok (.putfield 24, 3) := by decide +kernel
theorem dX12_init_22 : decode cX12_init 22 = .ok (.aload_n 0, 1) := by decide +kernel
theorem dX12_init_23 : decode cX12_init 23 = .ok (.sipush 1002, 3) := by decide +kernel
theorem dX12_init_26 : decode cX12_init 26 = .ok (.newarray .int, 2) := by decide +kernel
theorem dX12_init_28 : decode cX12_init 28 = .ok (.putfield 27, 3) := by decide +kernel
theorem dX12_init_31 : decode cX12_init 31 = .ok (.aload_n 0, 1) := by decide +kernel
theorem dX12_init_32 : decode cX12_init 32 = .ok (.sipush 1002, 3) := by decide +kernel
theorem dX12_init_35 : decode cX12_init 35 = .ok (.newarray .long, 2) := by decide +kernel
theorem dX12_init_37 : decode cX12_init 37 = .ok (.putfield 30, 3) := by decide +kernel
theorem dX12_init_40 : decode cX12_init 40 = .ok (.aload_n 0, 1) := by decide +kernel
theorem dX12_init_41 : decode cX12_init 41 = .ok (.bipush 19, 2) := by decide +kernel
theorem dX12_init_43 : decode cX12_init 43 = .ok (.newarray .long, 2) := by decide +kernel
theorem dX12_init_45 : decode cX12_init 45 = .ok (.dup, 1) := by decide +kernel
theorem dX12_init_46 : decode cX12_init 46 = .ok (.iconst 0, 1) := by decide +kernel
theorem dX12_init_47 : decode cX12_init 47 = .ok (.ldc2_w 34, 3) := by decide +kernel
theorem dX12_init_50 : decode cX12_init 50 = .ok (.lastore, 1) := by decide +kernel
theorem dX12_init_51 : decode cX12_init 51 = .ok (.dup, 1) := by decide +kernel
theorem dX12_init_52 : decode cX12_init 52 = .ok (.iconst 1, 1) := by decide +kernel
theorem dX12_init_53 : decode cX12_init 53 = .ok (.ldc2_w 36, 3) := by decide +kernel
theorem dX12_init_56 : decode cX12_init 56 = .ok (.lastore, 1) := by decide +kernel
theorem dX12_init_57 : decode cX12_init 57 = .ok (.dup, 1) := by decide +kernel
theorem dX12_init_58 : decode cX12_init 58 = .ok (.iconst 2, 1) := by decide +kernel
theorem dX12_init_59 : decode cX12_init 59 = .ok (.ldc2_w 38, 3) := by decide +kernel
theorem dX12_init_62 : decode cX12_init 62 = .ok (.lastore, 1) := by decide +kernel
theorem dX12_init_63 : decode cX12_init 63 = .ok (.dup, 1) := by decide +kernel
theorem dX12_init_64 : decode cX12_init 64 = .ok (.iconst 3, 1) := by decide +kernel
theorem dX12_init_65 : decode cX12_init 65 = .ok (.ldc2_w 40, 3) := by decide +kernel
theorem dX12_init_68 : decode cX12_init 68 = .ok (.lastore, 1) := by decide +kernel
theorem dX12_init_69 : decode cX12_init 69 = .ok (.dup, 1) := by decide +kernel
theorem dX12_init_70 : decode cX12_init 70 = .ok (.iconst 4, 1) := by decide +kernel
theorem dX12_init_71 : decode cX12_init 71 = .ok (.ldc2_w 42, 3) := by decide +kernel
theorem dX12_init_74 : decode cX12_init 74 = .ok (.lastore, 1) := by decide +kernel
theorem dX12_init_75 : decode cX12_init 75 = .ok (.dup, 1) := by decide +kernel
theorem dX12_init_76 : decode cX12_init 76 = .ok (.iconst 5, 1) := by decide +kernel
theorem dX12_init_77 : decode cX12_init 77 = .ok (.ldc2_w 44, 3) := by decide +kernel
theorem dX12_init_80 : decode cX12_init 80 = .ok (.lastore, 1) := by decide +kernel
theorem dX12_init_81 : decode cX12_init 81 = .ok (.dup, 1) := by decide +kernel
theorem dX12_init_82 : decode cX12_init 82 = .ok (.bipush 6, 2) := by decide +kernel
theorem dX12_init_84 : decode cX12_init 84 = .ok (.ldc2_w 46, 3) := by decide +kernel
theorem dX12_init_87 : decode cX12_init 87 = .ok (.lastore, 1) := by decide +kernel
theorem dX12_init_88 : decode cX12_init 88 = .ok (.dup, 1) := by decide +kernel
theorem dX12_init_89 : decode cX12_init 89 = .ok (.bipush 7, 2) := by decide +kernel
theorem dX12_init_91 : decode cX12_init 91 = .ok (.ldc2_w 48, 3) := by decide +kernel
theorem dX12_init_94 : decode cX12_init 94 = .ok (.lastore, 1) := by decide +kernel
theorem dX12_init_95 : decode cX12_init 95 = .ok (.dup, 1) := by decide +kernel
theorem dX12_init_96 : decode cX12_init 96 = .ok (.bipush 8, 2) := by decide +kernel
theorem dX12_init_98 : decode cX12_init 98 = .ok (.ldc2_w 50, 3) := by decide +kernel
theorem dX12_init_101 : decode cX12_init 101 = .ok (.lastore, 1) := by decide +kernel
theorem dX12_init_102 : decode cX12_init 102 = .ok (.dup, 1) := by decide +kernel
theorem dX12_init_103 : decode cX12_init 103 = .ok (.bipush 9, 2) := by decide +kernel
theorem dX12_init_105 : decode cX12_init 105 = .ok (.ldc2_w 52, 3) := by decide +kernel
theorem dX12_init_108 : decode cX12_init 108 = .ok (.lastore, 1) := by decide +kernel
theorem dX12_init_109 : decode cX12_init 109 = .ok (.dup, 1) := by decide +kernel
theorem dX12_init_110 : decode cX12_init 110 = .ok (.bipush 10, 2) := by decide +kernel
theorem dX12_init_112 : decode cX12_init 112 = .ok (.ldc2_w 54, 3) := by decide +kernel
theorem dX12_init_115 : decode cX12_init 115 = .ok (.lastore, 1) := by decide +kernel
theorem dX12_init_116 : decode cX12_init 116 = .ok (.dup, 1) := by decide +kernel
theorem dX12_init_117 : decode cX12_init 117 = .ok (.bipush 11, 2) := by decide +kernel
theorem dX12_init_119 : decode cX12_init 119 = .ok (.ldc2_w 56, 3) := by decide +kernel
theorem dX12_init_122 : decode cX12_init 122 = .ok (.lastore, 1) := by decide +kernel
theorem dX12_init_123 : decode cX12_init 123 = .ok (.dup, 1) := by decide +kernel
theorem dX12_init_124 : decode cX12_init 124 = .ok (.bipush 12, 2) := by decide +kernel
theorem dX12_init_126 : decode cX12_init 126 = .ok (.ldc2_w 58, 3) := by decide +kernel
theorem dX12_init_129 : decode cX12_init 129 = .ok (.lastore, 1) := by decide +kernel
theorem dX12_init_130 : decode cX12_init 130 = .ok (.dup, 1) := by decide +kernel
theorem dX12_init_131 : decode cX12_init 131 = .ok (.bipush 13, 2) := by decide +kernel
theorem dX12_init_133 : decode cX12_init 133 = .ok (.ldc2_w 60, 3) := by decide +kernel
theorem dX12_init_136 : decode cX12_init 136 = .ok (.lastore, 1) := by decide +kernel
theorem dX12_init_137 : decode cX12_init 137 = .ok (.dup, 1) := by decide +kernel
theorem dX12_init_138 : decode cX12_init 138 = .ok (.bipush 14, 2) := by decide +kernel
theorem dX12_init_140 : decode cX12_init 140 = .ok (.ldc2_w 62, 3) := by decide +kernel
theorem dX12_init_143 : decode cX12_init 143 = .ok (.lastore, 1) := by decide +kernel
theorem dX12_init_144 : decode cX12_init 144 = .ok (.dup, 1) := by decide +kernel
theorem dX12_init_145 : decode cX12_init 145 = .ok (.bipush 15, 2) := by decide +kernel
theorem dX12_init_147 : decode cX12_init 147 = .ok (.ldc2_w 64, 3) := by decide +kernel
theorem dX12_init_150 : decode cX12_init 150 = .ok (.lastore, 1) := by decide +kernel
theorem dX12_init_151 : decode cX12_init 151 = .ok (.dup, 1) := by decide +kernel
theorem dX12_init_152 : decode cX12_init 152 = .ok (.bipush 16, 2) := by decide +kernel
theorem dX12_init_154 : decode cX12_init 154 = .ok (.ldc2_w 66, 3) := by decide +kernel
theorem dX12_init_157 : decode cX12_init 157 = .ok (.lastore, 1) := by decide +kernel
theorem dX12_init_158 : decode cX12_init 158 = .ok (.dup, 1) := by decide +kernel
theorem dX12_init_159 : decode cX12_init 159 = .ok (.bipush 17, 2) := by decide +kernel
theorem dX12_init_161 : decode cX12_init 161 = .ok (.ldc2_w 68, 3) := by decide +kernel
theorem dX12_init_164 : decode cX12_init 164 = .ok (.lastore, 1) := by decide +kernel
theorem dX12_init_165 : decode cX12_init 165 = .ok (.dup, 1) := by decide +kernel
theorem dX12_init_166 : decode cX12_init 166 = .ok (.bipush 18, 2) := by decide +kernel
theorem dX12_init_168 : decode cX12_init 168 = .ok (.ldc2_w 70, 3) := by decide +kernel
theorem dX12_init_171 : decode cX12_init 171 = .ok (.lastore, 1) := by decide +kernel
theorem dX12_init_172 : decode cX12_init 172 = .ok (.putfield 72, 3) := by decide +kernel
theorem dX12_init_175 : decode cX12_init 175 = .ok (.aload_n 0, 1) := by decide +kernel
theorem dX12_init_176 : decode cX12_init 176 = .ok (.bipush 80, 2) := by decide +kernel
theorem dX12_init_178 : decode cX12_init 178 = .ok (.newarray .int, 2) := by decide +kernel
theorem dX12_init_180 : decode cX12_init 180 = .ok (.putfield 75, 3) := by decide +kernel
theorem dX12_init_183 : decode cX12_init 183 = .ok (.aload_n 0, 1) := by decide +kernel
theorem dX12_init_184 : decode cX12_init 184 = .ok (.sipush 2200, 3) := by decide +kernel
theorem dX12_init_187 : decode cX12_init 187 = .ok (.newarray .int, 2) := by decide +kernel
theorem dX12_init_189 : decode cX12_init 189 = .ok (.putfield 78, 3) := by decide +kernel
theorem dX12_init_192 : decode cX12_init 192 = .ok (.aload_n 0, 1) := by decide +kernel
theorem dX12_init_193 : decode cX12_init 193 = .ok (.bipush 10, 2) := by decide +kernel
theorem dX12_init_195 : decode cX12_init 195 = .ok (.newarray .long, 2) := by decide +kernel
theorem dX12_init_197 : decode cX12_init 197 = .ok (.putfield 81, 3) := by decide +kernel
theorem dX12_init_200 : decode cX12_init 200 = .ok (.aload_n 0, 1) := by decide +kernel
theorem dX12_init_201 : decode cX12_init 201 = .ok (.sipush 250, 3) := by decide +kernel
theorem dX12_init_204 : decode cX12_init 204 = .ok (.newarray .int, 2) := by decide +kernel
theorem dX12_init_206 : decode cX12_init 206 = .ok (.putfield 84, 3) := by decide +kernel
theorem dX12_init_209 : decode cX12_init 209 = .ok (.aload_n 0, 1) := by decide +kernel
theorem dX12_init_210 : decode cX12_init 210 = .ok (.iconst 4, 1) := by decide +kernel
theorem dX12_init_211 : decode cX12_init 211 = .ok (.newarray .int, 2) := by decide +kernel
theorem dX12_init_213 : decode cX12_init 213 = .ok (.putfield 87, 3) := by decide +kernel
theorem dX12_init_216 : decode cX12_init 216 = .ok (.aload_n 0, 1) := by decide +kernel
theorem dX12_init_217 : decode cX12_init 217 = .ok (.bipush 64, 2) := by decide +kernel
theorem dX12_init_219 : decode cX12_init 219 = .ok (.newarray .int, 2) := by decide +kernel
theorem dX12_init_221 : decode cX12_init 221 = .ok (.putfield 90, 3) := by decide +kernel
theorem dX12_init_224 : decode cX12_init 224 = .ok (.aload_n 0, 1) := by decide +kernel
theorem dX12_init_225 : decode cX12_init 225 = .ok (.sipush 651, 3) := by decide +kernel
theorem dX12_init_228 : decode cX12_init 228 = .ok (.newarray .int, 2) := by decide +kernel
theorem dX12_init_230 : decode cX12_init 230 = .ok (.putfield 93, 3) := by decide +kernel
theorem dX12_init_233 : decode cX12_init 233 = .ok (.aload_n 0, 1) := by decide +kernel
theorem dX12_init_234 : decode cX12_init 234 = .ok (.iconst 4, 1) := by decide +kernel
theorem dX12_init_235 : decode cX12_init 235 = .ok (.newarray .boolean, 2) := by decide +kernel
theorem dX12_init_237 : decode cX12_init 237 = .ok (.putfield 96, 3) := by decide +kernel
theorem dX12_init_240 : decode cX12_init 240 = .ok (.aload_n 0, 1) := by decide +kernel
theorem dX12_init_241 : decode cX12_init 241 = .ok (.iconst 5, 1) := by decide +kernel
theorem dX12_init_242 : decode cX12_init 242 = .ok (.newarray .int, 2) := by decide +kernel
theorem dX12_init_244 : decode cX12_init 244 = .ok (.putfield 100, 3) := by decide +kernel
theorem dX12_init_247 : decode cX12_init 247 = .ok (.aload_n 0, 1) := by decide +kernel
theorem dX12_init_248 : decode cX12_init 248 = .ok (.sipush 6188, 3) := by decide +kernel
theorem dX12_init_251 : decode cX12_init 251 = .ok (.newarray .long, 2) := by decide +kernel
theorem dX12_init_253 : decode cX12_init 253 = .ok (.putfield 103, 3) := by decide +kernel
theorem dX12_init_256 : decode cX12_init 256 = .ok (.aload_n 0, 1) := by decide +kernel
theorem dX12_init_257 : decode cX12_init 257 = .ok (.iconst 5, 1) := by decide +kernel
theorem dX12_init_258 : decode cX12_init 258 = .ok (.newarray .int, 2) := by decide +kernel
theorem dX12_init_260 : decode cX12_init 260 = .ok (.putfield 106, 3) := by decide +kernel
theorem dX12_init_263 : decode cX12_init 263 = .ok (.aload_n 0, 1) := by decide +kernel
theorem dX12_init_264 : decode cX12_init 264 = .ok (.iconst 5, 1) := by decide +kernel
theorem dX12_init_265 : decode cX12_init 265 = .ok (.newarray .int, 2) := by decide +kernel
theorem dX12_init_267 : decode cX12_init 267 = .ok (.putfield 109, 3) := by decide +kernel
theorem dX12_init_270 : decode cX12_init 270 = .ok (.aload_n 0, 1) := by decide +kernel
theorem dX12_init_271 : decode cX12_init 271 = .ok (.bipush 65, 2) := by decide +kernel
theorem dX12_init_273 : decode cX12_init 273 = .ok (.newarray .int, 2) := by decide +kernel
theorem dX12_init_275 : decode cX12_init 275 = .ok (.putfield 112, 3) := by decide +kernel
theorem dX12_init_278 : decode cX12_init 278 = .ok (.aload_n 0, 1) := by decide +kernel
theorem dX12_init_279 : decode cX12_init 279 = .ok (.iconst 0, 1) := by decide +kernel
theorem dX12_init_280 : decode cX12_init 280 = .ok (.invokevirtual 115, 3) := by decide +kernel
theorem dX12_init_283 : decode cX12_init 283 = .ok (.aload_n 0, 1) := by decide +kernel
theorem dX12_init_284 : decode cX12_init 284 = .ok (.invokevirtual 119, 3) := by decide +kernel
theorem dX12_init_287 : decode cX12_init 287 = .ok (.return_, 1) := by decide +kernel
abbrev tX12_init (k : Nat) : MT := (RX12, cX12_init, 1, k, none)
def uw0 (f : Nat → Int64) : Nat → Int64 := vp_updL f 0 11749
theorem lk1_0 (g : GT) (r : Nat) : Lk g (tX12_init r) 45 51 (fun f => vp_updL f 0 11749) := Lk.one (idx := 0) (i := 0) (v := 11749) (iv := 0) (pc1 := 47) (pc2 := 50) (by decide) (by decide) dX12_init_45 (fun _ => (EokI.iconst (v := 0) dX12_init_46 (by decide))) (fun _ => (EokL.ldc2 (v := 11749) ckX12_34 dX12_init_47)) dX12_init_50
theorem lkw_0 (g : GT) (r : Nat) : Lk g (tX12_init r) 45 51 uw0 := lk1_0 g r
def uw1 (f : Nat → Int64) : Nat → Int64 := vp_updL (uw0 f) 1 23251263
theorem lk1_1 (g : GT) (r : Nat) : Lk g (tX12_init r) 51 57 (fun f => vp_updL f 1 23251263) := Lk.one (idx := 0) (i := 1) (v := 23251263) (iv := 1) (pc1 := 53) (pc2 := 56) (by decide) (by decide) dX12_init_51 (fun _ => (EokI.iconst (v := 1) dX12_init_52 (by decide))) (fun _ => (EokL.ldc2 (v := 23251263) ckX12_36 dX12_init_53)) dX12_init_56
theorem lkw_1 (g : GT) (r : Nat) : Lk g (tX12_init r) 45 57 uw1 := Lk.seq (u := uw0) (v := fun f => vp_updL f 1 23251263) (pc1 := 51) (lkw_0 g r) (lk1_1 g r)
def uw2 (f : Nat → Int64) : Nat → Int64 := vp_updL (uw1 f) 2 812565
theorem lk1_2 (g : GT) (r : Nat) : Lk g (tX12_init r) 57 63 (fun f => vp_updL f 2 812565) := Lk.one (idx := 0) (i := 2) (v := 812565) (iv := 2) (pc1 := 59) (pc2 := 62) (by decide) (by decide) dX12_init_57 (fun _ => (EokI.iconst (v := 2) dX12_init_58 (by decide))) (fun _ => (EokL.ldc2 (v := 812565) ckX12_38 dX12_init_59)) dX12_init_62
theorem lkw_2 (g : GT) (r : Nat) : Lk g (tX12_init r) 45 63 uw2 := Lk.seq (u := uw1) (v := fun f => vp_updL f 2 812565) (pc1 := 57) (lkw_1 g r) (lk1_2 g r)
def uw3 (f : Nat → Int64) : Nat → Int64 := vp_updL (uw2 f) 3 37549136
theorem lk1_3 (g : GT) (r : Nat) : Lk g (tX12_init r) 63 69 (fun f => vp_updL f 3 37549136) := Lk.one (idx := 0) (i := 3) (v := 37549136) (iv := 3) (pc1 := 65) (pc2 := 68) (by decide) (by decide) dX12_init_63 (fun _ => (EokI.iconst (v := 3) dX12_init_64 (by decide))) (fun _ => (EokL.ldc2 (v := 37549136) ckX12_40 dX12_init_65)) dX12_init_68
theorem lkw_3 (g : GT) (r : Nat) : Lk g (tX12_init r) 45 69 uw3 := Lk.seq (u := uw2) (v := fun f => vp_updL f 3 37549136) (pc1 := 63) (lkw_2 g r) (lk1_3 g r)
def uw4 (f : Nat → Int64) : Nat → Int64 := vp_updL (uw3 f) 4 103360
theorem lk1_4 (g : GT) (r : Nat) : Lk g (tX12_init r) 69 75 (fun f => vp_updL f 4 103360) := Lk.one (idx := 0) (i := 4) (v := 103360) (iv := 4) (pc1 := 71) (pc2 := 74) (by decide) (by decide) dX12_init_69 (fun _ => (EokI.iconst (v := 4) dX12_init_70 (by decide))) (fun _ => (EokL.ldc2 (v := 103360) ckX12_42 dX12_init_71)) dX12_init_74
theorem lkw_4 (g : GT) (r : Nat) : Lk g (tX12_init r) 45 75 uw4 := Lk.seq (u := uw3) (v := fun f => vp_updL f 4 103360) (pc1 := 69) (lkw_3 g r) (lk1_4 g r)
def uw5 (f : Nat → Int64) : Nat → Int64 := vp_updL (uw4 f) 5 5698469
theorem lk1_5 (g : GT) (r : Nat) : Lk g (tX12_init r) 75 81 (fun f => vp_updL f 5 5698469) := Lk.one (idx := 0) (i := 5) (v := 5698469) (iv := 5) (pc1 := 77) (pc2 := 80) (by decide) (by decide) dX12_init_75 (fun _ => (EokI.iconst (v := 5) dX12_init_76 (by decide))) (fun _ => (EokL.ldc2 (v := 5698469) ckX12_44 dX12_init_77)) dX12_init_80
theorem lkw_5 (g : GT) (r : Nat) : Lk g (tX12_init r) 45 81 uw5 := Lk.seq (u := uw4) (v := fun f => vp_updL f 5 5698469) (pc1 := 75) (lkw_4 g r) (lk1_5 g r)
def uw6 (f : Nat → Int64) : Nat → Int64 := vp_updL (uw5 f) 6 16490
theorem lk1_6 (g : GT) (r : Nat) : Lk g (tX12_init r) 81 88 (fun f => vp_updL f 6 16490) := Lk.one (idx := 0) (i := 6) (v := 16490) (iv := 6) (pc1 := 84) (pc2 := 87) (by decide) (by decide) dX12_init_81 (fun _ => (EokI.bipush (v := 6) dX12_init_82 (by decide))) (fun _ => (EokL.ldc2 (v := 16490) ckX12_46 dX12_init_84)) dX12_init_87
theorem lkw_6 (g : GT) (r : Nat) : Lk g (tX12_init r) 45 88 uw6 := Lk.seq (u := uw5) (v := fun f => vp_updL f 6 16490) (pc1 := 81) (lkw_5 g r) (lk1_6 g r)
def uw7 (f : Nat → Int64) : Nat → Int64 := vp_updL (uw6 f) 7 6902
theorem lk1_7 (g : GT) (r : Nat) : Lk g (tX12_init r) 88 95 (fun f => vp_updL f 7 6902) := Lk.one (idx := 0) (i := 7) (v := 6902) (iv := 7) (pc1 := 91) (pc2 := 94) (by decide) (by decide) dX12_init_88 (fun _ => (EokI.bipush (v := 7) dX12_init_89 (by decide))) (fun _ => (EokL.ldc2 (v := 6902) ckX12_48 dX12_init_91)) dX12_init_94
theorem lkw_7 (g : GT) (r : Nat) : Lk g (tX12_init r) 45 95 uw7 := Lk.seq (u := uw6) (v := fun f => vp_updL f 7 6902) (pc1 := 88) (lkw_6 g r) (lk1_7 g r)
def uw8 (f : Nat → Int64) : Nat → Int64 := vp_updL (uw7 f) 8 30596128
theorem lk1_8 (g : GT) (r : Nat) : Lk g (tX12_init r) 95 102 (fun f => vp_updL f 8 30596128) := Lk.one (idx := 0) (i := 8) (v := 30596128) (iv := 8) (pc1 := 98) (pc2 := 101) (by decide) (by decide) dX12_init_95 (fun _ => (EokI.bipush (v := 8) dX12_init_96 (by decide))) (fun _ => (EokL.ldc2 (v := 30596128) ckX12_50 dX12_init_98)) dX12_init_101
theorem lkw_8 (g : GT) (r : Nat) : Lk g (tX12_init r) 45 102 uw8 := Lk.seq (u := uw7) (v := fun f => vp_updL f 8 30596128) (pc1 := 95) (lkw_7 g r) (lk1_8 g r)
def uw9 (f : Nat → Int64) : Nat → Int64 := vp_updL (uw8 f) 9 12853
theorem lk1_9 (g : GT) (r : Nat) : Lk g (tX12_init r) 102 109 (fun f => vp_updL f 9 12853) := Lk.one (idx := 0) (i := 9) (v := 12853) (iv := 9) (pc1 := 105) (pc2 := 108) (by decide) (by decide) dX12_init_102 (fun _ => (EokI.bipush (v := 9) dX12_init_103 (by decide))) (fun _ => (EokL.ldc2 (v := 12853) ckX12_52 dX12_init_105)) dX12_init_108
theorem lkw_9 (g : GT) (r : Nat) : Lk g (tX12_init r) 45 109 uw9 := Lk.seq (u := uw8) (v := fun f => vp_updL f 9 12853) (pc1 := 102) (lkw_8 g r) (lk1_9 g r)
def uw10 (f : Nat → Int64) : Nat → Int64 := vp_updL (uw9 f) 10 36629165
theorem lk1_10 (g : GT) (r : Nat) : Lk g (tX12_init r) 109 116 (fun f => vp_updL f 10 36629165) := Lk.one (idx := 0) (i := 10) (v := 36629165) (iv := 10) (pc1 := 112) (pc2 := 115) (by decide) (by decide) dX12_init_109 (fun _ => (EokI.bipush (v := 10) dX12_init_110 (by decide))) (fun _ => (EokL.ldc2 (v := 36629165) ckX12_54 dX12_init_112)) dX12_init_115
theorem lkw_10 (g : GT) (r : Nat) : Lk g (tX12_init r) 45 116 uw10 := Lk.seq (u := uw9) (v := fun f => vp_updL f 10 36629165) (pc1 := 109) (lkw_9 g r) (lk1_10 g r)
def uw11 (f : Nat → Int64) : Nat → Int64 := vp_updL (uw10 f) 11 36269373
theorem lk1_11 (g : GT) (r : Nat) : Lk g (tX12_init r) 116 123 (fun f => vp_updL f 11 36269373) := Lk.one (idx := 0) (i := 11) (v := 36269373) (iv := 11) (pc1 := 119) (pc2 := 122) (by decide) (by decide) dX12_init_116 (fun _ => (EokI.bipush (v := 11) dX12_init_117 (by decide))) (fun _ => (EokL.ldc2 (v := 36269373) ckX12_56 dX12_init_119)) dX12_init_122
theorem lkw_11 (g : GT) (r : Nat) : Lk g (tX12_init r) 45 123 uw11 := Lk.seq (u := uw10) (v := fun f => vp_updL f 11 36269373) (pc1 := 116) (lkw_10 g r) (lk1_11 g r)
def uw12 (f : Nat → Int64) : Nat → Int64 := vp_updL (uw11 f) 12 19741
theorem lk1_12 (g : GT) (r : Nat) : Lk g (tX12_init r) 123 130 (fun f => vp_updL f 12 19741) := Lk.one (idx := 0) (i := 12) (v := 19741) (iv := 12) (pc1 := 126) (pc2 := 129) (by decide) (by decide) dX12_init_123 (fun _ => (EokI.bipush (v := 12) dX12_init_124 (by decide))) (fun _ => (EokL.ldc2 (v := 19741) ckX12_58 dX12_init_126)) dX12_init_129
theorem lkw_12 (g : GT) (r : Nat) : Lk g (tX12_init r) 45 130 uw12 := Lk.seq (u := uw11) (v := fun f => vp_updL f 12 19741) (pc1 := 123) (lkw_11 g r) (lk1_12 g r)
def uw13 (f : Nat → Int64) : Nat → Int64 := vp_updL (uw12 f) 13 1891
theorem lk1_13 (g : GT) (r : Nat) : Lk g (tX12_init r) 130 137 (fun f => vp_updL f 13 1891) := Lk.one (idx := 0) (i := 13) (v := 1891) (iv := 13) (pc1 := 133) (pc2 := 136) (by decide) (by decide) dX12_init_130 (fun _ => (EokI.bipush (v := 13) dX12_init_131 (by decide))) (fun _ => (EokL.ldc2 (v := 1891) ckX12_60 dX12_init_133)) dX12_init_136
theorem lkw_13 (g : GT) (r : Nat) : Lk g (tX12_init r) 45 137 uw13 := Lk.seq (u := uw12) (v := fun f => vp_updL f 13 1891) (pc1 := 130) (lkw_12 g r) (lk1_13 g r)
def uw14 (f : Nat → Int64) : Nat → Int64 := vp_updL (uw13 f) 14 573
theorem lk1_14 (g : GT) (r : Nat) : Lk g (tX12_init r) 137 144 (fun f => vp_updL f 14 573) := Lk.one (idx := 0) (i := 14) (v := 573) (iv := 14) (pc1 := 140) (pc2 := 143) (by decide) (by decide) dX12_init_137 (fun _ => (EokI.bipush (v := 14) dX12_init_138 (by decide))) (fun _ => (EokL.ldc2 (v := 573) ckX12_62 dX12_init_140)) dX12_init_143
theorem lkw_14 (g : GT) (r : Nat) : Lk g (tX12_init r) 45 144 uw14 := Lk.seq (u := uw13) (v := fun f => vp_updL f 14 573) (pc1 := 137) (lkw_13 g r) (lk1_14 g r)
def uw15 (f : Nat → Int64) : Nat → Int64 := vp_updL (uw14 f) 15 412740
theorem lk1_15 (g : GT) (r : Nat) : Lk g (tX12_init r) 144 151 (fun f => vp_updL f 15 412740) := Lk.one (idx := 0) (i := 15) (v := 412740) (iv := 15) (pc1 := 147) (pc2 := 150) (by decide) (by decide) dX12_init_144 (fun _ => (EokI.bipush (v := 15) dX12_init_145 (by decide))) (fun _ => (EokL.ldc2 (v := 412740) ckX12_64 dX12_init_147)) dX12_init_150
theorem lkw_15 (g : GT) (r : Nat) : Lk g (tX12_init r) 45 151 uw15 := Lk.seq (u := uw14) (v := fun f => vp_updL f 15 412740) (pc1 := 144) (lkw_14 g r) (lk1_15 g r)
def uw16 (f : Nat → Int64) : Nat → Int64 := vp_updL (uw15 f) 16 37895960
theorem lk1_16 (g : GT) (r : Nat) : Lk g (tX12_init r) 151 158 (fun f => vp_updL f 16 37895960) := Lk.one (idx := 0) (i := 16) (v := 37895960) (iv := 16) (pc1 := 154) (pc2 := 157) (by decide) (by decide) dX12_init_151 (fun _ => (EokI.bipush (v := 16) dX12_init_152 (by decide))) (fun _ => (EokL.ldc2 (v := 37895960) ckX12_66 dX12_init_154)) dX12_init_157
theorem lkw_16 (g : GT) (r : Nat) : Lk g (tX12_init r) 45 158 uw16 := Lk.seq (u := uw15) (v := fun f => vp_updL f 16 37895960) (pc1 := 151) (lkw_15 g r) (lk1_16 g r)
def uw17 (f : Nat → Int64) : Nat → Int64 := vp_updL (uw16 f) 17 30910767
theorem lk1_17 (g : GT) (r : Nat) : Lk g (tX12_init r) 158 165 (fun f => vp_updL f 17 30910767) := Lk.one (idx := 0) (i := 17) (v := 30910767) (iv := 17) (pc1 := 161) (pc2 := 164) (by decide) (by decide) dX12_init_158 (fun _ => (EokI.bipush (v := 17) dX12_init_159 (by decide))) (fun _ => (EokL.ldc2 (v := 30910767) ckX12_68 dX12_init_161)) dX12_init_164
theorem lkw_17 (g : GT) (r : Nat) : Lk g (tX12_init r) 45 165 uw17 := Lk.seq (u := uw16) (v := fun f => vp_updL f 17 30910767) (pc1 := 158) (lkw_16 g r) (lk1_17 g r)
def uw18 (f : Nat → Int64) : Nat → Int64 := vp_updL (uw17 f) 18 1825
theorem lk1_18 (g : GT) (r : Nat) : Lk g (tX12_init r) 165 172 (fun f => vp_updL f 18 1825) := Lk.one (idx := 0) (i := 18) (v := 1825) (iv := 18) (pc1 := 168) (pc2 := 171) (by decide) (by decide) dX12_init_165 (fun _ => (EokI.bipush (v := 18) dX12_init_166 (by decide))) (fun _ => (EokL.ldc2 (v := 1825) ckX12_70 dX12_init_168)) dX12_init_171
theorem lkw_18 (g : GT) (r : Nat) : Lk g (tX12_init r) 45 172 uw18 := Lk.seq (u := uw17) (v := fun f => vp_updL f 18 1825) (pc1 := 165) (lkw_17 g r) (lk1_18 g r)
