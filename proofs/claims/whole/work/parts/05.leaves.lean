set_option maxRecDepth 20000
set_option maxHeartbeats 4000000
/-! PassHuts$Tape.append(J)V -/
theorem dX7_append_0 : decode cX7_append 0 = .ok (.bipush 56, 2) := by decide +kernel
theorem dX7_append_2 : decode cX7_append 2 = .ok (.istore_n 3, 1) := by decide +kernel
theorem dX7_append_3 : decode cX7_append 3 = .ok (.iload_n 3, 1) := by decide +kernel
theorem dX7_append_4 : decode cX7_append 4 = .ok (.ifCond .lt 86, 3) := by decide +kernel
theorem dX7_append_7 : decode cX7_append 7 = .ok (.lload_n 1, 1) := by decide +kernel
theorem dX7_append_8 : decode cX7_append 8 = .ok (.iload_n 3, 1) := by decide +kernel
theorem dX7_append_9 : decode cX7_append 9 = .ok (.lshr, 1) := by decide +kernel
theorem dX7_append_10 : decode cX7_append 10 = .ok (.l2i, 1) := by decide +kernel
theorem dX7_append_11 : decode cX7_append 11 = .ok (.sipush 255, 3) := by decide +kernel
theorem dX7_append_14 : decode cX7_append 14 = .ok (.iand, 1) := by decide +kernel
theorem dX7_append_15 : decode cX7_append 15 = .ok (.istore 4, 2) := by decide +kernel
theorem dX7_append_17 : decode cX7_append 17 = .ok (.iload 4, 2) := by decide +kernel
theorem dX7_append_19 : decode cX7_append 19 = .ok (.bipush 10, 2) := by decide +kernel
theorem dX7_append_21 : decode cX7_append 21 = .ok (.if_icmp .eq 17, 3) := by decide +kernel
theorem dX7_append_24 : decode cX7_append 24 = .ok (.iload 4, 2) := by decide +kernel
theorem dX7_append_26 : decode cX7_append 26 = .ok (.bipush 32, 2) := by decide +kernel
theorem dX7_append_28 : decode cX7_append 28 = .ok (.if_icmp .lt 14, 3) := by decide +kernel
theorem dX7_append_31 : decode cX7_append 31 = .ok (.iload 4, 2) := by decide +kernel
theorem dX7_append_33 : decode cX7_append 33 = .ok (.bipush 126, 2) := by decide +kernel
theorem dX7_append_35 : decode cX7_append 35 = .ok (.if_icmp .gt 7, 3) := by decide +kernel
theorem dX7_append_38 : decode cX7_append 38 = .ok (.iconst 1, 1) := by decide +kernel
theorem dX7_append_39 : decode cX7_append 39 = .ok (.goto 4, 3) := by decide +kernel
theorem dX7_append_42 : decode cX7_append 42 = .ok (.iconst 0, 1) := by decide +kernel
theorem dX7_append_43 : decode cX7_append 43 = .ok (.istore 5, 2) := by decide +kernel
theorem dX7_append_45 : decode cX7_append 45 = .ok (.iload 5, 2) := by decide +kernel
theorem dX7_append_47 : decode cX7_append 47 = .ok (.ifCond .eq 37, 3) := by decide +kernel
theorem dX7_append_50 : decode cX7_append 50 = .ok (.aload_n 0, 1) := by decide +kernel
theorem dX7_append_51 : decode cX7_append 51 = .ok (.getfield 15, 3) := by decide +kernel
theorem dX7_append_54 : decode cX7_append 54 = .ok (.aload_n 0, 1) := by decide +kernel
theorem dX7_append_55 : decode cX7_append 55 = .ok (.getfield 9, 3) := by decide +kernel
theorem dX7_append_58 : decode cX7_append 58 = .ok (.arraylength, 1) := by decide +kernel
theorem dX7_append_59 : decode cX7_append 59 = .ok (.if_icmp .ge 25, 3) := by decide +kernel
theorem dX7_append_62 : decode cX7_append 62 = .ok (.aload_n 0, 1) := by decide +kernel
theorem dX7_append_63 : decode cX7_append 63 = .ok (.getfield 9, 3) := by decide +kernel
theorem dX7_append_66 : decode cX7_append 66 = .ok (.aload_n 0, 1) := by decide +kernel
theorem dX7_append_67 : decode cX7_append 67 = .ok (.getfield 15, 3) := by decide +kernel
theorem dX7_append_70 : decode cX7_append 70 = .ok (.iload 4, 2) := by decide +kernel
theorem dX7_append_72 : decode cX7_append 72 = .ok (.i2b, 1) := by decide +kernel
theorem dX7_append_73 : decode cX7_append 73 = .ok (.bastore, 1) := by decide +kernel
theorem dX7_append_74 : decode cX7_append 74 = .ok (.aload_n 0, 1) := by decide +kernel
theorem dX7_append_75 : decode cX7_append 75 = .ok (.dup, 1) := by decide +kernel
theorem dX7_append_76 : decode cX7_append 76 = .ok (.getfield 15, 3) := by decide +kernel
theorem dX7_append_79 : decode cX7_append 79 = .ok (.iconst 1, 1) := by decide +kernel
theorem dX7_append_80 : decode cX7_append 80 = .ok (.iadd, 1) := by decide +kernel
theorem dX7_append_81 : decode cX7_append 81 = .ok (.putfield 15, 3) := by decide +kernel
theorem dX7_append_84 : decode cX7_append 84 = .ok (.iinc 3 (-8), 3) := by decide +kernel
theorem dX7_append_87 : decode cX7_append 87 = .ok (.goto (-84), 3) := by decide +kernel
theorem dX7_append_90 : decode cX7_append 90 = .ok (.return_, 1) := by decide +kernel
abbrev tX7_append (k : Nat) : MT := (RX7, cX7_append, 6, k, none)
def lX7_append_1 : SX := (sLoop (cZ zge (iLoc 3)) (sSeq (sSetI 4 (iB gT2 (· &&& ·) (iOfL (lBI jlshr (lLoc 1) (iLoc 3))) (iK 255))) (sSeq (sSetI 5 (iBool (cOr (cB req (iLoc 4) (iK 10)) (cAnd (cB rge (iLoc 4) (iK 32)) (cB rle (iLoc 4) (iK 126)))))) (sIf (cAnd (cZ zne (iLoc 5)) (cB rlt (iGet 7 1 (rLoc 0)) (iLen (rGet 7 0 (rLoc 0))))) (sSeq (sASt 2 narB (rGet 7 0 (rLoc 0)) (iGet 7 1 (rLoc 0)) (iByte (iLoc 4))) (sUpd 7 1 gT2 (· + ·) (rLoc 0) (iK 1))) sSkip))) (sSeq (sForget 4) (sInc 3 (-8))))
theorem olX7_append_1 (g : GT) {pcB pcC : Nat} : Sok g (tX7_append 0) 3 90 pcB pcC (lX7_append_1) := (Sok.loop (pc := 3) (pc1 := 7) (pc2 := 84) (pcN := 90) (Cok.zero (pc1 := 4) (pcT := 7) (pcF := 90) (EokI.iload_n (q := 3) dX7_append_3) (JZ.geF (tgt := 90) dX7_append_4 (by decide))) (by decide) (Sok.seq (pc1 := 17) (Sok.setI (i := 4) (pc1 := 15) (EokI.bin (pc1 := 11) (pc2 := 14) (EokI.l2i (pc1 := 10) (EokL.binI (pc1 := 8) (pc2 := 9) (EokL.lload_n (q := 1) dX7_append_7) (EokI.iload_n (q := 3) dX7_append_8) (OPLI.lshr dX7_append_9)) dX7_append_10) (EokI.sipush (v := 255) dX7_append_11 (by decide)) (OPI.iand dX7_append_14)) (by decide) dX7_append_15 (show 4 < 6 by decide)) (Sok.seq (pc1 := 45) (Sok.setI (i := 5) (pc1 := 43) (EokI.cond' (pc1 := 38) (pc2 := 42) (Cok.or (pc1 := 24) (Cok.cmp (pc1 := 19) (pc2 := 21) (pcT := 38) (pcF := 24) (EokI.iload (i := 4) dX7_append_17) (EokI.bipush (v := 10) dX7_append_19 (by decide)) (JI.eqT (tgt := 38) dX7_append_21 (by decide))) (Cok.and (pc1 := 31) (Cok.cmp (pc1 := 26) (pc2 := 28) (pcT := 31) (pcF := 42) (EokI.iload (i := 4) dX7_append_24) (EokI.bipush (v := 32) dX7_append_26 (by decide)) (JI.geF (tgt := 42) dX7_append_28 (by decide))) (Cok.cmp (pc1 := 33) (pc2 := 35) (pcT := 38) (pcF := 42) (EokI.iload (i := 4) dX7_append_31) (EokI.bipush (v := 126) dX7_append_33 (by decide)) (JI.leF (tgt := 42) dX7_append_35 (by decide))))) (EokI.goto (pc1 := 39) (pc2 := 43) (EokI.iconst (v := 1) dX7_append_38 (by decide)) dX7_append_39 (by decide)) (EokI.iconst (v := 0) dX7_append_42 (by decide))) (by decide) dX7_append_43 (show 5 < 6 by decide)) (Sok.ite (pc1 := 62) (pc2 := 84) (Cok.and (pc1 := 50) (Cok.zero (pc1 := 47) (pcT := 50) (pcF := 84) (EokI.iload (i := 5) dX7_append_45) (JZ.neF (tgt := 84) dX7_append_47 (by decide))) (Cok.cmp (pc1 := 54) (pc2 := 59) (pcT := 62) (pcF := 84) (EokI.getf (pc1 := 51) (j := 1) (ci := 7) (T := TX7) (N := 2) (EokR.aload_n (q := 0) dX7_append_50) rfl wsX7_in (by decide) flX7_15 dX7_append_51) (EokI.alen (pc1 := 58) (EokR.getf (pc1 := 55) (j := 0) (ci := 7) (T := TX7) (N := 2) (EokR.aload_n (q := 0) dX7_append_54) rfl wsX7_in (by decide) flX7_9 dX7_append_55) dX7_append_58) (JI.ltF (tgt := 84) dX7_append_59 (by decide)))) (by decide) (Sok.seq (pc1 := 74) (Sok.bASt (pc1 := 66) (pc2 := 70) (pc3 := 73) (EokR.getf (pc1 := 63) (j := 0) (ci := 7) (T := TX7) (N := 2) (EokR.aload_n (q := 0) dX7_append_62) rfl wsX7_in (by decide) flX7_9 dX7_append_63) (EokI.getf (pc1 := 67) (j := 1) (ci := 7) (T := TX7) (N := 2) (EokR.aload_n (q := 0) dX7_append_66) rfl wsX7_in (by decide) flX7_15 dX7_append_67) (EokI.i2b (pc1 := 72) (EokI.iload (i := 4) dX7_append_70) dX7_append_72) (by decide) dX7_append_73) (Sok.upd (ci := 7) (T := TX7) (NN := 2) (tt := tyX7) (j := 1) (pc1 := 75) (pc2 := 80) (EokR.aload_n (q := 0) dX7_append_74) dX7_append_75 dX7_append_76 (EokI.iconst (v := 1) dX7_append_79 (by decide)) (OPI.iadd dX7_append_80) (by decide) rfl wsX7_in tyX7_ok nmX7 (by decide) flX7_15 rfl rfl dX7_append_81)) (Sok.skip (pc := 84))))) (Sok.seq (pc1 := 84) Sok.forget (Sok.goto (pc1 := 87) (pcN := 3) (Sok.iinc (i := 3) (v := (-8)) dX7_append_84 (show 3 < 6 by decide) (by decide)) dX7_append_87 (by decide))))
def mX7_append : MX := bodyOf 6 (sSeq (sSeq (sSeq (sSetI 3 (iK 56)) lX7_append_1) (sForget 3)) sRetV)
theorem kX7_append (g : GT) : MK g 0 yX7_append cX7_append 6 none mX7_append := MK.of (pcN := 99999) (pcB := 0) (pcC := 0) rfl (Sok.seq (pc1 := 90) (Sok.seq (pc1 := 90) (Sok.seq (pc1 := 3) (Sok.setI_n (q := 3) (pc1 := 2) (EokI.bipush (v := 56) dX7_append_0 (by decide)) (by decide) dX7_append_2 (show 3 < 6 by decide)) (olX7_append_1 g )) (Sok.forget (pc := 90))) (Sok.retV dX7_append_90 rfl))
/-! java/util/Arrays.fill([JJ)V -/
theorem dJ7_fill_d0a16_0 : decode cJ7_fill_d0a16 0 = .ok (.iconst 0, 1) := by decide +kernel
theorem dJ7_fill_d0a16_1 : decode cJ7_fill_d0a16 1 = .ok (.istore_n 3, 1) := by decide +kernel
theorem dJ7_fill_d0a16_2 : decode cJ7_fill_d0a16 2 = .ok (.aload_n 0, 1) := by decide +kernel
theorem dJ7_fill_d0a16_3 : decode cJ7_fill_d0a16 3 = .ok (.arraylength, 1) := by decide +kernel
theorem dJ7_fill_d0a16_4 : decode cJ7_fill_d0a16 4 = .ok (.istore 4, 2) := by decide +kernel
theorem dJ7_fill_d0a16_6 : decode cJ7_fill_d0a16 6 = .ok (.iload_n 3, 1) := by decide +kernel
theorem dJ7_fill_d0a16_7 : decode cJ7_fill_d0a16 7 = .ok (.iload 4, 2) := by decide +kernel
theorem dJ7_fill_d0a16_9 : decode cJ7_fill_d0a16 9 = .ok (.if_icmp .ge 13, 3) := by decide +kernel
theorem dJ7_fill_d0a16_12 : decode cJ7_fill_d0a16 12 = .ok (.aload_n 0, 1) := by decide +kernel
theorem dJ7_fill_d0a16_13 : decode cJ7_fill_d0a16 13 = .ok (.iload_n 3, 1) := by decide +kernel
theorem dJ7_fill_d0a16_14 : decode cJ7_fill_d0a16 14 = .ok (.lload_n 1, 1) := by decide +kernel
theorem dJ7_fill_d0a16_15 : decode cJ7_fill_d0a16 15 = .ok (.lastore, 1) := by decide +kernel
theorem dJ7_fill_d0a16_16 : decode cJ7_fill_d0a16 16 = .ok (.iinc 3 1, 3) := by decide +kernel
theorem dJ7_fill_d0a16_19 : decode cJ7_fill_d0a16 19 = .ok (.goto (-13), 3) := by decide +kernel
theorem dJ7_fill_d0a16_22 : decode cJ7_fill_d0a16 22 = .ok (.return_, 1) := by decide +kernel
abbrev tJ7_fill_d0a16 (k : Nat) : MT := (RJ7, cJ7_fill_d0a16, 5, k, none)
def lJ7_fill_d0a16_1 : SX := (sLoop (cB rlt (iLoc 3) (iLoc 4)) (sAStL (rLoc 0) (iLoc 3) (lLoc 1)) (sInc 3 1))
theorem olJ7_fill_d0a16_1 (g : GT) {pcB pcC : Nat} : Sok g (tJ7_fill_d0a16 0) 6 22 pcB pcC (lJ7_fill_d0a16_1) := (Sok.loop (pc := 6) (pc1 := 12) (pc2 := 16) (pcN := 22) (Cok.cmp (pc1 := 7) (pc2 := 9) (pcT := 12) (pcF := 22) (EokI.iload_n (q := 3) dJ7_fill_d0a16_6) (EokI.iload (i := 4) dJ7_fill_d0a16_7) (JI.ltF (tgt := 22) dJ7_fill_d0a16_9 (by decide))) (by decide) (Sok.lASt (pc1 := 13) (pc2 := 14) (pc3 := 15) (EokR.aload_n (q := 0) dJ7_fill_d0a16_12) (EokI.iload_n (q := 3) dJ7_fill_d0a16_13) (EokL.lload_n (q := 1) dJ7_fill_d0a16_14) (by decide) dJ7_fill_d0a16_15) (Sok.goto (pc1 := 19) (pcN := 6) (Sok.iinc (i := 3) (v := 1) dJ7_fill_d0a16_16 (show 3 < 5 by decide) (by decide)) dJ7_fill_d0a16_19 (by decide)))
def mJ7_fill_d0a16 : MX := bodyOf 5 (sSeq (sSeq (sSeq (sSeq (sSetI 3 (iK 0)) (sSetI 4 (iLen (rLoc 0)))) lJ7_fill_d0a16_1) (sForget 3)) sRetV)
theorem kJ7_fill_d0a16 (g : GT) : MK g 0 yJ7_fill_d0a16 cJ7_fill_d0a16 5 none mJ7_fill_d0a16 := MK.of (pcN := 99999) (pcB := 0) (pcC := 0) rfl (Sok.seq (pc1 := 22) (Sok.seq (pc1 := 22) (Sok.seq (pc1 := 6) (Sok.seq (pc1 := 2) (Sok.setI_n (q := 3) (pc1 := 1) (EokI.iconst (v := 0) dJ7_fill_d0a16_0 (by decide)) (by decide) dJ7_fill_d0a16_1 (show 3 < 5 by decide)) (Sok.setI (i := 4) (pc1 := 4) (EokI.alen (pc1 := 3) (EokR.aload_n (q := 0) dJ7_fill_d0a16_2) dJ7_fill_d0a16_3) (by decide) dJ7_fill_d0a16_4 (show 4 < 5 by decide))) (olJ7_fill_d0a16_1 g )) (Sok.forget (pc := 22))) (Sok.retV dJ7_fill_d0a16_22 rfl))
/-! PassHuts$Law.clear()V -/
theorem dX1_clear_0 : decode cX1_clear 0 = .ok (.aload_n 0, 1) := by decide +kernel
theorem dX1_clear_1 : decode cX1_clear 1 = .ok (.getfield 36, 3) := by decide +kernel
theorem dX1_clear_4 : decode cX1_clear 4 = .ok (.ifCond .le 19, 3) := by decide +kernel
theorem dX1_clear_7 : decode cX1_clear 7 = .ok (.aload_n 0, 1) := by decide +kernel
theorem dX1_clear_8 : decode cX1_clear 8 = .ok (.getfield 21, 3) := by decide +kernel
theorem dX1_clear_11 : decode cX1_clear 11 = .ok (.lconst 0, 1) := by decide +kernel
theorem dX1_clear_12 : decode cX1_clear 12 = .ok (.invokestatic 40, 3) := by decide +kernel
theorem dX1_clear_15 : decode cX1_clear 15 = .ok (.aload_n 0, 1) := by decide +kernel
theorem dX1_clear_16 : decode cX1_clear 16 = .ok (.getfield 25, 3) := by decide +kernel
theorem dX1_clear_19 : decode cX1_clear 19 = .ok (.lconst 0, 1) := by decide +kernel
theorem dX1_clear_20 : decode cX1_clear 20 = .ok (.invokestatic 40, 3) := by decide +kernel
theorem dX1_clear_23 : decode cX1_clear 23 = .ok (.aload_n 0, 1) := by decide +kernel
theorem dX1_clear_24 : decode cX1_clear 24 = .ok (.iconst 0, 1) := by decide +kernel
theorem dX1_clear_25 : decode cX1_clear 25 = .ok (.putfield 36, 3) := by decide +kernel
theorem dX1_clear_28 : decode cX1_clear 28 = .ok (.return_, 1) := by decide +kernel
abbrev tX1_clear (k : Nat) : MT := (RX1, cX1_clear, 1, k, none)
def mX1_clear : MX := bodyOf 1 (sSeq (sSeq (sIf (cZ zgt (iGet 1 5 (rLoc 0))) (sSeq (sCallS mJ7_fill_d0a16 (aR (rGet 1 3 (rLoc 0)) (aL (lK 0) aNil))) (sCallS mJ7_fill_d0a16 (aR (rGet 1 4 (rLoc 0)) (aL (lK 0) aNil)))) sSkip) (sPutI 1 5 .int (rLoc 0) (iK 0))) sRetV)
theorem kX1_clear (g : GT) : MK g 1 yX1_clear cX1_clear 1 none mX1_clear := MK.of (pcN := 99999) (pcB := 0) (pcC := 0) rfl (Sok.seq (pc1 := 28) (Sok.seq (pc1 := 23) (Sok.ite (pc1 := 7) (pc2 := 23) (Cok.zero (pc1 := 4) (pcT := 7) (pcF := 23) (EokI.getf (pc1 := 1) (j := 5) (ci := 1) (T := TX1) (N := 6) (EokR.aload_n (q := 0) dX1_clear_0) rfl wsX1_in (by decide) flX1_36 dX1_clear_1) (JZ.gtF (tgt := 23) dX1_clear_4 (by decide))) (by decide) (Sok.seq (pc1 := 15) (Sok.sCallS (pc1 := 12) (Aok.aR (pc1 := 11) (EokR.getf (pc1 := 8) (j := 3) (ci := 1) (T := TX1) (N := 6) (EokR.aload_n (q := 0) dX1_clear_7) rfl wsX1_in (by decide) flX1_21 dX1_clear_8) (Aok.aL (pc1 := 12) (EokL.lconst (v := 0) dX1_clear_11 (by decide)) Aok.nil)) (by decide) (kJ7_fill_d0a16 g) ykJ7_fill_d0a16 skX1_40 (by decide) (by decide) dX1_clear_12) (Sok.sCallS (pc1 := 20) (Aok.aR (pc1 := 19) (EokR.getf (pc1 := 16) (j := 4) (ci := 1) (T := TX1) (N := 6) (EokR.aload_n (q := 0) dX1_clear_15) rfl wsX1_in (by decide) flX1_25 dX1_clear_16) (Aok.aL (pc1 := 20) (EokL.lconst (v := 0) dX1_clear_19 (by decide)) Aok.nil)) (by decide) (kJ7_fill_d0a16 g) ykJ7_fill_d0a16 skX1_40 (by decide) (by decide) dX1_clear_20)) (Sok.skip (pc := 23))) (Sok.putI (ci := 1) (T := TX1) (NN := 6) (tt := tyX1) (j := 5) (pc1 := 24) (pc2 := 25) (ty := .int) (EokR.aload_n (q := 0) dX1_clear_23) (EokI.iconst (v := 0) dX1_clear_24 (by decide)) (by decide) rfl wsX1_in tyX1_ok nmX1 (by decide) flX1_36 rfl rfl dX1_clear_25)) (Sok.retV dX1_clear_28 rfl))
/-! PassHuts$Hills.fillNone()V -/
theorem dX0_fillNone_0 : decode cX0_fillNone 0 = .ok (.iconst 0, 1) := by decide +kernel
theorem dX0_fillNone_1 : decode cX0_fillNone 1 = .ok (.istore_n 1, 1) := by decide +kernel
theorem dX0_fillNone_2 : decode cX0_fillNone 2 = .ok (.iload_n 1, 1) := by decide +kernel
theorem dX0_fillNone_3 : decode cX0_fillNone 3 = .ok (.aload_n 0, 1) := by decide +kernel
theorem dX0_fillNone_4 : decode cX0_fillNone 4 = .ok (.getfield 32, 3) := by decide +kernel
theorem dX0_fillNone_7 : decode cX0_fillNone 7 = .ok (.arraylength, 1) := by decide +kernel
theorem dX0_fillNone_8 : decode cX0_fillNone 8 = .ok (.if_icmp .ge 16, 3) := by decide +kernel
theorem dX0_fillNone_11 : decode cX0_fillNone 11 = .ok (.aload_n 0, 1) := by decide +kernel
theorem dX0_fillNone_12 : decode cX0_fillNone 12 = .ok (.getfield 32, 3) := by decide +kernel
theorem dX0_fillNone_15 : decode cX0_fillNone 15 = .ok (.iload_n 1, 1) := by decide +kernel
theorem dX0_fillNone_16 : decode cX0_fillNone 16 = .ok (.iconst (-1), 1) := by decide +kernel
theorem dX0_fillNone_17 : decode cX0_fillNone 17 = .ok (.iastore, 1) := by decide +kernel
theorem dX0_fillNone_18 : decode cX0_fillNone 18 = .ok (.iinc 1 1, 3) := by decide +kernel
theorem dX0_fillNone_21 : decode cX0_fillNone 21 = .ok (.goto (-19), 3) := by decide +kernel
theorem dX0_fillNone_24 : decode cX0_fillNone 24 = .ok (.return_, 1) := by decide +kernel
abbrev tX0_fillNone (k : Nat) : MT := (RX0, cX0_fillNone, 2, k, none)
def lX0_fillNone_1 : SX := (sLoop (cB rlt (iLoc 1) (iLen (rGet 0 8 (rLoc 0)))) (sASt 0 narI (rGet 0 8 (rLoc 0)) (iLoc 1) (iK (-1))) (sInc 1 1))
theorem olX0_fillNone_1 (g : GT) {pcB pcC : Nat} : Sok g (tX0_fillNone 0) 2 24 pcB pcC (lX0_fillNone_1) := (Sok.loop (pc := 2) (pc1 := 11) (pc2 := 18) (pcN := 24) (Cok.cmp (pc1 := 3) (pc2 := 8) (pcT := 11) (pcF := 24) (EokI.iload_n (q := 1) dX0_fillNone_2) (EokI.alen (pc1 := 7) (EokR.getf (pc1 := 4) (j := 8) (ci := 0) (T := TX0) (N := 17) (EokR.aload_n (q := 0) dX0_fillNone_3) rfl wsX0_in (by decide) flX0_32 dX0_fillNone_4) dX0_fillNone_7) (JI.ltF (tgt := 24) dX0_fillNone_8 (by decide))) (by decide) (Sok.iASt (pc1 := 15) (pc2 := 16) (pc3 := 17) (EokR.getf (pc1 := 12) (j := 8) (ci := 0) (T := TX0) (N := 17) (EokR.aload_n (q := 0) dX0_fillNone_11) rfl wsX0_in (by decide) flX0_32 dX0_fillNone_12) (EokI.iload_n (q := 1) dX0_fillNone_15) (EokI.iconst (v := (-1)) dX0_fillNone_16 (by decide)) (by decide) dX0_fillNone_17) (Sok.goto (pc1 := 21) (pcN := 2) (Sok.iinc (i := 1) (v := 1) dX0_fillNone_18 (show 1 < 2 by decide) (by decide)) dX0_fillNone_21 (by decide)))
def mX0_fillNone : MX := bodyOf 2 (sSeq (sSeq (sSeq (sSetI 1 (iK 0)) lX0_fillNone_1) (sForget 1)) sRetV)
theorem kX0_fillNone (g : GT) : MK g 0 yX0_fillNone cX0_fillNone 2 none mX0_fillNone := MK.of (pcN := 99999) (pcB := 0) (pcC := 0) rfl (Sok.seq (pc1 := 24) (Sok.seq (pc1 := 24) (Sok.seq (pc1 := 2) (Sok.setI_n (q := 1) (pc1 := 1) (EokI.iconst (v := 0) dX0_fillNone_0 (by decide)) (by decide) dX0_fillNone_1 (show 1 < 2 by decide)) (olX0_fillNone_1 g )) (Sok.forget (pc := 24))) (Sok.retV dX0_fillNone_24 rfl))
/-! PassHuts$Hills.clear()V -/
theorem dX0_clear_0 : decode cX0_clear 0 = .ok (.aload_n 0, 1) := by decide +kernel
theorem dX0_clear_1 : decode cX0_clear 1 = .ok (.iconst 0, 1) := by decide +kernel
theorem dX0_clear_2 : decode cX0_clear 2 = .ok (.putfield 62, 3) := by decide +kernel
theorem dX0_clear_5 : decode cX0_clear 5 = .ok (.aload_n 0, 1) := by decide +kernel
theorem dX0_clear_6 : decode cX0_clear 6 = .ok (.iconst 0, 1) := by decide +kernel
theorem dX0_clear_7 : decode cX0_clear 7 = .ok (.putfield 66, 3) := by decide +kernel
theorem dX0_clear_10 : decode cX0_clear 10 = .ok (.aload_n 0, 1) := by decide +kernel
theorem dX0_clear_11 : decode cX0_clear 11 = .ok (.iconst 0, 1) := by decide +kernel
theorem dX0_clear_12 : decode cX0_clear 12 = .ok (.putfield 69, 3) := by decide +kernel
theorem dX0_clear_15 : decode cX0_clear 15 = .ok (.aload_n 0, 1) := by decide +kernel
theorem dX0_clear_16 : decode cX0_clear 16 = .ok (.getfield 18, 3) := by decide +kernel
theorem dX0_clear_19 : decode cX0_clear 19 = .ok (.invokevirtual 72, 3) := by decide +kernel
theorem dX0_clear_22 : decode cX0_clear 22 = .ok (.iconst 0, 1) := by decide +kernel
theorem dX0_clear_23 : decode cX0_clear 23 = .ok (.istore_n 1, 1) := by decide +kernel
theorem dX0_clear_24 : decode cX0_clear 24 = .ok (.iload_n 1, 1) := by decide +kernel
theorem dX0_clear_25 : decode cX0_clear 25 = .ok (.aload_n 0, 1) := by decide +kernel
theorem dX0_clear_26 : decode cX0_clear 26 = .ok (.getfield 29, 3) := by decide +kernel
theorem dX0_clear_29 : decode cX0_clear 29 = .ok (.arraylength, 1) := by decide +kernel
theorem dX0_clear_30 : decode cX0_clear 30 = .ok (.if_icmp .ge 16, 3) := by decide +kernel
theorem dX0_clear_33 : decode cX0_clear 33 = .ok (.aload_n 0, 1) := by decide +kernel
theorem dX0_clear_34 : decode cX0_clear 34 = .ok (.getfield 29, 3) := by decide +kernel
theorem dX0_clear_37 : decode cX0_clear 37 = .ok (.iload_n 1, 1) := by decide +kernel
theorem dX0_clear_38 : decode cX0_clear 38 = .ok (.iconst 0, 1) := by decide +kernel
theorem dX0_clear_39 : decode cX0_clear 39 = .ok (.iastore, 1) := by decide +kernel
theorem dX0_clear_40 : decode cX0_clear 40 = .ok (.iinc 1 1, 3) := by decide +kernel
theorem dX0_clear_43 : decode cX0_clear 43 = .ok (.goto (-19), 3) := by decide +kernel
theorem dX0_clear_46 : decode cX0_clear 46 = .ok (.aload_n 0, 1) := by decide +kernel
theorem dX0_clear_47 : decode cX0_clear 47 = .ok (.invokevirtual 59, 3) := by decide +kernel
theorem dX0_clear_50 : decode cX0_clear 50 = .ok (.return_, 1) := by decide +kernel
abbrev tX0_clear (k : Nat) : MT := (RX0, cX0_clear, 2, k, none)
def lX0_clear_1 : SX := (sLoop (cB rlt (iLoc 1) (iLen (rGet 0 7 (rLoc 0)))) (sASt 0 narI (rGet 0 7 (rLoc 0)) (iLoc 1) (iK 0)) (sInc 1 1))
theorem olX0_clear_1 (g : GT) {pcB pcC : Nat} : Sok g (tX0_clear 2) 24 46 pcB pcC (lX0_clear_1) := (Sok.loop (pc := 24) (pc1 := 33) (pc2 := 40) (pcN := 46) (Cok.cmp (pc1 := 25) (pc2 := 30) (pcT := 33) (pcF := 46) (EokI.iload_n (q := 1) dX0_clear_24) (EokI.alen (pc1 := 29) (EokR.getf (pc1 := 26) (j := 7) (ci := 0) (T := TX0) (N := 17) (EokR.aload_n (q := 0) dX0_clear_25) rfl wsX0_in (by decide) flX0_29 dX0_clear_26) dX0_clear_29) (JI.ltF (tgt := 46) dX0_clear_30 (by decide))) (by decide) (Sok.iASt (pc1 := 37) (pc2 := 38) (pc3 := 39) (EokR.getf (pc1 := 34) (j := 7) (ci := 0) (T := TX0) (N := 17) (EokR.aload_n (q := 0) dX0_clear_33) rfl wsX0_in (by decide) flX0_29 dX0_clear_34) (EokI.iload_n (q := 1) dX0_clear_37) (EokI.iconst (v := 0) dX0_clear_38 (by decide)) (by decide) dX0_clear_39) (Sok.goto (pc1 := 43) (pcN := 24) (Sok.iinc (i := 1) (v := 1) dX0_clear_40 (show 1 < 2 by decide) (by decide)) dX0_clear_43 (by decide)))
def mX0_clear : MX := bodyOf 2 (sSeq (sSeq (sPutI 0 3 .int (rLoc 0) (iK 0)) (sSeq (sPutI 0 4 .int (rLoc 0) (iK 0)) (sSeq (sPutI 0 16 .int (rLoc 0) (iK 0)) (sSeq (sCallV 1 mX1_clear (aR (rGet 0 2 (rLoc 0)) aNil)) (sSeq (sSeq (sSeq (sSetI 1 (iK 0)) lX0_clear_1) (sForget 1)) (sCallV 0 mX0_fillNone (aR (rLoc 0) aNil))))))) sRetV)
theorem kX0_clear (g : GT) : MK g 2 yX0_clear cX0_clear 2 none mX0_clear := MK.of (pcN := 99999) (pcB := 0) (pcC := 0) rfl (Sok.seq (pc1 := 50) (Sok.seq (pc1 := 5) (Sok.putI (ci := 0) (T := TX0) (NN := 17) (tt := tyX0) (j := 3) (pc1 := 1) (pc2 := 2) (ty := .int) (EokR.aload_n (q := 0) dX0_clear_0) (EokI.iconst (v := 0) dX0_clear_1 (by decide)) (by decide) rfl wsX0_in tyX0_ok nmX0 (by decide) flX0_62 rfl rfl dX0_clear_2) (Sok.seq (pc1 := 10) (Sok.putI (ci := 0) (T := TX0) (NN := 17) (tt := tyX0) (j := 4) (pc1 := 6) (pc2 := 7) (ty := .int) (EokR.aload_n (q := 0) dX0_clear_5) (EokI.iconst (v := 0) dX0_clear_6 (by decide)) (by decide) rfl wsX0_in tyX0_ok nmX0 (by decide) flX0_66 rfl rfl dX0_clear_7) (Sok.seq (pc1 := 15) (Sok.putI (ci := 0) (T := TX0) (NN := 17) (tt := tyX0) (j := 16) (pc1 := 11) (pc2 := 12) (ty := .int) (EokR.aload_n (q := 0) dX0_clear_10) (EokI.iconst (v := 0) dX0_clear_11 (by decide)) (by decide) rfl wsX0_in tyX0_ok nmX0 (by decide) flX0_69 rfl rfl dX0_clear_12) (Sok.seq (pc1 := 22) (Sok.sCallV (pc1 := 19) (Aok.aR (pc1 := 19) (EokR.getf (pc1 := 16) (j := 2) (ci := 0) (T := TX0) (N := 17) (EokR.aload_n (q := 0) dX0_clear_15) rfl wsX0_in (by decide) flX0_18 dX0_clear_16) Aok.nil) (by decide) (kX1_clear g) rfl ykX1_clear vkX0_72 (by decide) (by decide) dX0_clear_19) (Sok.seq (pc1 := 46) (Sok.seq (pc1 := 46) (Sok.seq (pc1 := 24) (Sok.setI_n (q := 1) (pc1 := 23) (EokI.iconst (v := 0) dX0_clear_22 (by decide)) (by decide) dX0_clear_23 (show 1 < 2 by decide)) (olX0_clear_1 g )) (Sok.forget (pc := 46))) (Sok.sCallV (pc1 := 47) (Aok.aR (pc1 := 47) (EokR.aload_n (q := 0) dX0_clear_46) Aok.nil) (by decide) (kX0_fillNone g) rfl ykX0_fillNone vkX0_59 (by decide) (by decide) dX0_clear_47)))))) (Sok.retV dX0_clear_50 rfl))
/-! PassHuts$Tape.signAt(I)I -/
theorem dX7_signAt_0 : decode cX7_signAt 0 = .ok (.iload_n 1, 1) := by decide +kernel
theorem dX7_signAt_1 : decode cX7_signAt 1 = .ok (.ifCond .lt 29, 3) := by decide +kernel
theorem dX7_signAt_4 : decode cX7_signAt 4 = .ok (.iload_n 1, 1) := by decide +kernel
theorem dX7_signAt_5 : decode cX7_signAt 5 = .ok (.aload_n 0, 1) := by decide +kernel
theorem dX7_signAt_6 : decode cX7_signAt 6 = .ok (.getfield 15, 3) := by decide +kernel
theorem dX7_signAt_9 : decode cX7_signAt 9 = .ok (.if_icmp .ge 21, 3) := by decide +kernel
theorem dX7_signAt_12 : decode cX7_signAt 12 = .ok (.iload_n 1, 1) := by decide +kernel
theorem dX7_signAt_13 : decode cX7_signAt 13 = .ok (.aload_n 0, 1) := by decide +kernel
theorem dX7_signAt_14 : decode cX7_signAt 14 = .ok (.getfield 9, 3) := by decide +kernel
theorem dX7_signAt_17 : decode cX7_signAt 17 = .ok (.arraylength, 1) := by decide +kernel
theorem dX7_signAt_18 : decode cX7_signAt 18 = .ok (.if_icmp .ge 12, 3) := by decide +kernel
theorem dX7_signAt_21 : decode cX7_signAt 21 = .ok (.aload_n 0, 1) := by decide +kernel
theorem dX7_signAt_22 : decode cX7_signAt 22 = .ok (.getfield 9, 3) := by decide +kernel
theorem dX7_signAt_25 : decode cX7_signAt 25 = .ok (.iload_n 1, 1) := by decide +kernel
theorem dX7_signAt_26 : decode cX7_signAt 26 = .ok (.baload, 1) := by decide +kernel
theorem dX7_signAt_27 : decode cX7_signAt 27 = .ok (.goto 4, 3) := by decide +kernel
theorem dX7_signAt_30 : decode cX7_signAt 30 = .ok (.iconst (-1), 1) := by decide +kernel
theorem dX7_signAt_31 : decode cX7_signAt 31 = .ok (.ireturn, 1) := by decide +kernel
abbrev tX7_signAt (k : Nat) : MT := (RX7, cX7_signAt, 2, k, (some .int))
def mX7_signAt : MX := bodyOf 2 (sRetI (iCond (cAnd (cAnd (cZ zge (iLoc 1)) (cB rlt (iLoc 1) (iGet 7 1 (rLoc 0)))) (cB rlt (iLoc 1) (iLen (rGet 7 0 (rLoc 0))))) (bALd (rGet 7 0 (rLoc 0)) (iLoc 1)) (iK (-1))))
theorem kX7_signAt (g : GT) : MK g 0 yX7_signAt cX7_signAt 2 (some .int) mX7_signAt := MK.of (pcN := 99999) (pcB := 0) (pcC := 0) rfl (Sok.retI (pc1 := 31) (EokI.cond' (pc1 := 21) (pc2 := 30) (Cok.and (pc1 := 12) (Cok.and (pc1 := 4) (Cok.zero (pc1 := 1) (pcT := 4) (pcF := 30) (EokI.iload_n (q := 1) dX7_signAt_0) (JZ.geF (tgt := 30) dX7_signAt_1 (by decide))) (Cok.cmp (pc1 := 5) (pc2 := 9) (pcT := 12) (pcF := 30) (EokI.iload_n (q := 1) dX7_signAt_4) (EokI.getf (pc1 := 6) (j := 1) (ci := 7) (T := TX7) (N := 2) (EokR.aload_n (q := 0) dX7_signAt_5) rfl wsX7_in (by decide) flX7_15 dX7_signAt_6) (JI.ltF (tgt := 30) dX7_signAt_9 (by decide)))) (Cok.cmp (pc1 := 13) (pc2 := 18) (pcT := 21) (pcF := 30) (EokI.iload_n (q := 1) dX7_signAt_12) (EokI.alen (pc1 := 17) (EokR.getf (pc1 := 14) (j := 0) (ci := 7) (T := TX7) (N := 2) (EokR.aload_n (q := 0) dX7_signAt_13) rfl wsX7_in (by decide) flX7_9 dX7_signAt_14) dX7_signAt_17) (JI.ltF (tgt := 30) dX7_signAt_18 (by decide)))) (EokI.goto (pc1 := 27) (pc2 := 31) (EokI.bALd (pc1 := 25) (pc2 := 26) (EokR.getf (pc1 := 22) (j := 0) (ci := 7) (T := TX7) (N := 2) (EokR.aload_n (q := 0) dX7_signAt_21) rfl wsX7_in (by decide) flX7_9 dX7_signAt_22) (EokI.iload_n (q := 1) dX7_signAt_25) dX7_signAt_26) dX7_signAt_27 (by decide)) (EokI.iconst (v := (-1)) dX7_signAt_30 (by decide))) (by decide) dX7_signAt_31 rfl)
/-! PassHuts$Tokens.isBlank(I)Z -/
theorem dX8_isBlank_0 : decode cX8_isBlank 0 = .ok (.iload_n 0, 1) := by decide +kernel
theorem dX8_isBlank_1 : decode cX8_isBlank 1 = .ok (.bipush 10, 2) := by decide +kernel
theorem dX8_isBlank_3 : decode cX8_isBlank 3 = .ok (.if_icmp .eq 9, 3) := by decide +kernel
theorem dX8_isBlank_6 : decode cX8_isBlank 6 = .ok (.iload_n 0, 1) := by decide +kernel
theorem dX8_isBlank_7 : decode cX8_isBlank 7 = .ok (.bipush 32, 2) := by decide +kernel
theorem dX8_isBlank_9 : decode cX8_isBlank 9 = .ok (.if_icmp .ne 7, 3) := by decide +kernel
theorem dX8_isBlank_12 : decode cX8_isBlank 12 = .ok (.iconst 1, 1) := by decide +kernel
theorem dX8_isBlank_13 : decode cX8_isBlank 13 = .ok (.goto 4, 3) := by decide +kernel
theorem dX8_isBlank_16 : decode cX8_isBlank 16 = .ok (.iconst 0, 1) := by decide +kernel
theorem dX8_isBlank_17 : decode cX8_isBlank 17 = .ok (.ireturn, 1) := by decide +kernel
abbrev tX8_isBlank (k : Nat) : MT := (RX8, cX8_isBlank, 1, k, (some .boolean))
def mX8_isBlank : MX := bodyOf 1 (sRetZ (iBool (cOr (cB req (iLoc 0) (iK 10)) (cB req (iLoc 0) (iK 32)))))
theorem kX8_isBlank (g : GT) : MK g 0 yX8_isBlank cX8_isBlank 1 (some .boolean) mX8_isBlank := MK.of (pcN := 99999) (pcB := 0) (pcC := 0) rfl (Sok.retZ (pc1 := 17) (EokI.cond' (pc1 := 12) (pc2 := 16) (Cok.or (pc1 := 6) (Cok.cmp (pc1 := 1) (pc2 := 3) (pcT := 12) (pcF := 6) (EokI.iload_n (q := 0) dX8_isBlank_0) (EokI.bipush (v := 10) dX8_isBlank_1 (by decide)) (JI.eqT (tgt := 12) dX8_isBlank_3 (by decide))) (Cok.cmp (pc1 := 7) (pc2 := 9) (pcT := 12) (pcF := 16) (EokI.iload_n (q := 0) dX8_isBlank_6) (EokI.bipush (v := 32) dX8_isBlank_7 (by decide)) (JI.eqF (tgt := 16) dX8_isBlank_9 (by decide)))) (EokI.goto (pc1 := 13) (pc2 := 17) (EokI.iconst (v := 1) dX8_isBlank_12 (by decide)) dX8_isBlank_13 (by decide)) (EokI.iconst (v := 0) dX8_isBlank_16 (by decide))) (by decide) dX8_isBlank_17 rfl)
/-! PassHuts$Tokens.isLetter(I)Z -/
theorem dX8_isLetter_0 : decode cX8_isLetter 0 = .ok (.iload_n 0, 1) := by decide +kernel
theorem dX8_isLetter_1 : decode cX8_isLetter 1 = .ok (.bipush 97, 2) := by decide +kernel
theorem dX8_isLetter_3 : decode cX8_isLetter 3 = .ok (.if_icmp .lt 13, 3) := by decide +kernel
theorem dX8_isLetter_6 : decode cX8_isLetter 6 = .ok (.iload_n 0, 1) := by decide +kernel
theorem dX8_isLetter_7 : decode cX8_isLetter 7 = .ok (.bipush 122, 2) := by decide +kernel
theorem dX8_isLetter_9 : decode cX8_isLetter 9 = .ok (.if_icmp .gt 7, 3) := by decide +kernel
theorem dX8_isLetter_12 : decode cX8_isLetter 12 = .ok (.iconst 1, 1) := by decide +kernel
theorem dX8_isLetter_13 : decode cX8_isLetter 13 = .ok (.goto 4, 3) := by decide +kernel
theorem dX8_isLetter_16 : decode cX8_isLetter 16 = .ok (.iconst 0, 1) := by decide +kernel
theorem dX8_isLetter_17 : decode cX8_isLetter 17 = .ok (.ireturn, 1) := by decide +kernel
abbrev tX8_isLetter (k : Nat) : MT := (RX8, cX8_isLetter, 1, k, (some .boolean))
def mX8_isLetter : MX := bodyOf 1 (sRetZ (iBool (cAnd (cB rge (iLoc 0) (iK 97)) (cB rle (iLoc 0) (iK 122)))))
theorem kX8_isLetter (g : GT) : MK g 0 yX8_isLetter cX8_isLetter 1 (some .boolean) mX8_isLetter := MK.of (pcN := 99999) (pcB := 0) (pcC := 0) rfl (Sok.retZ (pc1 := 17) (EokI.cond' (pc1 := 12) (pc2 := 16) (Cok.and (pc1 := 6) (Cok.cmp (pc1 := 1) (pc2 := 3) (pcT := 6) (pcF := 16) (EokI.iload_n (q := 0) dX8_isLetter_0) (EokI.bipush (v := 97) dX8_isLetter_1 (by decide)) (JI.geF (tgt := 16) dX8_isLetter_3 (by decide))) (Cok.cmp (pc1 := 7) (pc2 := 9) (pcT := 12) (pcF := 16) (EokI.iload_n (q := 0) dX8_isLetter_6) (EokI.bipush (v := 122) dX8_isLetter_7 (by decide)) (JI.leF (tgt := 16) dX8_isLetter_9 (by decide)))) (EokI.goto (pc1 := 13) (pc2 := 17) (EokI.iconst (v := 1) dX8_isLetter_12 (by decide)) dX8_isLetter_13 (by decide)) (EokI.iconst (v := 0) dX8_isLetter_16 (by decide))) (by decide) dX8_isLetter_17 rfl)
/-! PassHuts$Tokens.kindOfWord()I -/
theorem dX8_kindOfWord_0 : decode cX8_kindOfWord 0 = .ok (.iconst 0, 1) := by decide +kernel
theorem dX8_kindOfWord_1 : decode cX8_kindOfWord 1 = .ok (.istore_n 1, 1) := by decide +kernel
theorem dX8_kindOfWord_2 : decode cX8_kindOfWord 2 = .ok (.iload_n 1, 1) := by decide +kernel
theorem dX8_kindOfWord_3 : decode cX8_kindOfWord 3 = .ok (.getstatic 62, 3) := by decide +kernel
theorem dX8_kindOfWord_6 : decode cX8_kindOfWord 6 = .ok (.arraylength, 1) := by decide +kernel
theorem dX8_kindOfWord_7 : decode cX8_kindOfWord 7 = .ok (.if_icmp .ge 28, 3) := by decide +kernel
theorem dX8_kindOfWord_10 : decode cX8_kindOfWord 10 = .ok (.getstatic 62, 3) := by decide +kernel
theorem dX8_kindOfWord_13 : decode cX8_kindOfWord 13 = .ok (.iload_n 1, 1) := by decide +kernel
theorem dX8_kindOfWord_14 : decode cX8_kindOfWord 14 = .ok (.laload, 1) := by decide +kernel
theorem dX8_kindOfWord_15 : decode cX8_kindOfWord 15 = .ok (.aload_n 0, 1) := by decide +kernel
theorem dX8_kindOfWord_16 : decode cX8_kindOfWord 16 = .ok (.getfield 54, 3) := by decide +kernel
theorem dX8_kindOfWord_19 : decode cX8_kindOfWord 19 = .ok (.lcmp, 1) := by decide +kernel
theorem dX8_kindOfWord_20 : decode cX8_kindOfWord 20 = .ok (.ifCond .ne 9, 3) := by decide +kernel
theorem dX8_kindOfWord_23 : decode cX8_kindOfWord 23 = .ok (.sipush 128, 3) := by decide +kernel
theorem dX8_kindOfWord_26 : decode cX8_kindOfWord 26 = .ok (.iload_n 1, 1) := by decide +kernel
theorem dX8_kindOfWord_27 : decode cX8_kindOfWord 27 = .ok (.iadd, 1) := by decide +kernel
theorem dX8_kindOfWord_28 : decode cX8_kindOfWord 28 = .ok (.ireturn, 1) := by decide +kernel
theorem dX8_kindOfWord_29 : decode cX8_kindOfWord 29 = .ok (.iinc 1 1, 3) := by decide +kernel
theorem dX8_kindOfWord_32 : decode cX8_kindOfWord 32 = .ok (.goto (-30), 3) := by decide +kernel
theorem dX8_kindOfWord_35 : decode cX8_kindOfWord 35 = .ok (.iconst 3, 1) := by decide +kernel
theorem dX8_kindOfWord_36 : decode cX8_kindOfWord 36 = .ok (.ireturn, 1) := by decide +kernel
abbrev tX8_kindOfWord (k : Nat) : MT := (RX8, cX8_kindOfWord, 2, k, (some .int))
def lX8_kindOfWord_1 : SX := (sLoop (cB rlt (iLoc 1) iResLen) (sIf (cL leq (lRes (iLoc 1)) (lGet 8 5 (rLoc 0))) (sRetI (iB gT2 (· + ·) (iK 128) (iLoc 1))) sSkip) (sInc 1 1))
theorem olX8_kindOfWord_1 (g : GT) {pcB pcC : Nat} : Sok g (tX8_kindOfWord 0) 2 35 pcB pcC (lX8_kindOfWord_1) := (Sok.loop (pc := 2) (pc1 := 10) (pc2 := 29) (pcN := 35) (Cok.cmp (pc1 := 3) (pc2 := 7) (pcT := 10) (pcF := 35) (EokI.iload_n (q := 1) dX8_kindOfWord_2) (EokI.resLen flX8_62 dX8_kindOfWord_3 dX8_kindOfWord_6) (JI.ltF (tgt := 35) dX8_kindOfWord_7 (by decide))) (by decide) (Sok.ite (pc1 := 23) (pc2 := 29) (Cok.lcmp (pc1 := 15) (pc2 := 19) (pcT := 23) (pcF := 29) (EokL.resAt (pc := 10) (pc2 := 14) flX8_62 dX8_kindOfWord_10 (EokI.iload_n (q := 1) dX8_kindOfWord_13) dX8_kindOfWord_14) (EokL.getf (pc1 := 16) (j := 5) (ci := 8) (T := TX8) (N := 6) (EokR.aload_n (q := 0) dX8_kindOfWord_15) rfl wsX8_in (by decide) flX8_54 dX8_kindOfWord_16) (JL.eq dX8_kindOfWord_19 (JZ.eqF (tgt := 29) dX8_kindOfWord_20 (by decide)))) (by decide) (Sok.retI (pc1 := 28) (EokI.bin (pc1 := 26) (pc2 := 27) (EokI.sipush (v := 128) dX8_kindOfWord_23 (by decide)) (EokI.iload_n (q := 1) dX8_kindOfWord_26) (OPI.iadd dX8_kindOfWord_27)) (by decide) dX8_kindOfWord_28 rfl) (Sok.skip (pc := 29))) (Sok.goto (pc1 := 32) (pcN := 2) (Sok.iinc (i := 1) (v := 1) dX8_kindOfWord_29 (show 1 < 2 by decide) (by decide)) dX8_kindOfWord_32 (by decide)))
def mX8_kindOfWord : MX := bodyOf 2 (sSeq (sSeq (sSeq (sSetI 1 (iK 0)) lX8_kindOfWord_1) (sForget 1)) (sRetI (iK 3)))
theorem kX8_kindOfWord (g : GT) : MK g 0 yX8_kindOfWord cX8_kindOfWord 2 (some .int) mX8_kindOfWord := MK.of (pcN := 99999) (pcB := 0) (pcC := 0) rfl (Sok.seq (pc1 := 35) (Sok.seq (pc1 := 35) (Sok.seq (pc1 := 2) (Sok.setI_n (q := 1) (pc1 := 1) (EokI.iconst (v := 0) dX8_kindOfWord_0 (by decide)) (by decide) dX8_kindOfWord_1 (show 1 < 2 by decide)) (olX8_kindOfWord_1 g )) (Sok.forget (pc := 35))) (Sok.retI (pc1 := 36) (EokI.iconst (v := 3) dX8_kindOfWord_35 (by decide)) (by decide) dX8_kindOfWord_36 rfl))
/-! PassHuts$Tokens.takeWord()V -/
theorem dX8_takeWord_0 : decode cX8_takeWord 0 = .ok (.aload_n 0, 1) := by decide +kernel
theorem dX8_takeWord_1 : decode cX8_takeWord 1 = .ok (.lconst 0, 1) := by decide +kernel
theorem dX8_takeWord_2 : decode cX8_takeWord 2 = .ok (.putfield 54, 3) := by decide +kernel
theorem dX8_takeWord_5 : decode cX8_takeWord 5 = .ok (.aload_n 0, 1) := by decide +kernel
theorem dX8_takeWord_6 : decode cX8_takeWord 6 = .ok (.aload_n 0, 1) := by decide +kernel
theorem dX8_takeWord_7 : decode cX8_takeWord 7 = .ok (.getfield 20, 3) := by decide +kernel
theorem dX8_takeWord_10 : decode cX8_takeWord 10 = .ok (.putfield 13, 3) := by decide +kernel
theorem dX8_takeWord_13 : decode cX8_takeWord 13 = .ok (.aload_n 0, 1) := by decide +kernel
theorem dX8_takeWord_14 : decode cX8_takeWord 14 = .ok (.getfield 13, 3) := by decide +kernel
theorem dX8_takeWord_17 : decode cX8_takeWord 17 = .ok (.aload_n 0, 1) := by decide +kernel
theorem dX8_takeWord_18 : decode cX8_takeWord 18 = .ok (.getfield 7, 3) := by decide +kernel
theorem dX8_takeWord_21 : decode cX8_takeWord 21 = .ok (.getfield 23, 3) := by decide +kernel
theorem dX8_takeWord_24 : decode cX8_takeWord 24 = .ok (.if_icmp .ge 57, 3) := by decide +kernel
theorem dX8_takeWord_27 : decode cX8_takeWord 27 = .ok (.aload_n 0, 1) := by decide +kernel
theorem dX8_takeWord_28 : decode cX8_takeWord 28 = .ok (.getfield 7, 3) := by decide +kernel
theorem dX8_takeWord_31 : decode cX8_takeWord 31 = .ok (.aload_n 0, 1) := by decide +kernel
theorem dX8_takeWord_32 : decode cX8_takeWord 32 = .ok (.getfield 13, 3) := by decide +kernel
theorem dX8_takeWord_35 : decode cX8_takeWord 35 = .ok (.invokevirtual 28, 3) := by decide +kernel
theorem dX8_takeWord_38 : decode cX8_takeWord 38 = .ok (.invokestatic 39, 3) := by decide +kernel
theorem dX8_takeWord_41 : decode cX8_takeWord 41 = .ok (.ifCond .eq 40, 3) := by decide +kernel
theorem dX8_takeWord_44 : decode cX8_takeWord 44 = .ok (.aload_n 0, 1) := by decide +kernel
theorem dX8_takeWord_45 : decode cX8_takeWord 45 = .ok (.aload_n 0, 1) := by decide +kernel
theorem dX8_takeWord_46 : decode cX8_takeWord 46 = .ok (.getfield 54, 3) := by decide +kernel
theorem dX8_takeWord_49 : decode cX8_takeWord 49 = .ok (.bipush 8, 2) := by decide +kernel
theorem dX8_takeWord_51 : decode cX8_takeWord 51 = .ok (.lshl, 1) := by decide +kernel
theorem dX8_takeWord_52 : decode cX8_takeWord 52 = .ok (.aload_n 0, 1) := by decide +kernel
theorem dX8_takeWord_53 : decode cX8_takeWord 53 = .ok (.getfield 7, 3) := by decide +kernel
theorem dX8_takeWord_56 : decode cX8_takeWord 56 = .ok (.aload_n 0, 1) := by decide +kernel
theorem dX8_takeWord_57 : decode cX8_takeWord 57 = .ok (.getfield 13, 3) := by decide +kernel
theorem dX8_takeWord_60 : decode cX8_takeWord 60 = .ok (.invokevirtual 28, 3) := by decide +kernel
theorem dX8_takeWord_63 : decode cX8_takeWord 63 = .ok (.i2l, 1) := by decide +kernel
theorem dX8_takeWord_64 : decode cX8_takeWord 64 = .ok (.lor, 1) := by decide +kernel
theorem dX8_takeWord_65 : decode cX8_takeWord 65 = .ok (.putfield 54, 3) := by decide +kernel
theorem dX8_takeWord_68 : decode cX8_takeWord 68 = .ok (.aload_n 0, 1) := by decide +kernel
theorem dX8_takeWord_69 : decode cX8_takeWord 69 = .ok (.dup, 1) := by decide +kernel
theorem dX8_takeWord_70 : decode cX8_takeWord 70 = .ok (.getfield 13, 3) := by decide +kernel
theorem dX8_takeWord_73 : decode cX8_takeWord 73 = .ok (.iconst 1, 1) := by decide +kernel
theorem dX8_takeWord_74 : decode cX8_takeWord 74 = .ok (.iadd, 1) := by decide +kernel
theorem dX8_takeWord_75 : decode cX8_takeWord 75 = .ok (.putfield 13, 3) := by decide +kernel
theorem dX8_takeWord_78 : decode cX8_takeWord 78 = .ok (.goto (-65), 3) := by decide +kernel
theorem dX8_takeWord_81 : decode cX8_takeWord 81 = .ok (.aload_n 0, 1) := by decide +kernel
theorem dX8_takeWord_82 : decode cX8_takeWord 82 = .ok (.aload_n 0, 1) := by decide +kernel
theorem dX8_takeWord_83 : decode cX8_takeWord 83 = .ok (.getfield 13, 3) := by decide +kernel
theorem dX8_takeWord_86 : decode cX8_takeWord 86 = .ok (.aload_n 0, 1) := by decide +kernel
theorem dX8_takeWord_87 : decode cX8_takeWord 87 = .ok (.getfield 20, 3) := by decide +kernel
theorem dX8_takeWord_90 : decode cX8_takeWord 90 = .ok (.isub, 1) := by decide +kernel
theorem dX8_takeWord_91 : decode cX8_takeWord 91 = .ok (.bipush 8, 2) := by decide +kernel
theorem dX8_takeWord_93 : decode cX8_takeWord 93 = .ok (.if_icmp .le 7, 3) := by decide +kernel
theorem dX8_takeWord_96 : decode cX8_takeWord 96 = .ok (.iconst 0, 1) := by decide +kernel
theorem dX8_takeWord_97 : decode cX8_takeWord 97 = .ok (.goto 7, 3) := by decide +kernel
theorem dX8_takeWord_100 : decode cX8_takeWord 100 = .ok (.aload_n 0, 1) := by decide +kernel
theorem dX8_takeWord_101 : decode cX8_takeWord 101 = .ok (.invokevirtual 58, 3) := by decide +kernel
theorem dX8_takeWord_104 : decode cX8_takeWord 104 = .ok (.putfield 36, 3) := by decide +kernel
theorem dX8_takeWord_107 : decode cX8_takeWord 107 = .ok (.return_, 1) := by decide +kernel
abbrev tX8_takeWord (k : Nat) : MT := (RX8, cX8_takeWord, 1, k, none)
def lX8_takeWord_1 : SX := (sLoop (cAnd (cB rlt (iGet 8 1 (rLoc 0)) (iGet 7 1 (rGet 8 0 (rLoc 0)))) (cZ zne (iCallS mX8_isLetter (aI (iCallV 7 mX7_signAt (aR (rGet 8 0 (rLoc 0)) (aI (iGet 8 1 (rLoc 0)) aNil))) aNil)))) (sSeq (sPutL 8 5 (rLoc 0) (lB gT2 (· ||| ·) (lBI jlshl (lGet 8 5 (rLoc 0)) (iK 8)) (lOfI (iCallV 7 mX7_signAt (aR (rGet 8 0 (rLoc 0)) (aI (iGet 8 1 (rLoc 0)) aNil)))))) (sUpd 8 1 gT2 (· + ·) (rLoc 0) (iK 1))) sSkip)
theorem olX8_takeWord_1 (g : GT) {pcB pcC : Nat} : Sok g (tX8_takeWord 1) 13 81 pcB pcC (lX8_takeWord_1) := (Sok.loop (pc := 13) (pc1 := 44) (pc2 := 13) (pcN := 81) (Cok.and (pc1 := 27) (Cok.cmp (pc1 := 17) (pc2 := 24) (pcT := 27) (pcF := 81) (EokI.getf (pc1 := 14) (j := 1) (ci := 8) (T := TX8) (N := 6) (EokR.aload_n (q := 0) dX8_takeWord_13) rfl wsX8_in (by decide) flX8_13 dX8_takeWord_14) (EokI.getf (pc1 := 21) (j := 1) (ci := 7) (T := TX7) (N := 2) (EokR.getf (pc1 := 18) (j := 0) (ci := 8) (T := TX8) (N := 6) (EokR.aload_n (q := 0) dX8_takeWord_17) rfl wsX8_in (by decide) flX8_7 dX8_takeWord_18) rfl wsX7_in (by decide) flX8_23 dX8_takeWord_21) (JI.ltF (tgt := 81) dX8_takeWord_24 (by decide))) (Cok.zero (pc1 := 41) (pcT := 44) (pcF := 81) (EokI.iCallS (pc1 := 38) (Aok.aI (pc1 := 38) (EokI.iCallV (pc1 := 35) (Aok.aR (pc1 := 31) (EokR.getf (pc1 := 28) (j := 0) (ci := 8) (T := TX8) (N := 6) (EokR.aload_n (q := 0) dX8_takeWord_27) rfl wsX8_in (by decide) flX8_7 dX8_takeWord_28) (Aok.aI (pc1 := 35) (EokI.getf (pc1 := 32) (j := 1) (ci := 8) (T := TX8) (N := 6) (EokR.aload_n (q := 0) dX8_takeWord_31) rfl wsX8_in (by decide) flX8_13 dX8_takeWord_32) Aok.nil)) (kX7_signAt g) rfl ykX7_signAt vkX8_28 (by decide) (by decide) dX8_takeWord_35) Aok.nil) (kX8_isLetter g) ykX8_isLetter skX8_39 (by decide) (by decide) dX8_takeWord_38) (JZ.neF (tgt := 81) dX8_takeWord_41 (by decide)))) (by decide) (Sok.seq (pc1 := 68) (Sok.putL (ci := 8) (T := TX8) (NN := 6) (tt := tyX8) (j := 5) (pc1 := 45) (pc2 := 65) (EokR.aload_n (q := 0) dX8_takeWord_44) (EokL.bin (pc1 := 52) (pc2 := 64) (EokL.binI (pc1 := 49) (pc2 := 51) (EokL.getf (pc1 := 46) (j := 5) (ci := 8) (T := TX8) (N := 6) (EokR.aload_n (q := 0) dX8_takeWord_45) rfl wsX8_in (by decide) flX8_54 dX8_takeWord_46) (EokI.bipush (v := 8) dX8_takeWord_49 (by decide)) (OPLI.lshl dX8_takeWord_51)) (EokL.i2l (pc1 := 63) (EokI.iCallV (pc1 := 60) (Aok.aR (pc1 := 56) (EokR.getf (pc1 := 53) (j := 0) (ci := 8) (T := TX8) (N := 6) (EokR.aload_n (q := 0) dX8_takeWord_52) rfl wsX8_in (by decide) flX8_7 dX8_takeWord_53) (Aok.aI (pc1 := 60) (EokI.getf (pc1 := 57) (j := 1) (ci := 8) (T := TX8) (N := 6) (EokR.aload_n (q := 0) dX8_takeWord_56) rfl wsX8_in (by decide) flX8_13 dX8_takeWord_57) Aok.nil)) (kX7_signAt g) rfl ykX7_signAt vkX8_28 (by decide) (by decide) dX8_takeWord_60) dX8_takeWord_63) (OPL.lor dX8_takeWord_64)) (by decide) rfl wsX8_in tyX8_ok nmX8 (by decide) flX8_54 rfl rfl dX8_takeWord_65) (Sok.goto (pc1 := 78) (pcN := 13) (Sok.upd (ci := 8) (T := TX8) (NN := 6) (tt := tyX8) (j := 1) (pc1 := 69) (pc2 := 74) (EokR.aload_n (q := 0) dX8_takeWord_68) dX8_takeWord_69 dX8_takeWord_70 (EokI.iconst (v := 1) dX8_takeWord_73 (by decide)) (OPI.iadd dX8_takeWord_74) (by decide) rfl wsX8_in tyX8_ok nmX8 (by decide) flX8_13 rfl rfl dX8_takeWord_75) dX8_takeWord_78 (by decide))) Sok.skip)
def mX8_takeWord : MX := bodyOf 1 (sSeq (sSeq (sPutL 8 5 (rLoc 0) (lK 0)) (sSeq (sPutI 8 1 .int (rLoc 0) (iGet 8 2 (rLoc 0))) (sSeq lX8_takeWord_1 (sPutI 8 3 .int (rLoc 0) (iCond (cB rgt (iB gT2 (· - ·) (iGet 8 1 (rLoc 0)) (iGet 8 2 (rLoc 0))) (iK 8)) (iK 0) (iCallV 8 mX8_kindOfWord (aR (rLoc 0) aNil))))))) sRetV)
theorem kX8_takeWord (g : GT) : MK g 1 yX8_takeWord cX8_takeWord 1 none mX8_takeWord := MK.of (pcN := 99999) (pcB := 0) (pcC := 0) rfl (Sok.seq (pc1 := 107) (Sok.seq (pc1 := 5) (Sok.putL (ci := 8) (T := TX8) (NN := 6) (tt := tyX8) (j := 5) (pc1 := 1) (pc2 := 2) (EokR.aload_n (q := 0) dX8_takeWord_0) (EokL.lconst (v := 0) dX8_takeWord_1 (by decide)) (by decide) rfl wsX8_in tyX8_ok nmX8 (by decide) flX8_54 rfl rfl dX8_takeWord_2) (Sok.seq (pc1 := 13) (Sok.putI (ci := 8) (T := TX8) (NN := 6) (tt := tyX8) (j := 1) (pc1 := 6) (pc2 := 10) (ty := .int) (EokR.aload_n (q := 0) dX8_takeWord_5) (EokI.getf (pc1 := 7) (j := 2) (ci := 8) (T := TX8) (N := 6) (EokR.aload_n (q := 0) dX8_takeWord_6) rfl wsX8_in (by decide) flX8_20 dX8_takeWord_7) (by decide) rfl wsX8_in tyX8_ok nmX8 (by decide) flX8_13 rfl rfl dX8_takeWord_10) (Sok.seq (pc1 := 81) (olX8_takeWord_1 g ) (Sok.putI (ci := 8) (T := TX8) (NN := 6) (tt := tyX8) (j := 3) (pc1 := 82) (pc2 := 104) (ty := .int) (EokR.aload_n (q := 0) dX8_takeWord_81) (EokI.cond' (pc1 := 96) (pc2 := 100) (Cok.cmp (pc1 := 91) (pc2 := 93) (pcT := 96) (pcF := 100) (EokI.bin (pc1 := 86) (pc2 := 90) (EokI.getf (pc1 := 83) (j := 1) (ci := 8) (T := TX8) (N := 6) (EokR.aload_n (q := 0) dX8_takeWord_82) rfl wsX8_in (by decide) flX8_13 dX8_takeWord_83) (EokI.getf (pc1 := 87) (j := 2) (ci := 8) (T := TX8) (N := 6) (EokR.aload_n (q := 0) dX8_takeWord_86) rfl wsX8_in (by decide) flX8_20 dX8_takeWord_87) (OPI.isub dX8_takeWord_90)) (EokI.bipush (v := 8) dX8_takeWord_91 (by decide)) (JI.gtF (tgt := 100) dX8_takeWord_93 (by decide))) (EokI.goto (pc1 := 97) (pc2 := 104) (EokI.iconst (v := 0) dX8_takeWord_96 (by decide)) dX8_takeWord_97 (by decide)) (EokI.iCallV (pc1 := 101) (Aok.aR (pc1 := 101) (EokR.aload_n (q := 0) dX8_takeWord_100) Aok.nil) (kX8_kindOfWord g) rfl ykX8_kindOfWord vkX8_58 (by decide) (by decide) dX8_takeWord_101)) (by decide) rfl wsX8_in tyX8_ok nmX8 (by decide) flX8_36 rfl rfl dX8_takeWord_104)))) (Sok.retV dX8_takeWord_107 rfl))
/-! PassHuts$Tokens.isDigit(I)Z -/
theorem dX8_isDigit_0 : decode cX8_isDigit 0 = .ok (.iload_n 0, 1) := by decide +kernel
theorem dX8_isDigit_1 : decode cX8_isDigit 1 = .ok (.bipush 48, 2) := by decide +kernel
theorem dX8_isDigit_3 : decode cX8_isDigit 3 = .ok (.if_icmp .lt 13, 3) := by decide +kernel
theorem dX8_isDigit_6 : decode cX8_isDigit 6 = .ok (.iload_n 0, 1) := by decide +kernel
theorem dX8_isDigit_7 : decode cX8_isDigit 7 = .ok (.bipush 57, 2) := by decide +kernel
theorem dX8_isDigit_9 : decode cX8_isDigit 9 = .ok (.if_icmp .gt 7, 3) := by decide +kernel
theorem dX8_isDigit_12 : decode cX8_isDigit 12 = .ok (.iconst 1, 1) := by decide +kernel
theorem dX8_isDigit_13 : decode cX8_isDigit 13 = .ok (.goto 4, 3) := by decide +kernel
theorem dX8_isDigit_16 : decode cX8_isDigit 16 = .ok (.iconst 0, 1) := by decide +kernel
theorem dX8_isDigit_17 : decode cX8_isDigit 17 = .ok (.ireturn, 1) := by decide +kernel
abbrev tX8_isDigit (k : Nat) : MT := (RX8, cX8_isDigit, 1, k, (some .boolean))
def mX8_isDigit : MX := bodyOf 1 (sRetZ (iBool (cAnd (cB rge (iLoc 0) (iK 48)) (cB rle (iLoc 0) (iK 57)))))
theorem kX8_isDigit (g : GT) : MK g 0 yX8_isDigit cX8_isDigit 1 (some .boolean) mX8_isDigit := MK.of (pcN := 99999) (pcB := 0) (pcC := 0) rfl (Sok.retZ (pc1 := 17) (EokI.cond' (pc1 := 12) (pc2 := 16) (Cok.and (pc1 := 6) (Cok.cmp (pc1 := 1) (pc2 := 3) (pcT := 6) (pcF := 16) (EokI.iload_n (q := 0) dX8_isDigit_0) (EokI.bipush (v := 48) dX8_isDigit_1 (by decide)) (JI.geF (tgt := 16) dX8_isDigit_3 (by decide))) (Cok.cmp (pc1 := 7) (pc2 := 9) (pcT := 12) (pcF := 16) (EokI.iload_n (q := 0) dX8_isDigit_6) (EokI.bipush (v := 57) dX8_isDigit_7 (by decide)) (JI.leF (tgt := 16) dX8_isDigit_9 (by decide)))) (EokI.goto (pc1 := 13) (pc2 := 17) (EokI.iconst (v := 1) dX8_isDigit_12 (by decide)) dX8_isDigit_13 (by decide)) (EokI.iconst (v := 0) dX8_isDigit_16 (by decide))) (by decide) dX8_isDigit_17 rfl)
/-! PassHuts$Tokens.takeNumber()V -/
theorem dX8_takeNumber_0 : decode cX8_takeNumber 0 = .ok (.aload_n 0, 1) := by decide +kernel
theorem dX8_takeNumber_1 : decode cX8_takeNumber 1 = .ok (.iconst 0, 1) := by decide +kernel
theorem dX8_takeNumber_2 : decode cX8_takeNumber 2 = .ok (.putfield 66, 3) := by decide +kernel
theorem dX8_takeNumber_5 : decode cX8_takeNumber 5 = .ok (.aload_n 0, 1) := by decide +kernel
theorem dX8_takeNumber_6 : decode cX8_takeNumber 6 = .ok (.aload_n 0, 1) := by decide +kernel
theorem dX8_takeNumber_7 : decode cX8_takeNumber 7 = .ok (.getfield 20, 3) := by decide +kernel
theorem dX8_takeNumber_10 : decode cX8_takeNumber 10 = .ok (.putfield 13, 3) := by decide +kernel
theorem dX8_takeNumber_13 : decode cX8_takeNumber 13 = .ok (.aload_n 0, 1) := by decide +kernel
theorem dX8_takeNumber_14 : decode cX8_takeNumber 14 = .ok (.getfield 13, 3) := by decide +kernel
theorem dX8_takeNumber_17 : decode cX8_takeNumber 17 = .ok (.aload_n 0, 1) := by decide +kernel
theorem dX8_takeNumber_18 : decode cX8_takeNumber 18 = .ok (.getfield 7, 3) := by decide +kernel
theorem dX8_takeNumber_21 : decode cX8_takeNumber 21 = .ok (.getfield 23, 3) := by decide +kernel
theorem dX8_takeNumber_24 : decode cX8_takeNumber 24 = .ok (.if_icmp .ge 59, 3) := by decide +kernel
theorem dX8_takeNumber_27 : decode cX8_takeNumber 27 = .ok (.aload_n 0, 1) := by decide +kernel
theorem dX8_takeNumber_28 : decode cX8_takeNumber 28 = .ok (.getfield 7, 3) := by decide +kernel
theorem dX8_takeNumber_31 : decode cX8_takeNumber 31 = .ok (.aload_n 0, 1) := by decide +kernel
theorem dX8_takeNumber_32 : decode cX8_takeNumber 32 = .ok (.getfield 13, 3) := by decide +kernel
theorem dX8_takeNumber_35 : decode cX8_takeNumber 35 = .ok (.invokevirtual 28, 3) := by decide +kernel
theorem dX8_takeNumber_38 : decode cX8_takeNumber 38 = .ok (.invokestatic 45, 3) := by decide +kernel
theorem dX8_takeNumber_41 : decode cX8_takeNumber 41 = .ok (.ifCond .eq 42, 3) := by decide +kernel
theorem dX8_takeNumber_44 : decode cX8_takeNumber 44 = .ok (.aload_n 0, 1) := by decide +kernel
theorem dX8_takeNumber_45 : decode cX8_takeNumber 45 = .ok (.aload_n 0, 1) := by decide +kernel
theorem dX8_takeNumber_46 : decode cX8_takeNumber 46 = .ok (.getfield 66, 3) := by decide +kernel
theorem dX8_takeNumber_49 : decode cX8_takeNumber 49 = .ok (.bipush 10, 2) := by decide +kernel
theorem dX8_takeNumber_51 : decode cX8_takeNumber 51 = .ok (.imul, 1) := by decide +kernel
theorem dX8_takeNumber_52 : decode cX8_takeNumber 52 = .ok (.aload_n 0, 1) := by decide +kernel
theorem dX8_takeNumber_53 : decode cX8_takeNumber 53 = .ok (.getfield 7, 3) := by decide +kernel
theorem dX8_takeNumber_56 : decode cX8_takeNumber 56 = .ok (.aload_n 0, 1) := by decide +kernel
theorem dX8_takeNumber_57 : decode cX8_takeNumber 57 = .ok (.getfield 13, 3) := by decide +kernel
theorem dX8_takeNumber_60 : decode cX8_takeNumber 60 = .ok (.invokevirtual 28, 3) := by decide +kernel
theorem dX8_takeNumber_63 : decode cX8_takeNumber 63 = .ok (.iadd, 1) := by decide +kernel
theorem dX8_takeNumber_64 : decode cX8_takeNumber 64 = .ok (.bipush 48, 2) := by decide +kernel
theorem dX8_takeNumber_66 : decode cX8_takeNumber 66 = .ok (.isub, 1) := by decide +kernel
theorem dX8_takeNumber_67 : decode cX8_takeNumber 67 = .ok (.putfield 66, 3) := by decide +kernel
theorem dX8_takeNumber_70 : decode cX8_takeNumber 70 = .ok (.aload_n 0, 1) := by decide +kernel
theorem dX8_takeNumber_71 : decode cX8_takeNumber 71 = .ok (.dup, 1) := by decide +kernel
theorem dX8_takeNumber_72 : decode cX8_takeNumber 72 = .ok (.getfield 13, 3) := by decide +kernel
theorem dX8_takeNumber_75 : decode cX8_takeNumber 75 = .ok (.iconst 1, 1) := by decide +kernel
theorem dX8_takeNumber_76 : decode cX8_takeNumber 76 = .ok (.iadd, 1) := by decide +kernel
theorem dX8_takeNumber_77 : decode cX8_takeNumber 77 = .ok (.putfield 13, 3) := by decide +kernel
theorem dX8_takeNumber_80 : decode cX8_takeNumber 80 = .ok (.goto (-67), 3) := by decide +kernel
theorem dX8_takeNumber_83 : decode cX8_takeNumber 83 = .ok (.aload_n 0, 1) := by decide +kernel
theorem dX8_takeNumber_84 : decode cX8_takeNumber 84 = .ok (.aload_n 0, 1) := by decide +kernel
theorem dX8_takeNumber_85 : decode cX8_takeNumber 85 = .ok (.getfield 13, 3) := by decide +kernel
theorem dX8_takeNumber_88 : decode cX8_takeNumber 88 = .ok (.aload_n 0, 1) := by decide +kernel
theorem dX8_takeNumber_89 : decode cX8_takeNumber 89 = .ok (.getfield 20, 3) := by decide +kernel
theorem dX8_takeNumber_92 : decode cX8_takeNumber 92 = .ok (.isub, 1) := by decide +kernel
theorem dX8_takeNumber_93 : decode cX8_takeNumber 93 = .ok (.iconst 4, 1) := by decide +kernel
theorem dX8_takeNumber_94 : decode cX8_takeNumber 94 = .ok (.if_icmp .le 7, 3) := by decide +kernel
theorem dX8_takeNumber_97 : decode cX8_takeNumber 97 = .ok (.iconst 0, 1) := by decide +kernel
theorem dX8_takeNumber_98 : decode cX8_takeNumber 98 = .ok (.goto 4, 3) := by decide +kernel
theorem dX8_takeNumber_101 : decode cX8_takeNumber 101 = .ok (.iconst 2, 1) := by decide +kernel
theorem dX8_takeNumber_102 : decode cX8_takeNumber 102 = .ok (.putfield 36, 3) := by decide +kernel
theorem dX8_takeNumber_105 : decode cX8_takeNumber 105 = .ok (.return_, 1) := by decide +kernel
abbrev tX8_takeNumber (k : Nat) : MT := (RX8, cX8_takeNumber, 1, k, none)
def lX8_takeNumber_1 : SX := (sLoop (cAnd (cB rlt (iGet 8 1 (rLoc 0)) (iGet 7 1 (rGet 8 0 (rLoc 0)))) (cZ zne (iCallS mX8_isDigit (aI (iCallV 7 mX7_signAt (aR (rGet 8 0 (rLoc 0)) (aI (iGet 8 1 (rLoc 0)) aNil))) aNil)))) (sSeq (sPutI 8 4 .int (rLoc 0) (iB gT2 (· - ·) (iB gT2 (· + ·) (iB gT2 (· * ·) (iGet 8 4 (rLoc 0)) (iK 10)) (iCallV 7 mX7_signAt (aR (rGet 8 0 (rLoc 0)) (aI (iGet 8 1 (rLoc 0)) aNil)))) (iK 48))) (sUpd 8 1 gT2 (· + ·) (rLoc 0) (iK 1))) sSkip)
theorem olX8_takeNumber_1 (g : GT) {pcB pcC : Nat} : Sok g (tX8_takeNumber 1) 13 83 pcB pcC (lX8_takeNumber_1) := (Sok.loop (pc := 13) (pc1 := 44) (pc2 := 13) (pcN := 83) (Cok.and (pc1 := 27) (Cok.cmp (pc1 := 17) (pc2 := 24) (pcT := 27) (pcF := 83) (EokI.getf (pc1 := 14) (j := 1) (ci := 8) (T := TX8) (N := 6) (EokR.aload_n (q := 0) dX8_takeNumber_13) rfl wsX8_in (by decide) flX8_13 dX8_takeNumber_14) (EokI.getf (pc1 := 21) (j := 1) (ci := 7) (T := TX7) (N := 2) (EokR.getf (pc1 := 18) (j := 0) (ci := 8) (T := TX8) (N := 6) (EokR.aload_n (q := 0) dX8_takeNumber_17) rfl wsX8_in (by decide) flX8_7 dX8_takeNumber_18) rfl wsX7_in (by decide) flX8_23 dX8_takeNumber_21) (JI.ltF (tgt := 83) dX8_takeNumber_24 (by decide))) (Cok.zero (pc1 := 41) (pcT := 44) (pcF := 83) (EokI.iCallS (pc1 := 38) (Aok.aI (pc1 := 38) (EokI.iCallV (pc1 := 35) (Aok.aR (pc1 := 31) (EokR.getf (pc1 := 28) (j := 0) (ci := 8) (T := TX8) (N := 6) (EokR.aload_n (q := 0) dX8_takeNumber_27) rfl wsX8_in (by decide) flX8_7 dX8_takeNumber_28) (Aok.aI (pc1 := 35) (EokI.getf (pc1 := 32) (j := 1) (ci := 8) (T := TX8) (N := 6) (EokR.aload_n (q := 0) dX8_takeNumber_31) rfl wsX8_in (by decide) flX8_13 dX8_takeNumber_32) Aok.nil)) (kX7_signAt g) rfl ykX7_signAt vkX8_28 (by decide) (by decide) dX8_takeNumber_35) Aok.nil) (kX8_isDigit g) ykX8_isDigit skX8_45 (by decide) (by decide) dX8_takeNumber_38) (JZ.neF (tgt := 83) dX8_takeNumber_41 (by decide)))) (by decide) (Sok.seq (pc1 := 70) (Sok.putI (ci := 8) (T := TX8) (NN := 6) (tt := tyX8) (j := 4) (pc1 := 45) (pc2 := 67) (ty := .int) (EokR.aload_n (q := 0) dX8_takeNumber_44) (EokI.bin (pc1 := 64) (pc2 := 66) (EokI.bin (pc1 := 52) (pc2 := 63) (EokI.bin (pc1 := 49) (pc2 := 51) (EokI.getf (pc1 := 46) (j := 4) (ci := 8) (T := TX8) (N := 6) (EokR.aload_n (q := 0) dX8_takeNumber_45) rfl wsX8_in (by decide) flX8_66 dX8_takeNumber_46) (EokI.bipush (v := 10) dX8_takeNumber_49 (by decide)) (OPI.imul dX8_takeNumber_51)) (EokI.iCallV (pc1 := 60) (Aok.aR (pc1 := 56) (EokR.getf (pc1 := 53) (j := 0) (ci := 8) (T := TX8) (N := 6) (EokR.aload_n (q := 0) dX8_takeNumber_52) rfl wsX8_in (by decide) flX8_7 dX8_takeNumber_53) (Aok.aI (pc1 := 60) (EokI.getf (pc1 := 57) (j := 1) (ci := 8) (T := TX8) (N := 6) (EokR.aload_n (q := 0) dX8_takeNumber_56) rfl wsX8_in (by decide) flX8_13 dX8_takeNumber_57) Aok.nil)) (kX7_signAt g) rfl ykX7_signAt vkX8_28 (by decide) (by decide) dX8_takeNumber_60) (OPI.iadd dX8_takeNumber_63)) (EokI.bipush (v := 48) dX8_takeNumber_64 (by decide)) (OPI.isub dX8_takeNumber_66)) (by decide) rfl wsX8_in tyX8_ok nmX8 (by decide) flX8_66 rfl rfl dX8_takeNumber_67) (Sok.goto (pc1 := 80) (pcN := 13) (Sok.upd (ci := 8) (T := TX8) (NN := 6) (tt := tyX8) (j := 1) (pc1 := 71) (pc2 := 76) (EokR.aload_n (q := 0) dX8_takeNumber_70) dX8_takeNumber_71 dX8_takeNumber_72 (EokI.iconst (v := 1) dX8_takeNumber_75 (by decide)) (OPI.iadd dX8_takeNumber_76) (by decide) rfl wsX8_in tyX8_ok nmX8 (by decide) flX8_13 rfl rfl dX8_takeNumber_77) dX8_takeNumber_80 (by decide))) Sok.skip)
def mX8_takeNumber : MX := bodyOf 1 (sSeq (sSeq (sPutI 8 4 .int (rLoc 0) (iK 0)) (sSeq (sPutI 8 1 .int (rLoc 0) (iGet 8 2 (rLoc 0))) (sSeq lX8_takeNumber_1 (sPutI 8 3 .int (rLoc 0) (iCond (cB rgt (iB gT2 (· - ·) (iGet 8 1 (rLoc 0)) (iGet 8 2 (rLoc 0))) (iK 4)) (iK 0) (iK 2)))))) sRetV)
theorem kX8_takeNumber (g : GT) : MK g 1 yX8_takeNumber cX8_takeNumber 1 none mX8_takeNumber := MK.of (pcN := 99999) (pcB := 0) (pcC := 0) rfl (Sok.seq (pc1 := 105) (Sok.seq (pc1 := 5) (Sok.putI (ci := 8) (T := TX8) (NN := 6) (tt := tyX8) (j := 4) (pc1 := 1) (pc2 := 2) (ty := .int) (EokR.aload_n (q := 0) dX8_takeNumber_0) (EokI.iconst (v := 0) dX8_takeNumber_1 (by decide)) (by decide) rfl wsX8_in tyX8_ok nmX8 (by decide) flX8_66 rfl rfl dX8_takeNumber_2) (Sok.seq (pc1 := 13) (Sok.putI (ci := 8) (T := TX8) (NN := 6) (tt := tyX8) (j := 1) (pc1 := 6) (pc2 := 10) (ty := .int) (EokR.aload_n (q := 0) dX8_takeNumber_5) (EokI.getf (pc1 := 7) (j := 2) (ci := 8) (T := TX8) (N := 6) (EokR.aload_n (q := 0) dX8_takeNumber_6) rfl wsX8_in (by decide) flX8_20 dX8_takeNumber_7) (by decide) rfl wsX8_in tyX8_ok nmX8 (by decide) flX8_13 rfl rfl dX8_takeNumber_10) (Sok.seq (pc1 := 83) (olX8_takeNumber_1 g ) (Sok.putI (ci := 8) (T := TX8) (NN := 6) (tt := tyX8) (j := 3) (pc1 := 84) (pc2 := 102) (ty := .int) (EokR.aload_n (q := 0) dX8_takeNumber_83) (EokI.cond' (pc1 := 97) (pc2 := 101) (Cok.cmp (pc1 := 93) (pc2 := 94) (pcT := 97) (pcF := 101) (EokI.bin (pc1 := 88) (pc2 := 92) (EokI.getf (pc1 := 85) (j := 1) (ci := 8) (T := TX8) (N := 6) (EokR.aload_n (q := 0) dX8_takeNumber_84) rfl wsX8_in (by decide) flX8_13 dX8_takeNumber_85) (EokI.getf (pc1 := 89) (j := 2) (ci := 8) (T := TX8) (N := 6) (EokR.aload_n (q := 0) dX8_takeNumber_88) rfl wsX8_in (by decide) flX8_20 dX8_takeNumber_89) (OPI.isub dX8_takeNumber_92)) (EokI.iconst (v := 4) dX8_takeNumber_93 (by decide)) (JI.gtF (tgt := 101) dX8_takeNumber_94 (by decide))) (EokI.goto (pc1 := 98) (pc2 := 102) (EokI.iconst (v := 0) dX8_takeNumber_97 (by decide)) dX8_takeNumber_98 (by decide)) (EokI.iconst (v := 2) dX8_takeNumber_101 (by decide))) (by decide) rfl wsX8_in tyX8_ok nmX8 (by decide) flX8_36 rfl rfl dX8_takeNumber_102)))) (Sok.retV dX8_takeNumber_105 rfl))
/-! PassHuts$Tokens.isOwnSign(I)Z -/
theorem dX8_isOwnSign_0 : decode cX8_isOwnSign 0 = .ok (.iload_n 0, 1) := by decide +kernel
theorem dX8_isOwnSign_1 : decode cX8_isOwnSign 1 = .ok (.tableswitch 105 40 61 #[103, 103, 103, 103, 105, 103, 105, 105, 105, 105, 105, 105, 105, 105, 105, 105, 105, 105, 105, 103, 103, 103], 103) := by decide +kernel
theorem dX8_isOwnSign_104 : decode cX8_isOwnSign 104 = .ok (.iconst 1, 1) := by decide +kernel
theorem dX8_isOwnSign_105 : decode cX8_isOwnSign 105 = .ok (.ireturn, 1) := by decide +kernel
theorem dX8_isOwnSign_106 : decode cX8_isOwnSign 106 = .ok (.iconst 0, 1) := by decide +kernel
theorem dX8_isOwnSign_107 : decode cX8_isOwnSign 107 = .ok (.ireturn, 1) := by decide +kernel
abbrev tX8_isOwnSign (k : Nat) : MT := (RX8, cX8_isOwnSign, 1, k, (some .boolean))
def mX8_isOwnSign : MX := bodyOf 1 (sSw (sSwitch 40 (iLoc 0) [(sRetZ (iK 1)), (sRetZ (iK 1)), (sRetZ (iK 1)), (sRetZ (iK 1)), (sRetZ (iK 0)), (sRetZ (iK 1)), (sRetZ (iK 0)), (sRetZ (iK 0)), (sRetZ (iK 0)), (sRetZ (iK 0)), (sRetZ (iK 0)), (sRetZ (iK 0)), (sRetZ (iK 0)), (sRetZ (iK 0)), (sRetZ (iK 0)), (sRetZ (iK 0)), (sRetZ (iK 0)), (sRetZ (iK 0)), (sRetZ (iK 0)), (sRetZ (iK 1)), (sRetZ (iK 1)), (sRetZ (iK 1))] (sRetZ (iK 0))))
theorem kX8_isOwnSign (g : GT) : MK g 0 yX8_isOwnSign cX8_isOwnSign 1 (some .boolean) mX8_isOwnSign := MK.of (pcN := 99999) (pcB := 0) (pcC := 0) rfl (Sok.swB (Sok.tswitch (pc1 := 1) (pd := 106) (pcs := [104, 104, 104, 104, 106, 104, 106, 106, 106, 106, 106, 106, 106, 106, 106, 106, 106, 106, 106, 104, 104, 104]) (pcN := 99999) (pcB := 99999) (EokI.iload_n (q := 0) dX8_isOwnSign_0) (by decide) dX8_isOwnSign_1 (by decide) rfl (by decide) (by decide) (sw_list (pd := 106) (d := (sRetZ (iK 0))) ⟨(Sok.retZ (pc1 := 105) (EokI.iconst (v := 1) dX8_isOwnSign_104 (by decide)) (by decide) dX8_isOwnSign_105 rfl), (Sok.retZ (pc1 := 105) (EokI.iconst (v := 1) dX8_isOwnSign_104 (by decide)) (by decide) dX8_isOwnSign_105 rfl), (Sok.retZ (pc1 := 105) (EokI.iconst (v := 1) dX8_isOwnSign_104 (by decide)) (by decide) dX8_isOwnSign_105 rfl), (Sok.retZ (pc1 := 105) (EokI.iconst (v := 1) dX8_isOwnSign_104 (by decide)) (by decide) dX8_isOwnSign_105 rfl), (Sok.retZ (pc1 := 107) (EokI.iconst (v := 0) dX8_isOwnSign_106 (by decide)) (by decide) dX8_isOwnSign_107 rfl), (Sok.retZ (pc1 := 105) (EokI.iconst (v := 1) dX8_isOwnSign_104 (by decide)) (by decide) dX8_isOwnSign_105 rfl), (Sok.retZ (pc1 := 107) (EokI.iconst (v := 0) dX8_isOwnSign_106 (by decide)) (by decide) dX8_isOwnSign_107 rfl), (Sok.retZ (pc1 := 107) (EokI.iconst (v := 0) dX8_isOwnSign_106 (by decide)) (by decide) dX8_isOwnSign_107 rfl), (Sok.retZ (pc1 := 107) (EokI.iconst (v := 0) dX8_isOwnSign_106 (by decide)) (by decide) dX8_isOwnSign_107 rfl), (Sok.retZ (pc1 := 107) (EokI.iconst (v := 0) dX8_isOwnSign_106 (by decide)) (by decide) dX8_isOwnSign_107 rfl), (Sok.retZ (pc1 := 107) (EokI.iconst (v := 0) dX8_isOwnSign_106 (by decide)) (by decide) dX8_isOwnSign_107 rfl), (Sok.retZ (pc1 := 107) (EokI.iconst (v := 0) dX8_isOwnSign_106 (by decide)) (by decide) dX8_isOwnSign_107 rfl), (Sok.retZ (pc1 := 107) (EokI.iconst (v := 0) dX8_isOwnSign_106 (by decide)) (by decide) dX8_isOwnSign_107 rfl), (Sok.retZ (pc1 := 107) (EokI.iconst (v := 0) dX8_isOwnSign_106 (by decide)) (by decide) dX8_isOwnSign_107 rfl), (Sok.retZ (pc1 := 107) (EokI.iconst (v := 0) dX8_isOwnSign_106 (by decide)) (by decide) dX8_isOwnSign_107 rfl), (Sok.retZ (pc1 := 107) (EokI.iconst (v := 0) dX8_isOwnSign_106 (by decide)) (by decide) dX8_isOwnSign_107 rfl), (Sok.retZ (pc1 := 107) (EokI.iconst (v := 0) dX8_isOwnSign_106 (by decide)) (by decide) dX8_isOwnSign_107 rfl), (Sok.retZ (pc1 := 107) (EokI.iconst (v := 0) dX8_isOwnSign_106 (by decide)) (by decide) dX8_isOwnSign_107 rfl), (Sok.retZ (pc1 := 107) (EokI.iconst (v := 0) dX8_isOwnSign_106 (by decide)) (by decide) dX8_isOwnSign_107 rfl), (Sok.retZ (pc1 := 105) (EokI.iconst (v := 1) dX8_isOwnSign_104 (by decide)) (by decide) dX8_isOwnSign_105 rfl), (Sok.retZ (pc1 := 105) (EokI.iconst (v := 1) dX8_isOwnSign_104 (by decide)) (by decide) dX8_isOwnSign_105 rfl), (Sok.retZ (pc1 := 105) (EokI.iconst (v := 1) dX8_isOwnSign_104 (by decide)) (by decide) dX8_isOwnSign_105 rfl), trivial⟩) (Sok.retZ (pc1 := 107) (EokI.iconst (v := 0) dX8_isOwnSign_106 (by decide)) (by decide) dX8_isOwnSign_107 rfl)))
/-! PassHuts$Tokens.next()V -/
theorem dX8_next_0 : decode cX8_next 0 = .ok (.aload_n 0, 1) := by decide +kernel
theorem dX8_next_1 : decode cX8_next 1 = .ok (.aload_n 0, 1) := by decide +kernel
theorem dX8_next_2 : decode cX8_next 2 = .ok (.getfield 13, 3) := by decide +kernel
theorem dX8_next_5 : decode cX8_next 5 = .ok (.putfield 20, 3) := by decide +kernel
theorem dX8_next_8 : decode cX8_next 8 = .ok (.aload_n 0, 1) := by decide +kernel
theorem dX8_next_9 : decode cX8_next 9 = .ok (.getfield 20, 3) := by decide +kernel
theorem dX8_next_12 : decode cX8_next 12 = .ok (.aload_n 0, 1) := by decide +kernel
theorem dX8_next_13 : decode cX8_next 13 = .ok (.getfield 7, 3) := by decide +kernel
theorem dX8_next_16 : decode cX8_next 16 = .ok (.getfield 23, 3) := by decide +kernel
theorem dX8_next_19 : decode cX8_next 19 = .ok (.if_icmp .ge 33, 3) := by decide +kernel
theorem dX8_next_22 : decode cX8_next 22 = .ok (.aload_n 0, 1) := by decide +kernel
theorem dX8_next_23 : decode cX8_next 23 = .ok (.getfield 7, 3) := by decide +kernel
theorem dX8_next_26 : decode cX8_next 26 = .ok (.aload_n 0, 1) := by decide +kernel
theorem dX8_next_27 : decode cX8_next 27 = .ok (.getfield 20, 3) := by decide +kernel
theorem dX8_next_30 : decode cX8_next 30 = .ok (.invokevirtual 28, 3) := by decide +kernel
theorem dX8_next_33 : decode cX8_next 33 = .ok (.invokestatic 32, 3) := by decide +kernel
theorem dX8_next_36 : decode cX8_next 36 = .ok (.ifCond .eq 16, 3) := by decide +kernel
theorem dX8_next_39 : decode cX8_next 39 = .ok (.aload_n 0, 1) := by decide +kernel
theorem dX8_next_40 : decode cX8_next 40 = .ok (.dup, 1) := by decide +kernel
theorem dX8_next_41 : decode cX8_next 41 = .ok (.getfield 20, 3) := by decide +kernel
theorem dX8_next_44 : decode cX8_next 44 = .ok (.iconst 1, 1) := by decide +kernel
theorem dX8_next_45 : decode cX8_next 45 = .ok (.iadd, 1) := by decide +kernel
theorem dX8_next_46 : decode cX8_next 46 = .ok (.putfield 20, 3) := by decide +kernel
theorem dX8_next_49 : decode cX8_next 49 = .ok (.goto (-41), 3) := by decide +kernel
theorem dX8_next_52 : decode cX8_next 52 = .ok (.aload_n 0, 1) := by decide +kernel
theorem dX8_next_53 : decode cX8_next 53 = .ok (.getfield 7, 3) := by decide +kernel
theorem dX8_next_56 : decode cX8_next 56 = .ok (.aload_n 0, 1) := by decide +kernel
theorem dX8_next_57 : decode cX8_next 57 = .ok (.getfield 20, 3) := by decide +kernel
theorem dX8_next_60 : decode cX8_next 60 = .ok (.invokevirtual 28, 3) := by decide +kernel
theorem dX8_next_63 : decode cX8_next 63 = .ok (.istore_n 1, 1) := by decide +kernel
theorem dX8_next_64 : decode cX8_next 64 = .ok (.iload_n 1, 1) := by decide +kernel
theorem dX8_next_65 : decode cX8_next 65 = .ok (.iconst (-1), 1) := by decide +kernel
theorem dX8_next_66 : decode cX8_next 66 = .ok (.if_icmp .ne 19, 3) := by decide +kernel
theorem dX8_next_69 : decode cX8_next 69 = .ok (.aload_n 0, 1) := by decide +kernel
theorem dX8_next_70 : decode cX8_next 70 = .ok (.iconst 1, 1) := by decide +kernel
theorem dX8_next_71 : decode cX8_next 71 = .ok (.putfield 36, 3) := by decide +kernel
theorem dX8_next_74 : decode cX8_next 74 = .ok (.aload_n 0, 1) := by decide +kernel
theorem dX8_next_75 : decode cX8_next 75 = .ok (.aload_n 0, 1) := by decide +kernel
theorem dX8_next_76 : decode cX8_next 76 = .ok (.getfield 20, 3) := by decide +kernel
theorem dX8_next_79 : decode cX8_next 79 = .ok (.putfield 13, 3) := by decide +kernel
theorem dX8_next_82 : decode cX8_next 82 = .ok (.goto 57, 3) := by decide +kernel
theorem dX8_next_85 : decode cX8_next 85 = .ok (.iload_n 1, 1) := by decide +kernel
theorem dX8_next_86 : decode cX8_next 86 = .ok (.invokestatic 39, 3) := by decide +kernel
theorem dX8_next_89 : decode cX8_next 89 = .ok (.ifCond .eq 10, 3) := by decide +kernel
theorem dX8_next_92 : decode cX8_next 92 = .ok (.aload_n 0, 1) := by decide +kernel
theorem dX8_next_93 : decode cX8_next 93 = .ok (.invokevirtual 42, 3) := by decide +kernel
theorem dX8_next_96 : decode cX8_next 96 = .ok (.goto 43, 3) := by decide +kernel
theorem dX8_next_99 : decode cX8_next 99 = .ok (.iload_n 1, 1) := by decide +kernel
theorem dX8_next_100 : decode cX8_next 100 = .ok (.invokestatic 45, 3) := by decide +kernel
theorem dX8_next_103 : decode cX8_next 103 = .ok (.ifCond .eq 10, 3) := by decide +kernel
theorem dX8_next_106 : decode cX8_next 106 = .ok (.aload_n 0, 1) := by decide +kernel
theorem dX8_next_107 : decode cX8_next 107 = .ok (.invokevirtual 48, 3) := by decide +kernel
theorem dX8_next_110 : decode cX8_next 110 = .ok (.goto 29, 3) := by decide +kernel
theorem dX8_next_113 : decode cX8_next 113 = .ok (.aload_n 0, 1) := by decide +kernel
theorem dX8_next_114 : decode cX8_next 114 = .ok (.iload_n 1, 1) := by decide +kernel
theorem dX8_next_115 : decode cX8_next 115 = .ok (.invokestatic 51, 3) := by decide +kernel
theorem dX8_next_118 : decode cX8_next 118 = .ok (.ifCond .eq 7, 3) := by decide +kernel
theorem dX8_next_121 : decode cX8_next 121 = .ok (.iload_n 1, 1) := by decide +kernel
theorem dX8_next_122 : decode cX8_next 122 = .ok (.goto 4, 3) := by decide +kernel
theorem dX8_next_125 : decode cX8_next 125 = .ok (.iconst 0, 1) := by decide +kernel
theorem dX8_next_126 : decode cX8_next 126 = .ok (.putfield 36, 3) := by decide +kernel
theorem dX8_next_129 : decode cX8_next 129 = .ok (.aload_n 0, 1) := by decide +kernel
theorem dX8_next_130 : decode cX8_next 130 = .ok (.aload_n 0, 1) := by decide +kernel
theorem dX8_next_131 : decode cX8_next 131 = .ok (.getfield 20, 3) := by decide +kernel
theorem dX8_next_134 : decode cX8_next 134 = .ok (.iconst 1, 1) := by decide +kernel
theorem dX8_next_135 : decode cX8_next 135 = .ok (.iadd, 1) := by decide +kernel
theorem dX8_next_136 : decode cX8_next 136 = .ok (.putfield 13, 3) := by decide +kernel
theorem dX8_next_139 : decode cX8_next 139 = .ok (.return_, 1) := by decide +kernel
abbrev tX8_next (k : Nat) : MT := (RX8, cX8_next, 2, k, none)
def lX8_next_1 : SX := (sLoop (cAnd (cB rlt (iGet 8 2 (rLoc 0)) (iGet 7 1 (rGet 8 0 (rLoc 0)))) (cZ zne (iCallS mX8_isBlank (aI (iCallV 7 mX7_signAt (aR (rGet 8 0 (rLoc 0)) (aI (iGet 8 2 (rLoc 0)) aNil))) aNil)))) (sUpd 8 2 gT2 (· + ·) (rLoc 0) (iK 1)) sSkip)
theorem olX8_next_1 (g : GT) {pcB pcC : Nat} : Sok g (tX8_next 2) 8 52 pcB pcC (lX8_next_1) := (Sok.loop (pc := 8) (pc1 := 39) (pc2 := 8) (pcN := 52) (Cok.and (pc1 := 22) (Cok.cmp (pc1 := 12) (pc2 := 19) (pcT := 22) (pcF := 52) (EokI.getf (pc1 := 9) (j := 2) (ci := 8) (T := TX8) (N := 6) (EokR.aload_n (q := 0) dX8_next_8) rfl wsX8_in (by decide) flX8_20 dX8_next_9) (EokI.getf (pc1 := 16) (j := 1) (ci := 7) (T := TX7) (N := 2) (EokR.getf (pc1 := 13) (j := 0) (ci := 8) (T := TX8) (N := 6) (EokR.aload_n (q := 0) dX8_next_12) rfl wsX8_in (by decide) flX8_7 dX8_next_13) rfl wsX7_in (by decide) flX8_23 dX8_next_16) (JI.ltF (tgt := 52) dX8_next_19 (by decide))) (Cok.zero (pc1 := 36) (pcT := 39) (pcF := 52) (EokI.iCallS (pc1 := 33) (Aok.aI (pc1 := 33) (EokI.iCallV (pc1 := 30) (Aok.aR (pc1 := 26) (EokR.getf (pc1 := 23) (j := 0) (ci := 8) (T := TX8) (N := 6) (EokR.aload_n (q := 0) dX8_next_22) rfl wsX8_in (by decide) flX8_7 dX8_next_23) (Aok.aI (pc1 := 30) (EokI.getf (pc1 := 27) (j := 2) (ci := 8) (T := TX8) (N := 6) (EokR.aload_n (q := 0) dX8_next_26) rfl wsX8_in (by decide) flX8_20 dX8_next_27) Aok.nil)) (kX7_signAt g) rfl ykX7_signAt vkX8_28 (by decide) (by decide) dX8_next_30) Aok.nil) (kX8_isBlank g) ykX8_isBlank skX8_32 (by decide) (by decide) dX8_next_33) (JZ.neF (tgt := 52) dX8_next_36 (by decide)))) (by decide) (Sok.goto (pc1 := 49) (pcN := 8) (Sok.upd (ci := 8) (T := TX8) (NN := 6) (tt := tyX8) (j := 2) (pc1 := 40) (pc2 := 45) (EokR.aload_n (q := 0) dX8_next_39) dX8_next_40 dX8_next_41 (EokI.iconst (v := 1) dX8_next_44 (by decide)) (OPI.iadd dX8_next_45) (by decide) rfl wsX8_in tyX8_ok nmX8 (by decide) flX8_20 rfl rfl dX8_next_46) dX8_next_49 (by decide)) Sok.skip)
def mX8_next : MX := bodyOf 2 (sSeq (sSeq (sPutI 8 2 .int (rLoc 0) (iGet 8 1 (rLoc 0))) (sSeq lX8_next_1 (sSeq (sSetI 1 (iCallV 7 mX7_signAt (aR (rGet 8 0 (rLoc 0)) (aI (iGet 8 2 (rLoc 0)) aNil)))) (sIf (cB req (iLoc 1) (iK (-1))) (sSeq (sPutI 8 3 .int (rLoc 0) (iK 1)) (sPutI 8 1 .int (rLoc 0) (iGet 8 2 (rLoc 0)))) (sIf (cZ zne (iCallS mX8_isLetter (aI (iLoc 1) aNil))) (sCallV 8 mX8_takeWord (aR (rLoc 0) aNil)) (sIf (cZ zne (iCallS mX8_isDigit (aI (iLoc 1) aNil))) (sCallV 8 mX8_takeNumber (aR (rLoc 0) aNil)) (sSeq (sPutI 8 3 .int (rLoc 0) (iCond (cZ zne (iCallS mX8_isOwnSign (aI (iLoc 1) aNil))) (iLoc 1) (iK 0))) (sPutI 8 1 .int (rLoc 0) (iB gT2 (· + ·) (iGet 8 2 (rLoc 0)) (iK 1)))))))))) sRetV)
theorem kX8_next (g : GT) : MK g 2 yX8_next cX8_next 2 none mX8_next := MK.of (pcN := 99999) (pcB := 0) (pcC := 0) rfl (Sok.seq (pc1 := 139) (Sok.seq (pc1 := 8) (Sok.putI (ci := 8) (T := TX8) (NN := 6) (tt := tyX8) (j := 2) (pc1 := 1) (pc2 := 5) (ty := .int) (EokR.aload_n (q := 0) dX8_next_0) (EokI.getf (pc1 := 2) (j := 1) (ci := 8) (T := TX8) (N := 6) (EokR.aload_n (q := 0) dX8_next_1) rfl wsX8_in (by decide) flX8_13 dX8_next_2) (by decide) rfl wsX8_in tyX8_ok nmX8 (by decide) flX8_20 rfl rfl dX8_next_5) (Sok.seq (pc1 := 52) (olX8_next_1 g ) (Sok.seq (pc1 := 64) (Sok.setI_n (q := 1) (pc1 := 63) (EokI.iCallV (pc1 := 60) (Aok.aR (pc1 := 56) (EokR.getf (pc1 := 53) (j := 0) (ci := 8) (T := TX8) (N := 6) (EokR.aload_n (q := 0) dX8_next_52) rfl wsX8_in (by decide) flX8_7 dX8_next_53) (Aok.aI (pc1 := 60) (EokI.getf (pc1 := 57) (j := 2) (ci := 8) (T := TX8) (N := 6) (EokR.aload_n (q := 0) dX8_next_56) rfl wsX8_in (by decide) flX8_20 dX8_next_57) Aok.nil)) (kX7_signAt g) rfl ykX7_signAt vkX8_28 (by decide) (by decide) dX8_next_60) (by decide) dX8_next_63 (show 1 < 2 by decide)) (Sok.ite (pc1 := 69) (pc2 := 85) (Cok.cmp (pc1 := 65) (pc2 := 66) (pcT := 69) (pcF := 85) (EokI.iload_n (q := 1) dX8_next_64) (EokI.iconst (v := (-1)) dX8_next_65 (by decide)) (JI.eqF (tgt := 85) dX8_next_66 (by decide))) (by decide) (Sok.seq (pc1 := 74) (Sok.putI (ci := 8) (T := TX8) (NN := 6) (tt := tyX8) (j := 3) (pc1 := 70) (pc2 := 71) (ty := .int) (EokR.aload_n (q := 0) dX8_next_69) (EokI.iconst (v := 1) dX8_next_70 (by decide)) (by decide) rfl wsX8_in tyX8_ok nmX8 (by decide) flX8_36 rfl rfl dX8_next_71) (Sok.goto (pc1 := 82) (pcN := 139) (Sok.putI (ci := 8) (T := TX8) (NN := 6) (tt := tyX8) (j := 1) (pc1 := 75) (pc2 := 79) (ty := .int) (EokR.aload_n (q := 0) dX8_next_74) (EokI.getf (pc1 := 76) (j := 2) (ci := 8) (T := TX8) (N := 6) (EokR.aload_n (q := 0) dX8_next_75) rfl wsX8_in (by decide) flX8_20 dX8_next_76) (by decide) rfl wsX8_in tyX8_ok nmX8 (by decide) flX8_13 rfl rfl dX8_next_79) dX8_next_82 (by decide))) (Sok.ite (pc1 := 92) (pc2 := 99) (Cok.zero (pc1 := 89) (pcT := 92) (pcF := 99) (EokI.iCallS (pc1 := 86) (Aok.aI (pc1 := 86) (EokI.iload_n (q := 1) dX8_next_85) Aok.nil) (kX8_isLetter g) ykX8_isLetter skX8_39 (by decide) (by decide) dX8_next_86) (JZ.neF (tgt := 99) dX8_next_89 (by decide))) (by decide) (Sok.goto (pc1 := 96) (pcN := 139) (Sok.sCallV (pc1 := 93) (Aok.aR (pc1 := 93) (EokR.aload_n (q := 0) dX8_next_92) Aok.nil) (by decide) (kX8_takeWord g) rfl ykX8_takeWord vkX8_42 (by decide) (by decide) dX8_next_93) dX8_next_96 (by decide)) (Sok.ite (pc1 := 106) (pc2 := 113) (Cok.zero (pc1 := 103) (pcT := 106) (pcF := 113) (EokI.iCallS (pc1 := 100) (Aok.aI (pc1 := 100) (EokI.iload_n (q := 1) dX8_next_99) Aok.nil) (kX8_isDigit g) ykX8_isDigit skX8_45 (by decide) (by decide) dX8_next_100) (JZ.neF (tgt := 113) dX8_next_103 (by decide))) (by decide) (Sok.goto (pc1 := 110) (pcN := 139) (Sok.sCallV (pc1 := 107) (Aok.aR (pc1 := 107) (EokR.aload_n (q := 0) dX8_next_106) Aok.nil) (by decide) (kX8_takeNumber g) rfl ykX8_takeNumber vkX8_48 (by decide) (by decide) dX8_next_107) dX8_next_110 (by decide)) (Sok.seq (pc1 := 129) (Sok.putI (ci := 8) (T := TX8) (NN := 6) (tt := tyX8) (j := 3) (pc1 := 114) (pc2 := 126) (ty := .int) (EokR.aload_n (q := 0) dX8_next_113) (EokI.cond' (pc1 := 121) (pc2 := 125) (Cok.zero (pc1 := 118) (pcT := 121) (pcF := 125) (EokI.iCallS (pc1 := 115) (Aok.aI (pc1 := 115) (EokI.iload_n (q := 1) dX8_next_114) Aok.nil) (kX8_isOwnSign g) ykX8_isOwnSign skX8_51 (by decide) (by decide) dX8_next_115) (JZ.neF (tgt := 125) dX8_next_118 (by decide))) (EokI.goto (pc1 := 122) (pc2 := 126) (EokI.iload_n (q := 1) dX8_next_121) dX8_next_122 (by decide)) (EokI.iconst (v := 0) dX8_next_125 (by decide))) (by decide) rfl wsX8_in tyX8_ok nmX8 (by decide) flX8_36 rfl rfl dX8_next_126) (Sok.putI (ci := 8) (T := TX8) (NN := 6) (tt := tyX8) (j := 1) (pc1 := 130) (pc2 := 136) (ty := .int) (EokR.aload_n (q := 0) dX8_next_129) (EokI.bin (pc1 := 134) (pc2 := 135) (EokI.getf (pc1 := 131) (j := 2) (ci := 8) (T := TX8) (N := 6) (EokR.aload_n (q := 0) dX8_next_130) rfl wsX8_in (by decide) flX8_20 dX8_next_131) (EokI.iconst (v := 1) dX8_next_134 (by decide)) (OPI.iadd dX8_next_135)) (by decide) rfl wsX8_in tyX8_ok nmX8 (by decide) flX8_13 rfl rfl dX8_next_136)))))))) (Sok.retV dX8_next_139 rfl))
/-! PassHuts$Tokens.start()V -/
theorem dX8_start_0 : decode cX8_start 0 = .ok (.aload_n 0, 1) := by decide +kernel
theorem dX8_start_1 : decode cX8_start 1 = .ok (.iconst 0, 1) := by decide +kernel
theorem dX8_start_2 : decode cX8_start 2 = .ok (.putfield 13, 3) := by decide +kernel
theorem dX8_start_5 : decode cX8_start 5 = .ok (.aload_n 0, 1) := by decide +kernel
theorem dX8_start_6 : decode cX8_start 6 = .ok (.invokevirtual 17, 3) := by decide +kernel
theorem dX8_start_9 : decode cX8_start 9 = .ok (.return_, 1) := by decide +kernel
abbrev tX8_start (k : Nat) : MT := (RX8, cX8_start, 1, k, none)
def mX8_start : MX := bodyOf 1 (sSeq (sSeq (sPutI 8 1 .int (rLoc 0) (iK 0)) (sCallV 8 mX8_next (aR (rLoc 0) aNil))) sRetV)
theorem kX8_start (g : GT) : MK g 3 yX8_start cX8_start 1 none mX8_start := MK.of (pcN := 99999) (pcB := 0) (pcC := 0) rfl (Sok.seq (pc1 := 9) (Sok.seq (pc1 := 5) (Sok.putI (ci := 8) (T := TX8) (NN := 6) (tt := tyX8) (j := 1) (pc1 := 1) (pc2 := 2) (ty := .int) (EokR.aload_n (q := 0) dX8_start_0) (EokI.iconst (v := 0) dX8_start_1 (by decide)) (by decide) rfl wsX8_in tyX8_ok nmX8 (by decide) flX8_13 rfl rfl dX8_start_2) (Sok.sCallV (pc1 := 6) (Aok.aR (pc1 := 6) (EokR.aload_n (q := 0) dX8_start_5) Aok.nil) (by decide) (kX8_next g) rfl ykX8_next vkX8_17 (by decide) (by decide) dX8_start_6)) (Sok.retV dX8_start_9 rfl))
/-! PassHuts$Hills.hutNamed(J)I -/
theorem dX0_hutNamed_0 : decode cX0_hutNamed 0 = .ok (.iconst 0, 1) := by decide +kernel
theorem dX0_hutNamed_1 : decode cX0_hutNamed 1 = .ok (.istore_n 3, 1) := by decide +kernel
theorem dX0_hutNamed_2 : decode cX0_hutNamed 2 = .ok (.iload_n 3, 1) := by decide +kernel
theorem dX0_hutNamed_3 : decode cX0_hutNamed 3 = .ok (.aload_n 0, 1) := by decide +kernel
theorem dX0_hutNamed_4 : decode cX0_hutNamed 4 = .ok (.getfield 62, 3) := by decide +kernel
theorem dX0_hutNamed_7 : decode cX0_hutNamed 7 = .ok (.if_icmp .ge 27, 3) := by decide +kernel
theorem dX0_hutNamed_10 : decode cX0_hutNamed 10 = .ok (.iload_n 3, 1) := by decide +kernel
theorem dX0_hutNamed_11 : decode cX0_hutNamed 11 = .ok (.iconst 5, 1) := by decide +kernel
theorem dX0_hutNamed_12 : decode cX0_hutNamed 12 = .ok (.if_icmp .ge 22, 3) := by decide +kernel
theorem dX0_hutNamed_15 : decode cX0_hutNamed 15 = .ok (.aload_n 0, 1) := by decide +kernel
theorem dX0_hutNamed_16 : decode cX0_hutNamed 16 = .ok (.getfield 22, 3) := by decide +kernel
theorem dX0_hutNamed_19 : decode cX0_hutNamed 19 = .ok (.iload_n 3, 1) := by decide +kernel
theorem dX0_hutNamed_20 : decode cX0_hutNamed 20 = .ok (.laload, 1) := by decide +kernel
theorem dX0_hutNamed_21 : decode cX0_hutNamed 21 = .ok (.lload_n 1, 1) := by decide +kernel
theorem dX0_hutNamed_22 : decode cX0_hutNamed 22 = .ok (.lcmp, 1) := by decide +kernel
theorem dX0_hutNamed_23 : decode cX0_hutNamed 23 = .ok (.ifCond .ne 5, 3) := by decide +kernel
theorem dX0_hutNamed_26 : decode cX0_hutNamed 26 = .ok (.iload_n 3, 1) := by decide +kernel
theorem dX0_hutNamed_27 : decode cX0_hutNamed 27 = .ok (.ireturn, 1) := by decide +kernel
theorem dX0_hutNamed_28 : decode cX0_hutNamed 28 = .ok (.iinc 3 1, 3) := by decide +kernel
theorem dX0_hutNamed_31 : decode cX0_hutNamed 31 = .ok (.goto (-29), 3) := by decide +kernel
theorem dX0_hutNamed_34 : decode cX0_hutNamed 34 = .ok (.iconst (-1), 1) := by decide +kernel
theorem dX0_hutNamed_35 : decode cX0_hutNamed 35 = .ok (.ireturn, 1) := by decide +kernel
abbrev tX0_hutNamed (k : Nat) : MT := (RX0, cX0_hutNamed, 4, k, (some .int))
def lX0_hutNamed_1 : SX := (sLoop (cAnd (cB rlt (iLoc 3) (iGet 0 3 (rLoc 0))) (cB rlt (iLoc 3) (iK 5))) (sIf (cL leq (lALd (rGet 0 5 (rLoc 0)) (iLoc 3)) (lLoc 1)) (sRetI (iLoc 3)) sSkip) (sInc 3 1))
theorem olX0_hutNamed_1 (g : GT) {pcB pcC : Nat} : Sok g (tX0_hutNamed 0) 2 34 pcB pcC (lX0_hutNamed_1) := (Sok.loop (pc := 2) (pc1 := 15) (pc2 := 28) (pcN := 34) (Cok.and (pc1 := 10) (Cok.cmp (pc1 := 3) (pc2 := 7) (pcT := 10) (pcF := 34) (EokI.iload_n (q := 3) dX0_hutNamed_2) (EokI.getf (pc1 := 4) (j := 3) (ci := 0) (T := TX0) (N := 17) (EokR.aload_n (q := 0) dX0_hutNamed_3) rfl wsX0_in (by decide) flX0_62 dX0_hutNamed_4) (JI.ltF (tgt := 34) dX0_hutNamed_7 (by decide))) (Cok.cmp (pc1 := 11) (pc2 := 12) (pcT := 15) (pcF := 34) (EokI.iload_n (q := 3) dX0_hutNamed_10) (EokI.iconst (v := 5) dX0_hutNamed_11 (by decide)) (JI.ltF (tgt := 34) dX0_hutNamed_12 (by decide)))) (by decide) (Sok.ite (pc1 := 26) (pc2 := 28) (Cok.lcmp (pc1 := 21) (pc2 := 22) (pcT := 26) (pcF := 28) (EokL.lALd (pc1 := 19) (pc2 := 20) (EokR.getf (pc1 := 16) (j := 5) (ci := 0) (T := TX0) (N := 17) (EokR.aload_n (q := 0) dX0_hutNamed_15) rfl wsX0_in (by decide) flX0_22 dX0_hutNamed_16) (EokI.iload_n (q := 3) dX0_hutNamed_19) dX0_hutNamed_20) (EokL.lload_n (q := 1) dX0_hutNamed_21) (JL.eq dX0_hutNamed_22 (JZ.eqF (tgt := 28) dX0_hutNamed_23 (by decide)))) (by decide) (Sok.retI (pc1 := 27) (EokI.iload_n (q := 3) dX0_hutNamed_26) (by decide) dX0_hutNamed_27 rfl) (Sok.skip (pc := 28))) (Sok.goto (pc1 := 31) (pcN := 2) (Sok.iinc (i := 3) (v := 1) dX0_hutNamed_28 (show 3 < 4 by decide) (by decide)) dX0_hutNamed_31 (by decide)))
def mX0_hutNamed : MX := bodyOf 4 (sSeq (sSeq (sSeq (sSetI 3 (iK 0)) lX0_hutNamed_1) (sForget 3)) (sRetI (iK (-1))))
theorem kX0_hutNamed (g : GT) : MK g 0 yX0_hutNamed cX0_hutNamed 4 (some .int) mX0_hutNamed := MK.of (pcN := 99999) (pcB := 0) (pcC := 0) rfl (Sok.seq (pc1 := 34) (Sok.seq (pc1 := 34) (Sok.seq (pc1 := 2) (Sok.setI_n (q := 3) (pc1 := 1) (EokI.iconst (v := 0) dX0_hutNamed_0 (by decide)) (by decide) dX0_hutNamed_1 (show 3 < 4 by decide)) (olX0_hutNamed_1 g )) (Sok.forget (pc := 34))) (Sok.retI (pc1 := 35) (EokI.iconst (v := (-1)) dX0_hutNamed_34 (by decide)) (by decide) dX0_hutNamed_35 rfl))
/-! PassHuts$Hills.toldLoads()I -/
theorem dX0_toldLoads_0 : decode cX0_toldLoads 0 = .ok (.iconst 0, 1) := by decide +kernel
theorem dX0_toldLoads_1 : decode cX0_toldLoads 1 = .ok (.istore_n 1, 1) := by decide +kernel
theorem dX0_toldLoads_2 : decode cX0_toldLoads 2 = .ok (.iconst 0, 1) := by decide +kernel
theorem dX0_toldLoads_3 : decode cX0_toldLoads 3 = .ok (.istore_n 2, 1) := by decide +kernel
theorem dX0_toldLoads_4 : decode cX0_toldLoads 4 = .ok (.iload_n 2, 1) := by decide +kernel
theorem dX0_toldLoads_5 : decode cX0_toldLoads 5 = .ok (.aload_n 0, 1) := by decide +kernel
theorem dX0_toldLoads_6 : decode cX0_toldLoads 6 = .ok (.getfield 62, 3) := by decide +kernel
theorem dX0_toldLoads_9 : decode cX0_toldLoads 9 = .ok (.if_icmp .ge 23, 3) := by decide +kernel
theorem dX0_toldLoads_12 : decode cX0_toldLoads 12 = .ok (.iload_n 2, 1) := by decide +kernel
theorem dX0_toldLoads_13 : decode cX0_toldLoads 13 = .ok (.iconst 5, 1) := by decide +kernel
theorem dX0_toldLoads_14 : decode cX0_toldLoads 14 = .ok (.if_icmp .ge 18, 3) := by decide +kernel
theorem dX0_toldLoads_17 : decode cX0_toldLoads 17 = .ok (.iload_n 1, 1) := by decide +kernel
theorem dX0_toldLoads_18 : decode cX0_toldLoads 18 = .ok (.aload_n 0, 1) := by decide +kernel
theorem dX0_toldLoads_19 : decode cX0_toldLoads 19 = .ok (.getfield 26, 3) := by decide +kernel
theorem dX0_toldLoads_22 : decode cX0_toldLoads 22 = .ok (.iload_n 2, 1) := by decide +kernel
theorem dX0_toldLoads_23 : decode cX0_toldLoads 23 = .ok (.iaload, 1) := by decide +kernel
theorem dX0_toldLoads_24 : decode cX0_toldLoads 24 = .ok (.iadd, 1) := by decide +kernel
theorem dX0_toldLoads_25 : decode cX0_toldLoads 25 = .ok (.istore_n 1, 1) := by decide +kernel
theorem dX0_toldLoads_26 : decode cX0_toldLoads 26 = .ok (.iinc 2 1, 3) := by decide +kernel
theorem dX0_toldLoads_29 : decode cX0_toldLoads 29 = .ok (.goto (-25), 3) := by decide +kernel
theorem dX0_toldLoads_32 : decode cX0_toldLoads 32 = .ok (.iload_n 1, 1) := by decide +kernel
theorem dX0_toldLoads_33 : decode cX0_toldLoads 33 = .ok (.ireturn, 1) := by decide +kernel
abbrev tX0_toldLoads (k : Nat) : MT := (RX0, cX0_toldLoads, 3, k, (some .int))
def lX0_toldLoads_1 : SX := (sLoop (cAnd (cB rlt (iLoc 2) (iGet 0 3 (rLoc 0))) (cB rlt (iLoc 2) (iK 5))) (sSetI 1 (iB gT2 (· + ·) (iLoc 1) (iALd (rGet 0 6 (rLoc 0)) (iLoc 2)))) (sInc 2 1))
theorem olX0_toldLoads_1 (g : GT) {pcB pcC : Nat} : Sok g (tX0_toldLoads 0) 4 32 pcB pcC (lX0_toldLoads_1) := (Sok.loop (pc := 4) (pc1 := 17) (pc2 := 26) (pcN := 32) (Cok.and (pc1 := 12) (Cok.cmp (pc1 := 5) (pc2 := 9) (pcT := 12) (pcF := 32) (EokI.iload_n (q := 2) dX0_toldLoads_4) (EokI.getf (pc1 := 6) (j := 3) (ci := 0) (T := TX0) (N := 17) (EokR.aload_n (q := 0) dX0_toldLoads_5) rfl wsX0_in (by decide) flX0_62 dX0_toldLoads_6) (JI.ltF (tgt := 32) dX0_toldLoads_9 (by decide))) (Cok.cmp (pc1 := 13) (pc2 := 14) (pcT := 17) (pcF := 32) (EokI.iload_n (q := 2) dX0_toldLoads_12) (EokI.iconst (v := 5) dX0_toldLoads_13 (by decide)) (JI.ltF (tgt := 32) dX0_toldLoads_14 (by decide)))) (by decide) (Sok.setI_n (q := 1) (pc1 := 25) (EokI.bin (pc1 := 18) (pc2 := 24) (EokI.iload_n (q := 1) dX0_toldLoads_17) (EokI.iALd (pc1 := 22) (pc2 := 23) (EokR.getf (pc1 := 19) (j := 6) (ci := 0) (T := TX0) (N := 17) (EokR.aload_n (q := 0) dX0_toldLoads_18) rfl wsX0_in (by decide) flX0_26 dX0_toldLoads_19) (EokI.iload_n (q := 2) dX0_toldLoads_22) dX0_toldLoads_23) (OPI.iadd dX0_toldLoads_24)) (by decide) dX0_toldLoads_25 (show 1 < 3 by decide)) (Sok.goto (pc1 := 29) (pcN := 4) (Sok.iinc (i := 2) (v := 1) dX0_toldLoads_26 (show 2 < 3 by decide) (by decide)) dX0_toldLoads_29 (by decide)))
def mX0_toldLoads : MX := bodyOf 3 (sSeq (sSetI 1 (iK 0)) (sSeq (sSeq (sSeq (sSetI 2 (iK 0)) lX0_toldLoads_1) (sForget 2)) (sRetI (iLoc 1))))
theorem kX0_toldLoads (g : GT) : MK g 0 yX0_toldLoads cX0_toldLoads 3 (some .int) mX0_toldLoads := MK.of (pcN := 99999) (pcB := 0) (pcC := 0) rfl (Sok.seq (pc1 := 2) (Sok.setI_n (q := 1) (pc1 := 1) (EokI.iconst (v := 0) dX0_toldLoads_0 (by decide)) (by decide) dX0_toldLoads_1 (show 1 < 3 by decide)) (Sok.seq (pc1 := 32) (Sok.seq (pc1 := 32) (Sok.seq (pc1 := 4) (Sok.setI_n (q := 2) (pc1 := 3) (EokI.iconst (v := 0) dX0_toldLoads_2 (by decide)) (by decide) dX0_toldLoads_3 (show 2 < 3 by decide)) (olX0_toldLoads_1 g )) (Sok.forget (pc := 32))) (Sok.retI (pc1 := 33) (EokI.iload_n (q := 1) dX0_toldLoads_32) (by decide) dX0_toldLoads_33 rfl)))
/-! PassHuts$Hills.addHut(JII)V -/
theorem dX0_addHut_0 : decode cX0_addHut 0 = .ok (.aload_n 0, 1) := by decide +kernel
theorem dX0_addHut_1 : decode cX0_addHut 1 = .ok (.getfield 62, 3) := by decide +kernel
theorem dX0_addHut_4 : decode cX0_addHut 4 = .ok (.iconst 5, 1) := by decide +kernel
theorem dX0_addHut_5 : decode cX0_addHut 5 = .ok (.if_icmp .ge 44, 3) := by decide +kernel
theorem dX0_addHut_8 : decode cX0_addHut 8 = .ok (.aload_n 0, 1) := by decide +kernel
theorem dX0_addHut_9 : decode cX0_addHut 9 = .ok (.getfield 22, 3) := by decide +kernel
theorem dX0_addHut_12 : decode cX0_addHut 12 = .ok (.aload_n 0, 1) := by decide +kernel
theorem dX0_addHut_13 : decode cX0_addHut 13 = .ok (.getfield 62, 3) := by decide +kernel
theorem dX0_addHut_16 : decode cX0_addHut 16 = .ok (.lload_n 1, 1) := by decide +kernel
theorem dX0_addHut_17 : decode cX0_addHut 17 = .ok (.lastore, 1) := by decide +kernel
theorem dX0_addHut_18 : decode cX0_addHut 18 = .ok (.aload_n 0, 1) := by decide +kernel
theorem dX0_addHut_19 : decode cX0_addHut 19 = .ok (.getfield 9, 3) := by decide +kernel
theorem dX0_addHut_22 : decode cX0_addHut 22 = .ok (.aload_n 0, 1) := by decide +kernel
theorem dX0_addHut_23 : decode cX0_addHut 23 = .ok (.getfield 62, 3) := by decide +kernel
theorem dX0_addHut_26 : decode cX0_addHut 26 = .ok (.iload_n 3, 1) := by decide +kernel
theorem dX0_addHut_27 : decode cX0_addHut 27 = .ok (.iastore, 1) := by decide +kernel
theorem dX0_addHut_28 : decode cX0_addHut 28 = .ok (.aload_n 0, 1) := by decide +kernel
theorem dX0_addHut_29 : decode cX0_addHut 29 = .ok (.getfield 26, 3) := by decide +kernel
theorem dX0_addHut_32 : decode cX0_addHut 32 = .ok (.aload_n 0, 1) := by decide +kernel
theorem dX0_addHut_33 : decode cX0_addHut 33 = .ok (.getfield 62, 3) := by decide +kernel
theorem dX0_addHut_36 : decode cX0_addHut 36 = .ok (.iload 4, 2) := by decide +kernel
theorem dX0_addHut_38 : decode cX0_addHut 38 = .ok (.iastore, 1) := by decide +kernel
theorem dX0_addHut_39 : decode cX0_addHut 39 = .ok (.aload_n 0, 1) := by decide +kernel
theorem dX0_addHut_40 : decode cX0_addHut 40 = .ok (.dup, 1) := by decide +kernel
theorem dX0_addHut_41 : decode cX0_addHut 41 = .ok (.getfield 62, 3) := by decide +kernel
theorem dX0_addHut_44 : decode cX0_addHut 44 = .ok (.iconst 1, 1) := by decide +kernel
theorem dX0_addHut_45 : decode cX0_addHut 45 = .ok (.iadd, 1) := by decide +kernel
theorem dX0_addHut_46 : decode cX0_addHut 46 = .ok (.putfield 62, 3) := by decide +kernel
theorem dX0_addHut_49 : decode cX0_addHut 49 = .ok (.return_, 1) := by decide +kernel
abbrev tX0_addHut (k : Nat) : MT := (RX0, cX0_addHut, 5, k, none)
def mX0_addHut : MX := bodyOf 5 (sSeq (sIf (cB rlt (iGet 0 3 (rLoc 0)) (iK 5)) (sSeq (sAStL (rGet 0 5 (rLoc 0)) (iGet 0 3 (rLoc 0)) (lLoc 1)) (sSeq (sASt 0 narI (rGet 0 0 (rLoc 0)) (iGet 0 3 (rLoc 0)) (iLoc 3)) (sSeq (sASt 0 narI (rGet 0 6 (rLoc 0)) (iGet 0 3 (rLoc 0)) (iLoc 4)) (sUpd 0 3 gT2 (· + ·) (rLoc 0) (iK 1))))) sSkip) sRetV)
theorem kX0_addHut (g : GT) : MK g 0 yX0_addHut cX0_addHut 5 none mX0_addHut := MK.of (pcN := 99999) (pcB := 0) (pcC := 0) rfl (Sok.seq (pc1 := 49) (Sok.ite (pc1 := 8) (pc2 := 49) (Cok.cmp (pc1 := 4) (pc2 := 5) (pcT := 8) (pcF := 49) (EokI.getf (pc1 := 1) (j := 3) (ci := 0) (T := TX0) (N := 17) (EokR.aload_n (q := 0) dX0_addHut_0) rfl wsX0_in (by decide) flX0_62 dX0_addHut_1) (EokI.iconst (v := 5) dX0_addHut_4 (by decide)) (JI.ltF (tgt := 49) dX0_addHut_5 (by decide))) (by decide) (Sok.seq (pc1 := 18) (Sok.lASt (pc1 := 12) (pc2 := 16) (pc3 := 17) (EokR.getf (pc1 := 9) (j := 5) (ci := 0) (T := TX0) (N := 17) (EokR.aload_n (q := 0) dX0_addHut_8) rfl wsX0_in (by decide) flX0_22 dX0_addHut_9) (EokI.getf (pc1 := 13) (j := 3) (ci := 0) (T := TX0) (N := 17) (EokR.aload_n (q := 0) dX0_addHut_12) rfl wsX0_in (by decide) flX0_62 dX0_addHut_13) (EokL.lload_n (q := 1) dX0_addHut_16) (by decide) dX0_addHut_17) (Sok.seq (pc1 := 28) (Sok.iASt (pc1 := 22) (pc2 := 26) (pc3 := 27) (EokR.getf (pc1 := 19) (j := 0) (ci := 0) (T := TX0) (N := 17) (EokR.aload_n (q := 0) dX0_addHut_18) rfl wsX0_in (by decide) flX0_9 dX0_addHut_19) (EokI.getf (pc1 := 23) (j := 3) (ci := 0) (T := TX0) (N := 17) (EokR.aload_n (q := 0) dX0_addHut_22) rfl wsX0_in (by decide) flX0_62 dX0_addHut_23) (EokI.iload_n (q := 3) dX0_addHut_26) (by decide) dX0_addHut_27) (Sok.seq (pc1 := 39) (Sok.iASt (pc1 := 32) (pc2 := 36) (pc3 := 38) (EokR.getf (pc1 := 29) (j := 6) (ci := 0) (T := TX0) (N := 17) (EokR.aload_n (q := 0) dX0_addHut_28) rfl wsX0_in (by decide) flX0_26 dX0_addHut_29) (EokI.getf (pc1 := 33) (j := 3) (ci := 0) (T := TX0) (N := 17) (EokR.aload_n (q := 0) dX0_addHut_32) rfl wsX0_in (by decide) flX0_62 dX0_addHut_33) (EokI.iload (i := 4) dX0_addHut_36) (by decide) dX0_addHut_38) (Sok.upd (ci := 0) (T := TX0) (NN := 17) (tt := tyX0) (j := 3) (pc1 := 40) (pc2 := 45) (EokR.aload_n (q := 0) dX0_addHut_39) dX0_addHut_40 dX0_addHut_41 (EokI.iconst (v := 1) dX0_addHut_44 (by decide)) (OPI.iadd dX0_addHut_45) (by decide) rfl wsX0_in tyX0_ok nmX0 (by decide) flX0_62 rfl rfl dX0_addHut_46)))) (Sok.skip (pc := 49))) (Sok.retV dX0_addHut_49 rfl))
/-! PassHuts$Hills.isHut(I)Z -/
theorem dX0_isHut_0 : decode cX0_isHut 0 = .ok (.iload_n 1, 1) := by decide +kernel
theorem dX0_isHut_1 : decode cX0_isHut 1 = .ok (.ifCond .lt 20, 3) := by decide +kernel
theorem dX0_isHut_4 : decode cX0_isHut 4 = .ok (.iload_n 1, 1) := by decide +kernel
theorem dX0_isHut_5 : decode cX0_isHut 5 = .ok (.aload_n 0, 1) := by decide +kernel
theorem dX0_isHut_6 : decode cX0_isHut 6 = .ok (.getfield 62, 3) := by decide +kernel
theorem dX0_isHut_9 : decode cX0_isHut 9 = .ok (.if_icmp .ge 12, 3) := by decide +kernel
theorem dX0_isHut_12 : decode cX0_isHut 12 = .ok (.iload_n 1, 1) := by decide +kernel
theorem dX0_isHut_13 : decode cX0_isHut 13 = .ok (.iconst 5, 1) := by decide +kernel
theorem dX0_isHut_14 : decode cX0_isHut 14 = .ok (.if_icmp .ge 7, 3) := by decide +kernel
theorem dX0_isHut_17 : decode cX0_isHut 17 = .ok (.iconst 1, 1) := by decide +kernel
theorem dX0_isHut_18 : decode cX0_isHut 18 = .ok (.goto 4, 3) := by decide +kernel
theorem dX0_isHut_21 : decode cX0_isHut 21 = .ok (.iconst 0, 1) := by decide +kernel
theorem dX0_isHut_22 : decode cX0_isHut 22 = .ok (.ireturn, 1) := by decide +kernel
abbrev tX0_isHut (k : Nat) : MT := (RX0, cX0_isHut, 2, k, (some .boolean))
def mX0_isHut : MX := bodyOf 2 (sRetZ (iBool (cAnd (cAnd (cZ zge (iLoc 1)) (cB rlt (iLoc 1) (iGet 0 3 (rLoc 0)))) (cB rlt (iLoc 1) (iK 5)))))
theorem kX0_isHut (g : GT) : MK g 0 yX0_isHut cX0_isHut 2 (some .boolean) mX0_isHut := MK.of (pcN := 99999) (pcB := 0) (pcC := 0) rfl (Sok.retZ (pc1 := 22) (EokI.cond' (pc1 := 17) (pc2 := 21) (Cok.and (pc1 := 12) (Cok.and (pc1 := 4) (Cok.zero (pc1 := 1) (pcT := 4) (pcF := 21) (EokI.iload_n (q := 1) dX0_isHut_0) (JZ.geF (tgt := 21) dX0_isHut_1 (by decide))) (Cok.cmp (pc1 := 5) (pc2 := 9) (pcT := 12) (pcF := 21) (EokI.iload_n (q := 1) dX0_isHut_4) (EokI.getf (pc1 := 6) (j := 3) (ci := 0) (T := TX0) (N := 17) (EokR.aload_n (q := 0) dX0_isHut_5) rfl wsX0_in (by decide) flX0_62 dX0_isHut_6) (JI.ltF (tgt := 21) dX0_isHut_9 (by decide)))) (Cok.cmp (pc1 := 13) (pc2 := 14) (pcT := 17) (pcF := 21) (EokI.iload_n (q := 1) dX0_isHut_12) (EokI.iconst (v := 5) dX0_isHut_13 (by decide)) (JI.ltF (tgt := 21) dX0_isHut_14 (by decide)))) (EokI.goto (pc1 := 18) (pc2 := 22) (EokI.iconst (v := 1) dX0_isHut_17 (by decide)) dX0_isHut_18 (by decide)) (EokI.iconst (v := 0) dX0_isHut_21 (by decide))) (by decide) dX0_isHut_22 rfl)
/-! PassHuts$Hills.takesBetween(II)I -/
theorem dX0_takesBetween_0 : decode cX0_takesBetween 0 = .ok (.aload_n 0, 1) := by decide +kernel
theorem dX0_takesBetween_1 : decode cX0_takesBetween 1 = .ok (.iload_n 1, 1) := by decide +kernel
theorem dX0_takesBetween_2 : decode cX0_takesBetween 2 = .ok (.invokevirtual 75, 3) := by decide +kernel
theorem dX0_takesBetween_5 : decode cX0_takesBetween 5 = .ok (.ifCond .eq 24, 3) := by decide +kernel
theorem dX0_takesBetween_8 : decode cX0_takesBetween 8 = .ok (.aload_n 0, 1) := by decide +kernel
theorem dX0_takesBetween_9 : decode cX0_takesBetween 9 = .ok (.iload_n 2, 1) := by decide +kernel
theorem dX0_takesBetween_10 : decode cX0_takesBetween 10 = .ok (.invokevirtual 75, 3) := by decide +kernel
theorem dX0_takesBetween_13 : decode cX0_takesBetween 13 = .ok (.ifCond .eq 16, 3) := by decide +kernel
theorem dX0_takesBetween_16 : decode cX0_takesBetween 16 = .ok (.aload_n 0, 1) := by decide +kernel
theorem dX0_takesBetween_17 : decode cX0_takesBetween 17 = .ok (.getfield 29, 3) := by decide +kernel
theorem dX0_takesBetween_20 : decode cX0_takesBetween 20 = .ok (.iload_n 1, 1) := by decide +kernel
theorem dX0_takesBetween_21 : decode cX0_takesBetween 21 = .ok (.iconst 5, 1) := by decide +kernel
theorem dX0_takesBetween_22 : decode cX0_takesBetween 22 = .ok (.imul, 1) := by decide +kernel
theorem dX0_takesBetween_23 : decode cX0_takesBetween 23 = .ok (.iload_n 2, 1) := by decide +kernel
theorem dX0_takesBetween_24 : decode cX0_takesBetween 24 = .ok (.iadd, 1) := by decide +kernel
theorem dX0_takesBetween_25 : decode cX0_takesBetween 25 = .ok (.iaload, 1) := by decide +kernel
theorem dX0_takesBetween_26 : decode cX0_takesBetween 26 = .ok (.goto 4, 3) := by decide +kernel
theorem dX0_takesBetween_29 : decode cX0_takesBetween 29 = .ok (.iconst 0, 1) := by decide +kernel
theorem dX0_takesBetween_30 : decode cX0_takesBetween 30 = .ok (.ireturn, 1) := by decide +kernel
abbrev tX0_takesBetween (k : Nat) : MT := (RX0, cX0_takesBetween, 3, k, (some .int))
def mX0_takesBetween : MX := bodyOf 3 (sRetI (iCond (cAnd (cZ zne (iCallV 0 mX0_isHut (aR (rLoc 0) (aI (iLoc 1) aNil)))) (cZ zne (iCallV 0 mX0_isHut (aR (rLoc 0) (aI (iLoc 2) aNil))))) (iALd (rGet 0 7 (rLoc 0)) (iB gT2 (· + ·) (iB gT2 (· * ·) (iLoc 1) (iK 5)) (iLoc 2))) (iK 0)))
theorem kX0_takesBetween (g : GT) : MK g 1 yX0_takesBetween cX0_takesBetween 3 (some .int) mX0_takesBetween := MK.of (pcN := 99999) (pcB := 0) (pcC := 0) rfl (Sok.retI (pc1 := 30) (EokI.cond' (pc1 := 16) (pc2 := 29) (Cok.and (pc1 := 8) (Cok.zero (pc1 := 5) (pcT := 8) (pcF := 29) (EokI.iCallV (pc1 := 2) (Aok.aR (pc1 := 1) (EokR.aload_n (q := 0) dX0_takesBetween_0) (Aok.aI (pc1 := 2) (EokI.iload_n (q := 1) dX0_takesBetween_1) Aok.nil)) (kX0_isHut g) rfl ykX0_isHut vkX0_75 (by decide) (by decide) dX0_takesBetween_2) (JZ.neF (tgt := 29) dX0_takesBetween_5 (by decide))) (Cok.zero (pc1 := 13) (pcT := 16) (pcF := 29) (EokI.iCallV (pc1 := 10) (Aok.aR (pc1 := 9) (EokR.aload_n (q := 0) dX0_takesBetween_8) (Aok.aI (pc1 := 10) (EokI.iload_n (q := 2) dX0_takesBetween_9) Aok.nil)) (kX0_isHut g) rfl ykX0_isHut vkX0_75 (by decide) (by decide) dX0_takesBetween_10) (JZ.neF (tgt := 29) dX0_takesBetween_13 (by decide)))) (EokI.goto (pc1 := 26) (pc2 := 30) (EokI.iALd (pc1 := 20) (pc2 := 25) (EokR.getf (pc1 := 17) (j := 7) (ci := 0) (T := TX0) (N := 17) (EokR.aload_n (q := 0) dX0_takesBetween_16) rfl wsX0_in (by decide) flX0_29 dX0_takesBetween_17) (EokI.bin (pc1 := 23) (pc2 := 24) (EokI.bin (pc1 := 21) (pc2 := 22) (EokI.iload_n (q := 1) dX0_takesBetween_20) (EokI.iconst (v := 5) dX0_takesBetween_21 (by decide)) (OPI.imul dX0_takesBetween_22)) (EokI.iload_n (q := 2) dX0_takesBetween_23) (OPI.iadd dX0_takesBetween_24)) dX0_takesBetween_25) dX0_takesBetween_26 (by decide)) (EokI.iconst (v := 0) dX0_takesBetween_29 (by decide))) (by decide) dX0_takesBetween_30 rfl)
/-! PassHuts$Hills.addPath(III)V -/
theorem dX0_addPath_0 : decode cX0_addPath 0 = .ok (.aload_n 0, 1) := by decide +kernel
theorem dX0_addPath_1 : decode cX0_addPath 1 = .ok (.iload_n 1, 1) := by decide +kernel
theorem dX0_addPath_2 : decode cX0_addPath 2 = .ok (.invokevirtual 75, 3) := by decide +kernel
theorem dX0_addPath_5 : decode cX0_addPath 5 = .ok (.ifCond .eq 33, 3) := by decide +kernel
theorem dX0_addPath_8 : decode cX0_addPath 8 = .ok (.aload_n 0, 1) := by decide +kernel
theorem dX0_addPath_9 : decode cX0_addPath 9 = .ok (.iload_n 2, 1) := by decide +kernel
theorem dX0_addPath_10 : decode cX0_addPath 10 = .ok (.invokevirtual 75, 3) := by decide +kernel
theorem dX0_addPath_13 : decode cX0_addPath 13 = .ok (.ifCond .eq 25, 3) := by decide +kernel
theorem dX0_addPath_16 : decode cX0_addPath 16 = .ok (.aload_n 0, 1) := by decide +kernel
theorem dX0_addPath_17 : decode cX0_addPath 17 = .ok (.getfield 29, 3) := by decide +kernel
theorem dX0_addPath_20 : decode cX0_addPath 20 = .ok (.iload_n 1, 1) := by decide +kernel
theorem dX0_addPath_21 : decode cX0_addPath 21 = .ok (.iconst 5, 1) := by decide +kernel
theorem dX0_addPath_22 : decode cX0_addPath 22 = .ok (.imul, 1) := by decide +kernel
theorem dX0_addPath_23 : decode cX0_addPath 23 = .ok (.iload_n 2, 1) := by decide +kernel
theorem dX0_addPath_24 : decode cX0_addPath 24 = .ok (.iadd, 1) := by decide +kernel
theorem dX0_addPath_25 : decode cX0_addPath 25 = .ok (.iload_n 3, 1) := by decide +kernel
theorem dX0_addPath_26 : decode cX0_addPath 26 = .ok (.iastore, 1) := by decide +kernel
theorem dX0_addPath_27 : decode cX0_addPath 27 = .ok (.aload_n 0, 1) := by decide +kernel
theorem dX0_addPath_28 : decode cX0_addPath 28 = .ok (.getfield 29, 3) := by decide +kernel
theorem dX0_addPath_31 : decode cX0_addPath 31 = .ok (.iload_n 2, 1) := by decide +kernel
theorem dX0_addPath_32 : decode cX0_addPath 32 = .ok (.iconst 5, 1) := by decide +kernel
theorem dX0_addPath_33 : decode cX0_addPath 33 = .ok (.imul, 1) := by decide +kernel
theorem dX0_addPath_34 : decode cX0_addPath 34 = .ok (.iload_n 1, 1) := by decide +kernel
theorem dX0_addPath_35 : decode cX0_addPath 35 = .ok (.iadd, 1) := by decide +kernel
theorem dX0_addPath_36 : decode cX0_addPath 36 = .ok (.iload_n 3, 1) := by decide +kernel
theorem dX0_addPath_37 : decode cX0_addPath 37 = .ok (.iastore, 1) := by decide +kernel
theorem dX0_addPath_38 : decode cX0_addPath 38 = .ok (.return_, 1) := by decide +kernel
abbrev tX0_addPath (k : Nat) : MT := (RX0, cX0_addPath, 4, k, none)
def mX0_addPath : MX := bodyOf 4 (sSeq (sIf (cAnd (cZ zne (iCallV 0 mX0_isHut (aR (rLoc 0) (aI (iLoc 1) aNil)))) (cZ zne (iCallV 0 mX0_isHut (aR (rLoc 0) (aI (iLoc 2) aNil))))) (sSeq (sASt 0 narI (rGet 0 7 (rLoc 0)) (iB gT2 (· + ·) (iB gT2 (· * ·) (iLoc 1) (iK 5)) (iLoc 2)) (iLoc 3)) (sASt 0 narI (rGet 0 7 (rLoc 0)) (iB gT2 (· + ·) (iB gT2 (· * ·) (iLoc 2) (iK 5)) (iLoc 1)) (iLoc 3))) sSkip) sRetV)
theorem kX0_addPath (g : GT) : MK g 1 yX0_addPath cX0_addPath 4 none mX0_addPath := MK.of (pcN := 99999) (pcB := 0) (pcC := 0) rfl (Sok.seq (pc1 := 38) (Sok.ite (pc1 := 16) (pc2 := 38) (Cok.and (pc1 := 8) (Cok.zero (pc1 := 5) (pcT := 8) (pcF := 38) (EokI.iCallV (pc1 := 2) (Aok.aR (pc1 := 1) (EokR.aload_n (q := 0) dX0_addPath_0) (Aok.aI (pc1 := 2) (EokI.iload_n (q := 1) dX0_addPath_1) Aok.nil)) (kX0_isHut g) rfl ykX0_isHut vkX0_75 (by decide) (by decide) dX0_addPath_2) (JZ.neF (tgt := 38) dX0_addPath_5 (by decide))) (Cok.zero (pc1 := 13) (pcT := 16) (pcF := 38) (EokI.iCallV (pc1 := 10) (Aok.aR (pc1 := 9) (EokR.aload_n (q := 0) dX0_addPath_8) (Aok.aI (pc1 := 10) (EokI.iload_n (q := 2) dX0_addPath_9) Aok.nil)) (kX0_isHut g) rfl ykX0_isHut vkX0_75 (by decide) (by decide) dX0_addPath_10) (JZ.neF (tgt := 38) dX0_addPath_13 (by decide)))) (by decide) (Sok.seq (pc1 := 27) (Sok.iASt (pc1 := 20) (pc2 := 25) (pc3 := 26) (EokR.getf (pc1 := 17) (j := 7) (ci := 0) (T := TX0) (N := 17) (EokR.aload_n (q := 0) dX0_addPath_16) rfl wsX0_in (by decide) flX0_29 dX0_addPath_17) (EokI.bin (pc1 := 23) (pc2 := 24) (EokI.bin (pc1 := 21) (pc2 := 22) (EokI.iload_n (q := 1) dX0_addPath_20) (EokI.iconst (v := 5) dX0_addPath_21 (by decide)) (OPI.imul dX0_addPath_22)) (EokI.iload_n (q := 2) dX0_addPath_23) (OPI.iadd dX0_addPath_24)) (EokI.iload_n (q := 3) dX0_addPath_25) (by decide) dX0_addPath_26) (Sok.iASt (pc1 := 31) (pc2 := 36) (pc3 := 37) (EokR.getf (pc1 := 28) (j := 7) (ci := 0) (T := TX0) (N := 17) (EokR.aload_n (q := 0) dX0_addPath_27) rfl wsX0_in (by decide) flX0_29 dX0_addPath_28) (EokI.bin (pc1 := 34) (pc2 := 35) (EokI.bin (pc1 := 32) (pc2 := 33) (EokI.iload_n (q := 2) dX0_addPath_31) (EokI.iconst (v := 5) dX0_addPath_32 (by decide)) (OPI.imul dX0_addPath_33)) (EokI.iload_n (q := 1) dX0_addPath_34) (OPI.iadd dX0_addPath_35)) (EokI.iload_n (q := 3) dX0_addPath_36) (by decide) dX0_addPath_37)) (Sok.skip (pc := 38))) (Sok.retV dX0_addPath_38 rfl))
/-! PassHuts$Law.factNamed(J)I -/
theorem dX1_factNamed_0 : decode cX1_factNamed 0 = .ok (.lload_n 0, 1) := by decide +kernel
theorem dX1_factNamed_1 : decode cX1_factNamed 1 = .ok (.ldc2_w 28, 3) := by decide +kernel
theorem dX1_factNamed_4 : decode cX1_factNamed 4 = .ok (.lcmp, 1) := by decide +kernel
theorem dX1_factNamed_5 : decode cX1_factNamed 5 = .ok (.ifCond .ne 5, 3) := by decide +kernel
theorem dX1_factNamed_8 : decode cX1_factNamed 8 = .ok (.iconst (-1), 1) := by decide +kernel
theorem dX1_factNamed_9 : decode cX1_factNamed 9 = .ok (.ireturn, 1) := by decide +kernel
theorem dX1_factNamed_10 : decode cX1_factNamed 10 = .ok (.lload_n 0, 1) := by decide +kernel
theorem dX1_factNamed_11 : decode cX1_factNamed 11 = .ok (.ldc2_w 30, 3) := by decide +kernel
theorem dX1_factNamed_14 : decode cX1_factNamed 14 = .ok (.lcmp, 1) := by decide +kernel
theorem dX1_factNamed_15 : decode cX1_factNamed 15 = .ok (.ifCond .ne 6, 3) := by decide +kernel
theorem dX1_factNamed_18 : decode cX1_factNamed 18 = .ok (.bipush (-2), 2) := by decide +kernel
theorem dX1_factNamed_20 : decode cX1_factNamed 20 = .ok (.ireturn, 1) := by decide +kernel
theorem dX1_factNamed_21 : decode cX1_factNamed 21 = .ok (.lload_n 0, 1) := by decide +kernel
theorem dX1_factNamed_22 : decode cX1_factNamed 22 = .ok (.ldc2_w 32, 3) := by decide +kernel
theorem dX1_factNamed_25 : decode cX1_factNamed 25 = .ok (.lcmp, 1) := by decide +kernel
theorem dX1_factNamed_26 : decode cX1_factNamed 26 = .ok (.ifCond .ne 6, 3) := by decide +kernel
theorem dX1_factNamed_29 : decode cX1_factNamed 29 = .ok (.bipush (-3), 2) := by decide +kernel
theorem dX1_factNamed_31 : decode cX1_factNamed 31 = .ok (.ireturn, 1) := by decide +kernel
theorem dX1_factNamed_32 : decode cX1_factNamed 32 = .ok (.lload_n 0, 1) := by decide +kernel
theorem dX1_factNamed_33 : decode cX1_factNamed 33 = .ok (.ldc2_w 34, 3) := by decide +kernel
theorem dX1_factNamed_36 : decode cX1_factNamed 36 = .ok (.lcmp, 1) := by decide +kernel
theorem dX1_factNamed_37 : decode cX1_factNamed 37 = .ok (.ifCond .ne 8, 3) := by decide +kernel
theorem dX1_factNamed_40 : decode cX1_factNamed 40 = .ok (.bipush (-4), 2) := by decide +kernel
theorem dX1_factNamed_42 : decode cX1_factNamed 42 = .ok (.goto 4, 3) := by decide +kernel
theorem dX1_factNamed_45 : decode cX1_factNamed 45 = .ok (.iconst 0, 1) := by decide +kernel
theorem dX1_factNamed_46 : decode cX1_factNamed 46 = .ok (.ireturn, 1) := by decide +kernel
abbrev tX1_factNamed (k : Nat) : MT := (RX1, cX1_factNamed, 2, k, (some .int))
def mX1_factNamed : MX := bodyOf 2 (sSeq (sIf (cL leq (lLoc 0) (lK 1751478885)) (sRetI (iK (-1))) sSkip) (sSeq (sIf (cL leq (lLoc 0) (lK 499967685221)) (sRetI (iK (-2))) sSkip) (sSeq (sIf (cL leq (lLoc 0) (lK 482955846501)) (sRetI (iK (-3))) sSkip) (sRetI (iCond (cL leq (lLoc 0) (lK 6384748)) (iK (-4)) (iK 0))))))
theorem kX1_factNamed (g : GT) : MK g 0 yX1_factNamed cX1_factNamed 2 (some .int) mX1_factNamed := MK.of (pcN := 99999) (pcB := 0) (pcC := 0) rfl (Sok.seq (pc1 := 10) (Sok.ite (pc1 := 8) (pc2 := 10) (Cok.lcmp (pc1 := 1) (pc2 := 4) (pcT := 8) (pcF := 10) (EokL.lload_n (q := 0) dX1_factNamed_0) (EokL.ldc2 (v := 1751478885) ckX1_28 dX1_factNamed_1) (JL.eq dX1_factNamed_4 (JZ.eqF (tgt := 10) dX1_factNamed_5 (by decide)))) (by decide) (Sok.retI (pc1 := 9) (EokI.iconst (v := (-1)) dX1_factNamed_8 (by decide)) (by decide) dX1_factNamed_9 rfl) (Sok.skip (pc := 10))) (Sok.seq (pc1 := 21) (Sok.ite (pc1 := 18) (pc2 := 21) (Cok.lcmp (pc1 := 11) (pc2 := 14) (pcT := 18) (pcF := 21) (EokL.lload_n (q := 0) dX1_factNamed_10) (EokL.ldc2 (v := 499967685221) ckX1_30 dX1_factNamed_11) (JL.eq dX1_factNamed_14 (JZ.eqF (tgt := 21) dX1_factNamed_15 (by decide)))) (by decide) (Sok.retI (pc1 := 20) (EokI.bipush (v := (-2)) dX1_factNamed_18 (by decide)) (by decide) dX1_factNamed_20 rfl) (Sok.skip (pc := 21))) (Sok.seq (pc1 := 32) (Sok.ite (pc1 := 29) (pc2 := 32) (Cok.lcmp (pc1 := 22) (pc2 := 25) (pcT := 29) (pcF := 32) (EokL.lload_n (q := 0) dX1_factNamed_21) (EokL.ldc2 (v := 482955846501) ckX1_32 dX1_factNamed_22) (JL.eq dX1_factNamed_25 (JZ.eqF (tgt := 32) dX1_factNamed_26 (by decide)))) (by decide) (Sok.retI (pc1 := 31) (EokI.bipush (v := (-3)) dX1_factNamed_29 (by decide)) (by decide) dX1_factNamed_31 rfl) (Sok.skip (pc := 32))) (Sok.retI (pc1 := 46) (EokI.cond' (pc1 := 40) (pc2 := 45) (Cok.lcmp (pc1 := 33) (pc2 := 36) (pcT := 40) (pcF := 45) (EokL.lload_n (q := 0) dX1_factNamed_32) (EokL.ldc2 (v := 6384748) ckX1_34 dX1_factNamed_33) (JL.eq dX1_factNamed_36 (JZ.eqF (tgt := 45) dX1_factNamed_37 (by decide)))) (EokI.goto (pc1 := 42) (pc2 := 46) (EokI.bipush (v := (-4)) dX1_factNamed_40 (by decide)) dX1_factNamed_42 (by decide)) (EokI.iconst (v := 0) dX1_factNamed_45 (by decide))) (by decide) dX1_factNamed_46 rfl))))
/-! PassHuts$Law.add(I)V -/
theorem dX1_add_0 : decode cX1_add 0 = .ok (.aload_n 0, 1) := by decide +kernel
theorem dX1_add_1 : decode cX1_add 1 = .ok (.getfield 36, 3) := by decide +kernel
theorem dX1_add_4 : decode cX1_add 4 = .ok (.aload_n 0, 1) := by decide +kernel
theorem dX1_add_5 : decode cX1_add 5 = .ok (.getfield 11, 3) := by decide +kernel
theorem dX1_add_8 : decode cX1_add 8 = .ok (.arraylength, 1) := by decide +kernel
theorem dX1_add_9 : decode cX1_add 9 = .ok (.if_icmp .ge 23, 3) := by decide +kernel
theorem dX1_add_12 : decode cX1_add 12 = .ok (.aload_n 0, 1) := by decide +kernel
theorem dX1_add_13 : decode cX1_add 13 = .ok (.getfield 11, 3) := by decide +kernel
theorem dX1_add_16 : decode cX1_add 16 = .ok (.aload_n 0, 1) := by decide +kernel
theorem dX1_add_17 : decode cX1_add 17 = .ok (.getfield 36, 3) := by decide +kernel
theorem dX1_add_20 : decode cX1_add 20 = .ok (.iload_n 1, 1) := by decide +kernel
theorem dX1_add_21 : decode cX1_add 21 = .ok (.iastore, 1) := by decide +kernel
theorem dX1_add_22 : decode cX1_add 22 = .ok (.aload_n 0, 1) := by decide +kernel
theorem dX1_add_23 : decode cX1_add 23 = .ok (.dup, 1) := by decide +kernel
theorem dX1_add_24 : decode cX1_add 24 = .ok (.getfield 36, 3) := by decide +kernel
theorem dX1_add_27 : decode cX1_add 27 = .ok (.iconst 1, 1) := by decide +kernel
theorem dX1_add_28 : decode cX1_add 28 = .ok (.iadd, 1) := by decide +kernel
theorem dX1_add_29 : decode cX1_add 29 = .ok (.putfield 36, 3) := by decide +kernel
theorem dX1_add_32 : decode cX1_add 32 = .ok (.return_, 1) := by decide +kernel
abbrev tX1_add (k : Nat) : MT := (RX1, cX1_add, 2, k, none)
def mX1_add : MX := bodyOf 2 (sSeq (sIf (cB rlt (iGet 1 5 (rLoc 0)) (iLen (rGet 1 0 (rLoc 0)))) (sSeq (sASt 0 narI (rGet 1 0 (rLoc 0)) (iGet 1 5 (rLoc 0)) (iLoc 1)) (sUpd 1 5 gT2 (· + ·) (rLoc 0) (iK 1))) sSkip) sRetV)
theorem kX1_add (g : GT) : MK g 0 yX1_add cX1_add 2 none mX1_add := MK.of (pcN := 99999) (pcB := 0) (pcC := 0) rfl (Sok.seq (pc1 := 32) (Sok.ite (pc1 := 12) (pc2 := 32) (Cok.cmp (pc1 := 4) (pc2 := 9) (pcT := 12) (pcF := 32) (EokI.getf (pc1 := 1) (j := 5) (ci := 1) (T := TX1) (N := 6) (EokR.aload_n (q := 0) dX1_add_0) rfl wsX1_in (by decide) flX1_36 dX1_add_1) (EokI.alen (pc1 := 8) (EokR.getf (pc1 := 5) (j := 0) (ci := 1) (T := TX1) (N := 6) (EokR.aload_n (q := 0) dX1_add_4) rfl wsX1_in (by decide) flX1_11 dX1_add_5) dX1_add_8) (JI.ltF (tgt := 32) dX1_add_9 (by decide))) (by decide) (Sok.seq (pc1 := 22) (Sok.iASt (pc1 := 16) (pc2 := 20) (pc3 := 21) (EokR.getf (pc1 := 13) (j := 0) (ci := 1) (T := TX1) (N := 6) (EokR.aload_n (q := 0) dX1_add_12) rfl wsX1_in (by decide) flX1_11 dX1_add_13) (EokI.getf (pc1 := 17) (j := 5) (ci := 1) (T := TX1) (N := 6) (EokR.aload_n (q := 0) dX1_add_16) rfl wsX1_in (by decide) flX1_36 dX1_add_17) (EokI.iload_n (q := 1) dX1_add_20) (by decide) dX1_add_21) (Sok.upd (ci := 1) (T := TX1) (NN := 6) (tt := tyX1) (j := 5) (pc1 := 23) (pc2 := 28) (EokR.aload_n (q := 0) dX1_add_22) dX1_add_23 dX1_add_24 (EokI.iconst (v := 1) dX1_add_27 (by decide)) (OPI.iadd dX1_add_28) (by decide) rfl wsX1_in tyX1_ok nmX1 (by decide) flX1_36 rfl rfl dX1_add_29)) (Sok.skip (pc := 32))) (Sok.retV dX1_add_32 rfl))
/-! PassHuts$Tape.clear()V -/
theorem dX7_clear_0 : decode cX7_clear 0 = .ok (.aload_n 0, 1) := by decide +kernel
theorem dX7_clear_1 : decode cX7_clear 1 = .ok (.iconst 0, 1) := by decide +kernel
theorem dX7_clear_2 : decode cX7_clear 2 = .ok (.putfield 15, 3) := by decide +kernel
theorem dX7_clear_5 : decode cX7_clear 5 = .ok (.return_, 1) := by decide +kernel
abbrev tX7_clear (k : Nat) : MT := (RX7, cX7_clear, 1, k, none)
def mX7_clear : MX := bodyOf 1 (sSeq (sPutI 7 1 .int (rLoc 0) (iK 0)) sRetV)
theorem kX7_clear (g : GT) : MK g 0 yX7_clear cX7_clear 1 none mX7_clear := MK.of (pcN := 99999) (pcB := 0) (pcC := 0) rfl (Sok.seq (pc1 := 5) (Sok.putI (ci := 7) (T := TX7) (NN := 2) (tt := tyX7) (j := 1) (pc1 := 1) (pc2 := 2) (ty := .int) (EokR.aload_n (q := 0) dX7_clear_0) (EokI.iconst (v := 0) dX7_clear_1 (by decide)) (by decide) rfl wsX7_in tyX7_ok nmX7 (by decide) flX7_15 rfl rfl dX7_clear_2) (Sok.retV dX7_clear_5 rfl))
/-! PassHuts$Hills.shiftOf(I)I -/
theorem dX0_shiftOf_0 : decode cX0_shiftOf 0 = .ok (.iconst 4, 1) := by decide +kernel
theorem dX0_shiftOf_1 : decode cX0_shiftOf 1 = .ok (.aload_n 0, 1) := by decide +kernel
theorem dX0_shiftOf_2 : decode cX0_shiftOf 2 = .ok (.getfield 62, 3) := by decide +kernel
theorem dX0_shiftOf_5 : decode cX0_shiftOf 5 = .ok (.iconst 1, 1) := by decide +kernel
theorem dX0_shiftOf_6 : decode cX0_shiftOf 6 = .ok (.isub, 1) := by decide +kernel
theorem dX0_shiftOf_7 : decode cX0_shiftOf 7 = .ok (.iload_n 1, 1) := by decide +kernel
theorem dX0_shiftOf_8 : decode cX0_shiftOf 8 = .ok (.isub, 1) := by decide +kernel
theorem dX0_shiftOf_9 : decode cX0_shiftOf 9 = .ok (.imul, 1) := by decide +kernel
theorem dX0_shiftOf_10 : decode cX0_shiftOf 10 = .ok (.ireturn, 1) := by decide +kernel
abbrev tX0_shiftOf (k : Nat) : MT := (RX0, cX0_shiftOf, 2, k, (some .int))
def mX0_shiftOf : MX := bodyOf 2 (sRetI (iB gT2 (· * ·) (iK 4) (iB gT2 (· - ·) (iB gT2 (· - ·) (iGet 0 3 (rLoc 0)) (iK 1)) (iLoc 1))))
theorem kX0_shiftOf (g : GT) : MK g 0 yX0_shiftOf cX0_shiftOf 2 (some .int) mX0_shiftOf := MK.of (pcN := 99999) (pcB := 0) (pcC := 0) rfl (Sok.retI (pc1 := 10) (EokI.bin (pc1 := 1) (pc2 := 9) (EokI.iconst (v := 4) dX0_shiftOf_0 (by decide)) (EokI.bin (pc1 := 7) (pc2 := 8) (EokI.bin (pc1 := 5) (pc2 := 6) (EokI.getf (pc1 := 2) (j := 3) (ci := 0) (T := TX0) (N := 17) (EokR.aload_n (q := 0) dX0_shiftOf_1) rfl wsX0_in (by decide) flX0_62 dX0_shiftOf_2) (EokI.iconst (v := 1) dX0_shiftOf_5 (by decide)) (OPI.isub dX0_shiftOf_6)) (EokI.iload_n (q := 1) dX0_shiftOf_7) (OPI.isub dX0_shiftOf_8)) (OPI.imul dX0_shiftOf_9)) (by decide) dX0_shiftOf_10 rfl)
/-! PassHuts$Hills.addWay(II)V -/
theorem dX0_addWay_0 : decode cX0_addWay 0 = .ok (.aload_n 0, 1) := by decide +kernel
theorem dX0_addWay_1 : decode cX0_addWay 1 = .ok (.getfield 66, 3) := by decide +kernel
theorem dX0_addWay_4 : decode cX0_addWay 4 = .ok (.bipush 20, 2) := by decide +kernel
theorem dX0_addWay_6 : decode cX0_addWay 6 = .ok (.if_icmp .ge 188, 3) := by decide +kernel
theorem dX0_addWay_9 : decode cX0_addWay 9 = .ok (.aload_n 0, 1) := by decide +kernel
theorem dX0_addWay_10 : decode cX0_addWay 10 = .ok (.iload_n 1, 1) := by decide +kernel
theorem dX0_addWay_11 : decode cX0_addWay 11 = .ok (.invokevirtual 75, 3) := by decide +kernel
theorem dX0_addWay_14 : decode cX0_addWay 14 = .ok (.ifCond .eq 180, 3) := by decide +kernel
theorem dX0_addWay_17 : decode cX0_addWay 17 = .ok (.aload_n 0, 1) := by decide +kernel
theorem dX0_addWay_18 : decode cX0_addWay 18 = .ok (.iload_n 2, 1) := by decide +kernel
theorem dX0_addWay_19 : decode cX0_addWay 19 = .ok (.invokevirtual 75, 3) := by decide +kernel
theorem dX0_addWay_22 : decode cX0_addWay 22 = .ok (.ifCond .eq 172, 3) := by decide +kernel
theorem dX0_addWay_25 : decode cX0_addWay 25 = .ok (.aload_n 0, 1) := by decide +kernel
theorem dX0_addWay_26 : decode cX0_addWay 26 = .ok (.iload_n 1, 1) := by decide +kernel
theorem dX0_addWay_27 : decode cX0_addWay 27 = .ok (.iload_n 2, 1) := by decide +kernel
theorem dX0_addWay_28 : decode cX0_addWay 28 = .ok (.invokevirtual 79, 3) := by decide +kernel
theorem dX0_addWay_31 : decode cX0_addWay 31 = .ok (.istore_n 3, 1) := by decide +kernel
theorem dX0_addWay_32 : decode cX0_addWay 32 = .ok (.aload_n 0, 1) := by decide +kernel
theorem dX0_addWay_33 : decode cX0_addWay 33 = .ok (.getfield 9, 3) := by decide +kernel
theorem dX0_addWay_36 : decode cX0_addWay 36 = .ok (.iload_n 1, 1) := by decide +kernel
theorem dX0_addWay_37 : decode cX0_addWay 37 = .ok (.iaload, 1) := by decide +kernel
theorem dX0_addWay_38 : decode cX0_addWay 38 = .ok (.iconst 1, 1) := by decide +kernel
theorem dX0_addWay_39 : decode cX0_addWay 39 = .ok (.if_icmp .ne 11, 3) := by decide +kernel
theorem dX0_addWay_42 : decode cX0_addWay 42 = .ok (.iconst 2, 1) := by decide +kernel
theorem dX0_addWay_43 : decode cX0_addWay 43 = .ok (.iload_n 3, 1) := by decide +kernel
theorem dX0_addWay_44 : decode cX0_addWay 44 = .ok (.iconst 1, 1) := by decide +kernel
theorem dX0_addWay_45 : decode cX0_addWay 45 = .ok (.isub, 1) := by decide +kernel
theorem dX0_addWay_46 : decode cX0_addWay 46 = .ok (.invokestatic 91, 3) := by decide +kernel
theorem dX0_addWay_49 : decode cX0_addWay 49 = .ok (.istore_n 3, 1) := by decide +kernel
theorem dX0_addWay_50 : decode cX0_addWay 50 = .ok (.aload_n 0, 1) := by decide +kernel
theorem dX0_addWay_51 : decode cX0_addWay 51 = .ok (.getfield 9, 3) := by decide +kernel
theorem dX0_addWay_54 : decode cX0_addWay 54 = .ok (.iload_n 2, 1) := by decide +kernel
theorem dX0_addWay_55 : decode cX0_addWay 55 = .ok (.iaload, 1) := by decide +kernel
theorem dX0_addWay_56 : decode cX0_addWay 56 = .ok (.iconst 2, 1) := by decide +kernel
theorem dX0_addWay_57 : decode cX0_addWay 57 = .ok (.if_icmp .ne 6, 3) := by decide +kernel
theorem dX0_addWay_60 : decode cX0_addWay 60 = .ok (.iinc 3 1, 3) := by decide +kernel
theorem dX0_addWay_63 : decode cX0_addWay 63 = .ok (.aload_n 0, 1) := by decide +kernel
theorem dX0_addWay_64 : decode cX0_addWay 64 = .ok (.getfield 35, 3) := by decide +kernel
theorem dX0_addWay_67 : decode cX0_addWay 67 = .ok (.aload_n 0, 1) := by decide +kernel
theorem dX0_addWay_68 : decode cX0_addWay 68 = .ok (.getfield 66, 3) := by decide +kernel
theorem dX0_addWay_71 : decode cX0_addWay 71 = .ok (.iload_n 3, 1) := by decide +kernel
theorem dX0_addWay_72 : decode cX0_addWay 72 = .ok (.iastore, 1) := by decide +kernel
theorem dX0_addWay_73 : decode cX0_addWay 73 = .ok (.aload_n 0, 1) := by decide +kernel
theorem dX0_addWay_74 : decode cX0_addWay 74 = .ok (.getfield 38, 3) := by decide +kernel
theorem dX0_addWay_77 : decode cX0_addWay 77 = .ok (.aload_n 0, 1) := by decide +kernel
theorem dX0_addWay_78 : decode cX0_addWay 78 = .ok (.getfield 66, 3) := by decide +kernel
theorem dX0_addWay_81 : decode cX0_addWay 81 = .ok (.iload_n 1, 1) := by decide +kernel
theorem dX0_addWay_82 : decode cX0_addWay 82 = .ok (.iastore, 1) := by decide +kernel
theorem dX0_addWay_83 : decode cX0_addWay 83 = .ok (.aload_n 0, 1) := by decide +kernel
theorem dX0_addWay_84 : decode cX0_addWay 84 = .ok (.getfield 41, 3) := by decide +kernel
theorem dX0_addWay_87 : decode cX0_addWay 87 = .ok (.aload_n 0, 1) := by decide +kernel
theorem dX0_addWay_88 : decode cX0_addWay 88 = .ok (.getfield 66, 3) := by decide +kernel
theorem dX0_addWay_91 : decode cX0_addWay 91 = .ok (.iload_n 2, 1) := by decide +kernel
theorem dX0_addWay_92 : decode cX0_addWay 92 = .ok (.iastore, 1) := by decide +kernel
theorem dX0_addWay_93 : decode cX0_addWay 93 = .ok (.aload_n 0, 1) := by decide +kernel
theorem dX0_addWay_94 : decode cX0_addWay 94 = .ok (.getfield 44, 3) := by decide +kernel
theorem dX0_addWay_97 : decode cX0_addWay 97 = .ok (.aload_n 0, 1) := by decide +kernel
theorem dX0_addWay_98 : decode cX0_addWay 98 = .ok (.getfield 66, 3) := by decide +kernel
theorem dX0_addWay_101 : decode cX0_addWay 101 = .ok (.aload_n 0, 1) := by decide +kernel
theorem dX0_addWay_102 : decode cX0_addWay 102 = .ok (.iload_n 1, 1) := by decide +kernel
theorem dX0_addWay_103 : decode cX0_addWay 103 = .ok (.invokevirtual 87, 3) := by decide +kernel
theorem dX0_addWay_106 : decode cX0_addWay 106 = .ok (.iastore, 1) := by decide +kernel
theorem dX0_addWay_107 : decode cX0_addWay 107 = .ok (.aload_n 0, 1) := by decide +kernel
theorem dX0_addWay_108 : decode cX0_addWay 108 = .ok (.getfield 47, 3) := by decide +kernel
theorem dX0_addWay_111 : decode cX0_addWay 111 = .ok (.aload_n 0, 1) := by decide +kernel
theorem dX0_addWay_112 : decode cX0_addWay 112 = .ok (.getfield 66, 3) := by decide +kernel
theorem dX0_addWay_115 : decode cX0_addWay 115 = .ok (.aload_n 0, 1) := by decide +kernel
theorem dX0_addWay_116 : decode cX0_addWay 116 = .ok (.iload_n 2, 1) := by decide +kernel
theorem dX0_addWay_117 : decode cX0_addWay 117 = .ok (.invokevirtual 87, 3) := by decide +kernel
theorem dX0_addWay_120 : decode cX0_addWay 120 = .ok (.iastore, 1) := by decide +kernel
theorem dX0_addWay_121 : decode cX0_addWay 121 = .ok (.aload_n 0, 1) := by decide +kernel
theorem dX0_addWay_122 : decode cX0_addWay 122 = .ok (.getfield 50, 3) := by decide +kernel
theorem dX0_addWay_125 : decode cX0_addWay 125 = .ok (.aload_n 0, 1) := by decide +kernel
theorem dX0_addWay_126 : decode cX0_addWay 126 = .ok (.getfield 66, 3) := by decide +kernel
theorem dX0_addWay_129 : decode cX0_addWay 129 = .ok (.aload_n 0, 1) := by decide +kernel
theorem dX0_addWay_130 : decode cX0_addWay 130 = .ok (.getfield 9, 3) := by decide +kernel
theorem dX0_addWay_133 : decode cX0_addWay 133 = .ok (.iload_n 2, 1) := by decide +kernel
theorem dX0_addWay_134 : decode cX0_addWay 134 = .ok (.iaload, 1) := by decide +kernel
theorem dX0_addWay_135 : decode cX0_addWay 135 = .ok (.iconst 3, 1) := by decide +kernel
theorem dX0_addWay_136 : decode cX0_addWay 136 = .ok (.if_icmp .ne 7, 3) := by decide +kernel
theorem dX0_addWay_139 : decode cX0_addWay 139 = .ok (.iconst 3, 1) := by decide +kernel
theorem dX0_addWay_140 : decode cX0_addWay 140 = .ok (.goto 5, 3) := by decide +kernel
theorem dX0_addWay_143 : decode cX0_addWay 143 = .ok (.bipush 16, 2) := by decide +kernel
theorem dX0_addWay_145 : decode cX0_addWay 145 = .ok (.iastore, 1) := by decide +kernel
theorem dX0_addWay_146 : decode cX0_addWay 146 = .ok (.aload_n 0, 1) := by decide +kernel
theorem dX0_addWay_147 : decode cX0_addWay 147 = .ok (.getfield 53, 3) := by decide +kernel
theorem dX0_addWay_150 : decode cX0_addWay 150 = .ok (.aload_n 0, 1) := by decide +kernel
theorem dX0_addWay_151 : decode cX0_addWay 151 = .ok (.getfield 66, 3) := by decide +kernel
theorem dX0_addWay_154 : decode cX0_addWay 154 = .ok (.iconst 1, 1) := by decide +kernel
theorem dX0_addWay_155 : decode cX0_addWay 155 = .ok (.aload_n 0, 1) := by decide +kernel
theorem dX0_addWay_156 : decode cX0_addWay 156 = .ok (.iload_n 2, 1) := by decide +kernel
theorem dX0_addWay_157 : decode cX0_addWay 157 = .ok (.invokevirtual 87, 3) := by decide +kernel
theorem dX0_addWay_160 : decode cX0_addWay 160 = .ok (.ishl, 1) := by decide +kernel
theorem dX0_addWay_161 : decode cX0_addWay 161 = .ok (.iload_n 3, 1) := by decide +kernel
theorem dX0_addWay_162 : decode cX0_addWay 162 = .ok (.aload_n 0, 1) := by decide +kernel
theorem dX0_addWay_163 : decode cX0_addWay 163 = .ok (.iload_n 1, 1) := by decide +kernel
theorem dX0_addWay_164 : decode cX0_addWay 164 = .ok (.invokevirtual 87, 3) := by decide +kernel
theorem dX0_addWay_167 : decode cX0_addWay 167 = .ok (.ishl, 1) := by decide +kernel
theorem dX0_addWay_168 : decode cX0_addWay 168 = .ok (.isub, 1) := by decide +kernel
theorem dX0_addWay_169 : decode cX0_addWay 169 = .ok (.iastore, 1) := by decide +kernel
theorem dX0_addWay_170 : decode cX0_addWay 170 = .ok (.aload_n 0, 1) := by decide +kernel
theorem dX0_addWay_171 : decode cX0_addWay 171 = .ok (.getfield 32, 3) := by decide +kernel
theorem dX0_addWay_174 : decode cX0_addWay 174 = .ok (.iload_n 1, 1) := by decide +kernel
theorem dX0_addWay_175 : decode cX0_addWay 175 = .ok (.iconst 5, 1) := by decide +kernel
theorem dX0_addWay_176 : decode cX0_addWay 176 = .ok (.imul, 1) := by decide +kernel
theorem dX0_addWay_177 : decode cX0_addWay 177 = .ok (.iload_n 2, 1) := by decide +kernel
theorem dX0_addWay_178 : decode cX0_addWay 178 = .ok (.iadd, 1) := by decide +kernel
theorem dX0_addWay_179 : decode cX0_addWay 179 = .ok (.aload_n 0, 1) := by decide +kernel
theorem dX0_addWay_180 : decode cX0_addWay 180 = .ok (.getfield 66, 3) := by decide +kernel
theorem dX0_addWay_183 : decode cX0_addWay 183 = .ok (.iastore, 1) := by decide +kernel
theorem dX0_addWay_184 : decode cX0_addWay 184 = .ok (.aload_n 0, 1) := by decide +kernel
theorem dX0_addWay_185 : decode cX0_addWay 185 = .ok (.dup, 1) := by decide +kernel
theorem dX0_addWay_186 : decode cX0_addWay 186 = .ok (.getfield 66, 3) := by decide +kernel
theorem dX0_addWay_189 : decode cX0_addWay 189 = .ok (.iconst 1, 1) := by decide +kernel
theorem dX0_addWay_190 : decode cX0_addWay 190 = .ok (.iadd, 1) := by decide +kernel
theorem dX0_addWay_191 : decode cX0_addWay 191 = .ok (.putfield 66, 3) := by decide +kernel
theorem dX0_addWay_194 : decode cX0_addWay 194 = .ok (.return_, 1) := by decide +kernel
abbrev tX0_addWay (k : Nat) : MT := (RX0, cX0_addWay, 4, k, none)
def mX0_addWay : MX := bodyOf 4 (sSeq (sIf (cAnd (cAnd (cB rlt (iGet 0 4 (rLoc 0)) (iK 20)) (cZ zne (iCallV 0 mX0_isHut (aR (rLoc 0) (aI (iLoc 1) aNil))))) (cZ zne (iCallV 0 mX0_isHut (aR (rLoc 0) (aI (iLoc 2) aNil))))) (sSeq (sSeq (sSetI 3 (iCallV 0 mX0_takesBetween (aR (rLoc 0) (aI (iLoc 1) (aI (iLoc 2) aNil))))) (sSeq (sIf (cB req (iALd (rGet 0 0 (rLoc 0)) (iLoc 1)) (iK 1)) (sSetI 3 (iB gT2 jmax (iK 2) (iB gT2 (· - ·) (iLoc 3) (iK 1)))) sSkip) (sSeq (sIf (cB req (iALd (rGet 0 0 (rLoc 0)) (iLoc 2)) (iK 2)) (sInc 3 1) sSkip) (sSeq (sASt 0 narI (rGet 0 1 (rLoc 0)) (iGet 0 4 (rLoc 0)) (iLoc 3)) (sSeq (sASt 0 narI (rGet 0 9 (rLoc 0)) (iGet 0 4 (rLoc 0)) (iLoc 1)) (sSeq (sASt 0 narI (rGet 0 10 (rLoc 0)) (iGet 0 4 (rLoc 0)) (iLoc 2)) (sSeq (sASt 0 narI (rGet 0 11 (rLoc 0)) (iGet 0 4 (rLoc 0)) (iCallV 0 mX0_shiftOf (aR (rLoc 0) (aI (iLoc 1) aNil)))) (sSeq (sASt 0 narI (rGet 0 12 (rLoc 0)) (iGet 0 4 (rLoc 0)) (iCallV 0 mX0_shiftOf (aR (rLoc 0) (aI (iLoc 2) aNil)))) (sSeq (sASt 0 narI (rGet 0 13 (rLoc 0)) (iGet 0 4 (rLoc 0)) (iCond (cB req (iALd (rGet 0 0 (rLoc 0)) (iLoc 2)) (iK 3)) (iK 3) (iK 16))) (sSeq (sASt 0 narI (rGet 0 14 (rLoc 0)) (iGet 0 4 (rLoc 0)) (iB gT2 (· - ·) (iB gT2 jshl (iK 1) (iCallV 0 mX0_shiftOf (aR (rLoc 0) (aI (iLoc 2) aNil)))) (iB gT2 jshl (iLoc 3) (iCallV 0 mX0_shiftOf (aR (rLoc 0) (aI (iLoc 1) aNil)))))) (sSeq (sASt 0 narI (rGet 0 8 (rLoc 0)) (iB gT2 (· + ·) (iB gT2 (· * ·) (iLoc 1) (iK 5)) (iLoc 2)) (iGet 0 4 (rLoc 0))) (sUpd 0 4 gT2 (· + ·) (rLoc 0) (iK 1))))))))))))) (sForget 3)) sSkip) sRetV)
theorem kX0_addWay (g : GT) : MK g 2 yX0_addWay cX0_addWay 4 none mX0_addWay := MK.of (pcN := 99999) (pcB := 0) (pcC := 0) rfl (Sok.seq (pc1 := 194) (Sok.ite (pc1 := 25) (pc2 := 194) (Cok.and (pc1 := 17) (Cok.and (pc1 := 9) (Cok.cmp (pc1 := 4) (pc2 := 6) (pcT := 9) (pcF := 194) (EokI.getf (pc1 := 1) (j := 4) (ci := 0) (T := TX0) (N := 17) (EokR.aload_n (q := 0) dX0_addWay_0) rfl wsX0_in (by decide) flX0_66 dX0_addWay_1) (EokI.bipush (v := 20) dX0_addWay_4 (by decide)) (JI.ltF (tgt := 194) dX0_addWay_6 (by decide))) (Cok.zero (pc1 := 14) (pcT := 17) (pcF := 194) (EokI.iCallV (pc1 := 11) (Aok.aR (pc1 := 10) (EokR.aload_n (q := 0) dX0_addWay_9) (Aok.aI (pc1 := 11) (EokI.iload_n (q := 1) dX0_addWay_10) Aok.nil)) (kX0_isHut g) rfl ykX0_isHut vkX0_75 (by decide) (by decide) dX0_addWay_11) (JZ.neF (tgt := 194) dX0_addWay_14 (by decide)))) (Cok.zero (pc1 := 22) (pcT := 25) (pcF := 194) (EokI.iCallV (pc1 := 19) (Aok.aR (pc1 := 18) (EokR.aload_n (q := 0) dX0_addWay_17) (Aok.aI (pc1 := 19) (EokI.iload_n (q := 2) dX0_addWay_18) Aok.nil)) (kX0_isHut g) rfl ykX0_isHut vkX0_75 (by decide) (by decide) dX0_addWay_19) (JZ.neF (tgt := 194) dX0_addWay_22 (by decide)))) (by decide) (Sok.seq (pc1 := 194) (Sok.seq (pc1 := 32) (Sok.setI_n (q := 3) (pc1 := 31) (EokI.iCallV (pc1 := 28) (Aok.aR (pc1 := 26) (EokR.aload_n (q := 0) dX0_addWay_25) (Aok.aI (pc1 := 27) (EokI.iload_n (q := 1) dX0_addWay_26) (Aok.aI (pc1 := 28) (EokI.iload_n (q := 2) dX0_addWay_27) Aok.nil))) (kX0_takesBetween g) rfl ykX0_takesBetween vkX0_79 (by decide) (by decide) dX0_addWay_28) (by decide) dX0_addWay_31 (show 3 < 4 by decide)) (Sok.seq (pc1 := 50) (Sok.ite (pc1 := 42) (pc2 := 50) (Cok.cmp (pc1 := 38) (pc2 := 39) (pcT := 42) (pcF := 50) (EokI.iALd (pc1 := 36) (pc2 := 37) (EokR.getf (pc1 := 33) (j := 0) (ci := 0) (T := TX0) (N := 17) (EokR.aload_n (q := 0) dX0_addWay_32) rfl wsX0_in (by decide) flX0_9 dX0_addWay_33) (EokI.iload_n (q := 1) dX0_addWay_36) dX0_addWay_37) (EokI.iconst (v := 1) dX0_addWay_38 (by decide)) (JI.eqF (tgt := 50) dX0_addWay_39 (by decide))) (by decide) (Sok.setI_n (q := 3) (pc1 := 49) (EokI.mmax (pc1 := 43) (pc2 := 46) (EokI.iconst (v := 2) dX0_addWay_42 (by decide)) (EokI.bin (pc1 := 44) (pc2 := 45) (EokI.iload_n (q := 3) dX0_addWay_43) (EokI.iconst (v := 1) dX0_addWay_44 (by decide)) (OPI.isub dX0_addWay_45)) mlX0_91 wst_mmax wini_math wco_mmax (by decide) dX0_addWay_46) (by decide) dX0_addWay_49 (show 3 < 4 by decide)) (Sok.skip (pc := 50))) (Sok.seq (pc1 := 63) (Sok.ite (pc1 := 60) (pc2 := 63) (Cok.cmp (pc1 := 56) (pc2 := 57) (pcT := 60) (pcF := 63) (EokI.iALd (pc1 := 54) (pc2 := 55) (EokR.getf (pc1 := 51) (j := 0) (ci := 0) (T := TX0) (N := 17) (EokR.aload_n (q := 0) dX0_addWay_50) rfl wsX0_in (by decide) flX0_9 dX0_addWay_51) (EokI.iload_n (q := 2) dX0_addWay_54) dX0_addWay_55) (EokI.iconst (v := 2) dX0_addWay_56 (by decide)) (JI.eqF (tgt := 63) dX0_addWay_57 (by decide))) (by decide) (Sok.iinc (i := 3) (v := 1) dX0_addWay_60 (show 3 < 4 by decide) (by decide)) (Sok.skip (pc := 63))) (Sok.seq (pc1 := 73) (Sok.iASt (pc1 := 67) (pc2 := 71) (pc3 := 72) (EokR.getf (pc1 := 64) (j := 1) (ci := 0) (T := TX0) (N := 17) (EokR.aload_n (q := 0) dX0_addWay_63) rfl wsX0_in (by decide) flX0_35 dX0_addWay_64) (EokI.getf (pc1 := 68) (j := 4) (ci := 0) (T := TX0) (N := 17) (EokR.aload_n (q := 0) dX0_addWay_67) rfl wsX0_in (by decide) flX0_66 dX0_addWay_68) (EokI.iload_n (q := 3) dX0_addWay_71) (by decide) dX0_addWay_72) (Sok.seq (pc1 := 83) (Sok.iASt (pc1 := 77) (pc2 := 81) (pc3 := 82) (EokR.getf (pc1 := 74) (j := 9) (ci := 0) (T := TX0) (N := 17) (EokR.aload_n (q := 0) dX0_addWay_73) rfl wsX0_in (by decide) flX0_38 dX0_addWay_74) (EokI.getf (pc1 := 78) (j := 4) (ci := 0) (T := TX0) (N := 17) (EokR.aload_n (q := 0) dX0_addWay_77) rfl wsX0_in (by decide) flX0_66 dX0_addWay_78) (EokI.iload_n (q := 1) dX0_addWay_81) (by decide) dX0_addWay_82) (Sok.seq (pc1 := 93) (Sok.iASt (pc1 := 87) (pc2 := 91) (pc3 := 92) (EokR.getf (pc1 := 84) (j := 10) (ci := 0) (T := TX0) (N := 17) (EokR.aload_n (q := 0) dX0_addWay_83) rfl wsX0_in (by decide) flX0_41 dX0_addWay_84) (EokI.getf (pc1 := 88) (j := 4) (ci := 0) (T := TX0) (N := 17) (EokR.aload_n (q := 0) dX0_addWay_87) rfl wsX0_in (by decide) flX0_66 dX0_addWay_88) (EokI.iload_n (q := 2) dX0_addWay_91) (by decide) dX0_addWay_92) (Sok.seq (pc1 := 107) (Sok.iASt (pc1 := 97) (pc2 := 101) (pc3 := 106) (EokR.getf (pc1 := 94) (j := 11) (ci := 0) (T := TX0) (N := 17) (EokR.aload_n (q := 0) dX0_addWay_93) rfl wsX0_in (by decide) flX0_44 dX0_addWay_94) (EokI.getf (pc1 := 98) (j := 4) (ci := 0) (T := TX0) (N := 17) (EokR.aload_n (q := 0) dX0_addWay_97) rfl wsX0_in (by decide) flX0_66 dX0_addWay_98) (EokI.iCallV (pc1 := 103) (Aok.aR (pc1 := 102) (EokR.aload_n (q := 0) dX0_addWay_101) (Aok.aI (pc1 := 103) (EokI.iload_n (q := 1) dX0_addWay_102) Aok.nil)) (kX0_shiftOf g) rfl ykX0_shiftOf vkX0_87 (by decide) (by decide) dX0_addWay_103) (by decide) dX0_addWay_106) (Sok.seq (pc1 := 121) (Sok.iASt (pc1 := 111) (pc2 := 115) (pc3 := 120) (EokR.getf (pc1 := 108) (j := 12) (ci := 0) (T := TX0) (N := 17) (EokR.aload_n (q := 0) dX0_addWay_107) rfl wsX0_in (by decide) flX0_47 dX0_addWay_108) (EokI.getf (pc1 := 112) (j := 4) (ci := 0) (T := TX0) (N := 17) (EokR.aload_n (q := 0) dX0_addWay_111) rfl wsX0_in (by decide) flX0_66 dX0_addWay_112) (EokI.iCallV (pc1 := 117) (Aok.aR (pc1 := 116) (EokR.aload_n (q := 0) dX0_addWay_115) (Aok.aI (pc1 := 117) (EokI.iload_n (q := 2) dX0_addWay_116) Aok.nil)) (kX0_shiftOf g) rfl ykX0_shiftOf vkX0_87 (by decide) (by decide) dX0_addWay_117) (by decide) dX0_addWay_120) (Sok.seq (pc1 := 146) (Sok.iASt (pc1 := 125) (pc2 := 129) (pc3 := 145) (EokR.getf (pc1 := 122) (j := 13) (ci := 0) (T := TX0) (N := 17) (EokR.aload_n (q := 0) dX0_addWay_121) rfl wsX0_in (by decide) flX0_50 dX0_addWay_122) (EokI.getf (pc1 := 126) (j := 4) (ci := 0) (T := TX0) (N := 17) (EokR.aload_n (q := 0) dX0_addWay_125) rfl wsX0_in (by decide) flX0_66 dX0_addWay_126) (EokI.cond' (pc1 := 139) (pc2 := 143) (Cok.cmp (pc1 := 135) (pc2 := 136) (pcT := 139) (pcF := 143) (EokI.iALd (pc1 := 133) (pc2 := 134) (EokR.getf (pc1 := 130) (j := 0) (ci := 0) (T := TX0) (N := 17) (EokR.aload_n (q := 0) dX0_addWay_129) rfl wsX0_in (by decide) flX0_9 dX0_addWay_130) (EokI.iload_n (q := 2) dX0_addWay_133) dX0_addWay_134) (EokI.iconst (v := 3) dX0_addWay_135 (by decide)) (JI.eqF (tgt := 143) dX0_addWay_136 (by decide))) (EokI.goto (pc1 := 140) (pc2 := 145) (EokI.iconst (v := 3) dX0_addWay_139 (by decide)) dX0_addWay_140 (by decide)) (EokI.bipush (v := 16) dX0_addWay_143 (by decide))) (by decide) dX0_addWay_145) (Sok.seq (pc1 := 170) (Sok.iASt (pc1 := 150) (pc2 := 154) (pc3 := 169) (EokR.getf (pc1 := 147) (j := 14) (ci := 0) (T := TX0) (N := 17) (EokR.aload_n (q := 0) dX0_addWay_146) rfl wsX0_in (by decide) flX0_53 dX0_addWay_147) (EokI.getf (pc1 := 151) (j := 4) (ci := 0) (T := TX0) (N := 17) (EokR.aload_n (q := 0) dX0_addWay_150) rfl wsX0_in (by decide) flX0_66 dX0_addWay_151) (EokI.bin (pc1 := 161) (pc2 := 168) (EokI.bin (pc1 := 155) (pc2 := 160) (EokI.iconst (v := 1) dX0_addWay_154 (by decide)) (EokI.iCallV (pc1 := 157) (Aok.aR (pc1 := 156) (EokR.aload_n (q := 0) dX0_addWay_155) (Aok.aI (pc1 := 157) (EokI.iload_n (q := 2) dX0_addWay_156) Aok.nil)) (kX0_shiftOf g) rfl ykX0_shiftOf vkX0_87 (by decide) (by decide) dX0_addWay_157) (OPI.ishl dX0_addWay_160)) (EokI.bin (pc1 := 162) (pc2 := 167) (EokI.iload_n (q := 3) dX0_addWay_161) (EokI.iCallV (pc1 := 164) (Aok.aR (pc1 := 163) (EokR.aload_n (q := 0) dX0_addWay_162) (Aok.aI (pc1 := 164) (EokI.iload_n (q := 1) dX0_addWay_163) Aok.nil)) (kX0_shiftOf g) rfl ykX0_shiftOf vkX0_87 (by decide) (by decide) dX0_addWay_164) (OPI.ishl dX0_addWay_167)) (OPI.isub dX0_addWay_168)) (by decide) dX0_addWay_169) (Sok.seq (pc1 := 184) (Sok.iASt (pc1 := 174) (pc2 := 179) (pc3 := 183) (EokR.getf (pc1 := 171) (j := 8) (ci := 0) (T := TX0) (N := 17) (EokR.aload_n (q := 0) dX0_addWay_170) rfl wsX0_in (by decide) flX0_32 dX0_addWay_171) (EokI.bin (pc1 := 177) (pc2 := 178) (EokI.bin (pc1 := 175) (pc2 := 176) (EokI.iload_n (q := 1) dX0_addWay_174) (EokI.iconst (v := 5) dX0_addWay_175 (by decide)) (OPI.imul dX0_addWay_176)) (EokI.iload_n (q := 2) dX0_addWay_177) (OPI.iadd dX0_addWay_178)) (EokI.getf (pc1 := 180) (j := 4) (ci := 0) (T := TX0) (N := 17) (EokR.aload_n (q := 0) dX0_addWay_179) rfl wsX0_in (by decide) flX0_66 dX0_addWay_180) (by decide) dX0_addWay_183) (Sok.upd (ci := 0) (T := TX0) (NN := 17) (tt := tyX0) (j := 4) (pc1 := 185) (pc2 := 190) (EokR.aload_n (q := 0) dX0_addWay_184) dX0_addWay_185 dX0_addWay_186 (EokI.iconst (v := 1) dX0_addWay_189 (by decide)) (OPI.iadd dX0_addWay_190) (by decide) rfl wsX0_in tyX0_ok nmX0 (by decide) flX0_66 rfl rfl dX0_addWay_191)))))))))))) (Sok.forget (pc := 194))) (Sok.skip (pc := 194))) (Sok.retV dX0_addWay_194 rfl))
/-! PassHuts$Hills.finish()V -/
theorem dX0_finish_0 : decode cX0_finish 0 = .ok (.iconst 0, 1) := by decide +kernel
theorem dX0_finish_1 : decode cX0_finish 1 = .ok (.istore_n 1, 1) := by decide +kernel
theorem dX0_finish_2 : decode cX0_finish 2 = .ok (.iload_n 1, 1) := by decide +kernel
theorem dX0_finish_3 : decode cX0_finish 3 = .ok (.aload_n 0, 1) := by decide +kernel
theorem dX0_finish_4 : decode cX0_finish 4 = .ok (.getfield 62, 3) := by decide +kernel
theorem dX0_finish_7 : decode cX0_finish 7 = .ok (.if_icmp .ge 77, 3) := by decide +kernel
theorem dX0_finish_10 : decode cX0_finish 10 = .ok (.iload_n 1, 1) := by decide +kernel
theorem dX0_finish_11 : decode cX0_finish 11 = .ok (.iconst 5, 1) := by decide +kernel
theorem dX0_finish_12 : decode cX0_finish 12 = .ok (.if_icmp .ge 72, 3) := by decide +kernel
theorem dX0_finish_15 : decode cX0_finish 15 = .ok (.iconst 0, 1) := by decide +kernel
theorem dX0_finish_16 : decode cX0_finish 16 = .ok (.istore_n 2, 1) := by decide +kernel
theorem dX0_finish_17 : decode cX0_finish 17 = .ok (.iload_n 2, 1) := by decide +kernel
theorem dX0_finish_18 : decode cX0_finish 18 = .ok (.aload_n 0, 1) := by decide +kernel
theorem dX0_finish_19 : decode cX0_finish 19 = .ok (.getfield 62, 3) := by decide +kernel
theorem dX0_finish_22 : decode cX0_finish 22 = .ok (.if_icmp .ge 29, 3) := by decide +kernel
theorem dX0_finish_25 : decode cX0_finish 25 = .ok (.iload_n 2, 1) := by decide +kernel
theorem dX0_finish_26 : decode cX0_finish 26 = .ok (.iconst 5, 1) := by decide +kernel
theorem dX0_finish_27 : decode cX0_finish 27 = .ok (.if_icmp .ge 24, 3) := by decide +kernel
theorem dX0_finish_30 : decode cX0_finish 30 = .ok (.aload_n 0, 1) := by decide +kernel
theorem dX0_finish_31 : decode cX0_finish 31 = .ok (.iload_n 1, 1) := by decide +kernel
theorem dX0_finish_32 : decode cX0_finish 32 = .ok (.iload_n 2, 1) := by decide +kernel
theorem dX0_finish_33 : decode cX0_finish 33 = .ok (.invokevirtual 79, 3) := by decide +kernel
theorem dX0_finish_36 : decode cX0_finish 36 = .ok (.ifCond .eq 9, 3) := by decide +kernel
theorem dX0_finish_39 : decode cX0_finish 39 = .ok (.aload_n 0, 1) := by decide +kernel
theorem dX0_finish_40 : decode cX0_finish 40 = .ok (.iload_n 1, 1) := by decide +kernel
theorem dX0_finish_41 : decode cX0_finish 41 = .ok (.iload_n 2, 1) := by decide +kernel
theorem dX0_finish_42 : decode cX0_finish 42 = .ok (.invokevirtual 83, 3) := by decide +kernel
theorem dX0_finish_45 : decode cX0_finish 45 = .ok (.iinc 2 1, 3) := by decide +kernel
theorem dX0_finish_48 : decode cX0_finish 48 = .ok (.goto (-31), 3) := by decide +kernel
theorem dX0_finish_51 : decode cX0_finish 51 = .ok (.aload_n 0, 1) := by decide +kernel
theorem dX0_finish_52 : decode cX0_finish 52 = .ok (.getfield 9, 3) := by decide +kernel
theorem dX0_finish_55 : decode cX0_finish 55 = .ok (.iload_n 1, 1) := by decide +kernel
theorem dX0_finish_56 : decode cX0_finish 56 = .ok (.iaload, 1) := by decide +kernel
theorem dX0_finish_57 : decode cX0_finish 57 = .ok (.iconst 3, 1) := by decide +kernel
theorem dX0_finish_58 : decode cX0_finish 58 = .ok (.if_icmp .ne 20, 3) := by decide +kernel
theorem dX0_finish_61 : decode cX0_finish 61 = .ok (.aload_n 0, 1) := by decide +kernel
theorem dX0_finish_62 : decode cX0_finish 62 = .ok (.dup, 1) := by decide +kernel
theorem dX0_finish_63 : decode cX0_finish 63 = .ok (.getfield 69, 3) := by decide +kernel
theorem dX0_finish_66 : decode cX0_finish 66 = .ok (.bipush 12, 2) := by decide +kernel
theorem dX0_finish_68 : decode cX0_finish 68 = .ok (.aload_n 0, 1) := by decide +kernel
theorem dX0_finish_69 : decode cX0_finish 69 = .ok (.iload_n 1, 1) := by decide +kernel
theorem dX0_finish_70 : decode cX0_finish 70 = .ok (.invokevirtual 87, 3) := by decide +kernel
theorem dX0_finish_73 : decode cX0_finish 73 = .ok (.ishl, 1) := by decide +kernel
theorem dX0_finish_74 : decode cX0_finish 74 = .ok (.ior, 1) := by decide +kernel
theorem dX0_finish_75 : decode cX0_finish 75 = .ok (.putfield 69, 3) := by decide +kernel
theorem dX0_finish_78 : decode cX0_finish 78 = .ok (.iinc 1 1, 3) := by decide +kernel
theorem dX0_finish_81 : decode cX0_finish 81 = .ok (.goto (-79), 3) := by decide +kernel
theorem dX0_finish_84 : decode cX0_finish 84 = .ok (.return_, 1) := by decide +kernel
abbrev tX0_finish (k : Nat) : MT := (RX0, cX0_finish, 3, k, none)
def lX0_finish_1 : SX := (sLoop (cAnd (cB rlt (iLoc 2) (iGet 0 3 (rLoc 0))) (cB rlt (iLoc 2) (iK 5))) (sIf (cZ zne (iCallV 0 mX0_takesBetween (aR (rLoc 0) (aI (iLoc 1) (aI (iLoc 2) aNil))))) (sCallV 0 mX0_addWay (aR (rLoc 0) (aI (iLoc 1) (aI (iLoc 2) aNil)))) sSkip) (sInc 2 1))
def lX0_finish_2 : SX := (sLoop (cAnd (cB rlt (iLoc 1) (iGet 0 3 (rLoc 0))) (cB rlt (iLoc 1) (iK 5))) (sSeq (sSeq (sSetI 2 (iK 0)) lX0_finish_1) (sIf (cB req (iALd (rGet 0 0 (rLoc 0)) (iLoc 1)) (iK 3)) (sUpd 0 16 gT2 (· ||| ·) (rLoc 0) (iB gT2 jshl (iK 12) (iCallV 0 mX0_shiftOf (aR (rLoc 0) (aI (iLoc 1) aNil))))) sSkip)) (sSeq (sForget 2) (sInc 1 1)))
theorem olX0_finish_1 (g : GT) {pcB pcC : Nat} : Sok g (tX0_finish 3) 17 51 pcB pcC (lX0_finish_1) := (Sok.loop (pc := 17) (pc1 := 30) (pc2 := 45) (pcN := 51) (Cok.and (pc1 := 25) (Cok.cmp (pc1 := 18) (pc2 := 22) (pcT := 25) (pcF := 51) (EokI.iload_n (q := 2) dX0_finish_17) (EokI.getf (pc1 := 19) (j := 3) (ci := 0) (T := TX0) (N := 17) (EokR.aload_n (q := 0) dX0_finish_18) rfl wsX0_in (by decide) flX0_62 dX0_finish_19) (JI.ltF (tgt := 51) dX0_finish_22 (by decide))) (Cok.cmp (pc1 := 26) (pc2 := 27) (pcT := 30) (pcF := 51) (EokI.iload_n (q := 2) dX0_finish_25) (EokI.iconst (v := 5) dX0_finish_26 (by decide)) (JI.ltF (tgt := 51) dX0_finish_27 (by decide)))) (by decide) (Sok.ite (pc1 := 39) (pc2 := 45) (Cok.zero (pc1 := 36) (pcT := 39) (pcF := 45) (EokI.iCallV (pc1 := 33) (Aok.aR (pc1 := 31) (EokR.aload_n (q := 0) dX0_finish_30) (Aok.aI (pc1 := 32) (EokI.iload_n (q := 1) dX0_finish_31) (Aok.aI (pc1 := 33) (EokI.iload_n (q := 2) dX0_finish_32) Aok.nil))) (kX0_takesBetween g) rfl ykX0_takesBetween vkX0_79 (by decide) (by decide) dX0_finish_33) (JZ.neF (tgt := 45) dX0_finish_36 (by decide))) (by decide) (Sok.sCallV (pc1 := 42) (Aok.aR (pc1 := 40) (EokR.aload_n (q := 0) dX0_finish_39) (Aok.aI (pc1 := 41) (EokI.iload_n (q := 1) dX0_finish_40) (Aok.aI (pc1 := 42) (EokI.iload_n (q := 2) dX0_finish_41) Aok.nil))) (by decide) (kX0_addWay g) rfl ykX0_addWay vkX0_83 (by decide) (by decide) dX0_finish_42) (Sok.skip (pc := 45))) (Sok.goto (pc1 := 48) (pcN := 17) (Sok.iinc (i := 2) (v := 1) dX0_finish_45 (show 2 < 3 by decide) (by decide)) dX0_finish_48 (by decide)))
theorem olX0_finish_2 (g : GT) {pcB pcC : Nat} : Sok g (tX0_finish 3) 2 84 pcB pcC (lX0_finish_2) := (Sok.loop (pc := 2) (pc1 := 15) (pc2 := 78) (pcN := 84) (Cok.and (pc1 := 10) (Cok.cmp (pc1 := 3) (pc2 := 7) (pcT := 10) (pcF := 84) (EokI.iload_n (q := 1) dX0_finish_2) (EokI.getf (pc1 := 4) (j := 3) (ci := 0) (T := TX0) (N := 17) (EokR.aload_n (q := 0) dX0_finish_3) rfl wsX0_in (by decide) flX0_62 dX0_finish_4) (JI.ltF (tgt := 84) dX0_finish_7 (by decide))) (Cok.cmp (pc1 := 11) (pc2 := 12) (pcT := 15) (pcF := 84) (EokI.iload_n (q := 1) dX0_finish_10) (EokI.iconst (v := 5) dX0_finish_11 (by decide)) (JI.ltF (tgt := 84) dX0_finish_12 (by decide)))) (by decide) (Sok.seq (pc1 := 51) (Sok.seq (pc1 := 17) (Sok.setI_n (q := 2) (pc1 := 16) (EokI.iconst (v := 0) dX0_finish_15 (by decide)) (by decide) dX0_finish_16 (show 2 < 3 by decide)) (olX0_finish_1 g )) (Sok.ite (pc1 := 61) (pc2 := 78) (Cok.cmp (pc1 := 57) (pc2 := 58) (pcT := 61) (pcF := 78) (EokI.iALd (pc1 := 55) (pc2 := 56) (EokR.getf (pc1 := 52) (j := 0) (ci := 0) (T := TX0) (N := 17) (EokR.aload_n (q := 0) dX0_finish_51) rfl wsX0_in (by decide) flX0_9 dX0_finish_52) (EokI.iload_n (q := 1) dX0_finish_55) dX0_finish_56) (EokI.iconst (v := 3) dX0_finish_57 (by decide)) (JI.eqF (tgt := 78) dX0_finish_58 (by decide))) (by decide) (Sok.upd (ci := 0) (T := TX0) (NN := 17) (tt := tyX0) (j := 16) (pc1 := 62) (pc2 := 74) (EokR.aload_n (q := 0) dX0_finish_61) dX0_finish_62 dX0_finish_63 (EokI.bin (pc1 := 68) (pc2 := 73) (EokI.bipush (v := 12) dX0_finish_66 (by decide)) (EokI.iCallV (pc1 := 70) (Aok.aR (pc1 := 69) (EokR.aload_n (q := 0) dX0_finish_68) (Aok.aI (pc1 := 70) (EokI.iload_n (q := 1) dX0_finish_69) Aok.nil)) (kX0_shiftOf g) rfl ykX0_shiftOf vkX0_87 (by decide) (by decide) dX0_finish_70) (OPI.ishl dX0_finish_73)) (OPI.ior dX0_finish_74) (by decide) rfl wsX0_in tyX0_ok nmX0 (by decide) flX0_69 rfl rfl dX0_finish_75) (Sok.skip (pc := 78)))) (Sok.seq (pc1 := 78) Sok.forget (Sok.goto (pc1 := 81) (pcN := 2) (Sok.iinc (i := 1) (v := 1) dX0_finish_78 (show 1 < 3 by decide) (by decide)) dX0_finish_81 (by decide))))
def mX0_finish : MX := bodyOf 3 (sSeq (sSeq (sSeq (sSetI 1 (iK 0)) lX0_finish_2) (sForget 1)) sRetV)
theorem kX0_finish (g : GT) : MK g 3 yX0_finish cX0_finish 3 none mX0_finish := MK.of (pcN := 99999) (pcB := 0) (pcC := 0) rfl (Sok.seq (pc1 := 84) (Sok.seq (pc1 := 84) (Sok.seq (pc1 := 2) (Sok.setI_n (q := 1) (pc1 := 1) (EokI.iconst (v := 0) dX0_finish_0 (by decide)) (by decide) dX0_finish_1 (show 1 < 3 by decide)) (olX0_finish_2 g )) (Sok.forget (pc := 84))) (Sok.retV dX0_finish_84 rfl))
/-! PassHuts$Trip.clear()V -/
theorem dX9_clear_0 : decode cX9_clear 0 = .ok (.aload_n 0, 1) := by decide +kernel
theorem dX9_clear_1 : decode cX9_clear 1 = .ok (.iconst 0, 1) := by decide +kernel
theorem dX9_clear_2 : decode cX9_clear 2 = .ok (.putfield 21, 3) := by decide +kernel
theorem dX9_clear_5 : decode cX9_clear 5 = .ok (.return_, 1) := by decide +kernel
abbrev tX9_clear (k : Nat) : MT := (RX9, cX9_clear, 1, k, none)
def mX9_clear : MX := bodyOf 1 (sSeq (sPutI 9 3 .int (rLoc 0) (iK 0)) sRetV)
theorem kX9_clear (g : GT) : MK g 0 yX9_clear cX9_clear 1 none mX9_clear := MK.of (pcN := 99999) (pcB := 0) (pcC := 0) rfl (Sok.seq (pc1 := 5) (Sok.putI (ci := 9) (T := TX9) (NN := 7) (tt := tyX9) (j := 3) (pc1 := 1) (pc2 := 2) (ty := .int) (EokR.aload_n (q := 0) dX9_clear_0) (EokI.iconst (v := 0) dX9_clear_1 (by decide)) (by decide) rfl wsX9_in tyX9_ok nmX9 (by decide) flX9_21 rfl rfl dX9_clear_2) (Sok.retV dX9_clear_5 rfl))
/-! PassHuts$Hills.toldLying()I -/
theorem dX0_toldLying_0 : decode cX0_toldLying 0 = .ok (.iconst 0, 1) := by decide +kernel
theorem dX0_toldLying_1 : decode cX0_toldLying 1 = .ok (.istore_n 1, 1) := by decide +kernel
theorem dX0_toldLying_2 : decode cX0_toldLying 2 = .ok (.iconst 0, 1) := by decide +kernel
theorem dX0_toldLying_3 : decode cX0_toldLying 3 = .ok (.istore_n 2, 1) := by decide +kernel
theorem dX0_toldLying_4 : decode cX0_toldLying 4 = .ok (.iload_n 2, 1) := by decide +kernel
theorem dX0_toldLying_5 : decode cX0_toldLying 5 = .ok (.aload_n 0, 1) := by decide +kernel
theorem dX0_toldLying_6 : decode cX0_toldLying 6 = .ok (.getfield 62, 3) := by decide +kernel
theorem dX0_toldLying_9 : decode cX0_toldLying 9 = .ok (.if_icmp .ge 29, 3) := by decide +kernel
theorem dX0_toldLying_12 : decode cX0_toldLying 12 = .ok (.iload_n 2, 1) := by decide +kernel
theorem dX0_toldLying_13 : decode cX0_toldLying 13 = .ok (.iconst 5, 1) := by decide +kernel
theorem dX0_toldLying_14 : decode cX0_toldLying 14 = .ok (.if_icmp .ge 24, 3) := by decide +kernel
theorem dX0_toldLying_17 : decode cX0_toldLying 17 = .ok (.iload_n 1, 1) := by decide +kernel
theorem dX0_toldLying_18 : decode cX0_toldLying 18 = .ok (.aload_n 0, 1) := by decide +kernel
theorem dX0_toldLying_19 : decode cX0_toldLying 19 = .ok (.getfield 26, 3) := by decide +kernel
theorem dX0_toldLying_22 : decode cX0_toldLying 22 = .ok (.iload_n 2, 1) := by decide +kernel
theorem dX0_toldLying_23 : decode cX0_toldLying 23 = .ok (.iaload, 1) := by decide +kernel
theorem dX0_toldLying_24 : decode cX0_toldLying 24 = .ok (.aload_n 0, 1) := by decide +kernel
theorem dX0_toldLying_25 : decode cX0_toldLying 25 = .ok (.iload_n 2, 1) := by decide +kernel
theorem dX0_toldLying_26 : decode cX0_toldLying 26 = .ok (.invokevirtual 87, 3) := by decide +kernel
theorem dX0_toldLying_29 : decode cX0_toldLying 29 = .ok (.ishl, 1) := by decide +kernel
theorem dX0_toldLying_30 : decode cX0_toldLying 30 = .ok (.ior, 1) := by decide +kernel
theorem dX0_toldLying_31 : decode cX0_toldLying 31 = .ok (.istore_n 1, 1) := by decide +kernel
theorem dX0_toldLying_32 : decode cX0_toldLying 32 = .ok (.iinc 2 1, 3) := by decide +kernel
theorem dX0_toldLying_35 : decode cX0_toldLying 35 = .ok (.goto (-31), 3) := by decide +kernel
theorem dX0_toldLying_38 : decode cX0_toldLying 38 = .ok (.iload_n 1, 1) := by decide +kernel
theorem dX0_toldLying_39 : decode cX0_toldLying 39 = .ok (.ireturn, 1) := by decide +kernel
abbrev tX0_toldLying (k : Nat) : MT := (RX0, cX0_toldLying, 3, k, (some .int))
def lX0_toldLying_1 : SX := (sLoop (cAnd (cB rlt (iLoc 2) (iGet 0 3 (rLoc 0))) (cB rlt (iLoc 2) (iK 5))) (sSetI 1 (iB gT2 (· ||| ·) (iLoc 1) (iB gT2 jshl (iALd (rGet 0 6 (rLoc 0)) (iLoc 2)) (iCallV 0 mX0_shiftOf (aR (rLoc 0) (aI (iLoc 2) aNil)))))) (sInc 2 1))
theorem olX0_toldLying_1 (g : GT) {pcB pcC : Nat} : Sok g (tX0_toldLying 1) 4 38 pcB pcC (lX0_toldLying_1) := (Sok.loop (pc := 4) (pc1 := 17) (pc2 := 32) (pcN := 38) (Cok.and (pc1 := 12) (Cok.cmp (pc1 := 5) (pc2 := 9) (pcT := 12) (pcF := 38) (EokI.iload_n (q := 2) dX0_toldLying_4) (EokI.getf (pc1 := 6) (j := 3) (ci := 0) (T := TX0) (N := 17) (EokR.aload_n (q := 0) dX0_toldLying_5) rfl wsX0_in (by decide) flX0_62 dX0_toldLying_6) (JI.ltF (tgt := 38) dX0_toldLying_9 (by decide))) (Cok.cmp (pc1 := 13) (pc2 := 14) (pcT := 17) (pcF := 38) (EokI.iload_n (q := 2) dX0_toldLying_12) (EokI.iconst (v := 5) dX0_toldLying_13 (by decide)) (JI.ltF (tgt := 38) dX0_toldLying_14 (by decide)))) (by decide) (Sok.setI_n (q := 1) (pc1 := 31) (EokI.bin (pc1 := 18) (pc2 := 30) (EokI.iload_n (q := 1) dX0_toldLying_17) (EokI.bin (pc1 := 24) (pc2 := 29) (EokI.iALd (pc1 := 22) (pc2 := 23) (EokR.getf (pc1 := 19) (j := 6) (ci := 0) (T := TX0) (N := 17) (EokR.aload_n (q := 0) dX0_toldLying_18) rfl wsX0_in (by decide) flX0_26 dX0_toldLying_19) (EokI.iload_n (q := 2) dX0_toldLying_22) dX0_toldLying_23) (EokI.iCallV (pc1 := 26) (Aok.aR (pc1 := 25) (EokR.aload_n (q := 0) dX0_toldLying_24) (Aok.aI (pc1 := 26) (EokI.iload_n (q := 2) dX0_toldLying_25) Aok.nil)) (kX0_shiftOf g) rfl ykX0_shiftOf vkX0_87 (by decide) (by decide) dX0_toldLying_26) (OPI.ishl dX0_toldLying_29)) (OPI.ior dX0_toldLying_30)) (by decide) dX0_toldLying_31 (show 1 < 3 by decide)) (Sok.goto (pc1 := 35) (pcN := 4) (Sok.iinc (i := 2) (v := 1) dX0_toldLying_32 (show 2 < 3 by decide) (by decide)) dX0_toldLying_35 (by decide)))
def mX0_toldLying : MX := bodyOf 3 (sSeq (sSetI 1 (iK 0)) (sSeq (sSeq (sSeq (sSetI 2 (iK 0)) lX0_toldLying_1) (sForget 2)) (sRetI (iLoc 1))))
theorem kX0_toldLying (g : GT) : MK g 1 yX0_toldLying cX0_toldLying 3 (some .int) mX0_toldLying := MK.of (pcN := 99999) (pcB := 0) (pcC := 0) rfl (Sok.seq (pc1 := 2) (Sok.setI_n (q := 1) (pc1 := 1) (EokI.iconst (v := 0) dX0_toldLying_0 (by decide)) (by decide) dX0_toldLying_1 (show 1 < 3 by decide)) (Sok.seq (pc1 := 38) (Sok.seq (pc1 := 38) (Sok.seq (pc1 := 4) (Sok.setI_n (q := 2) (pc1 := 3) (EokI.iconst (v := 0) dX0_toldLying_2 (by decide)) (by decide) dX0_toldLying_3 (show 2 < 3 by decide)) (olX0_toldLying_1 g )) (Sok.forget (pc := 38))) (Sok.retI (pc1 := 39) (EokI.iload_n (q := 1) dX0_toldLying_38) (by decide) dX0_toldLying_39 rfl)))
/-! PassHuts$Story.restart(I)V -/
theorem dX5_restart_0 : decode cX5_restart 0 = .ok (.aload_n 0, 1) := by decide +kernel
theorem dX5_restart_1 : decode cX5_restart 1 = .ok (.iload_n 1, 1) := by decide +kernel
theorem dX5_restart_2 : decode cX5_restart 2 = .ok (.putfield 37, 3) := by decide +kernel
theorem dX5_restart_5 : decode cX5_restart 5 = .ok (.aload_n 0, 1) := by decide +kernel
theorem dX5_restart_6 : decode cX5_restart 6 = .ok (.iconst 0, 1) := by decide +kernel
theorem dX5_restart_7 : decode cX5_restart 7 = .ok (.putfield 41, 3) := by decide +kernel
theorem dX5_restart_10 : decode cX5_restart 10 = .ok (.aload_n 0, 1) := by decide +kernel
theorem dX5_restart_11 : decode cX5_restart 11 = .ok (.iconst 0, 1) := by decide +kernel
theorem dX5_restart_12 : decode cX5_restart 12 = .ok (.putfield 44, 3) := by decide +kernel
theorem dX5_restart_15 : decode cX5_restart 15 = .ok (.aload_n 0, 1) := by decide +kernel
theorem dX5_restart_16 : decode cX5_restart 16 = .ok (.iconst 0, 1) := by decide +kernel
theorem dX5_restart_17 : decode cX5_restart 17 = .ok (.putfield 47, 3) := by decide +kernel
theorem dX5_restart_20 : decode cX5_restart 20 = .ok (.iconst 0, 1) := by decide +kernel
theorem dX5_restart_21 : decode cX5_restart 21 = .ok (.istore_n 2, 1) := by decide +kernel
theorem dX5_restart_22 : decode cX5_restart 22 = .ok (.iload_n 2, 1) := by decide +kernel
theorem dX5_restart_23 : decode cX5_restart 23 = .ok (.iconst 4, 1) := by decide +kernel
theorem dX5_restart_24 : decode cX5_restart 24 = .ok (.if_icmp .ge 16, 3) := by decide +kernel
theorem dX5_restart_27 : decode cX5_restart 27 = .ok (.aload_n 0, 1) := by decide +kernel
theorem dX5_restart_28 : decode cX5_restart 28 = .ok (.getfield 21, 3) := by decide +kernel
theorem dX5_restart_31 : decode cX5_restart 31 = .ok (.iload_n 2, 1) := by decide +kernel
theorem dX5_restart_32 : decode cX5_restart 32 = .ok (.iconst 0, 1) := by decide +kernel
theorem dX5_restart_33 : decode cX5_restart 33 = .ok (.bastore, 1) := by decide +kernel
theorem dX5_restart_34 : decode cX5_restart 34 = .ok (.iinc 2 1, 3) := by decide +kernel
theorem dX5_restart_37 : decode cX5_restart 37 = .ok (.goto (-15), 3) := by decide +kernel
theorem dX5_restart_40 : decode cX5_restart 40 = .ok (.return_, 1) := by decide +kernel
abbrev tX5_restart (k : Nat) : MT := (RX5, cX5_restart, 3, k, none)
def lX5_restart_1 : SX := (sLoop (cB rlt (iLoc 2) (iK 4)) (sASt 3 narZ (rGet 5 3 (rLoc 0)) (iLoc 2) (iK 0)) (sInc 2 1))
theorem olX5_restart_1 (g : GT) {pcB pcC : Nat} : Sok g (tX5_restart 0) 22 40 pcB pcC (lX5_restart_1) := (Sok.loop (pc := 22) (pc1 := 27) (pc2 := 34) (pcN := 40) (Cok.cmp (pc1 := 23) (pc2 := 24) (pcT := 27) (pcF := 40) (EokI.iload_n (q := 2) dX5_restart_22) (EokI.iconst (v := 4) dX5_restart_23 (by decide)) (JI.ltF (tgt := 40) dX5_restart_24 (by decide))) (by decide) (Sok.zASt (pc1 := 31) (pc2 := 32) (pc3 := 33) (EokR.getf (pc1 := 28) (j := 3) (ci := 5) (T := TX5) (N := 13) (EokR.aload_n (q := 0) dX5_restart_27) rfl wsX5_in (by decide) flX5_21 dX5_restart_28) (EokI.iload_n (q := 2) dX5_restart_31) (EokI.iconst (v := 0) dX5_restart_32 (by decide)) (by decide) dX5_restart_33) (Sok.goto (pc1 := 37) (pcN := 22) (Sok.iinc (i := 2) (v := 1) dX5_restart_34 (show 2 < 3 by decide) (by decide)) dX5_restart_37 (by decide)))
def mX5_restart : MX := bodyOf 3 (sSeq (sSeq (sPutI 5 9 .int (rLoc 0) (iLoc 1)) (sSeq (sPutI 5 10 .int (rLoc 0) (iK 0)) (sSeq (sPutI 5 11 .int (rLoc 0) (iK 0)) (sSeq (sPutI 5 12 .int (rLoc 0) (iK 0)) (sSeq (sSeq (sSetI 2 (iK 0)) lX5_restart_1) (sForget 2)))))) sRetV)
theorem kX5_restart (g : GT) : MK g 0 yX5_restart cX5_restart 3 none mX5_restart := MK.of (pcN := 99999) (pcB := 0) (pcC := 0) rfl (Sok.seq (pc1 := 40) (Sok.seq (pc1 := 5) (Sok.putI (ci := 5) (T := TX5) (NN := 13) (tt := tyX5) (j := 9) (pc1 := 1) (pc2 := 2) (ty := .int) (EokR.aload_n (q := 0) dX5_restart_0) (EokI.iload_n (q := 1) dX5_restart_1) (by decide) rfl wsX5_in tyX5_ok nmX5 (by decide) flX5_37 rfl rfl dX5_restart_2) (Sok.seq (pc1 := 10) (Sok.putI (ci := 5) (T := TX5) (NN := 13) (tt := tyX5) (j := 10) (pc1 := 6) (pc2 := 7) (ty := .int) (EokR.aload_n (q := 0) dX5_restart_5) (EokI.iconst (v := 0) dX5_restart_6 (by decide)) (by decide) rfl wsX5_in tyX5_ok nmX5 (by decide) flX5_41 rfl rfl dX5_restart_7) (Sok.seq (pc1 := 15) (Sok.putI (ci := 5) (T := TX5) (NN := 13) (tt := tyX5) (j := 11) (pc1 := 11) (pc2 := 12) (ty := .int) (EokR.aload_n (q := 0) dX5_restart_10) (EokI.iconst (v := 0) dX5_restart_11 (by decide)) (by decide) rfl wsX5_in tyX5_ok nmX5 (by decide) flX5_44 rfl rfl dX5_restart_12) (Sok.seq (pc1 := 20) (Sok.putI (ci := 5) (T := TX5) (NN := 13) (tt := tyX5) (j := 12) (pc1 := 16) (pc2 := 17) (ty := .int) (EokR.aload_n (q := 0) dX5_restart_15) (EokI.iconst (v := 0) dX5_restart_16 (by decide)) (by decide) rfl wsX5_in tyX5_ok nmX5 (by decide) flX5_47 rfl rfl dX5_restart_17) (Sok.seq (pc1 := 40) (Sok.seq (pc1 := 22) (Sok.setI_n (q := 2) (pc1 := 21) (EokI.iconst (v := 0) dX5_restart_20 (by decide)) (by decide) dX5_restart_21 (show 2 < 3 by decide)) (olX5_restart_1 g )) (Sok.forget (pc := 40))))))) (Sok.retV dX5_restart_40 rfl))
/-! PassHuts$Trip.addLine(III)V -/
theorem dX9_addLine_0 : decode cX9_addLine 0 = .ok (.aload_n 0, 1) := by decide +kernel
theorem dX9_addLine_1 : decode cX9_addLine 1 = .ok (.getfield 21, 3) := by decide +kernel
theorem dX9_addLine_4 : decode cX9_addLine 4 = .ok (.bipush 40, 2) := by decide +kernel
theorem dX9_addLine_6 : decode cX9_addLine 6 = .ok (.if_icmp .ge 43, 3) := by decide +kernel
theorem dX9_addLine_9 : decode cX9_addLine 9 = .ok (.aload_n 0, 1) := by decide +kernel
theorem dX9_addLine_10 : decode cX9_addLine 10 = .ok (.getfield 9, 3) := by decide +kernel
theorem dX9_addLine_13 : decode cX9_addLine 13 = .ok (.aload_n 0, 1) := by decide +kernel
theorem dX9_addLine_14 : decode cX9_addLine 14 = .ok (.getfield 21, 3) := by decide +kernel
theorem dX9_addLine_17 : decode cX9_addLine 17 = .ok (.iload_n 1, 1) := by decide +kernel
theorem dX9_addLine_18 : decode cX9_addLine 18 = .ok (.iastore, 1) := by decide +kernel
theorem dX9_addLine_19 : decode cX9_addLine 19 = .ok (.aload_n 0, 1) := by decide +kernel
theorem dX9_addLine_20 : decode cX9_addLine 20 = .ok (.getfield 15, 3) := by decide +kernel
theorem dX9_addLine_23 : decode cX9_addLine 23 = .ok (.aload_n 0, 1) := by decide +kernel
theorem dX9_addLine_24 : decode cX9_addLine 24 = .ok (.getfield 21, 3) := by decide +kernel
theorem dX9_addLine_27 : decode cX9_addLine 27 = .ok (.iload_n 2, 1) := by decide +kernel
theorem dX9_addLine_28 : decode cX9_addLine 28 = .ok (.iastore, 1) := by decide +kernel
theorem dX9_addLine_29 : decode cX9_addLine 29 = .ok (.aload_n 0, 1) := by decide +kernel
theorem dX9_addLine_30 : decode cX9_addLine 30 = .ok (.getfield 18, 3) := by decide +kernel
theorem dX9_addLine_33 : decode cX9_addLine 33 = .ok (.aload_n 0, 1) := by decide +kernel
theorem dX9_addLine_34 : decode cX9_addLine 34 = .ok (.getfield 21, 3) := by decide +kernel
theorem dX9_addLine_37 : decode cX9_addLine 37 = .ok (.iload_n 3, 1) := by decide +kernel
theorem dX9_addLine_38 : decode cX9_addLine 38 = .ok (.iastore, 1) := by decide +kernel
theorem dX9_addLine_39 : decode cX9_addLine 39 = .ok (.aload_n 0, 1) := by decide +kernel
theorem dX9_addLine_40 : decode cX9_addLine 40 = .ok (.dup, 1) := by decide +kernel
theorem dX9_addLine_41 : decode cX9_addLine 41 = .ok (.getfield 21, 3) := by decide +kernel
theorem dX9_addLine_44 : decode cX9_addLine 44 = .ok (.iconst 1, 1) := by decide +kernel
theorem dX9_addLine_45 : decode cX9_addLine 45 = .ok (.iadd, 1) := by decide +kernel
theorem dX9_addLine_46 : decode cX9_addLine 46 = .ok (.putfield 21, 3) := by decide +kernel
theorem dX9_addLine_49 : decode cX9_addLine 49 = .ok (.return_, 1) := by decide +kernel
abbrev tX9_addLine (k : Nat) : MT := (RX9, cX9_addLine, 4, k, none)
def mX9_addLine : MX := bodyOf 4 (sSeq (sIf (cB rlt (iGet 9 3 (rLoc 0)) (iK 40)) (sSeq (sASt 0 narI (rGet 9 0 (rLoc 0)) (iGet 9 3 (rLoc 0)) (iLoc 1)) (sSeq (sASt 0 narI (rGet 9 1 (rLoc 0)) (iGet 9 3 (rLoc 0)) (iLoc 2)) (sSeq (sASt 0 narI (rGet 9 2 (rLoc 0)) (iGet 9 3 (rLoc 0)) (iLoc 3)) (sUpd 9 3 gT2 (· + ·) (rLoc 0) (iK 1))))) sSkip) sRetV)
theorem kX9_addLine (g : GT) : MK g 0 yX9_addLine cX9_addLine 4 none mX9_addLine := MK.of (pcN := 99999) (pcB := 0) (pcC := 0) rfl (Sok.seq (pc1 := 49) (Sok.ite (pc1 := 9) (pc2 := 49) (Cok.cmp (pc1 := 4) (pc2 := 6) (pcT := 9) (pcF := 49) (EokI.getf (pc1 := 1) (j := 3) (ci := 9) (T := TX9) (N := 7) (EokR.aload_n (q := 0) dX9_addLine_0) rfl wsX9_in (by decide) flX9_21 dX9_addLine_1) (EokI.bipush (v := 40) dX9_addLine_4 (by decide)) (JI.ltF (tgt := 49) dX9_addLine_6 (by decide))) (by decide) (Sok.seq (pc1 := 19) (Sok.iASt (pc1 := 13) (pc2 := 17) (pc3 := 18) (EokR.getf (pc1 := 10) (j := 0) (ci := 9) (T := TX9) (N := 7) (EokR.aload_n (q := 0) dX9_addLine_9) rfl wsX9_in (by decide) flX9_9 dX9_addLine_10) (EokI.getf (pc1 := 14) (j := 3) (ci := 9) (T := TX9) (N := 7) (EokR.aload_n (q := 0) dX9_addLine_13) rfl wsX9_in (by decide) flX9_21 dX9_addLine_14) (EokI.iload_n (q := 1) dX9_addLine_17) (by decide) dX9_addLine_18) (Sok.seq (pc1 := 29) (Sok.iASt (pc1 := 23) (pc2 := 27) (pc3 := 28) (EokR.getf (pc1 := 20) (j := 1) (ci := 9) (T := TX9) (N := 7) (EokR.aload_n (q := 0) dX9_addLine_19) rfl wsX9_in (by decide) flX9_15 dX9_addLine_20) (EokI.getf (pc1 := 24) (j := 3) (ci := 9) (T := TX9) (N := 7) (EokR.aload_n (q := 0) dX9_addLine_23) rfl wsX9_in (by decide) flX9_21 dX9_addLine_24) (EokI.iload_n (q := 2) dX9_addLine_27) (by decide) dX9_addLine_28) (Sok.seq (pc1 := 39) (Sok.iASt (pc1 := 33) (pc2 := 37) (pc3 := 38) (EokR.getf (pc1 := 30) (j := 2) (ci := 9) (T := TX9) (N := 7) (EokR.aload_n (q := 0) dX9_addLine_29) rfl wsX9_in (by decide) flX9_18 dX9_addLine_30) (EokI.getf (pc1 := 34) (j := 3) (ci := 9) (T := TX9) (N := 7) (EokR.aload_n (q := 0) dX9_addLine_33) rfl wsX9_in (by decide) flX9_21 dX9_addLine_34) (EokI.iload_n (q := 3) dX9_addLine_37) (by decide) dX9_addLine_38) (Sok.upd (ci := 9) (T := TX9) (NN := 7) (tt := tyX9) (j := 3) (pc1 := 40) (pc2 := 45) (EokR.aload_n (q := 0) dX9_addLine_39) dX9_addLine_40 dX9_addLine_41 (EokI.iconst (v := 1) dX9_addLine_44 (by decide)) (OPI.iadd dX9_addLine_45) (by decide) rfl wsX9_in tyX9_ok nmX9 (by decide) flX9_21 rfl rfl dX9_addLine_46)))) (Sok.skip (pc := 49))) (Sok.retV dX9_addLine_49 rfl))
/-! PassHuts$Hills.loadsIn(II)I -/
theorem dX0_loadsIn_0 : decode cX0_loadsIn 0 = .ok (.iload_n 1, 1) := by decide +kernel
theorem dX0_loadsIn_1 : decode cX0_loadsIn 1 = .ok (.aload_n 0, 1) := by decide +kernel
theorem dX0_loadsIn_2 : decode cX0_loadsIn 2 = .ok (.iload_n 2, 1) := by decide +kernel
theorem dX0_loadsIn_3 : decode cX0_loadsIn 3 = .ok (.invokevirtual 87, 3) := by decide +kernel
theorem dX0_loadsIn_6 : decode cX0_loadsIn 6 = .ok (.ishr, 1) := by decide +kernel
theorem dX0_loadsIn_7 : decode cX0_loadsIn 7 = .ok (.bipush 15, 2) := by decide +kernel
theorem dX0_loadsIn_9 : decode cX0_loadsIn 9 = .ok (.iand, 1) := by decide +kernel
theorem dX0_loadsIn_10 : decode cX0_loadsIn 10 = .ok (.ireturn, 1) := by decide +kernel
abbrev tX0_loadsIn (k : Nat) : MT := (RX0, cX0_loadsIn, 3, k, (some .int))
def mX0_loadsIn : MX := bodyOf 3 (sRetI (iB gT2 (· &&& ·) (iB gT2 jshr (iLoc 1) (iCallV 0 mX0_shiftOf (aR (rLoc 0) (aI (iLoc 2) aNil)))) (iK 15)))
theorem kX0_loadsIn (g : GT) : MK g 1 yX0_loadsIn cX0_loadsIn 3 (some .int) mX0_loadsIn := MK.of (pcN := 99999) (pcB := 0) (pcC := 0) rfl (Sok.retI (pc1 := 10) (EokI.bin (pc1 := 7) (pc2 := 9) (EokI.bin (pc1 := 1) (pc2 := 6) (EokI.iload_n (q := 1) dX0_loadsIn_0) (EokI.iCallV (pc1 := 3) (Aok.aR (pc1 := 2) (EokR.aload_n (q := 0) dX0_loadsIn_1) (Aok.aI (pc1 := 3) (EokI.iload_n (q := 2) dX0_loadsIn_2) Aok.nil)) (kX0_shiftOf g) rfl ykX0_shiftOf vkX0_87 (by decide) (by decide) dX0_loadsIn_3) (OPI.ishr dX0_loadsIn_6)) (EokI.bipush (v := 15) dX0_loadsIn_7 (by decide)) (OPI.iand dX0_loadsIn_9)) (by decide) dX0_loadsIn_10 rfl)
/-! PassHuts$Hills.neighbours(I)I -/
theorem dX0_neighbours_0 : decode cX0_neighbours 0 = .ok (.iconst 0, 1) := by decide +kernel
theorem dX0_neighbours_1 : decode cX0_neighbours 1 = .ok (.istore_n 2, 1) := by decide +kernel
theorem dX0_neighbours_2 : decode cX0_neighbours 2 = .ok (.iconst 0, 1) := by decide +kernel
theorem dX0_neighbours_3 : decode cX0_neighbours 3 = .ok (.istore_n 3, 1) := by decide +kernel
theorem dX0_neighbours_4 : decode cX0_neighbours 4 = .ok (.iload_n 3, 1) := by decide +kernel
theorem dX0_neighbours_5 : decode cX0_neighbours 5 = .ok (.aload_n 0, 1) := by decide +kernel
theorem dX0_neighbours_6 : decode cX0_neighbours 6 = .ok (.getfield 62, 3) := by decide +kernel
theorem dX0_neighbours_9 : decode cX0_neighbours 9 = .ok (.if_icmp .ge 24, 3) := by decide +kernel
theorem dX0_neighbours_12 : decode cX0_neighbours 12 = .ok (.aload_n 0, 1) := by decide +kernel
theorem dX0_neighbours_13 : decode cX0_neighbours 13 = .ok (.iload_n 1, 1) := by decide +kernel
theorem dX0_neighbours_14 : decode cX0_neighbours 14 = .ok (.iload_n 3, 1) := by decide +kernel
theorem dX0_neighbours_15 : decode cX0_neighbours 15 = .ok (.invokevirtual 79, 3) := by decide +kernel
theorem dX0_neighbours_18 : decode cX0_neighbours 18 = .ok (.ifCond .eq 9, 3) := by decide +kernel
theorem dX0_neighbours_21 : decode cX0_neighbours 21 = .ok (.iload_n 2, 1) := by decide +kernel
theorem dX0_neighbours_22 : decode cX0_neighbours 22 = .ok (.iconst 1, 1) := by decide +kernel
theorem dX0_neighbours_23 : decode cX0_neighbours 23 = .ok (.iload_n 3, 1) := by decide +kernel
theorem dX0_neighbours_24 : decode cX0_neighbours 24 = .ok (.ishl, 1) := by decide +kernel
theorem dX0_neighbours_25 : decode cX0_neighbours 25 = .ok (.ior, 1) := by decide +kernel
theorem dX0_neighbours_26 : decode cX0_neighbours 26 = .ok (.istore_n 2, 1) := by decide +kernel
theorem dX0_neighbours_27 : decode cX0_neighbours 27 = .ok (.iinc 3 1, 3) := by decide +kernel
theorem dX0_neighbours_30 : decode cX0_neighbours 30 = .ok (.goto (-26), 3) := by decide +kernel
theorem dX0_neighbours_33 : decode cX0_neighbours 33 = .ok (.iload_n 2, 1) := by decide +kernel
theorem dX0_neighbours_34 : decode cX0_neighbours 34 = .ok (.ireturn, 1) := by decide +kernel
abbrev tX0_neighbours (k : Nat) : MT := (RX0, cX0_neighbours, 4, k, (some .int))
def lX0_neighbours_1 : SX := (sLoop (cB rlt (iLoc 3) (iGet 0 3 (rLoc 0))) (sIf (cZ zne (iCallV 0 mX0_takesBetween (aR (rLoc 0) (aI (iLoc 1) (aI (iLoc 3) aNil))))) (sSetI 2 (iB gT2 (· ||| ·) (iLoc 2) (iB gT2 jshl (iK 1) (iLoc 3)))) sSkip) (sInc 3 1))
theorem olX0_neighbours_1 (g : GT) {pcB pcC : Nat} : Sok g (tX0_neighbours 2) 4 33 pcB pcC (lX0_neighbours_1) := (Sok.loop (pc := 4) (pc1 := 12) (pc2 := 27) (pcN := 33) (Cok.cmp (pc1 := 5) (pc2 := 9) (pcT := 12) (pcF := 33) (EokI.iload_n (q := 3) dX0_neighbours_4) (EokI.getf (pc1 := 6) (j := 3) (ci := 0) (T := TX0) (N := 17) (EokR.aload_n (q := 0) dX0_neighbours_5) rfl wsX0_in (by decide) flX0_62 dX0_neighbours_6) (JI.ltF (tgt := 33) dX0_neighbours_9 (by decide))) (by decide) (Sok.ite (pc1 := 21) (pc2 := 27) (Cok.zero (pc1 := 18) (pcT := 21) (pcF := 27) (EokI.iCallV (pc1 := 15) (Aok.aR (pc1 := 13) (EokR.aload_n (q := 0) dX0_neighbours_12) (Aok.aI (pc1 := 14) (EokI.iload_n (q := 1) dX0_neighbours_13) (Aok.aI (pc1 := 15) (EokI.iload_n (q := 3) dX0_neighbours_14) Aok.nil))) (kX0_takesBetween g) rfl ykX0_takesBetween vkX0_79 (by decide) (by decide) dX0_neighbours_15) (JZ.neF (tgt := 27) dX0_neighbours_18 (by decide))) (by decide) (Sok.setI_n (q := 2) (pc1 := 26) (EokI.bin (pc1 := 22) (pc2 := 25) (EokI.iload_n (q := 2) dX0_neighbours_21) (EokI.bin (pc1 := 23) (pc2 := 24) (EokI.iconst (v := 1) dX0_neighbours_22 (by decide)) (EokI.iload_n (q := 3) dX0_neighbours_23) (OPI.ishl dX0_neighbours_24)) (OPI.ior dX0_neighbours_25)) (by decide) dX0_neighbours_26 (show 2 < 4 by decide)) (Sok.skip (pc := 27))) (Sok.goto (pc1 := 30) (pcN := 4) (Sok.iinc (i := 3) (v := 1) dX0_neighbours_27 (show 3 < 4 by decide) (by decide)) dX0_neighbours_30 (by decide)))
def mX0_neighbours : MX := bodyOf 4 (sSeq (sSetI 2 (iK 0)) (sSeq (sSeq (sSeq (sSetI 3 (iK 0)) lX0_neighbours_1) (sForget 3)) (sRetI (iLoc 2))))
theorem kX0_neighbours (g : GT) : MK g 2 yX0_neighbours cX0_neighbours 4 (some .int) mX0_neighbours := MK.of (pcN := 99999) (pcB := 0) (pcC := 0) rfl (Sok.seq (pc1 := 2) (Sok.setI_n (q := 2) (pc1 := 1) (EokI.iconst (v := 0) dX0_neighbours_0 (by decide)) (by decide) dX0_neighbours_1 (show 2 < 4 by decide)) (Sok.seq (pc1 := 33) (Sok.seq (pc1 := 33) (Sok.seq (pc1 := 4) (Sok.setI_n (q := 3) (pc1 := 3) (EokI.iconst (v := 0) dX0_neighbours_2 (by decide)) (by decide) dX0_neighbours_3 (show 3 < 4 by decide)) (olX0_neighbours_1 g )) (Sok.forget (pc := 33))) (Sok.retI (pc1 := 34) (EokI.iload_n (q := 2) dX0_neighbours_33) (by decide) dX0_neighbours_34 rfl)))
/-! PassHuts$Hills.isFull(II)Z -/
theorem dX0_isFull_0 : decode cX0_isFull 0 = .ok (.aload_n 0, 1) := by decide +kernel
theorem dX0_isFull_1 : decode cX0_isFull 1 = .ok (.iload_n 2, 1) := by decide +kernel
theorem dX0_isFull_2 : decode cX0_isFull 2 = .ok (.invokevirtual 75, 3) := by decide +kernel
theorem dX0_isFull_5 : decode cX0_isFull 5 = .ok (.ifCond .eq 27, 3) := by decide +kernel
theorem dX0_isFull_8 : decode cX0_isFull 8 = .ok (.aload_n 0, 1) := by decide +kernel
theorem dX0_isFull_9 : decode cX0_isFull 9 = .ok (.getfield 9, 3) := by decide +kernel
theorem dX0_isFull_12 : decode cX0_isFull 12 = .ok (.iload_n 2, 1) := by decide +kernel
theorem dX0_isFull_13 : decode cX0_isFull 13 = .ok (.iaload, 1) := by decide +kernel
theorem dX0_isFull_14 : decode cX0_isFull 14 = .ok (.iconst 3, 1) := by decide +kernel
theorem dX0_isFull_15 : decode cX0_isFull 15 = .ok (.if_icmp .ne 17, 3) := by decide +kernel
theorem dX0_isFull_18 : decode cX0_isFull 18 = .ok (.aload_n 0, 1) := by decide +kernel
theorem dX0_isFull_19 : decode cX0_isFull 19 = .ok (.iload_n 1, 1) := by decide +kernel
theorem dX0_isFull_20 : decode cX0_isFull 20 = .ok (.iload_n 2, 1) := by decide +kernel
theorem dX0_isFull_21 : decode cX0_isFull 21 = .ok (.invokevirtual 96, 3) := by decide +kernel
theorem dX0_isFull_24 : decode cX0_isFull 24 = .ok (.iconst 3, 1) := by decide +kernel
theorem dX0_isFull_25 : decode cX0_isFull 25 = .ok (.if_icmp .lt 7, 3) := by decide +kernel
theorem dX0_isFull_28 : decode cX0_isFull 28 = .ok (.iconst 1, 1) := by decide +kernel
theorem dX0_isFull_29 : decode cX0_isFull 29 = .ok (.goto 4, 3) := by decide +kernel
theorem dX0_isFull_32 : decode cX0_isFull 32 = .ok (.iconst 0, 1) := by decide +kernel
theorem dX0_isFull_33 : decode cX0_isFull 33 = .ok (.ireturn, 1) := by decide +kernel
abbrev tX0_isFull (k : Nat) : MT := (RX0, cX0_isFull, 3, k, (some .boolean))
def mX0_isFull : MX := bodyOf 3 (sRetZ (iBool (cAnd (cAnd (cZ zne (iCallV 0 mX0_isHut (aR (rLoc 0) (aI (iLoc 2) aNil)))) (cB req (iALd (rGet 0 0 (rLoc 0)) (iLoc 2)) (iK 3))) (cB rge (iCallV 0 mX0_loadsIn (aR (rLoc 0) (aI (iLoc 1) (aI (iLoc 2) aNil)))) (iK 3)))))
theorem kX0_isFull (g : GT) : MK g 2 yX0_isFull cX0_isFull 3 (some .boolean) mX0_isFull := MK.of (pcN := 99999) (pcB := 0) (pcC := 0) rfl (Sok.retZ (pc1 := 33) (EokI.cond' (pc1 := 28) (pc2 := 32) (Cok.and (pc1 := 18) (Cok.and (pc1 := 8) (Cok.zero (pc1 := 5) (pcT := 8) (pcF := 32) (EokI.iCallV (pc1 := 2) (Aok.aR (pc1 := 1) (EokR.aload_n (q := 0) dX0_isFull_0) (Aok.aI (pc1 := 2) (EokI.iload_n (q := 2) dX0_isFull_1) Aok.nil)) (kX0_isHut g) rfl ykX0_isHut vkX0_75 (by decide) (by decide) dX0_isFull_2) (JZ.neF (tgt := 32) dX0_isFull_5 (by decide))) (Cok.cmp (pc1 := 14) (pc2 := 15) (pcT := 18) (pcF := 32) (EokI.iALd (pc1 := 12) (pc2 := 13) (EokR.getf (pc1 := 9) (j := 0) (ci := 0) (T := TX0) (N := 17) (EokR.aload_n (q := 0) dX0_isFull_8) rfl wsX0_in (by decide) flX0_9 dX0_isFull_9) (EokI.iload_n (q := 2) dX0_isFull_12) dX0_isFull_13) (EokI.iconst (v := 3) dX0_isFull_14 (by decide)) (JI.eqF (tgt := 32) dX0_isFull_15 (by decide)))) (Cok.cmp (pc1 := 24) (pc2 := 25) (pcT := 28) (pcF := 32) (EokI.iCallV (pc1 := 21) (Aok.aR (pc1 := 19) (EokR.aload_n (q := 0) dX0_isFull_18) (Aok.aI (pc1 := 20) (EokI.iload_n (q := 1) dX0_isFull_19) (Aok.aI (pc1 := 21) (EokI.iload_n (q := 2) dX0_isFull_20) Aok.nil))) (kX0_loadsIn g) rfl ykX0_loadsIn vkX0_96 (by decide) (by decide) dX0_isFull_21) (EokI.iconst (v := 3) dX0_isFull_24 (by decide)) (JI.geF (tgt := 32) dX0_isFull_25 (by decide)))) (EokI.goto (pc1 := 29) (pc2 := 33) (EokI.iconst (v := 1) dX0_isFull_28 (by decide)) dX0_isFull_29 (by decide)) (EokI.iconst (v := 0) dX0_isFull_32 (by decide))) (by decide) dX0_isFull_33 rfl)
/-! PassHuts$Hills.wayBetween(II)I -/
theorem dX0_wayBetween_0 : decode cX0_wayBetween 0 = .ok (.aload_n 0, 1) := by decide +kernel
theorem dX0_wayBetween_1 : decode cX0_wayBetween 1 = .ok (.iload_n 1, 1) := by decide +kernel
theorem dX0_wayBetween_2 : decode cX0_wayBetween 2 = .ok (.invokevirtual 75, 3) := by decide +kernel
theorem dX0_wayBetween_5 : decode cX0_wayBetween 5 = .ok (.ifCond .eq 24, 3) := by decide +kernel
theorem dX0_wayBetween_8 : decode cX0_wayBetween 8 = .ok (.aload_n 0, 1) := by decide +kernel
theorem dX0_wayBetween_9 : decode cX0_wayBetween 9 = .ok (.iload_n 2, 1) := by decide +kernel
theorem dX0_wayBetween_10 : decode cX0_wayBetween 10 = .ok (.invokevirtual 75, 3) := by decide +kernel
theorem dX0_wayBetween_13 : decode cX0_wayBetween 13 = .ok (.ifCond .eq 16, 3) := by decide +kernel
theorem dX0_wayBetween_16 : decode cX0_wayBetween 16 = .ok (.aload_n 0, 1) := by decide +kernel
theorem dX0_wayBetween_17 : decode cX0_wayBetween 17 = .ok (.getfield 32, 3) := by decide +kernel
theorem dX0_wayBetween_20 : decode cX0_wayBetween 20 = .ok (.iload_n 1, 1) := by decide +kernel
theorem dX0_wayBetween_21 : decode cX0_wayBetween 21 = .ok (.iconst 5, 1) := by decide +kernel
theorem dX0_wayBetween_22 : decode cX0_wayBetween 22 = .ok (.imul, 1) := by decide +kernel
theorem dX0_wayBetween_23 : decode cX0_wayBetween 23 = .ok (.iload_n 2, 1) := by decide +kernel
theorem dX0_wayBetween_24 : decode cX0_wayBetween 24 = .ok (.iadd, 1) := by decide +kernel
theorem dX0_wayBetween_25 : decode cX0_wayBetween 25 = .ok (.iaload, 1) := by decide +kernel
theorem dX0_wayBetween_26 : decode cX0_wayBetween 26 = .ok (.goto 4, 3) := by decide +kernel
theorem dX0_wayBetween_29 : decode cX0_wayBetween 29 = .ok (.iconst (-1), 1) := by decide +kernel
theorem dX0_wayBetween_30 : decode cX0_wayBetween 30 = .ok (.ireturn, 1) := by decide +kernel
abbrev tX0_wayBetween (k : Nat) : MT := (RX0, cX0_wayBetween, 3, k, (some .int))
def mX0_wayBetween : MX := bodyOf 3 (sRetI (iCond (cAnd (cZ zne (iCallV 0 mX0_isHut (aR (rLoc 0) (aI (iLoc 1) aNil)))) (cZ zne (iCallV 0 mX0_isHut (aR (rLoc 0) (aI (iLoc 2) aNil))))) (iALd (rGet 0 8 (rLoc 0)) (iB gT2 (· + ·) (iB gT2 (· * ·) (iLoc 1) (iK 5)) (iLoc 2))) (iK (-1))))
theorem kX0_wayBetween (g : GT) : MK g 1 yX0_wayBetween cX0_wayBetween 3 (some .int) mX0_wayBetween := MK.of (pcN := 99999) (pcB := 0) (pcC := 0) rfl (Sok.retI (pc1 := 30) (EokI.cond' (pc1 := 16) (pc2 := 29) (Cok.and (pc1 := 8) (Cok.zero (pc1 := 5) (pcT := 8) (pcF := 29) (EokI.iCallV (pc1 := 2) (Aok.aR (pc1 := 1) (EokR.aload_n (q := 0) dX0_wayBetween_0) (Aok.aI (pc1 := 2) (EokI.iload_n (q := 1) dX0_wayBetween_1) Aok.nil)) (kX0_isHut g) rfl ykX0_isHut vkX0_75 (by decide) (by decide) dX0_wayBetween_2) (JZ.neF (tgt := 29) dX0_wayBetween_5 (by decide))) (Cok.zero (pc1 := 13) (pcT := 16) (pcF := 29) (EokI.iCallV (pc1 := 10) (Aok.aR (pc1 := 9) (EokR.aload_n (q := 0) dX0_wayBetween_8) (Aok.aI (pc1 := 10) (EokI.iload_n (q := 2) dX0_wayBetween_9) Aok.nil)) (kX0_isHut g) rfl ykX0_isHut vkX0_75 (by decide) (by decide) dX0_wayBetween_10) (JZ.neF (tgt := 29) dX0_wayBetween_13 (by decide)))) (EokI.goto (pc1 := 26) (pc2 := 30) (EokI.iALd (pc1 := 20) (pc2 := 25) (EokR.getf (pc1 := 17) (j := 8) (ci := 0) (T := TX0) (N := 17) (EokR.aload_n (q := 0) dX0_wayBetween_16) rfl wsX0_in (by decide) flX0_32 dX0_wayBetween_17) (EokI.bin (pc1 := 23) (pc2 := 24) (EokI.bin (pc1 := 21) (pc2 := 22) (EokI.iload_n (q := 1) dX0_wayBetween_20) (EokI.iconst (v := 5) dX0_wayBetween_21 (by decide)) (OPI.imul dX0_wayBetween_22)) (EokI.iload_n (q := 2) dX0_wayBetween_23) (OPI.iadd dX0_wayBetween_24)) dX0_wayBetween_25) dX0_wayBetween_26 (by decide)) (EokI.iconst (v := (-1)) dX0_wayBetween_29 (by decide))) (by decide) dX0_wayBetween_30 rfl)
/-! PassHuts$Hills.priceOver(I)I -/
theorem dX0_priceOver_0 : decode cX0_priceOver 0 = .ok (.iload_n 1, 1) := by decide +kernel
theorem dX0_priceOver_1 : decode cX0_priceOver 1 = .ok (.ifCond .lt 26, 3) := by decide +kernel
theorem dX0_priceOver_4 : decode cX0_priceOver 4 = .ok (.iload_n 1, 1) := by decide +kernel
theorem dX0_priceOver_5 : decode cX0_priceOver 5 = .ok (.aload_n 0, 1) := by decide +kernel
theorem dX0_priceOver_6 : decode cX0_priceOver 6 = .ok (.getfield 66, 3) := by decide +kernel
theorem dX0_priceOver_9 : decode cX0_priceOver 9 = .ok (.if_icmp .ge 18, 3) := by decide +kernel
theorem dX0_priceOver_12 : decode cX0_priceOver 12 = .ok (.iload_n 1, 1) := by decide +kernel
theorem dX0_priceOver_13 : decode cX0_priceOver 13 = .ok (.bipush 20, 2) := by decide +kernel
theorem dX0_priceOver_15 : decode cX0_priceOver 15 = .ok (.if_icmp .ge 12, 3) := by decide +kernel
theorem dX0_priceOver_18 : decode cX0_priceOver 18 = .ok (.aload_n 0, 1) := by decide +kernel
theorem dX0_priceOver_19 : decode cX0_priceOver 19 = .ok (.getfield 35, 3) := by decide +kernel
theorem dX0_priceOver_22 : decode cX0_priceOver 22 = .ok (.iload_n 1, 1) := by decide +kernel
theorem dX0_priceOver_23 : decode cX0_priceOver 23 = .ok (.iaload, 1) := by decide +kernel
theorem dX0_priceOver_24 : decode cX0_priceOver 24 = .ok (.goto 4, 3) := by decide +kernel
theorem dX0_priceOver_27 : decode cX0_priceOver 27 = .ok (.iconst (-1), 1) := by decide +kernel
theorem dX0_priceOver_28 : decode cX0_priceOver 28 = .ok (.ireturn, 1) := by decide +kernel
abbrev tX0_priceOver (k : Nat) : MT := (RX0, cX0_priceOver, 2, k, (some .int))
def mX0_priceOver : MX := bodyOf 2 (sRetI (iCond (cAnd (cAnd (cZ zge (iLoc 1)) (cB rlt (iLoc 1) (iGet 0 4 (rLoc 0)))) (cB rlt (iLoc 1) (iK 20))) (iALd (rGet 0 1 (rLoc 0)) (iLoc 1)) (iK (-1))))
theorem kX0_priceOver (g : GT) : MK g 0 yX0_priceOver cX0_priceOver 2 (some .int) mX0_priceOver := MK.of (pcN := 99999) (pcB := 0) (pcC := 0) rfl (Sok.retI (pc1 := 28) (EokI.cond' (pc1 := 18) (pc2 := 27) (Cok.and (pc1 := 12) (Cok.and (pc1 := 4) (Cok.zero (pc1 := 1) (pcT := 4) (pcF := 27) (EokI.iload_n (q := 1) dX0_priceOver_0) (JZ.geF (tgt := 27) dX0_priceOver_1 (by decide))) (Cok.cmp (pc1 := 5) (pc2 := 9) (pcT := 12) (pcF := 27) (EokI.iload_n (q := 1) dX0_priceOver_4) (EokI.getf (pc1 := 6) (j := 4) (ci := 0) (T := TX0) (N := 17) (EokR.aload_n (q := 0) dX0_priceOver_5) rfl wsX0_in (by decide) flX0_66 dX0_priceOver_6) (JI.ltF (tgt := 27) dX0_priceOver_9 (by decide)))) (Cok.cmp (pc1 := 13) (pc2 := 15) (pcT := 18) (pcF := 27) (EokI.iload_n (q := 1) dX0_priceOver_12) (EokI.bipush (v := 20) dX0_priceOver_13 (by decide)) (JI.ltF (tgt := 27) dX0_priceOver_15 (by decide)))) (EokI.goto (pc1 := 24) (pc2 := 28) (EokI.iALd (pc1 := 22) (pc2 := 23) (EokR.getf (pc1 := 19) (j := 1) (ci := 0) (T := TX0) (N := 17) (EokR.aload_n (q := 0) dX0_priceOver_18) rfl wsX0_in (by decide) flX0_35 dX0_priceOver_19) (EokI.iload_n (q := 1) dX0_priceOver_22) dX0_priceOver_23) dX0_priceOver_24 (by decide)) (EokI.iconst (v := (-1)) dX0_priceOver_27 (by decide))) (by decide) dX0_priceOver_28 rfl)
/-! PassHuts$Hills.sumOf(I)I -/
theorem dX0_sumOf_0 : decode cX0_sumOf 0 = .ok (.iconst 0, 1) := by decide +kernel
theorem dX0_sumOf_1 : decode cX0_sumOf 1 = .ok (.istore_n 2, 1) := by decide +kernel
theorem dX0_sumOf_2 : decode cX0_sumOf 2 = .ok (.iconst 0, 1) := by decide +kernel
theorem dX0_sumOf_3 : decode cX0_sumOf 3 = .ok (.istore_n 3, 1) := by decide +kernel
theorem dX0_sumOf_4 : decode cX0_sumOf 4 = .ok (.iload_n 3, 1) := by decide +kernel
theorem dX0_sumOf_5 : decode cX0_sumOf 5 = .ok (.aload_n 0, 1) := by decide +kernel
theorem dX0_sumOf_6 : decode cX0_sumOf 6 = .ok (.getfield 62, 3) := by decide +kernel
theorem dX0_sumOf_9 : decode cX0_sumOf 9 = .ok (.if_icmp .ge 18, 3) := by decide +kernel
theorem dX0_sumOf_12 : decode cX0_sumOf 12 = .ok (.iload_n 2, 1) := by decide +kernel
theorem dX0_sumOf_13 : decode cX0_sumOf 13 = .ok (.aload_n 0, 1) := by decide +kernel
theorem dX0_sumOf_14 : decode cX0_sumOf 14 = .ok (.iload_n 1, 1) := by decide +kernel
theorem dX0_sumOf_15 : decode cX0_sumOf 15 = .ok (.iload_n 3, 1) := by decide +kernel
theorem dX0_sumOf_16 : decode cX0_sumOf 16 = .ok (.invokevirtual 96, 3) := by decide +kernel
theorem dX0_sumOf_19 : decode cX0_sumOf 19 = .ok (.iadd, 1) := by decide +kernel
theorem dX0_sumOf_20 : decode cX0_sumOf 20 = .ok (.istore_n 2, 1) := by decide +kernel
theorem dX0_sumOf_21 : decode cX0_sumOf 21 = .ok (.iinc 3 1, 3) := by decide +kernel
theorem dX0_sumOf_24 : decode cX0_sumOf 24 = .ok (.goto (-20), 3) := by decide +kernel
theorem dX0_sumOf_27 : decode cX0_sumOf 27 = .ok (.iload_n 2, 1) := by decide +kernel
theorem dX0_sumOf_28 : decode cX0_sumOf 28 = .ok (.ireturn, 1) := by decide +kernel
abbrev tX0_sumOf (k : Nat) : MT := (RX0, cX0_sumOf, 4, k, (some .int))
def lX0_sumOf_1 : SX := (sLoop (cB rlt (iLoc 3) (iGet 0 3 (rLoc 0))) (sSetI 2 (iB gT2 (· + ·) (iLoc 2) (iCallV 0 mX0_loadsIn (aR (rLoc 0) (aI (iLoc 1) (aI (iLoc 3) aNil)))))) (sInc 3 1))
theorem olX0_sumOf_1 (g : GT) {pcB pcC : Nat} : Sok g (tX0_sumOf 2) 4 27 pcB pcC (lX0_sumOf_1) := (Sok.loop (pc := 4) (pc1 := 12) (pc2 := 21) (pcN := 27) (Cok.cmp (pc1 := 5) (pc2 := 9) (pcT := 12) (pcF := 27) (EokI.iload_n (q := 3) dX0_sumOf_4) (EokI.getf (pc1 := 6) (j := 3) (ci := 0) (T := TX0) (N := 17) (EokR.aload_n (q := 0) dX0_sumOf_5) rfl wsX0_in (by decide) flX0_62 dX0_sumOf_6) (JI.ltF (tgt := 27) dX0_sumOf_9 (by decide))) (by decide) (Sok.setI_n (q := 2) (pc1 := 20) (EokI.bin (pc1 := 13) (pc2 := 19) (EokI.iload_n (q := 2) dX0_sumOf_12) (EokI.iCallV (pc1 := 16) (Aok.aR (pc1 := 14) (EokR.aload_n (q := 0) dX0_sumOf_13) (Aok.aI (pc1 := 15) (EokI.iload_n (q := 1) dX0_sumOf_14) (Aok.aI (pc1 := 16) (EokI.iload_n (q := 3) dX0_sumOf_15) Aok.nil))) (kX0_loadsIn g) rfl ykX0_loadsIn vkX0_96 (by decide) (by decide) dX0_sumOf_16) (OPI.iadd dX0_sumOf_19)) (by decide) dX0_sumOf_20 (show 2 < 4 by decide)) (Sok.goto (pc1 := 24) (pcN := 4) (Sok.iinc (i := 3) (v := 1) dX0_sumOf_21 (show 3 < 4 by decide) (by decide)) dX0_sumOf_24 (by decide)))
def mX0_sumOf : MX := bodyOf 4 (sSeq (sSetI 2 (iK 0)) (sSeq (sSeq (sSeq (sSetI 3 (iK 0)) lX0_sumOf_1) (sForget 3)) (sRetI (iLoc 2))))
theorem kX0_sumOf (g : GT) : MK g 2 yX0_sumOf cX0_sumOf 4 (some .int) mX0_sumOf := MK.of (pcN := 99999) (pcB := 0) (pcC := 0) rfl (Sok.seq (pc1 := 2) (Sok.setI_n (q := 2) (pc1 := 1) (EokI.iconst (v := 0) dX0_sumOf_0 (by decide)) (by decide) dX0_sumOf_1 (show 2 < 4 by decide)) (Sok.seq (pc1 := 27) (Sok.seq (pc1 := 27) (Sok.seq (pc1 := 4) (Sok.setI_n (q := 3) (pc1 := 3) (EokI.iconst (v := 0) dX0_sumOf_2 (by decide)) (by decide) dX0_sumOf_3 (show 3 < 4 by decide)) (olX0_sumOf_1 g )) (Sok.forget (pc := 27))) (Sok.retI (pc1 := 28) (EokI.iload_n (q := 2) dX0_sumOf_27) (by decide) dX0_sumOf_28 rfl)))
/-! PassHuts$Law.joined(III)I -/
theorem dX1_joined_0 : decode cX1_joined 0 = .ok (.iload_n 0, 1) := by decide +kernel
theorem dX1_joined_1 : decode cX1_joined 1 = .ok (.tableswitch 97 (-11) (-6) #[93, 89, 78, 67, 53, 39], 39) := by decide +kernel
theorem dX1_joined_40 : decode cX1_joined 40 = .ok (.iload_n 1, 1) := by decide +kernel
theorem dX1_joined_41 : decode cX1_joined 41 = .ok (.ifCond .eq 11, 3) := by decide +kernel
theorem dX1_joined_44 : decode cX1_joined 44 = .ok (.iload_n 2, 1) := by decide +kernel
theorem dX1_joined_45 : decode cX1_joined 45 = .ok (.ifCond .eq 7, 3) := by decide +kernel
theorem dX1_joined_48 : decode cX1_joined 48 = .ok (.iconst 1, 1) := by decide +kernel
theorem dX1_joined_49 : decode cX1_joined 49 = .ok (.goto 4, 3) := by decide +kernel
theorem dX1_joined_52 : decode cX1_joined 52 = .ok (.iconst 0, 1) := by decide +kernel
theorem dX1_joined_53 : decode cX1_joined 53 = .ok (.ireturn, 1) := by decide +kernel
theorem dX1_joined_54 : decode cX1_joined 54 = .ok (.iload_n 1, 1) := by decide +kernel
theorem dX1_joined_55 : decode cX1_joined 55 = .ok (.ifCond .ne 7, 3) := by decide +kernel
theorem dX1_joined_58 : decode cX1_joined 58 = .ok (.iload_n 2, 1) := by decide +kernel
theorem dX1_joined_59 : decode cX1_joined 59 = .ok (.ifCond .eq 7, 3) := by decide +kernel
theorem dX1_joined_62 : decode cX1_joined 62 = .ok (.iconst 1, 1) := by decide +kernel
theorem dX1_joined_63 : decode cX1_joined 63 = .ok (.goto 4, 3) := by decide +kernel
theorem dX1_joined_66 : decode cX1_joined 66 = .ok (.iconst 0, 1) := by decide +kernel
theorem dX1_joined_67 : decode cX1_joined 67 = .ok (.ireturn, 1) := by decide +kernel
theorem dX1_joined_68 : decode cX1_joined 68 = .ok (.iload_n 1, 1) := by decide +kernel
theorem dX1_joined_69 : decode cX1_joined 69 = .ok (.iload_n 2, 1) := by decide +kernel
theorem dX1_joined_70 : decode cX1_joined 70 = .ok (.if_icmp .ge 7, 3) := by decide +kernel
theorem dX1_joined_73 : decode cX1_joined 73 = .ok (.iconst 1, 1) := by decide +kernel
theorem dX1_joined_74 : decode cX1_joined 74 = .ok (.goto 4, 3) := by decide +kernel
theorem dX1_joined_77 : decode cX1_joined 77 = .ok (.iconst 0, 1) := by decide +kernel
theorem dX1_joined_78 : decode cX1_joined 78 = .ok (.ireturn, 1) := by decide +kernel
theorem dX1_joined_79 : decode cX1_joined 79 = .ok (.iload_n 1, 1) := by decide +kernel
theorem dX1_joined_80 : decode cX1_joined 80 = .ok (.iload_n 2, 1) := by decide +kernel
theorem dX1_joined_81 : decode cX1_joined 81 = .ok (.if_icmp .ne 7, 3) := by decide +kernel
theorem dX1_joined_84 : decode cX1_joined 84 = .ok (.iconst 1, 1) := by decide +kernel
theorem dX1_joined_85 : decode cX1_joined 85 = .ok (.goto 4, 3) := by decide +kernel
theorem dX1_joined_88 : decode cX1_joined 88 = .ok (.iconst 0, 1) := by decide +kernel
theorem dX1_joined_89 : decode cX1_joined 89 = .ok (.ireturn, 1) := by decide +kernel
theorem dX1_joined_90 : decode cX1_joined 90 = .ok (.iload_n 1, 1) := by decide +kernel
theorem dX1_joined_91 : decode cX1_joined 91 = .ok (.iload_n 2, 1) := by decide +kernel
theorem dX1_joined_92 : decode cX1_joined 92 = .ok (.iadd, 1) := by decide +kernel
theorem dX1_joined_93 : decode cX1_joined 93 = .ok (.ireturn, 1) := by decide +kernel
theorem dX1_joined_94 : decode cX1_joined 94 = .ok (.iload_n 1, 1) := by decide +kernel
theorem dX1_joined_95 : decode cX1_joined 95 = .ok (.iload_n 2, 1) := by decide +kernel
theorem dX1_joined_96 : decode cX1_joined 96 = .ok (.isub, 1) := by decide +kernel
theorem dX1_joined_97 : decode cX1_joined 97 = .ok (.ireturn, 1) := by decide +kernel
theorem dX1_joined_98 : decode cX1_joined 98 = .ok (.iload_n 1, 1) := by decide +kernel
theorem dX1_joined_99 : decode cX1_joined 99 = .ok (.iload_n 2, 1) := by decide +kernel
theorem dX1_joined_100 : decode cX1_joined 100 = .ok (.imul, 1) := by decide +kernel
theorem dX1_joined_101 : decode cX1_joined 101 = .ok (.ireturn, 1) := by decide +kernel
abbrev tX1_joined (k : Nat) : MT := (RX1, cX1_joined, 3, k, (some .int))
def mX1_joined : MX := bodyOf 3 (sSw (sSwitch (-11) (iLoc 0) [(sRetI (iB gT2 (· - ·) (iLoc 1) (iLoc 2))), (sRetI (iB gT2 (· + ·) (iLoc 1) (iLoc 2))), (sRetI (iCond (cB req (iLoc 1) (iLoc 2)) (iK 1) (iK 0))), (sRetI (iCond (cB rlt (iLoc 1) (iLoc 2)) (iK 1) (iK 0))), (sRetI (iCond (cOr (cZ zne (iLoc 1)) (cZ zne (iLoc 2))) (iK 1) (iK 0))), (sRetI (iCond (cAnd (cZ zne (iLoc 1)) (cZ zne (iLoc 2))) (iK 1) (iK 0)))] (sRetI (iB gT2 (· * ·) (iLoc 1) (iLoc 2)))))
theorem kX1_joined (g : GT) : MK g 0 yX1_joined cX1_joined 3 (some .int) mX1_joined := MK.of (pcN := 99999) (pcB := 0) (pcC := 0) rfl (Sok.swB (Sok.tswitch (pc1 := 1) (pd := 98) (pcs := [94, 90, 79, 68, 54, 40]) (pcN := 99999) (pcB := 99999) (EokI.iload_n (q := 0) dX1_joined_0) (by decide) dX1_joined_1 (by decide) rfl (by decide) (by decide) (sw_list (pd := 98) (d := (sRetI (iB gT2 (· * ·) (iLoc 1) (iLoc 2)))) ⟨(Sok.retI (pc1 := 97) (EokI.bin (pc1 := 95) (pc2 := 96) (EokI.iload_n (q := 1) dX1_joined_94) (EokI.iload_n (q := 2) dX1_joined_95) (OPI.isub dX1_joined_96)) (by decide) dX1_joined_97 rfl), (Sok.retI (pc1 := 93) (EokI.bin (pc1 := 91) (pc2 := 92) (EokI.iload_n (q := 1) dX1_joined_90) (EokI.iload_n (q := 2) dX1_joined_91) (OPI.iadd dX1_joined_92)) (by decide) dX1_joined_93 rfl), (Sok.retI (pc1 := 89) (EokI.cond' (pc1 := 84) (pc2 := 88) (Cok.cmp (pc1 := 80) (pc2 := 81) (pcT := 84) (pcF := 88) (EokI.iload_n (q := 1) dX1_joined_79) (EokI.iload_n (q := 2) dX1_joined_80) (JI.eqF (tgt := 88) dX1_joined_81 (by decide))) (EokI.goto (pc1 := 85) (pc2 := 89) (EokI.iconst (v := 1) dX1_joined_84 (by decide)) dX1_joined_85 (by decide)) (EokI.iconst (v := 0) dX1_joined_88 (by decide))) (by decide) dX1_joined_89 rfl), (Sok.retI (pc1 := 78) (EokI.cond' (pc1 := 73) (pc2 := 77) (Cok.cmp (pc1 := 69) (pc2 := 70) (pcT := 73) (pcF := 77) (EokI.iload_n (q := 1) dX1_joined_68) (EokI.iload_n (q := 2) dX1_joined_69) (JI.ltF (tgt := 77) dX1_joined_70 (by decide))) (EokI.goto (pc1 := 74) (pc2 := 78) (EokI.iconst (v := 1) dX1_joined_73 (by decide)) dX1_joined_74 (by decide)) (EokI.iconst (v := 0) dX1_joined_77 (by decide))) (by decide) dX1_joined_78 rfl), (Sok.retI (pc1 := 67) (EokI.cond' (pc1 := 62) (pc2 := 66) (Cok.or (pc1 := 58) (Cok.zero (pc1 := 55) (pcT := 62) (pcF := 58) (EokI.iload_n (q := 1) dX1_joined_54) (JZ.neT (tgt := 62) dX1_joined_55 (by decide))) (Cok.zero (pc1 := 59) (pcT := 62) (pcF := 66) (EokI.iload_n (q := 2) dX1_joined_58) (JZ.neF (tgt := 66) dX1_joined_59 (by decide)))) (EokI.goto (pc1 := 63) (pc2 := 67) (EokI.iconst (v := 1) dX1_joined_62 (by decide)) dX1_joined_63 (by decide)) (EokI.iconst (v := 0) dX1_joined_66 (by decide))) (by decide) dX1_joined_67 rfl), (Sok.retI (pc1 := 53) (EokI.cond' (pc1 := 48) (pc2 := 52) (Cok.and (pc1 := 44) (Cok.zero (pc1 := 41) (pcT := 44) (pcF := 52) (EokI.iload_n (q := 1) dX1_joined_40) (JZ.neF (tgt := 52) dX1_joined_41 (by decide))) (Cok.zero (pc1 := 45) (pcT := 48) (pcF := 52) (EokI.iload_n (q := 2) dX1_joined_44) (JZ.neF (tgt := 52) dX1_joined_45 (by decide)))) (EokI.goto (pc1 := 49) (pc2 := 53) (EokI.iconst (v := 1) dX1_joined_48 (by decide)) dX1_joined_49 (by decide)) (EokI.iconst (v := 0) dX1_joined_52 (by decide))) (by decide) dX1_joined_53 rfl), trivial⟩) (Sok.retI (pc1 := 101) (EokI.bin (pc1 := 99) (pc2 := 100) (EokI.iload_n (q := 1) dX1_joined_98) (EokI.iload_n (q := 2) dX1_joined_99) (OPI.imul dX1_joined_100)) (by decide) dX1_joined_101 rfl)))
/-! PassHuts$Law.reckon(IIII)I -/
theorem dX1_reckon_0 : decode cX1_reckon 0 = .ok (.aload_n 0, 1) := by decide +kernel
theorem dX1_reckon_1 : decode cX1_reckon 1 = .ok (.getfield 18, 3) := by decide +kernel
theorem dX1_reckon_4 : decode cX1_reckon 4 = .ok (.iconst 0, 1) := by decide +kernel
theorem dX1_reckon_5 : decode cX1_reckon 5 = .ok (.iload_n 1, 1) := by decide +kernel
theorem dX1_reckon_6 : decode cX1_reckon 6 = .ok (.iastore, 1) := by decide +kernel
theorem dX1_reckon_7 : decode cX1_reckon 7 = .ok (.aload_n 0, 1) := by decide +kernel
theorem dX1_reckon_8 : decode cX1_reckon 8 = .ok (.getfield 18, 3) := by decide +kernel
theorem dX1_reckon_11 : decode cX1_reckon 11 = .ok (.iconst 1, 1) := by decide +kernel
theorem dX1_reckon_12 : decode cX1_reckon 12 = .ok (.iload_n 2, 1) := by decide +kernel
theorem dX1_reckon_13 : decode cX1_reckon 13 = .ok (.iastore, 1) := by decide +kernel
theorem dX1_reckon_14 : decode cX1_reckon 14 = .ok (.aload_n 0, 1) := by decide +kernel
theorem dX1_reckon_15 : decode cX1_reckon 15 = .ok (.getfield 18, 3) := by decide +kernel
theorem dX1_reckon_18 : decode cX1_reckon 18 = .ok (.iconst 2, 1) := by decide +kernel
theorem dX1_reckon_19 : decode cX1_reckon 19 = .ok (.iload_n 3, 1) := by decide +kernel
theorem dX1_reckon_20 : decode cX1_reckon 20 = .ok (.iastore, 1) := by decide +kernel
theorem dX1_reckon_21 : decode cX1_reckon 21 = .ok (.aload_n 0, 1) := by decide +kernel
theorem dX1_reckon_22 : decode cX1_reckon 22 = .ok (.getfield 18, 3) := by decide +kernel
theorem dX1_reckon_25 : decode cX1_reckon 25 = .ok (.iconst 3, 1) := by decide +kernel
theorem dX1_reckon_26 : decode cX1_reckon 26 = .ok (.iload 4, 2) := by decide +kernel
theorem dX1_reckon_28 : decode cX1_reckon 28 = .ok (.iastore, 1) := by decide +kernel
theorem dX1_reckon_29 : decode cX1_reckon 29 = .ok (.iconst 0, 1) := by decide +kernel
theorem dX1_reckon_30 : decode cX1_reckon 30 = .ok (.istore 5, 2) := by decide +kernel
theorem dX1_reckon_32 : decode cX1_reckon 32 = .ok (.iconst 0, 1) := by decide +kernel
theorem dX1_reckon_33 : decode cX1_reckon 33 = .ok (.istore 6, 2) := by decide +kernel
theorem dX1_reckon_35 : decode cX1_reckon 35 = .ok (.iload 6, 2) := by decide +kernel
theorem dX1_reckon_37 : decode cX1_reckon 37 = .ok (.aload_n 0, 1) := by decide +kernel
theorem dX1_reckon_38 : decode cX1_reckon 38 = .ok (.getfield 36, 3) := by decide +kernel
theorem dX1_reckon_41 : decode cX1_reckon 41 = .ok (.if_icmp .ge 155, 3) := by decide +kernel
theorem dX1_reckon_44 : decode cX1_reckon 44 = .ok (.iload 6, 2) := by decide +kernel
theorem dX1_reckon_46 : decode cX1_reckon 46 = .ok (.aload_n 0, 1) := by decide +kernel
theorem dX1_reckon_47 : decode cX1_reckon 47 = .ok (.getfield 11, 3) := by decide +kernel
theorem dX1_reckon_50 : decode cX1_reckon 50 = .ok (.arraylength, 1) := by decide +kernel
theorem dX1_reckon_51 : decode cX1_reckon 51 = .ok (.if_icmp .ge 145, 3) := by decide +kernel
theorem dX1_reckon_54 : decode cX1_reckon 54 = .ok (.aload_n 0, 1) := by decide +kernel
theorem dX1_reckon_55 : decode cX1_reckon 55 = .ok (.getfield 11, 3) := by decide +kernel
theorem dX1_reckon_58 : decode cX1_reckon 58 = .ok (.iload 6, 2) := by decide +kernel
theorem dX1_reckon_60 : decode cX1_reckon 60 = .ok (.iaload, 1) := by decide +kernel
theorem dX1_reckon_61 : decode cX1_reckon 61 = .ok (.istore 7, 2) := by decide +kernel
theorem dX1_reckon_63 : decode cX1_reckon 63 = .ok (.iload 7, 2) := by decide +kernel
theorem dX1_reckon_65 : decode cX1_reckon 65 = .ok (.bipush (-4), 2) := by decide +kernel
theorem dX1_reckon_67 : decode cX1_reckon 67 = .ok (.if_icmp .lt 42, 3) := by decide +kernel
theorem dX1_reckon_70 : decode cX1_reckon 70 = .ok (.iload 5, 2) := by decide +kernel
theorem dX1_reckon_72 : decode cX1_reckon 72 = .ok (.bipush 32, 2) := by decide +kernel
theorem dX1_reckon_74 : decode cX1_reckon 74 = .ok (.if_icmp .ge 116, 3) := by decide +kernel
theorem dX1_reckon_77 : decode cX1_reckon 77 = .ok (.aload_n 0, 1) := by decide +kernel
theorem dX1_reckon_78 : decode cX1_reckon 78 = .ok (.getfield 15, 3) := by decide +kernel
theorem dX1_reckon_81 : decode cX1_reckon 81 = .ok (.iload 5, 2) := by decide +kernel
theorem dX1_reckon_83 : decode cX1_reckon 83 = .ok (.iload 7, 2) := by decide +kernel
theorem dX1_reckon_85 : decode cX1_reckon 85 = .ok (.ifCond .ge 15, 3) := by decide +kernel
theorem dX1_reckon_88 : decode cX1_reckon 88 = .ok (.aload_n 0, 1) := by decide +kernel
theorem dX1_reckon_89 : decode cX1_reckon 89 = .ok (.getfield 18, 3) := by decide +kernel
theorem dX1_reckon_92 : decode cX1_reckon 92 = .ok (.iconst (-1), 1) := by decide +kernel
theorem dX1_reckon_93 : decode cX1_reckon 93 = .ok (.iload 7, 2) := by decide +kernel
theorem dX1_reckon_95 : decode cX1_reckon 95 = .ok (.isub, 1) := by decide +kernel
theorem dX1_reckon_96 : decode cX1_reckon 96 = .ok (.iaload, 1) := by decide +kernel
theorem dX1_reckon_97 : decode cX1_reckon 97 = .ok (.goto 5, 3) := by decide +kernel
theorem dX1_reckon_100 : decode cX1_reckon 100 = .ok (.iload 7, 2) := by decide +kernel
theorem dX1_reckon_102 : decode cX1_reckon 102 = .ok (.iastore, 1) := by decide +kernel
theorem dX1_reckon_103 : decode cX1_reckon 103 = .ok (.iinc 5 1, 3) := by decide +kernel
theorem dX1_reckon_106 : decode cX1_reckon 106 = .ok (.goto 84, 3) := by decide +kernel
theorem dX1_reckon_109 : decode cX1_reckon 109 = .ok (.iload 7, 2) := by decide +kernel
theorem dX1_reckon_111 : decode cX1_reckon 111 = .ok (.bipush (-5), 2) := by decide +kernel
theorem dX1_reckon_113 : decode cX1_reckon 113 = .ok (.if_icmp .ne 38, 3) := by decide +kernel
theorem dX1_reckon_116 : decode cX1_reckon 116 = .ok (.iload 5, 2) := by decide +kernel
theorem dX1_reckon_118 : decode cX1_reckon 118 = .ok (.iconst 1, 1) := by decide +kernel
theorem dX1_reckon_119 : decode cX1_reckon 119 = .ok (.if_icmp .lt 71, 3) := by decide +kernel
theorem dX1_reckon_122 : decode cX1_reckon 122 = .ok (.aload_n 0, 1) := by decide +kernel
theorem dX1_reckon_123 : decode cX1_reckon 123 = .ok (.getfield 15, 3) := by decide +kernel
theorem dX1_reckon_126 : decode cX1_reckon 126 = .ok (.iload 5, 2) := by decide +kernel
theorem dX1_reckon_128 : decode cX1_reckon 128 = .ok (.iconst 1, 1) := by decide +kernel
theorem dX1_reckon_129 : decode cX1_reckon 129 = .ok (.isub, 1) := by decide +kernel
theorem dX1_reckon_130 : decode cX1_reckon 130 = .ok (.aload_n 0, 1) := by decide +kernel
theorem dX1_reckon_131 : decode cX1_reckon 131 = .ok (.getfield 15, 3) := by decide +kernel
theorem dX1_reckon_134 : decode cX1_reckon 134 = .ok (.iload 5, 2) := by decide +kernel
theorem dX1_reckon_136 : decode cX1_reckon 136 = .ok (.iconst 1, 1) := by decide +kernel
theorem dX1_reckon_137 : decode cX1_reckon 137 = .ok (.isub, 1) := by decide +kernel
theorem dX1_reckon_138 : decode cX1_reckon 138 = .ok (.iaload, 1) := by decide +kernel
theorem dX1_reckon_139 : decode cX1_reckon 139 = .ok (.ifCond .ne 7, 3) := by decide +kernel
theorem dX1_reckon_142 : decode cX1_reckon 142 = .ok (.iconst 1, 1) := by decide +kernel
theorem dX1_reckon_143 : decode cX1_reckon 143 = .ok (.goto 4, 3) := by decide +kernel
theorem dX1_reckon_146 : decode cX1_reckon 146 = .ok (.iconst 0, 1) := by decide +kernel
theorem dX1_reckon_147 : decode cX1_reckon 147 = .ok (.iastore, 1) := by decide +kernel
theorem dX1_reckon_148 : decode cX1_reckon 148 = .ok (.goto 42, 3) := by decide +kernel
theorem dX1_reckon_151 : decode cX1_reckon 151 = .ok (.iload 5, 2) := by decide +kernel
theorem dX1_reckon_153 : decode cX1_reckon 153 = .ok (.iconst 2, 1) := by decide +kernel
theorem dX1_reckon_154 : decode cX1_reckon 154 = .ok (.if_icmp .lt 36, 3) := by decide +kernel
theorem dX1_reckon_157 : decode cX1_reckon 157 = .ok (.iinc 5 (-1), 3) := by decide +kernel
theorem dX1_reckon_160 : decode cX1_reckon 160 = .ok (.aload_n 0, 1) := by decide +kernel
theorem dX1_reckon_161 : decode cX1_reckon 161 = .ok (.getfield 15, 3) := by decide +kernel
theorem dX1_reckon_164 : decode cX1_reckon 164 = .ok (.iload 5, 2) := by decide +kernel
theorem dX1_reckon_166 : decode cX1_reckon 166 = .ok (.iconst 1, 1) := by decide +kernel
theorem dX1_reckon_167 : decode cX1_reckon 167 = .ok (.isub, 1) := by decide +kernel
theorem dX1_reckon_168 : decode cX1_reckon 168 = .ok (.iload 7, 2) := by decide +kernel
theorem dX1_reckon_170 : decode cX1_reckon 170 = .ok (.aload_n 0, 1) := by decide +kernel
theorem dX1_reckon_171 : decode cX1_reckon 171 = .ok (.getfield 15, 3) := by decide +kernel
theorem dX1_reckon_174 : decode cX1_reckon 174 = .ok (.iload 5, 2) := by decide +kernel
theorem dX1_reckon_176 : decode cX1_reckon 176 = .ok (.iconst 1, 1) := by decide +kernel
theorem dX1_reckon_177 : decode cX1_reckon 177 = .ok (.isub, 1) := by decide +kernel
theorem dX1_reckon_178 : decode cX1_reckon 178 = .ok (.iaload, 1) := by decide +kernel
theorem dX1_reckon_179 : decode cX1_reckon 179 = .ok (.aload_n 0, 1) := by decide +kernel
theorem dX1_reckon_180 : decode cX1_reckon 180 = .ok (.getfield 15, 3) := by decide +kernel
theorem dX1_reckon_183 : decode cX1_reckon 183 = .ok (.iload 5, 2) := by decide +kernel
theorem dX1_reckon_185 : decode cX1_reckon 185 = .ok (.iaload, 1) := by decide +kernel
theorem dX1_reckon_186 : decode cX1_reckon 186 = .ok (.invokestatic 50, 3) := by decide +kernel
theorem dX1_reckon_189 : decode cX1_reckon 189 = .ok (.iastore, 1) := by decide +kernel
theorem dX1_reckon_190 : decode cX1_reckon 190 = .ok (.iinc 6 1, 3) := by decide +kernel
theorem dX1_reckon_193 : decode cX1_reckon 193 = .ok (.goto (-158), 3) := by decide +kernel
theorem dX1_reckon_196 : decode cX1_reckon 196 = .ok (.aload_n 0, 1) := by decide +kernel
theorem dX1_reckon_197 : decode cX1_reckon 197 = .ok (.getfield 15, 3) := by decide +kernel
theorem dX1_reckon_200 : decode cX1_reckon 200 = .ok (.iconst 0, 1) := by decide +kernel
theorem dX1_reckon_201 : decode cX1_reckon 201 = .ok (.iaload, 1) := by decide +kernel
theorem dX1_reckon_202 : decode cX1_reckon 202 = .ok (.ireturn, 1) := by decide +kernel
abbrev tX1_reckon (k : Nat) : MT := (RX1, cX1_reckon, 8, k, (some .int))
def lX1_reckon_1 : SX := (sLoop (cAnd (cB rlt (iLoc 6) (iGet 1 5 (rLoc 0))) (cB rlt (iLoc 6) (iLen (rGet 1 0 (rLoc 0))))) (sSeq (sSetI 7 (iALd (rGet 1 0 (rLoc 0)) (iLoc 6))) (sIf (cB rge (iLoc 7) (iK (-4))) (sIf (cB rlt (iLoc 5) (iK 32)) (sSeq (sASt 0 narI (rGet 1 1 (rLoc 0)) (iLoc 5) (iCond (cZ zlt (iLoc 7)) (iALd (rGet 1 2 (rLoc 0)) (iB gT2 (· - ·) (iK (-1)) (iLoc 7))) (iLoc 7))) (sInc 5 1)) sSkip) (sIf (cB req (iLoc 7) (iK (-5))) (sIf (cB rge (iLoc 5) (iK 1)) (sASt 0 narI (rGet 1 1 (rLoc 0)) (iB gT2 (· - ·) (iLoc 5) (iK 1)) (iCond (cZ zeq (iALd (rGet 1 1 (rLoc 0)) (iB gT2 (· - ·) (iLoc 5) (iK 1)))) (iK 1) (iK 0))) sSkip) (sIf (cB rge (iLoc 5) (iK 2)) (sSeq (sInc 5 (-1)) (sASt 0 narI (rGet 1 1 (rLoc 0)) (iB gT2 (· - ·) (iLoc 5) (iK 1)) (iCallS mX1_joined (aI (iLoc 7) (aI (iALd (rGet 1 1 (rLoc 0)) (iB gT2 (· - ·) (iLoc 5) (iK 1))) (aI (iALd (rGet 1 1 (rLoc 0)) (iLoc 5)) aNil)))))) sSkip)))) (sSeq (sForget 7) (sInc 6 1)))
theorem olX1_reckon_1 (g : GT) {pcB pcC : Nat} : Sok g (tX1_reckon 1) 35 196 pcB pcC (lX1_reckon_1) := (Sok.loop (pc := 35) (pc1 := 54) (pc2 := 190) (pcN := 196) (Cok.and (pc1 := 44) (Cok.cmp (pc1 := 37) (pc2 := 41) (pcT := 44) (pcF := 196) (EokI.iload (i := 6) dX1_reckon_35) (EokI.getf (pc1 := 38) (j := 5) (ci := 1) (T := TX1) (N := 6) (EokR.aload_n (q := 0) dX1_reckon_37) rfl wsX1_in (by decide) flX1_36 dX1_reckon_38) (JI.ltF (tgt := 196) dX1_reckon_41 (by decide))) (Cok.cmp (pc1 := 46) (pc2 := 51) (pcT := 54) (pcF := 196) (EokI.iload (i := 6) dX1_reckon_44) (EokI.alen (pc1 := 50) (EokR.getf (pc1 := 47) (j := 0) (ci := 1) (T := TX1) (N := 6) (EokR.aload_n (q := 0) dX1_reckon_46) rfl wsX1_in (by decide) flX1_11 dX1_reckon_47) dX1_reckon_50) (JI.ltF (tgt := 196) dX1_reckon_51 (by decide)))) (by decide) (Sok.seq (pc1 := 63) (Sok.setI (i := 7) (pc1 := 61) (EokI.iALd (pc1 := 58) (pc2 := 60) (EokR.getf (pc1 := 55) (j := 0) (ci := 1) (T := TX1) (N := 6) (EokR.aload_n (q := 0) dX1_reckon_54) rfl wsX1_in (by decide) flX1_11 dX1_reckon_55) (EokI.iload (i := 6) dX1_reckon_58) dX1_reckon_60) (by decide) dX1_reckon_61 (show 7 < 8 by decide)) (Sok.ite (pc1 := 70) (pc2 := 109) (Cok.cmp (pc1 := 65) (pc2 := 67) (pcT := 70) (pcF := 109) (EokI.iload (i := 7) dX1_reckon_63) (EokI.bipush (v := (-4)) dX1_reckon_65 (by decide)) (JI.geF (tgt := 109) dX1_reckon_67 (by decide))) (by decide) (Sok.ite (pc1 := 77) (pc2 := 190) (Cok.cmp (pc1 := 72) (pc2 := 74) (pcT := 77) (pcF := 190) (EokI.iload (i := 5) dX1_reckon_70) (EokI.bipush (v := 32) dX1_reckon_72 (by decide)) (JI.ltF (tgt := 190) dX1_reckon_74 (by decide))) (by decide) (Sok.seq (pc1 := 103) (Sok.iASt (pc1 := 81) (pc2 := 83) (pc3 := 102) (EokR.getf (pc1 := 78) (j := 1) (ci := 1) (T := TX1) (N := 6) (EokR.aload_n (q := 0) dX1_reckon_77) rfl wsX1_in (by decide) flX1_15 dX1_reckon_78) (EokI.iload (i := 5) dX1_reckon_81) (EokI.cond' (pc1 := 88) (pc2 := 100) (Cok.zero (pc1 := 85) (pcT := 88) (pcF := 100) (EokI.iload (i := 7) dX1_reckon_83) (JZ.ltF (tgt := 100) dX1_reckon_85 (by decide))) (EokI.goto (pc1 := 97) (pc2 := 102) (EokI.iALd (pc1 := 92) (pc2 := 96) (EokR.getf (pc1 := 89) (j := 2) (ci := 1) (T := TX1) (N := 6) (EokR.aload_n (q := 0) dX1_reckon_88) rfl wsX1_in (by decide) flX1_18 dX1_reckon_89) (EokI.bin (pc1 := 93) (pc2 := 95) (EokI.iconst (v := (-1)) dX1_reckon_92 (by decide)) (EokI.iload (i := 7) dX1_reckon_93) (OPI.isub dX1_reckon_95)) dX1_reckon_96) dX1_reckon_97 (by decide)) (EokI.iload (i := 7) dX1_reckon_100)) (by decide) dX1_reckon_102) (Sok.goto (pc1 := 106) (pcN := 190) (Sok.iinc (i := 5) (v := 1) dX1_reckon_103 (show 5 < 8 by decide) (by decide)) dX1_reckon_106 (by decide))) (Sok.skip (pc := 190))) (Sok.ite (pc1 := 116) (pc2 := 151) (Cok.cmp (pc1 := 111) (pc2 := 113) (pcT := 116) (pcF := 151) (EokI.iload (i := 7) dX1_reckon_109) (EokI.bipush (v := (-5)) dX1_reckon_111 (by decide)) (JI.eqF (tgt := 151) dX1_reckon_113 (by decide))) (by decide) (Sok.ite (pc1 := 122) (pc2 := 190) (Cok.cmp (pc1 := 118) (pc2 := 119) (pcT := 122) (pcF := 190) (EokI.iload (i := 5) dX1_reckon_116) (EokI.iconst (v := 1) dX1_reckon_118 (by decide)) (JI.geF (tgt := 190) dX1_reckon_119 (by decide))) (by decide) (Sok.goto (pc1 := 148) (pcN := 190) (Sok.iASt (pc1 := 126) (pc2 := 130) (pc3 := 147) (EokR.getf (pc1 := 123) (j := 1) (ci := 1) (T := TX1) (N := 6) (EokR.aload_n (q := 0) dX1_reckon_122) rfl wsX1_in (by decide) flX1_15 dX1_reckon_123) (EokI.bin (pc1 := 128) (pc2 := 129) (EokI.iload (i := 5) dX1_reckon_126) (EokI.iconst (v := 1) dX1_reckon_128 (by decide)) (OPI.isub dX1_reckon_129)) (EokI.cond' (pc1 := 142) (pc2 := 146) (Cok.zero (pc1 := 139) (pcT := 142) (pcF := 146) (EokI.iALd (pc1 := 134) (pc2 := 138) (EokR.getf (pc1 := 131) (j := 1) (ci := 1) (T := TX1) (N := 6) (EokR.aload_n (q := 0) dX1_reckon_130) rfl wsX1_in (by decide) flX1_15 dX1_reckon_131) (EokI.bin (pc1 := 136) (pc2 := 137) (EokI.iload (i := 5) dX1_reckon_134) (EokI.iconst (v := 1) dX1_reckon_136 (by decide)) (OPI.isub dX1_reckon_137)) dX1_reckon_138) (JZ.eqF (tgt := 146) dX1_reckon_139 (by decide))) (EokI.goto (pc1 := 143) (pc2 := 147) (EokI.iconst (v := 1) dX1_reckon_142 (by decide)) dX1_reckon_143 (by decide)) (EokI.iconst (v := 0) dX1_reckon_146 (by decide))) (by decide) dX1_reckon_147) dX1_reckon_148 (by decide)) (Sok.skip (pc := 190))) (Sok.ite (pc1 := 157) (pc2 := 190) (Cok.cmp (pc1 := 153) (pc2 := 154) (pcT := 157) (pcF := 190) (EokI.iload (i := 5) dX1_reckon_151) (EokI.iconst (v := 2) dX1_reckon_153 (by decide)) (JI.geF (tgt := 190) dX1_reckon_154 (by decide))) (by decide) (Sok.seq (pc1 := 160) (Sok.iinc (i := 5) (v := (-1)) dX1_reckon_157 (show 5 < 8 by decide) (by decide)) (Sok.iASt (pc1 := 164) (pc2 := 168) (pc3 := 189) (EokR.getf (pc1 := 161) (j := 1) (ci := 1) (T := TX1) (N := 6) (EokR.aload_n (q := 0) dX1_reckon_160) rfl wsX1_in (by decide) flX1_15 dX1_reckon_161) (EokI.bin (pc1 := 166) (pc2 := 167) (EokI.iload (i := 5) dX1_reckon_164) (EokI.iconst (v := 1) dX1_reckon_166 (by decide)) (OPI.isub dX1_reckon_167)) (EokI.iCallS (pc1 := 186) (Aok.aI (pc1 := 170) (EokI.iload (i := 7) dX1_reckon_168) (Aok.aI (pc1 := 179) (EokI.iALd (pc1 := 174) (pc2 := 178) (EokR.getf (pc1 := 171) (j := 1) (ci := 1) (T := TX1) (N := 6) (EokR.aload_n (q := 0) dX1_reckon_170) rfl wsX1_in (by decide) flX1_15 dX1_reckon_171) (EokI.bin (pc1 := 176) (pc2 := 177) (EokI.iload (i := 5) dX1_reckon_174) (EokI.iconst (v := 1) dX1_reckon_176 (by decide)) (OPI.isub dX1_reckon_177)) dX1_reckon_178) (Aok.aI (pc1 := 186) (EokI.iALd (pc1 := 183) (pc2 := 185) (EokR.getf (pc1 := 180) (j := 1) (ci := 1) (T := TX1) (N := 6) (EokR.aload_n (q := 0) dX1_reckon_179) rfl wsX1_in (by decide) flX1_15 dX1_reckon_180) (EokI.iload (i := 5) dX1_reckon_183) dX1_reckon_185) Aok.nil))) (kX1_joined g) ykX1_joined skX1_50 (by decide) (by decide) dX1_reckon_186) (by decide) dX1_reckon_189)) (Sok.skip (pc := 190)))))) (Sok.seq (pc1 := 190) Sok.forget (Sok.goto (pc1 := 193) (pcN := 35) (Sok.iinc (i := 6) (v := 1) dX1_reckon_190 (show 6 < 8 by decide) (by decide)) dX1_reckon_193 (by decide))))
def mX1_reckon : MX := bodyOf 8 (sSeq (sASt 0 narI (rGet 1 2 (rLoc 0)) (iK 0) (iLoc 1)) (sSeq (sASt 0 narI (rGet 1 2 (rLoc 0)) (iK 1) (iLoc 2)) (sSeq (sASt 0 narI (rGet 1 2 (rLoc 0)) (iK 2) (iLoc 3)) (sSeq (sASt 0 narI (rGet 1 2 (rLoc 0)) (iK 3) (iLoc 4)) (sSeq (sSetI 5 (iK 0)) (sSeq (sSeq (sSeq (sSetI 6 (iK 0)) lX1_reckon_1) (sForget 6)) (sRetI (iALd (rGet 1 1 (rLoc 0)) (iK 0)))))))))
theorem kX1_reckon (g : GT) : MK g 1 yX1_reckon cX1_reckon 8 (some .int) mX1_reckon := MK.of (pcN := 99999) (pcB := 0) (pcC := 0) rfl (Sok.seq (pc1 := 7) (Sok.iASt (pc1 := 4) (pc2 := 5) (pc3 := 6) (EokR.getf (pc1 := 1) (j := 2) (ci := 1) (T := TX1) (N := 6) (EokR.aload_n (q := 0) dX1_reckon_0) rfl wsX1_in (by decide) flX1_18 dX1_reckon_1) (EokI.iconst (v := 0) dX1_reckon_4 (by decide)) (EokI.iload_n (q := 1) dX1_reckon_5) (by decide) dX1_reckon_6) (Sok.seq (pc1 := 14) (Sok.iASt (pc1 := 11) (pc2 := 12) (pc3 := 13) (EokR.getf (pc1 := 8) (j := 2) (ci := 1) (T := TX1) (N := 6) (EokR.aload_n (q := 0) dX1_reckon_7) rfl wsX1_in (by decide) flX1_18 dX1_reckon_8) (EokI.iconst (v := 1) dX1_reckon_11 (by decide)) (EokI.iload_n (q := 2) dX1_reckon_12) (by decide) dX1_reckon_13) (Sok.seq (pc1 := 21) (Sok.iASt (pc1 := 18) (pc2 := 19) (pc3 := 20) (EokR.getf (pc1 := 15) (j := 2) (ci := 1) (T := TX1) (N := 6) (EokR.aload_n (q := 0) dX1_reckon_14) rfl wsX1_in (by decide) flX1_18 dX1_reckon_15) (EokI.iconst (v := 2) dX1_reckon_18 (by decide)) (EokI.iload_n (q := 3) dX1_reckon_19) (by decide) dX1_reckon_20) (Sok.seq (pc1 := 29) (Sok.iASt (pc1 := 25) (pc2 := 26) (pc3 := 28) (EokR.getf (pc1 := 22) (j := 2) (ci := 1) (T := TX1) (N := 6) (EokR.aload_n (q := 0) dX1_reckon_21) rfl wsX1_in (by decide) flX1_18 dX1_reckon_22) (EokI.iconst (v := 3) dX1_reckon_25 (by decide)) (EokI.iload (i := 4) dX1_reckon_26) (by decide) dX1_reckon_28) (Sok.seq (pc1 := 32) (Sok.setI (i := 5) (pc1 := 30) (EokI.iconst (v := 0) dX1_reckon_29 (by decide)) (by decide) dX1_reckon_30 (show 5 < 8 by decide)) (Sok.seq (pc1 := 196) (Sok.seq (pc1 := 196) (Sok.seq (pc1 := 35) (Sok.setI (i := 6) (pc1 := 33) (EokI.iconst (v := 0) dX1_reckon_32 (by decide)) (by decide) dX1_reckon_33 (show 6 < 8 by decide)) (olX1_reckon_1 g )) (Sok.forget (pc := 196))) (Sok.retI (pc1 := 202) (EokI.iALd (pc1 := 200) (pc2 := 201) (EokR.getf (pc1 := 197) (j := 1) (ci := 1) (T := TX1) (N := 6) (EokR.aload_n (q := 0) dX1_reckon_196) rfl wsX1_in (by decide) flX1_15 dX1_reckon_197) (EokI.iconst (v := 0) dX1_reckon_200 (by decide)) dX1_reckon_201) (by decide) dX1_reckon_202 rfl)))))))
/-! PassHuts$Law.bars(IIII)Z -/
theorem dX1_bars_0 : decode cX1_bars 0 = .ok (.aload_n 0, 1) := by decide +kernel
theorem dX1_bars_1 : decode cX1_bars 1 = .ok (.getfield 36, 3) := by decide +kernel
theorem dX1_bars_4 : decode cX1_bars 4 = .ok (.ifCond .ne 5, 3) := by decide +kernel
theorem dX1_bars_7 : decode cX1_bars 7 = .ok (.iconst 0, 1) := by decide +kernel
theorem dX1_bars_8 : decode cX1_bars 8 = .ok (.ireturn, 1) := by decide +kernel
theorem dX1_bars_9 : decode cX1_bars 9 = .ok (.iload 4, 2) := by decide +kernel
theorem dX1_bars_11 : decode cX1_bars 11 = .ok (.bipush 13, 2) := by decide +kernel
theorem dX1_bars_13 : decode cX1_bars 13 = .ok (.imul, 1) := by decide +kernel
theorem dX1_bars_14 : decode cX1_bars 14 = .ok (.iload_n 1, 1) := by decide +kernel
theorem dX1_bars_15 : decode cX1_bars 15 = .ok (.iadd, 1) := by decide +kernel
theorem dX1_bars_16 : decode cX1_bars 16 = .ok (.bipush 13, 2) := by decide +kernel
theorem dX1_bars_18 : decode cX1_bars 18 = .ok (.imul, 1) := by decide +kernel
theorem dX1_bars_19 : decode cX1_bars 19 = .ok (.iload_n 2, 1) := by decide +kernel
theorem dX1_bars_20 : decode cX1_bars 20 = .ok (.iadd, 1) := by decide +kernel
theorem dX1_bars_21 : decode cX1_bars 21 = .ok (.iconst 4, 1) := by decide +kernel
theorem dX1_bars_22 : decode cX1_bars 22 = .ok (.imul, 1) := by decide +kernel
theorem dX1_bars_23 : decode cX1_bars 23 = .ok (.iload_n 3, 1) := by decide +kernel
theorem dX1_bars_24 : decode cX1_bars 24 = .ok (.iadd, 1) := by decide +kernel
theorem dX1_bars_25 : decode cX1_bars 25 = .ok (.iconst 2, 1) := by decide +kernel
theorem dX1_bars_26 : decode cX1_bars 26 = .ok (.isub, 1) := by decide +kernel
theorem dX1_bars_27 : decode cX1_bars 27 = .ok (.istore 5, 2) := by decide +kernel
theorem dX1_bars_29 : decode cX1_bars 29 = .ok (.iload 5, 2) := by decide +kernel
theorem dX1_bars_31 : decode cX1_bars 31 = .ok (.ifCond .lt 11, 3) := by decide +kernel
theorem dX1_bars_34 : decode cX1_bars 34 = .ok (.iload 5, 2) := by decide +kernel
theorem dX1_bars_36 : decode cX1_bars 36 = .ok (.sipush 8788, 3) := by decide +kernel
theorem dX1_bars_39 : decode cX1_bars 39 = .ok (.if_icmp .lt 21, 3) := by decide +kernel
theorem dX1_bars_42 : decode cX1_bars 42 = .ok (.aload_n 0, 1) := by decide +kernel
theorem dX1_bars_43 : decode cX1_bars 43 = .ok (.iload_n 1, 1) := by decide +kernel
theorem dX1_bars_44 : decode cX1_bars 44 = .ok (.iload_n 2, 1) := by decide +kernel
theorem dX1_bars_45 : decode cX1_bars 45 = .ok (.iload_n 3, 1) := by decide +kernel
theorem dX1_bars_46 : decode cX1_bars 46 = .ok (.iload 4, 2) := by decide +kernel
theorem dX1_bars_48 : decode cX1_bars 48 = .ok (.invokevirtual 46, 3) := by decide +kernel
theorem dX1_bars_51 : decode cX1_bars 51 = .ok (.ifCond .eq 7, 3) := by decide +kernel
theorem dX1_bars_54 : decode cX1_bars 54 = .ok (.iconst 1, 1) := by decide +kernel
theorem dX1_bars_55 : decode cX1_bars 55 = .ok (.goto 4, 3) := by decide +kernel
theorem dX1_bars_58 : decode cX1_bars 58 = .ok (.iconst 0, 1) := by decide +kernel
theorem dX1_bars_59 : decode cX1_bars 59 = .ok (.ireturn, 1) := by decide +kernel
theorem dX1_bars_60 : decode cX1_bars 60 = .ok (.lconst 1, 1) := by decide +kernel
theorem dX1_bars_61 : decode cX1_bars 61 = .ok (.iload 5, 2) := by decide +kernel
theorem dX1_bars_63 : decode cX1_bars 63 = .ok (.bipush 63, 2) := by decide +kernel
theorem dX1_bars_65 : decode cX1_bars 65 = .ok (.iand, 1) := by decide +kernel
theorem dX1_bars_66 : decode cX1_bars 66 = .ok (.lshl, 1) := by decide +kernel
theorem dX1_bars_67 : decode cX1_bars 67 = .ok (.lstore 6, 2) := by decide +kernel
theorem dX1_bars_69 : decode cX1_bars 69 = .ok (.iload 5, 2) := by decide +kernel
theorem dX1_bars_71 : decode cX1_bars 71 = .ok (.bipush 6, 2) := by decide +kernel
theorem dX1_bars_73 : decode cX1_bars 73 = .ok (.ishr, 1) := by decide +kernel
theorem dX1_bars_74 : decode cX1_bars 74 = .ok (.istore 8, 2) := by decide +kernel
theorem dX1_bars_76 : decode cX1_bars 76 = .ok (.aload_n 0, 1) := by decide +kernel
theorem dX1_bars_77 : decode cX1_bars 77 = .ok (.getfield 21, 3) := by decide +kernel
theorem dX1_bars_80 : decode cX1_bars 80 = .ok (.iload 8, 2) := by decide +kernel
theorem dX1_bars_82 : decode cX1_bars 82 = .ok (.laload, 1) := by decide +kernel
theorem dX1_bars_83 : decode cX1_bars 83 = .ok (.lload 6, 2) := by decide +kernel
theorem dX1_bars_85 : decode cX1_bars 85 = .ok (.land, 1) := by decide +kernel
theorem dX1_bars_86 : decode cX1_bars 86 = .ok (.lconst 0, 1) := by decide +kernel
theorem dX1_bars_87 : decode cX1_bars 87 = .ok (.lcmp, 1) := by decide +kernel
theorem dX1_bars_88 : decode cX1_bars 88 = .ok (.ifCond .ne 39, 3) := by decide +kernel
theorem dX1_bars_91 : decode cX1_bars 91 = .ok (.aload_n 0, 1) := by decide +kernel
theorem dX1_bars_92 : decode cX1_bars 92 = .ok (.getfield 21, 3) := by decide +kernel
theorem dX1_bars_95 : decode cX1_bars 95 = .ok (.iload 8, 2) := by decide +kernel
theorem dX1_bars_97 : decode cX1_bars 97 = .ok (.dup2, 1) := by decide +kernel
theorem dX1_bars_98 : decode cX1_bars 98 = .ok (.laload, 1) := by decide +kernel
theorem dX1_bars_99 : decode cX1_bars 99 = .ok (.lload 6, 2) := by decide +kernel
theorem dX1_bars_101 : decode cX1_bars 101 = .ok (.lor, 1) := by decide +kernel
theorem dX1_bars_102 : decode cX1_bars 102 = .ok (.lastore, 1) := by decide +kernel
theorem dX1_bars_103 : decode cX1_bars 103 = .ok (.aload_n 0, 1) := by decide +kernel
theorem dX1_bars_104 : decode cX1_bars 104 = .ok (.iload_n 1, 1) := by decide +kernel
theorem dX1_bars_105 : decode cX1_bars 105 = .ok (.iload_n 2, 1) := by decide +kernel
theorem dX1_bars_106 : decode cX1_bars 106 = .ok (.iload_n 3, 1) := by decide +kernel
theorem dX1_bars_107 : decode cX1_bars 107 = .ok (.iload 4, 2) := by decide +kernel
theorem dX1_bars_109 : decode cX1_bars 109 = .ok (.invokevirtual 46, 3) := by decide +kernel
theorem dX1_bars_112 : decode cX1_bars 112 = .ok (.ifCond .eq 15, 3) := by decide +kernel
theorem dX1_bars_115 : decode cX1_bars 115 = .ok (.aload_n 0, 1) := by decide +kernel
theorem dX1_bars_116 : decode cX1_bars 116 = .ok (.getfield 25, 3) := by decide +kernel
theorem dX1_bars_119 : decode cX1_bars 119 = .ok (.iload 8, 2) := by decide +kernel
theorem dX1_bars_121 : decode cX1_bars 121 = .ok (.dup2, 1) := by decide +kernel
theorem dX1_bars_122 : decode cX1_bars 122 = .ok (.laload, 1) := by decide +kernel
theorem dX1_bars_123 : decode cX1_bars 123 = .ok (.lload 6, 2) := by decide +kernel
theorem dX1_bars_125 : decode cX1_bars 125 = .ok (.lor, 1) := by decide +kernel
theorem dX1_bars_126 : decode cX1_bars 126 = .ok (.lastore, 1) := by decide +kernel
theorem dX1_bars_127 : decode cX1_bars 127 = .ok (.aload_n 0, 1) := by decide +kernel
theorem dX1_bars_128 : decode cX1_bars 128 = .ok (.getfield 25, 3) := by decide +kernel
theorem dX1_bars_131 : decode cX1_bars 131 = .ok (.iload 8, 2) := by decide +kernel
theorem dX1_bars_133 : decode cX1_bars 133 = .ok (.laload, 1) := by decide +kernel
theorem dX1_bars_134 : decode cX1_bars 134 = .ok (.lload 6, 2) := by decide +kernel
theorem dX1_bars_136 : decode cX1_bars 136 = .ok (.land, 1) := by decide +kernel
theorem dX1_bars_137 : decode cX1_bars 137 = .ok (.lconst 0, 1) := by decide +kernel
theorem dX1_bars_138 : decode cX1_bars 138 = .ok (.lcmp, 1) := by decide +kernel
theorem dX1_bars_139 : decode cX1_bars 139 = .ok (.ifCond .eq 7, 3) := by decide +kernel
theorem dX1_bars_142 : decode cX1_bars 142 = .ok (.iconst 1, 1) := by decide +kernel
theorem dX1_bars_143 : decode cX1_bars 143 = .ok (.goto 4, 3) := by decide +kernel
theorem dX1_bars_146 : decode cX1_bars 146 = .ok (.iconst 0, 1) := by decide +kernel
theorem dX1_bars_147 : decode cX1_bars 147 = .ok (.ireturn, 1) := by decide +kernel
abbrev tX1_bars (k : Nat) : MT := (RX1, cX1_bars, 9, k, (some .boolean))
def mX1_bars : MX := bodyOf 9 (sSeq (sIf (cZ zeq (iGet 1 5 (rLoc 0))) (sRetZ (iK 0)) sSkip) (sSeq (sSetI 5 (iB gT2 (· - ·) (iB gT2 (· + ·) (iB gT2 (· * ·) (iB gT2 (· + ·) (iB gT2 (· * ·) (iB gT2 (· + ·) (iB gT2 (· * ·) (iLoc 4) (iK 13)) (iLoc 1)) (iK 13)) (iLoc 2)) (iK 4)) (iLoc 3)) (iK 2))) (sSeq (sIf (cOr (cZ zlt (iLoc 5)) (cB rge (iLoc 5) (iK 8788))) (sRetZ (iBool (cZ zne (iCallV 1 mX1_reckon (aR (rLoc 0) (aI (iLoc 1) (aI (iLoc 2) (aI (iLoc 3) (aI (iLoc 4) aNil))))))))) sSkip) (sSeq (sSetL 6 (lBI jlshl (lK 1) (iB gT2 (· &&& ·) (iLoc 5) (iK 63)))) (sSeq (sSetI 8 (iB gT2 jshr (iLoc 5) (iK 6))) (sSeq (sIf (cL leq (lB gT2 (· &&& ·) (lALd (rGet 1 3 (rLoc 0)) (iLoc 8)) (lLoc 6)) (lK 0)) (sSeq (sAUpdL gT2 (· ||| ·) (rGet 1 3 (rLoc 0)) (iLoc 8) (lLoc 6)) (sIf (cZ zne (iCallV 1 mX1_reckon (aR (rLoc 0) (aI (iLoc 1) (aI (iLoc 2) (aI (iLoc 3) (aI (iLoc 4) aNil))))))) (sAUpdL gT2 (· ||| ·) (rGet 1 4 (rLoc 0)) (iLoc 8) (lLoc 6)) sSkip)) sSkip) (sRetZ (iBool (cL lne (lB gT2 (· &&& ·) (lALd (rGet 1 4 (rLoc 0)) (iLoc 8)) (lLoc 6)) (lK 0))))))))))
theorem kX1_bars (g : GT) : MK g 2 yX1_bars cX1_bars 9 (some .boolean) mX1_bars := MK.of (pcN := 99999) (pcB := 0) (pcC := 0) rfl (Sok.seq (pc1 := 9) (Sok.ite (pc1 := 7) (pc2 := 9) (Cok.zero (pc1 := 4) (pcT := 7) (pcF := 9) (EokI.getf (pc1 := 1) (j := 5) (ci := 1) (T := TX1) (N := 6) (EokR.aload_n (q := 0) dX1_bars_0) rfl wsX1_in (by decide) flX1_36 dX1_bars_1) (JZ.eqF (tgt := 9) dX1_bars_4 (by decide))) (by decide) (Sok.retZ (pc1 := 8) (EokI.iconst (v := 0) dX1_bars_7 (by decide)) (by decide) dX1_bars_8 rfl) (Sok.skip (pc := 9))) (Sok.seq (pc1 := 29) (Sok.setI (i := 5) (pc1 := 27) (EokI.bin (pc1 := 25) (pc2 := 26) (EokI.bin (pc1 := 23) (pc2 := 24) (EokI.bin (pc1 := 21) (pc2 := 22) (EokI.bin (pc1 := 19) (pc2 := 20) (EokI.bin (pc1 := 16) (pc2 := 18) (EokI.bin (pc1 := 14) (pc2 := 15) (EokI.bin (pc1 := 11) (pc2 := 13) (EokI.iload (i := 4) dX1_bars_9) (EokI.bipush (v := 13) dX1_bars_11 (by decide)) (OPI.imul dX1_bars_13)) (EokI.iload_n (q := 1) dX1_bars_14) (OPI.iadd dX1_bars_15)) (EokI.bipush (v := 13) dX1_bars_16 (by decide)) (OPI.imul dX1_bars_18)) (EokI.iload_n (q := 2) dX1_bars_19) (OPI.iadd dX1_bars_20)) (EokI.iconst (v := 4) dX1_bars_21 (by decide)) (OPI.imul dX1_bars_22)) (EokI.iload_n (q := 3) dX1_bars_23) (OPI.iadd dX1_bars_24)) (EokI.iconst (v := 2) dX1_bars_25 (by decide)) (OPI.isub dX1_bars_26)) (by decide) dX1_bars_27 (show 5 < 9 by decide)) (Sok.seq (pc1 := 60) (Sok.ite (pc1 := 42) (pc2 := 60) (Cok.or (pc1 := 34) (Cok.zero (pc1 := 31) (pcT := 42) (pcF := 34) (EokI.iload (i := 5) dX1_bars_29) (JZ.ltT (tgt := 42) dX1_bars_31 (by decide))) (Cok.cmp (pc1 := 36) (pc2 := 39) (pcT := 42) (pcF := 60) (EokI.iload (i := 5) dX1_bars_34) (EokI.sipush (v := 8788) dX1_bars_36 (by decide)) (JI.geF (tgt := 60) dX1_bars_39 (by decide)))) (by decide) (Sok.retZ (pc1 := 59) (EokI.cond' (pc1 := 54) (pc2 := 58) (Cok.zero (pc1 := 51) (pcT := 54) (pcF := 58) (EokI.iCallV (pc1 := 48) (Aok.aR (pc1 := 43) (EokR.aload_n (q := 0) dX1_bars_42) (Aok.aI (pc1 := 44) (EokI.iload_n (q := 1) dX1_bars_43) (Aok.aI (pc1 := 45) (EokI.iload_n (q := 2) dX1_bars_44) (Aok.aI (pc1 := 46) (EokI.iload_n (q := 3) dX1_bars_45) (Aok.aI (pc1 := 48) (EokI.iload (i := 4) dX1_bars_46) Aok.nil))))) (kX1_reckon g) rfl ykX1_reckon vkX1_46 (by decide) (by decide) dX1_bars_48) (JZ.neF (tgt := 58) dX1_bars_51 (by decide))) (EokI.goto (pc1 := 55) (pc2 := 59) (EokI.iconst (v := 1) dX1_bars_54 (by decide)) dX1_bars_55 (by decide)) (EokI.iconst (v := 0) dX1_bars_58 (by decide))) (by decide) dX1_bars_59 rfl) (Sok.skip (pc := 60))) (Sok.seq (pc1 := 69) (Sok.setL (i := 6) (pc1 := 67) (EokL.binI (pc1 := 61) (pc2 := 66) (EokL.lconst (v := 1) dX1_bars_60 (by decide)) (EokI.bin (pc1 := 63) (pc2 := 65) (EokI.iload (i := 5) dX1_bars_61) (EokI.bipush (v := 63) dX1_bars_63 (by decide)) (OPI.iand dX1_bars_65)) (OPLI.lshl dX1_bars_66)) (by decide) dX1_bars_67 (show 7 < 9 by decide)) (Sok.seq (pc1 := 76) (Sok.setI (i := 8) (pc1 := 74) (EokI.bin (pc1 := 71) (pc2 := 73) (EokI.iload (i := 5) dX1_bars_69) (EokI.bipush (v := 6) dX1_bars_71 (by decide)) (OPI.ishr dX1_bars_73)) (by decide) dX1_bars_74 (show 8 < 9 by decide)) (Sok.seq (pc1 := 127) (Sok.ite (pc1 := 91) (pc2 := 127) (Cok.lcmp (pc1 := 86) (pc2 := 87) (pcT := 91) (pcF := 127) (EokL.bin (pc1 := 83) (pc2 := 85) (EokL.lALd (pc1 := 80) (pc2 := 82) (EokR.getf (pc1 := 77) (j := 3) (ci := 1) (T := TX1) (N := 6) (EokR.aload_n (q := 0) dX1_bars_76) rfl wsX1_in (by decide) flX1_21 dX1_bars_77) (EokI.iload (i := 8) dX1_bars_80) dX1_bars_82) (EokL.lload (i := 6) dX1_bars_83) (OPL.land dX1_bars_85)) (EokL.lconst (v := 0) dX1_bars_86 (by decide)) (JL.eq dX1_bars_87 (JZ.eqF (tgt := 127) dX1_bars_88 (by decide)))) (by decide) (Sok.seq (pc1 := 103) (Sok.aupdL (pc1 := 95) (pc2 := 97) (pc3 := 101) (EokR.getf (pc1 := 92) (j := 3) (ci := 1) (T := TX1) (N := 6) (EokR.aload_n (q := 0) dX1_bars_91) rfl wsX1_in (by decide) flX1_21 dX1_bars_92) (EokI.iload (i := 8) dX1_bars_95) dX1_bars_97 dX1_bars_98 (EokL.lload (i := 6) dX1_bars_99) (OPL.lor dX1_bars_101) (by decide) dX1_bars_102) (Sok.ite (pc1 := 115) (pc2 := 127) (Cok.zero (pc1 := 112) (pcT := 115) (pcF := 127) (EokI.iCallV (pc1 := 109) (Aok.aR (pc1 := 104) (EokR.aload_n (q := 0) dX1_bars_103) (Aok.aI (pc1 := 105) (EokI.iload_n (q := 1) dX1_bars_104) (Aok.aI (pc1 := 106) (EokI.iload_n (q := 2) dX1_bars_105) (Aok.aI (pc1 := 107) (EokI.iload_n (q := 3) dX1_bars_106) (Aok.aI (pc1 := 109) (EokI.iload (i := 4) dX1_bars_107) Aok.nil))))) (kX1_reckon g) rfl ykX1_reckon vkX1_46 (by decide) (by decide) dX1_bars_109) (JZ.neF (tgt := 127) dX1_bars_112 (by decide))) (by decide) (Sok.aupdL (pc1 := 119) (pc2 := 121) (pc3 := 125) (EokR.getf (pc1 := 116) (j := 4) (ci := 1) (T := TX1) (N := 6) (EokR.aload_n (q := 0) dX1_bars_115) rfl wsX1_in (by decide) flX1_25 dX1_bars_116) (EokI.iload (i := 8) dX1_bars_119) dX1_bars_121 dX1_bars_122 (EokL.lload (i := 6) dX1_bars_123) (OPL.lor dX1_bars_125) (by decide) dX1_bars_126) (Sok.skip (pc := 127)))) (Sok.skip (pc := 127))) (Sok.retZ (pc1 := 147) (EokI.cond' (pc1 := 142) (pc2 := 146) (Cok.lcmp (pc1 := 137) (pc2 := 138) (pcT := 142) (pcF := 146) (EokL.bin (pc1 := 134) (pc2 := 136) (EokL.lALd (pc1 := 131) (pc2 := 133) (EokR.getf (pc1 := 128) (j := 4) (ci := 1) (T := TX1) (N := 6) (EokR.aload_n (q := 0) dX1_bars_127) rfl wsX1_in (by decide) flX1_25 dX1_bars_128) (EokI.iload (i := 8) dX1_bars_131) dX1_bars_133) (EokL.lload (i := 6) dX1_bars_134) (OPL.land dX1_bars_136)) (EokL.lconst (v := 0) dX1_bars_137 (by decide)) (JL.ne dX1_bars_138 (JZ.neF (tgt := 146) dX1_bars_139 (by decide)))) (EokI.goto (pc1 := 143) (pc2 := 147) (EokI.iconst (v := 1) dX1_bars_142 (by decide)) dX1_bars_143 (by decide)) (EokI.iconst (v := 0) dX1_bars_146 (by decide))) (by decide) dX1_bars_147 rfl)))))))
/-! PassHuts$Hills.afterWay(III)I -/
theorem dX0_afterWay_0 : decode cX0_afterWay 0 = .ok (.iload_n 3, 1) := by decide +kernel
theorem dX0_afterWay_1 : decode cX0_afterWay 1 = .ok (.ifCond .lt 17, 3) := by decide +kernel
theorem dX0_afterWay_4 : decode cX0_afterWay 4 = .ok (.iload_n 3, 1) := by decide +kernel
theorem dX0_afterWay_5 : decode cX0_afterWay 5 = .ok (.aload_n 0, 1) := by decide +kernel
theorem dX0_afterWay_6 : decode cX0_afterWay 6 = .ok (.getfield 66, 3) := by decide +kernel
theorem dX0_afterWay_9 : decode cX0_afterWay 9 = .ok (.if_icmp .ge 9, 3) := by decide +kernel
theorem dX0_afterWay_12 : decode cX0_afterWay 12 = .ok (.iload_n 3, 1) := by decide +kernel
theorem dX0_afterWay_13 : decode cX0_afterWay 13 = .ok (.bipush 20, 2) := by decide +kernel
theorem dX0_afterWay_15 : decode cX0_afterWay 15 = .ok (.if_icmp .lt 5, 3) := by decide +kernel
theorem dX0_afterWay_18 : decode cX0_afterWay 18 = .ok (.iconst (-1), 1) := by decide +kernel
theorem dX0_afterWay_19 : decode cX0_afterWay 19 = .ok (.ireturn, 1) := by decide +kernel
theorem dX0_afterWay_20 : decode cX0_afterWay 20 = .ok (.iload_n 1, 1) := by decide +kernel
theorem dX0_afterWay_21 : decode cX0_afterWay 21 = .ok (.aload_n 0, 1) := by decide +kernel
theorem dX0_afterWay_22 : decode cX0_afterWay 22 = .ok (.getfield 44, 3) := by decide +kernel
theorem dX0_afterWay_25 : decode cX0_afterWay 25 = .ok (.iload_n 3, 1) := by decide +kernel
theorem dX0_afterWay_26 : decode cX0_afterWay 26 = .ok (.iaload, 1) := by decide +kernel
theorem dX0_afterWay_27 : decode cX0_afterWay 27 = .ok (.ishr, 1) := by decide +kernel
theorem dX0_afterWay_28 : decode cX0_afterWay 28 = .ok (.bipush 15, 2) := by decide +kernel
theorem dX0_afterWay_30 : decode cX0_afterWay 30 = .ok (.iand, 1) := by decide +kernel
theorem dX0_afterWay_31 : decode cX0_afterWay 31 = .ok (.istore 4, 2) := by decide +kernel
theorem dX0_afterWay_33 : decode cX0_afterWay 33 = .ok (.aload_n 0, 1) := by decide +kernel
theorem dX0_afterWay_34 : decode cX0_afterWay 34 = .ok (.getfield 35, 3) := by decide +kernel
theorem dX0_afterWay_37 : decode cX0_afterWay 37 = .ok (.iload_n 3, 1) := by decide +kernel
theorem dX0_afterWay_38 : decode cX0_afterWay 38 = .ok (.iaload, 1) := by decide +kernel
theorem dX0_afterWay_39 : decode cX0_afterWay 39 = .ok (.istore 5, 2) := by decide +kernel
theorem dX0_afterWay_41 : decode cX0_afterWay 41 = .ok (.iload 4, 2) := by decide +kernel
theorem dX0_afterWay_43 : decode cX0_afterWay 43 = .ok (.iload 5, 2) := by decide +kernel
theorem dX0_afterWay_45 : decode cX0_afterWay 45 = .ok (.if_icmp .ge 5, 3) := by decide +kernel
theorem dX0_afterWay_48 : decode cX0_afterWay 48 = .ok (.iconst (-1), 1) := by decide +kernel
theorem dX0_afterWay_49 : decode cX0_afterWay 49 = .ok (.ireturn, 1) := by decide +kernel
theorem dX0_afterWay_50 : decode cX0_afterWay 50 = .ok (.iload_n 1, 1) := by decide +kernel
theorem dX0_afterWay_51 : decode cX0_afterWay 51 = .ok (.aload_n 0, 1) := by decide +kernel
theorem dX0_afterWay_52 : decode cX0_afterWay 52 = .ok (.getfield 47, 3) := by decide +kernel
theorem dX0_afterWay_55 : decode cX0_afterWay 55 = .ok (.iload_n 3, 1) := by decide +kernel
theorem dX0_afterWay_56 : decode cX0_afterWay 56 = .ok (.iaload, 1) := by decide +kernel
theorem dX0_afterWay_57 : decode cX0_afterWay 57 = .ok (.ishr, 1) := by decide +kernel
theorem dX0_afterWay_58 : decode cX0_afterWay 58 = .ok (.bipush 15, 2) := by decide +kernel
theorem dX0_afterWay_60 : decode cX0_afterWay 60 = .ok (.iand, 1) := by decide +kernel
theorem dX0_afterWay_61 : decode cX0_afterWay 61 = .ok (.istore 6, 2) := by decide +kernel
theorem dX0_afterWay_63 : decode cX0_afterWay 63 = .ok (.iload 6, 2) := by decide +kernel
theorem dX0_afterWay_65 : decode cX0_afterWay 65 = .ok (.aload_n 0, 1) := by decide +kernel
theorem dX0_afterWay_66 : decode cX0_afterWay 66 = .ok (.getfield 50, 3) := by decide +kernel
theorem dX0_afterWay_69 : decode cX0_afterWay 69 = .ok (.iload_n 3, 1) := by decide +kernel
theorem dX0_afterWay_70 : decode cX0_afterWay 70 = .ok (.iaload, 1) := by decide +kernel
theorem dX0_afterWay_71 : decode cX0_afterWay 71 = .ok (.if_icmp .ge 20, 3) := by decide +kernel
theorem dX0_afterWay_74 : decode cX0_afterWay 74 = .ok (.aload_n 0, 1) := by decide +kernel
theorem dX0_afterWay_75 : decode cX0_afterWay 75 = .ok (.getfield 18, 3) := by decide +kernel
theorem dX0_afterWay_78 : decode cX0_afterWay 78 = .ok (.iload 4, 2) := by decide +kernel
theorem dX0_afterWay_80 : decode cX0_afterWay 80 = .ok (.iload 6, 2) := by decide +kernel
theorem dX0_afterWay_82 : decode cX0_afterWay 82 = .ok (.iload 5, 2) := by decide +kernel
theorem dX0_afterWay_84 : decode cX0_afterWay 84 = .ok (.iload_n 2, 1) := by decide +kernel
theorem dX0_afterWay_85 : decode cX0_afterWay 85 = .ok (.invokevirtual 99, 3) := by decide +kernel
theorem dX0_afterWay_88 : decode cX0_afterWay 88 = .ok (.ifCond .eq 5, 3) := by decide +kernel
theorem dX0_afterWay_91 : decode cX0_afterWay 91 = .ok (.iconst (-1), 1) := by decide +kernel
theorem dX0_afterWay_92 : decode cX0_afterWay 92 = .ok (.ireturn, 1) := by decide +kernel
theorem dX0_afterWay_93 : decode cX0_afterWay 93 = .ok (.iload_n 1, 1) := by decide +kernel
theorem dX0_afterWay_94 : decode cX0_afterWay 94 = .ok (.aload_n 0, 1) := by decide +kernel
theorem dX0_afterWay_95 : decode cX0_afterWay 95 = .ok (.getfield 53, 3) := by decide +kernel
theorem dX0_afterWay_98 : decode cX0_afterWay 98 = .ok (.iload_n 3, 1) := by decide +kernel
theorem dX0_afterWay_99 : decode cX0_afterWay 99 = .ok (.iaload, 1) := by decide +kernel
theorem dX0_afterWay_100 : decode cX0_afterWay 100 = .ok (.iadd, 1) := by decide +kernel
theorem dX0_afterWay_101 : decode cX0_afterWay 101 = .ok (.ireturn, 1) := by decide +kernel
abbrev tX0_afterWay (k : Nat) : MT := (RX0, cX0_afterWay, 7, k, (some .int))
def mX0_afterWay : MX := bodyOf 7 (sSeq (sIf (cOr (cOr (cZ zlt (iLoc 3)) (cB rge (iLoc 3) (iGet 0 4 (rLoc 0)))) (cB rge (iLoc 3) (iK 20))) (sRetI (iK (-1))) sSkip) (sSeq (sSetI 4 (iB gT2 (· &&& ·) (iB gT2 jshr (iLoc 1) (iALd (rGet 0 11 (rLoc 0)) (iLoc 3))) (iK 15))) (sSeq (sSetI 5 (iALd (rGet 0 1 (rLoc 0)) (iLoc 3))) (sSeq (sIf (cB rlt (iLoc 4) (iLoc 5)) (sRetI (iK (-1))) sSkip) (sSeq (sSetI 6 (iB gT2 (· &&& ·) (iB gT2 jshr (iLoc 1) (iALd (rGet 0 12 (rLoc 0)) (iLoc 3))) (iK 15))) (sSeq (sIf (cOr (cB rge (iLoc 6) (iALd (rGet 0 13 (rLoc 0)) (iLoc 3))) (cZ zne (iCallV 1 mX1_bars (aR (rGet 0 2 (rLoc 0)) (aI (iLoc 4) (aI (iLoc 6) (aI (iLoc 5) (aI (iLoc 2) aNil)))))))) (sRetI (iK (-1))) sSkip) (sRetI (iB gT2 (· + ·) (iLoc 1) (iALd (rGet 0 14 (rLoc 0)) (iLoc 3))))))))))
theorem kX0_afterWay (g : GT) : MK g 3 yX0_afterWay cX0_afterWay 7 (some .int) mX0_afterWay := MK.of (pcN := 99999) (pcB := 0) (pcC := 0) rfl (Sok.seq (pc1 := 20) (Sok.ite (pc1 := 18) (pc2 := 20) (Cok.or (pc1 := 12) (Cok.or (pc1 := 4) (Cok.zero (pc1 := 1) (pcT := 18) (pcF := 4) (EokI.iload_n (q := 3) dX0_afterWay_0) (JZ.ltT (tgt := 18) dX0_afterWay_1 (by decide))) (Cok.cmp (pc1 := 5) (pc2 := 9) (pcT := 18) (pcF := 12) (EokI.iload_n (q := 3) dX0_afterWay_4) (EokI.getf (pc1 := 6) (j := 4) (ci := 0) (T := TX0) (N := 17) (EokR.aload_n (q := 0) dX0_afterWay_5) rfl wsX0_in (by decide) flX0_66 dX0_afterWay_6) (JI.geT (tgt := 18) dX0_afterWay_9 (by decide)))) (Cok.cmp (pc1 := 13) (pc2 := 15) (pcT := 18) (pcF := 20) (EokI.iload_n (q := 3) dX0_afterWay_12) (EokI.bipush (v := 20) dX0_afterWay_13 (by decide)) (JI.geF (tgt := 20) dX0_afterWay_15 (by decide)))) (by decide) (Sok.retI (pc1 := 19) (EokI.iconst (v := (-1)) dX0_afterWay_18 (by decide)) (by decide) dX0_afterWay_19 rfl) (Sok.skip (pc := 20))) (Sok.seq (pc1 := 33) (Sok.setI (i := 4) (pc1 := 31) (EokI.bin (pc1 := 28) (pc2 := 30) (EokI.bin (pc1 := 21) (pc2 := 27) (EokI.iload_n (q := 1) dX0_afterWay_20) (EokI.iALd (pc1 := 25) (pc2 := 26) (EokR.getf (pc1 := 22) (j := 11) (ci := 0) (T := TX0) (N := 17) (EokR.aload_n (q := 0) dX0_afterWay_21) rfl wsX0_in (by decide) flX0_44 dX0_afterWay_22) (EokI.iload_n (q := 3) dX0_afterWay_25) dX0_afterWay_26) (OPI.ishr dX0_afterWay_27)) (EokI.bipush (v := 15) dX0_afterWay_28 (by decide)) (OPI.iand dX0_afterWay_30)) (by decide) dX0_afterWay_31 (show 4 < 7 by decide)) (Sok.seq (pc1 := 41) (Sok.setI (i := 5) (pc1 := 39) (EokI.iALd (pc1 := 37) (pc2 := 38) (EokR.getf (pc1 := 34) (j := 1) (ci := 0) (T := TX0) (N := 17) (EokR.aload_n (q := 0) dX0_afterWay_33) rfl wsX0_in (by decide) flX0_35 dX0_afterWay_34) (EokI.iload_n (q := 3) dX0_afterWay_37) dX0_afterWay_38) (by decide) dX0_afterWay_39 (show 5 < 7 by decide)) (Sok.seq (pc1 := 50) (Sok.ite (pc1 := 48) (pc2 := 50) (Cok.cmp (pc1 := 43) (pc2 := 45) (pcT := 48) (pcF := 50) (EokI.iload (i := 4) dX0_afterWay_41) (EokI.iload (i := 5) dX0_afterWay_43) (JI.ltF (tgt := 50) dX0_afterWay_45 (by decide))) (by decide) (Sok.retI (pc1 := 49) (EokI.iconst (v := (-1)) dX0_afterWay_48 (by decide)) (by decide) dX0_afterWay_49 rfl) (Sok.skip (pc := 50))) (Sok.seq (pc1 := 63) (Sok.setI (i := 6) (pc1 := 61) (EokI.bin (pc1 := 58) (pc2 := 60) (EokI.bin (pc1 := 51) (pc2 := 57) (EokI.iload_n (q := 1) dX0_afterWay_50) (EokI.iALd (pc1 := 55) (pc2 := 56) (EokR.getf (pc1 := 52) (j := 12) (ci := 0) (T := TX0) (N := 17) (EokR.aload_n (q := 0) dX0_afterWay_51) rfl wsX0_in (by decide) flX0_47 dX0_afterWay_52) (EokI.iload_n (q := 3) dX0_afterWay_55) dX0_afterWay_56) (OPI.ishr dX0_afterWay_57)) (EokI.bipush (v := 15) dX0_afterWay_58 (by decide)) (OPI.iand dX0_afterWay_60)) (by decide) dX0_afterWay_61 (show 6 < 7 by decide)) (Sok.seq (pc1 := 93) (Sok.ite (pc1 := 91) (pc2 := 93) (Cok.or (pc1 := 74) (Cok.cmp (pc1 := 65) (pc2 := 71) (pcT := 91) (pcF := 74) (EokI.iload (i := 6) dX0_afterWay_63) (EokI.iALd (pc1 := 69) (pc2 := 70) (EokR.getf (pc1 := 66) (j := 13) (ci := 0) (T := TX0) (N := 17) (EokR.aload_n (q := 0) dX0_afterWay_65) rfl wsX0_in (by decide) flX0_50 dX0_afterWay_66) (EokI.iload_n (q := 3) dX0_afterWay_69) dX0_afterWay_70) (JI.geT (tgt := 91) dX0_afterWay_71 (by decide))) (Cok.zero (pc1 := 88) (pcT := 91) (pcF := 93) (EokI.iCallV (pc1 := 85) (Aok.aR (pc1 := 78) (EokR.getf (pc1 := 75) (j := 2) (ci := 0) (T := TX0) (N := 17) (EokR.aload_n (q := 0) dX0_afterWay_74) rfl wsX0_in (by decide) flX0_18 dX0_afterWay_75) (Aok.aI (pc1 := 80) (EokI.iload (i := 4) dX0_afterWay_78) (Aok.aI (pc1 := 82) (EokI.iload (i := 6) dX0_afterWay_80) (Aok.aI (pc1 := 84) (EokI.iload (i := 5) dX0_afterWay_82) (Aok.aI (pc1 := 85) (EokI.iload_n (q := 2) dX0_afterWay_84) Aok.nil))))) (kX1_bars g) rfl ykX1_bars vkX0_99 (by decide) (by decide) dX0_afterWay_85) (JZ.neF (tgt := 93) dX0_afterWay_88 (by decide)))) (by decide) (Sok.retI (pc1 := 92) (EokI.iconst (v := (-1)) dX0_afterWay_91 (by decide)) (by decide) dX0_afterWay_92 rfl) (Sok.skip (pc := 93))) (Sok.retI (pc1 := 101) (EokI.bin (pc1 := 94) (pc2 := 100) (EokI.iload_n (q := 1) dX0_afterWay_93) (EokI.iALd (pc1 := 98) (pc2 := 99) (EokR.getf (pc1 := 95) (j := 14) (ci := 0) (T := TX0) (N := 17) (EokR.aload_n (q := 0) dX0_afterWay_94) rfl wsX0_in (by decide) flX0_53 dX0_afterWay_95) (EokI.iload_n (q := 3) dX0_afterWay_98) dX0_afterWay_99) (OPI.iadd dX0_afterWay_100)) (by decide) dX0_afterWay_101 rfl)))))))
/-! PassHuts$Hills.afterCarrying(III)I -/
theorem dX0_afterCarrying_0 : decode cX0_afterCarrying 0 = .ok (.aload_n 0, 1) := by decide +kernel
theorem dX0_afterCarrying_1 : decode cX0_afterCarrying 1 = .ok (.iload_n 1, 1) := by decide +kernel
theorem dX0_afterCarrying_2 : decode cX0_afterCarrying 2 = .ok (.aload_n 0, 1) := by decide +kernel
theorem dX0_afterCarrying_3 : decode cX0_afterCarrying 3 = .ok (.iload_n 1, 1) := by decide +kernel
theorem dX0_afterCarrying_4 : decode cX0_afterCarrying 4 = .ok (.invokevirtual 103, 3) := by decide +kernel
theorem dX0_afterCarrying_7 : decode cX0_afterCarrying 7 = .ok (.aload_n 0, 1) := by decide +kernel
theorem dX0_afterCarrying_8 : decode cX0_afterCarrying 8 = .ok (.iload_n 2, 1) := by decide +kernel
theorem dX0_afterCarrying_9 : decode cX0_afterCarrying 9 = .ok (.iload_n 3, 1) := by decide +kernel
theorem dX0_afterCarrying_10 : decode cX0_afterCarrying 10 = .ok (.invokevirtual 106, 3) := by decide +kernel
theorem dX0_afterCarrying_13 : decode cX0_afterCarrying 13 = .ok (.invokevirtual 109, 3) := by decide +kernel
theorem dX0_afterCarrying_16 : decode cX0_afterCarrying 16 = .ok (.ireturn, 1) := by decide +kernel
abbrev tX0_afterCarrying (k : Nat) : MT := (RX0, cX0_afterCarrying, 4, k, (some .int))
def mX0_afterCarrying : MX := bodyOf 4 (sRetI (iCallV 0 mX0_afterWay (aR (rLoc 0) (aI (iLoc 1) (aI (iCallV 0 mX0_sumOf (aR (rLoc 0) (aI (iLoc 1) aNil))) (aI (iCallV 0 mX0_wayBetween (aR (rLoc 0) (aI (iLoc 2) (aI (iLoc 3) aNil)))) aNil))))))
theorem kX0_afterCarrying (g : GT) : MK g 4 yX0_afterCarrying cX0_afterCarrying 4 (some .int) mX0_afterCarrying := MK.of (pcN := 99999) (pcB := 0) (pcC := 0) rfl (Sok.retI (pc1 := 16) (EokI.iCallV (pc1 := 13) (Aok.aR (pc1 := 1) (EokR.aload_n (q := 0) dX0_afterCarrying_0) (Aok.aI (pc1 := 2) (EokI.iload_n (q := 1) dX0_afterCarrying_1) (Aok.aI (pc1 := 7) (EokI.iCallV (pc1 := 4) (Aok.aR (pc1 := 3) (EokR.aload_n (q := 0) dX0_afterCarrying_2) (Aok.aI (pc1 := 4) (EokI.iload_n (q := 1) dX0_afterCarrying_3) Aok.nil)) (kX0_sumOf g) rfl ykX0_sumOf vkX0_103 (by decide) (by decide) dX0_afterCarrying_4) (Aok.aI (pc1 := 13) (EokI.iCallV (pc1 := 10) (Aok.aR (pc1 := 8) (EokR.aload_n (q := 0) dX0_afterCarrying_7) (Aok.aI (pc1 := 9) (EokI.iload_n (q := 2) dX0_afterCarrying_8) (Aok.aI (pc1 := 10) (EokI.iload_n (q := 3) dX0_afterCarrying_9) Aok.nil))) (kX0_wayBetween g) rfl ykX0_wayBetween vkX0_106 (by decide) (by decide) dX0_afterCarrying_10) Aok.nil)))) (kX0_afterWay g) rfl ykX0_afterWay vkX0_109 (by decide) (by decide) dX0_afterCarrying_13) (by decide) dX0_afterCarrying_16 rfl)
/-! PassHuts$Story.turnTo(II)V -/
theorem dX5_turnTo_0 : decode cX5_turnTo 0 = .ok (.aload_n 0, 1) := by decide +kernel
theorem dX5_turnTo_1 : decode cX5_turnTo 1 = .ok (.aload_n 0, 1) := by decide +kernel
theorem dX5_turnTo_2 : decode cX5_turnTo 2 = .ok (.getfield 50, 3) := by decide +kernel
theorem dX5_turnTo_5 : decode cX5_turnTo 5 = .ok (.iconst 1, 1) := by decide +kernel
theorem dX5_turnTo_6 : decode cX5_turnTo 6 = .ok (.iadd, 1) := by decide +kernel
theorem dX5_turnTo_7 : decode cX5_turnTo 7 = .ok (.bipush 16, 2) := by decide +kernel
theorem dX5_turnTo_9 : decode cX5_turnTo 9 = .ok (.irem, 1) := by decide +kernel
theorem dX5_turnTo_10 : decode cX5_turnTo 10 = .ok (.putfield 50, 3) := by decide +kernel
theorem dX5_turnTo_13 : decode cX5_turnTo 13 = .ok (.aload_n 0, 1) := by decide +kernel
theorem dX5_turnTo_14 : decode cX5_turnTo 14 = .ok (.getfield 9, 3) := by decide +kernel
theorem dX5_turnTo_17 : decode cX5_turnTo 17 = .ok (.aload_n 0, 1) := by decide +kernel
theorem dX5_turnTo_18 : decode cX5_turnTo 18 = .ok (.getfield 50, 3) := by decide +kernel
theorem dX5_turnTo_21 : decode cX5_turnTo 21 = .ok (.aload_n 0, 1) := by decide +kernel
theorem dX5_turnTo_22 : decode cX5_turnTo 22 = .ok (.getfield 37, 3) := by decide +kernel
theorem dX5_turnTo_25 : decode cX5_turnTo 25 = .ok (.iastore, 1) := by decide +kernel
theorem dX5_turnTo_26 : decode cX5_turnTo 26 = .ok (.aload_n 0, 1) := by decide +kernel
theorem dX5_turnTo_27 : decode cX5_turnTo 27 = .ok (.getfield 15, 3) := by decide +kernel
theorem dX5_turnTo_30 : decode cX5_turnTo 30 = .ok (.aload_n 0, 1) := by decide +kernel
theorem dX5_turnTo_31 : decode cX5_turnTo 31 = .ok (.getfield 50, 3) := by decide +kernel
theorem dX5_turnTo_34 : decode cX5_turnTo 34 = .ok (.aload_n 0, 1) := by decide +kernel
theorem dX5_turnTo_35 : decode cX5_turnTo 35 = .ok (.getfield 41, 3) := by decide +kernel
theorem dX5_turnTo_38 : decode cX5_turnTo 38 = .ok (.iastore, 1) := by decide +kernel
theorem dX5_turnTo_39 : decode cX5_turnTo 39 = .ok (.aload_n 0, 1) := by decide +kernel
theorem dX5_turnTo_40 : decode cX5_turnTo 40 = .ok (.aload_n 0, 1) := by decide +kernel
theorem dX5_turnTo_41 : decode cX5_turnTo 41 = .ok (.getfield 44, 3) := by decide +kernel
theorem dX5_turnTo_44 : decode cX5_turnTo 44 = .ok (.iconst 1, 1) := by decide +kernel
theorem dX5_turnTo_45 : decode cX5_turnTo 45 = .ok (.iadd, 1) := by decide +kernel
theorem dX5_turnTo_46 : decode cX5_turnTo 46 = .ok (.bipush 16, 2) := by decide +kernel
theorem dX5_turnTo_48 : decode cX5_turnTo 48 = .ok (.invokestatic 53, 3) := by decide +kernel
theorem dX5_turnTo_51 : decode cX5_turnTo 51 = .ok (.putfield 44, 3) := by decide +kernel
theorem dX5_turnTo_54 : decode cX5_turnTo 54 = .ok (.aload_n 0, 1) := by decide +kernel
theorem dX5_turnTo_55 : decode cX5_turnTo 55 = .ok (.iload_n 1, 1) := by decide +kernel
theorem dX5_turnTo_56 : decode cX5_turnTo 56 = .ok (.putfield 37, 3) := by decide +kernel
theorem dX5_turnTo_59 : decode cX5_turnTo 59 = .ok (.aload_n 0, 1) := by decide +kernel
theorem dX5_turnTo_60 : decode cX5_turnTo 60 = .ok (.dup, 1) := by decide +kernel
theorem dX5_turnTo_61 : decode cX5_turnTo 61 = .ok (.getfield 41, 3) := by decide +kernel
theorem dX5_turnTo_64 : decode cX5_turnTo 64 = .ok (.iload_n 2, 1) := by decide +kernel
theorem dX5_turnTo_65 : decode cX5_turnTo 65 = .ok (.iadd, 1) := by decide +kernel
theorem dX5_turnTo_66 : decode cX5_turnTo 66 = .ok (.putfield 41, 3) := by decide +kernel
theorem dX5_turnTo_69 : decode cX5_turnTo 69 = .ok (.return_, 1) := by decide +kernel
abbrev tX5_turnTo (k : Nat) : MT := (RX5, cX5_turnTo, 3, k, none)
def mX5_turnTo : MX := bodyOf 3 (sSeq (sSeq (sPutI 5 8 .int (rLoc 0) (iB gNZ jrem (iB gT2 (· + ·) (iGet 5 8 (rLoc 0)) (iK 1)) (iK 16))) (sSeq (sASt 0 narI (rGet 5 0 (rLoc 0)) (iGet 5 8 (rLoc 0)) (iGet 5 9 (rLoc 0))) (sSeq (sASt 0 narI (rGet 5 1 (rLoc 0)) (iGet 5 8 (rLoc 0)) (iGet 5 10 (rLoc 0))) (sSeq (sPutI 5 11 .int (rLoc 0) (iB gT2 jmin (iB gT2 (· + ·) (iGet 5 11 (rLoc 0)) (iK 1)) (iK 16))) (sSeq (sPutI 5 9 .int (rLoc 0) (iLoc 1)) (sUpd 5 10 gT2 (· + ·) (rLoc 0) (iLoc 2))))))) sRetV)
theorem kX5_turnTo (g : GT) : MK g 1 yX5_turnTo cX5_turnTo 3 none mX5_turnTo := MK.of (pcN := 99999) (pcB := 0) (pcC := 0) rfl (Sok.seq (pc1 := 69) (Sok.seq (pc1 := 13) (Sok.putI (ci := 5) (T := TX5) (NN := 13) (tt := tyX5) (j := 8) (pc1 := 1) (pc2 := 10) (ty := .int) (EokR.aload_n (q := 0) dX5_turnTo_0) (EokI.bin (pc1 := 7) (pc2 := 9) (EokI.bin (pc1 := 5) (pc2 := 6) (EokI.getf (pc1 := 2) (j := 8) (ci := 5) (T := TX5) (N := 13) (EokR.aload_n (q := 0) dX5_turnTo_1) rfl wsX5_in (by decide) flX5_50 dX5_turnTo_2) (EokI.iconst (v := 1) dX5_turnTo_5 (by decide)) (OPI.iadd dX5_turnTo_6)) (EokI.bipush (v := 16) dX5_turnTo_7 (by decide)) (OPI.irem dX5_turnTo_9)) (by decide) rfl wsX5_in tyX5_ok nmX5 (by decide) flX5_50 rfl rfl dX5_turnTo_10) (Sok.seq (pc1 := 26) (Sok.iASt (pc1 := 17) (pc2 := 21) (pc3 := 25) (EokR.getf (pc1 := 14) (j := 0) (ci := 5) (T := TX5) (N := 13) (EokR.aload_n (q := 0) dX5_turnTo_13) rfl wsX5_in (by decide) flX5_9 dX5_turnTo_14) (EokI.getf (pc1 := 18) (j := 8) (ci := 5) (T := TX5) (N := 13) (EokR.aload_n (q := 0) dX5_turnTo_17) rfl wsX5_in (by decide) flX5_50 dX5_turnTo_18) (EokI.getf (pc1 := 22) (j := 9) (ci := 5) (T := TX5) (N := 13) (EokR.aload_n (q := 0) dX5_turnTo_21) rfl wsX5_in (by decide) flX5_37 dX5_turnTo_22) (by decide) dX5_turnTo_25) (Sok.seq (pc1 := 39) (Sok.iASt (pc1 := 30) (pc2 := 34) (pc3 := 38) (EokR.getf (pc1 := 27) (j := 1) (ci := 5) (T := TX5) (N := 13) (EokR.aload_n (q := 0) dX5_turnTo_26) rfl wsX5_in (by decide) flX5_15 dX5_turnTo_27) (EokI.getf (pc1 := 31) (j := 8) (ci := 5) (T := TX5) (N := 13) (EokR.aload_n (q := 0) dX5_turnTo_30) rfl wsX5_in (by decide) flX5_50 dX5_turnTo_31) (EokI.getf (pc1 := 35) (j := 10) (ci := 5) (T := TX5) (N := 13) (EokR.aload_n (q := 0) dX5_turnTo_34) rfl wsX5_in (by decide) flX5_41 dX5_turnTo_35) (by decide) dX5_turnTo_38) (Sok.seq (pc1 := 54) (Sok.putI (ci := 5) (T := TX5) (NN := 13) (tt := tyX5) (j := 11) (pc1 := 40) (pc2 := 51) (ty := .int) (EokR.aload_n (q := 0) dX5_turnTo_39) (EokI.mmin (pc1 := 46) (pc2 := 48) (EokI.bin (pc1 := 44) (pc2 := 45) (EokI.getf (pc1 := 41) (j := 11) (ci := 5) (T := TX5) (N := 13) (EokR.aload_n (q := 0) dX5_turnTo_40) rfl wsX5_in (by decide) flX5_44 dX5_turnTo_41) (EokI.iconst (v := 1) dX5_turnTo_44 (by decide)) (OPI.iadd dX5_turnTo_45)) (EokI.bipush (v := 16) dX5_turnTo_46 (by decide)) mlX5_53 wst_mmin wini_math wco_mmin (by decide) dX5_turnTo_48) (by decide) rfl wsX5_in tyX5_ok nmX5 (by decide) flX5_44 rfl rfl dX5_turnTo_51) (Sok.seq (pc1 := 59) (Sok.putI (ci := 5) (T := TX5) (NN := 13) (tt := tyX5) (j := 9) (pc1 := 55) (pc2 := 56) (ty := .int) (EokR.aload_n (q := 0) dX5_turnTo_54) (EokI.iload_n (q := 1) dX5_turnTo_55) (by decide) rfl wsX5_in tyX5_ok nmX5 (by decide) flX5_37 rfl rfl dX5_turnTo_56) (Sok.upd (ci := 5) (T := TX5) (NN := 13) (tt := tyX5) (j := 10) (pc1 := 60) (pc2 := 65) (EokR.aload_n (q := 0) dX5_turnTo_59) dX5_turnTo_60 dX5_turnTo_61 (EokI.iload_n (q := 2) dX5_turnTo_64) (OPI.iadd dX5_turnTo_65) (by decide) rfl wsX5_in tyX5_ok nmX5 (by decide) flX5_41 rfl rfl dX5_turnTo_66)))))) (Sok.retV dX5_turnTo_69 rfl))
/-! PassHuts$Hills.afterLaying(II)I -/
theorem dX0_afterLaying_0 : decode cX0_afterLaying 0 = .ok (.aload_n 0, 1) := by decide +kernel
theorem dX0_afterLaying_1 : decode cX0_afterLaying 1 = .ok (.iload_n 2, 1) := by decide +kernel
theorem dX0_afterLaying_2 : decode cX0_afterLaying 2 = .ok (.invokevirtual 75, 3) := by decide +kernel
theorem dX0_afterLaying_5 : decode cX0_afterLaying 5 = .ok (.ifCond .eq 22, 3) := by decide +kernel
theorem dX0_afterLaying_8 : decode cX0_afterLaying 8 = .ok (.aload_n 0, 1) := by decide +kernel
theorem dX0_afterLaying_9 : decode cX0_afterLaying 9 = .ok (.iload_n 1, 1) := by decide +kernel
theorem dX0_afterLaying_10 : decode cX0_afterLaying 10 = .ok (.iload_n 2, 1) := by decide +kernel
theorem dX0_afterLaying_11 : decode cX0_afterLaying 11 = .ok (.invokevirtual 113, 3) := by decide +kernel
theorem dX0_afterLaying_14 : decode cX0_afterLaying 14 = .ok (.ifCond .ne 13, 3) := by decide +kernel
theorem dX0_afterLaying_17 : decode cX0_afterLaying 17 = .ok (.aload_n 0, 1) := by decide +kernel
theorem dX0_afterLaying_18 : decode cX0_afterLaying 18 = .ok (.iload_n 1, 1) := by decide +kernel
theorem dX0_afterLaying_19 : decode cX0_afterLaying 19 = .ok (.invokevirtual 103, 3) := by decide +kernel
theorem dX0_afterLaying_22 : decode cX0_afterLaying 22 = .ok (.bipush 12, 2) := by decide +kernel
theorem dX0_afterLaying_24 : decode cX0_afterLaying 24 = .ok (.if_icmp .lt 5, 3) := by decide +kernel
theorem dX0_afterLaying_27 : decode cX0_afterLaying 27 = .ok (.iconst (-1), 1) := by decide +kernel
theorem dX0_afterLaying_28 : decode cX0_afterLaying 28 = .ok (.ireturn, 1) := by decide +kernel
theorem dX0_afterLaying_29 : decode cX0_afterLaying 29 = .ok (.iload_n 1, 1) := by decide +kernel
theorem dX0_afterLaying_30 : decode cX0_afterLaying 30 = .ok (.iconst 1, 1) := by decide +kernel
theorem dX0_afterLaying_31 : decode cX0_afterLaying 31 = .ok (.aload_n 0, 1) := by decide +kernel
theorem dX0_afterLaying_32 : decode cX0_afterLaying 32 = .ok (.iload_n 2, 1) := by decide +kernel
theorem dX0_afterLaying_33 : decode cX0_afterLaying 33 = .ok (.invokevirtual 87, 3) := by decide +kernel
theorem dX0_afterLaying_36 : decode cX0_afterLaying 36 = .ok (.ishl, 1) := by decide +kernel
theorem dX0_afterLaying_37 : decode cX0_afterLaying 37 = .ok (.iadd, 1) := by decide +kernel
theorem dX0_afterLaying_38 : decode cX0_afterLaying 38 = .ok (.ireturn, 1) := by decide +kernel
abbrev tX0_afterLaying (k : Nat) : MT := (RX0, cX0_afterLaying, 3, k, (some .int))
def mX0_afterLaying : MX := bodyOf 3 (sSeq (sIf (cOr (cOr (cNot (cZ zne (iCallV 0 mX0_isHut (aR (rLoc 0) (aI (iLoc 2) aNil))))) (cZ zne (iCallV 0 mX0_isFull (aR (rLoc 0) (aI (iLoc 1) (aI (iLoc 2) aNil)))))) (cB rge (iCallV 0 mX0_sumOf (aR (rLoc 0) (aI (iLoc 1) aNil))) (iK 12))) (sRetI (iK (-1))) sSkip) (sRetI (iB gT2 (· + ·) (iLoc 1) (iB gT2 jshl (iK 1) (iCallV 0 mX0_shiftOf (aR (rLoc 0) (aI (iLoc 2) aNil)))))))
theorem kX0_afterLaying (g : GT) : MK g 3 yX0_afterLaying cX0_afterLaying 3 (some .int) mX0_afterLaying := MK.of (pcN := 99999) (pcB := 0) (pcC := 0) rfl (Sok.seq (pc1 := 29) (Sok.ite (pc1 := 27) (pc2 := 29) (Cok.or (pc1 := 17) (Cok.or (pc1 := 8) (Cok.not (Cok.zero (pc1 := 5) (pcT := 8) (pcF := 27) (EokI.iCallV (pc1 := 2) (Aok.aR (pc1 := 1) (EokR.aload_n (q := 0) dX0_afterLaying_0) (Aok.aI (pc1 := 2) (EokI.iload_n (q := 2) dX0_afterLaying_1) Aok.nil)) (kX0_isHut g) rfl ykX0_isHut vkX0_75 (by decide) (by decide) dX0_afterLaying_2) (JZ.neF (tgt := 27) dX0_afterLaying_5 (by decide)))) (Cok.zero (pc1 := 14) (pcT := 27) (pcF := 17) (EokI.iCallV (pc1 := 11) (Aok.aR (pc1 := 9) (EokR.aload_n (q := 0) dX0_afterLaying_8) (Aok.aI (pc1 := 10) (EokI.iload_n (q := 1) dX0_afterLaying_9) (Aok.aI (pc1 := 11) (EokI.iload_n (q := 2) dX0_afterLaying_10) Aok.nil))) (kX0_isFull g) rfl ykX0_isFull vkX0_113 (by decide) (by decide) dX0_afterLaying_11) (JZ.neT (tgt := 27) dX0_afterLaying_14 (by decide)))) (Cok.cmp (pc1 := 22) (pc2 := 24) (pcT := 27) (pcF := 29) (EokI.iCallV (pc1 := 19) (Aok.aR (pc1 := 18) (EokR.aload_n (q := 0) dX0_afterLaying_17) (Aok.aI (pc1 := 19) (EokI.iload_n (q := 1) dX0_afterLaying_18) Aok.nil)) (kX0_sumOf g) rfl ykX0_sumOf vkX0_103 (by decide) (by decide) dX0_afterLaying_19) (EokI.bipush (v := 12) dX0_afterLaying_22 (by decide)) (JI.geF (tgt := 29) dX0_afterLaying_24 (by decide)))) (by decide) (Sok.retI (pc1 := 28) (EokI.iconst (v := (-1)) dX0_afterLaying_27 (by decide)) (by decide) dX0_afterLaying_28 rfl) (Sok.skip (pc := 29))) (Sok.retI (pc1 := 38) (EokI.bin (pc1 := 30) (pc2 := 37) (EokI.iload_n (q := 1) dX0_afterLaying_29) (EokI.bin (pc1 := 31) (pc2 := 36) (EokI.iconst (v := 1) dX0_afterLaying_30 (by decide)) (EokI.iCallV (pc1 := 33) (Aok.aR (pc1 := 32) (EokR.aload_n (q := 0) dX0_afterLaying_31) (Aok.aI (pc1 := 33) (EokI.iload_n (q := 2) dX0_afterLaying_32) Aok.nil)) (kX0_shiftOf g) rfl ykX0_shiftOf vkX0_87 (by decide) (by decide) dX0_afterLaying_33) (OPI.ishl dX0_afterLaying_36)) (OPI.iadd dX0_afterLaying_37)) (by decide) dX0_afterLaying_38 rfl))
/-! PassHuts$Hills.afterEating(II)I -/
theorem dX0_afterEating_0 : decode cX0_afterEating 0 = .ok (.aload_n 0, 1) := by decide +kernel
theorem dX0_afterEating_1 : decode cX0_afterEating 1 = .ok (.iload_n 2, 1) := by decide +kernel
theorem dX0_afterEating_2 : decode cX0_afterEating 2 = .ok (.invokevirtual 75, 3) := by decide +kernel
theorem dX0_afterEating_5 : decode cX0_afterEating 5 = .ok (.ifCond .eq 12, 3) := by decide +kernel
theorem dX0_afterEating_8 : decode cX0_afterEating 8 = .ok (.aload_n 0, 1) := by decide +kernel
theorem dX0_afterEating_9 : decode cX0_afterEating 9 = .ok (.iload_n 1, 1) := by decide +kernel
theorem dX0_afterEating_10 : decode cX0_afterEating 10 = .ok (.iload_n 2, 1) := by decide +kernel
theorem dX0_afterEating_11 : decode cX0_afterEating 11 = .ok (.invokevirtual 96, 3) := by decide +kernel
theorem dX0_afterEating_14 : decode cX0_afterEating 14 = .ok (.ifCond .ne 5, 3) := by decide +kernel
theorem dX0_afterEating_17 : decode cX0_afterEating 17 = .ok (.iconst (-1), 1) := by decide +kernel
theorem dX0_afterEating_18 : decode cX0_afterEating 18 = .ok (.ireturn, 1) := by decide +kernel
theorem dX0_afterEating_19 : decode cX0_afterEating 19 = .ok (.iload_n 1, 1) := by decide +kernel
theorem dX0_afterEating_20 : decode cX0_afterEating 20 = .ok (.iconst 1, 1) := by decide +kernel
theorem dX0_afterEating_21 : decode cX0_afterEating 21 = .ok (.aload_n 0, 1) := by decide +kernel
theorem dX0_afterEating_22 : decode cX0_afterEating 22 = .ok (.iload_n 2, 1) := by decide +kernel
theorem dX0_afterEating_23 : decode cX0_afterEating 23 = .ok (.invokevirtual 87, 3) := by decide +kernel
theorem dX0_afterEating_26 : decode cX0_afterEating 26 = .ok (.ishl, 1) := by decide +kernel
theorem dX0_afterEating_27 : decode cX0_afterEating 27 = .ok (.isub, 1) := by decide +kernel
theorem dX0_afterEating_28 : decode cX0_afterEating 28 = .ok (.ireturn, 1) := by decide +kernel
abbrev tX0_afterEating (k : Nat) : MT := (RX0, cX0_afterEating, 3, k, (some .int))
def mX0_afterEating : MX := bodyOf 3 (sSeq (sIf (cOr (cNot (cZ zne (iCallV 0 mX0_isHut (aR (rLoc 0) (aI (iLoc 2) aNil))))) (cZ zeq (iCallV 0 mX0_loadsIn (aR (rLoc 0) (aI (iLoc 1) (aI (iLoc 2) aNil)))))) (sRetI (iK (-1))) sSkip) (sRetI (iB gT2 (· - ·) (iLoc 1) (iB gT2 jshl (iK 1) (iCallV 0 mX0_shiftOf (aR (rLoc 0) (aI (iLoc 2) aNil)))))))
theorem kX0_afterEating (g : GT) : MK g 2 yX0_afterEating cX0_afterEating 3 (some .int) mX0_afterEating := MK.of (pcN := 99999) (pcB := 0) (pcC := 0) rfl (Sok.seq (pc1 := 19) (Sok.ite (pc1 := 17) (pc2 := 19) (Cok.or (pc1 := 8) (Cok.not (Cok.zero (pc1 := 5) (pcT := 8) (pcF := 17) (EokI.iCallV (pc1 := 2) (Aok.aR (pc1 := 1) (EokR.aload_n (q := 0) dX0_afterEating_0) (Aok.aI (pc1 := 2) (EokI.iload_n (q := 2) dX0_afterEating_1) Aok.nil)) (kX0_isHut g) rfl ykX0_isHut vkX0_75 (by decide) (by decide) dX0_afterEating_2) (JZ.neF (tgt := 17) dX0_afterEating_5 (by decide)))) (Cok.zero (pc1 := 14) (pcT := 17) (pcF := 19) (EokI.iCallV (pc1 := 11) (Aok.aR (pc1 := 9) (EokR.aload_n (q := 0) dX0_afterEating_8) (Aok.aI (pc1 := 10) (EokI.iload_n (q := 1) dX0_afterEating_9) (Aok.aI (pc1 := 11) (EokI.iload_n (q := 2) dX0_afterEating_10) Aok.nil))) (kX0_loadsIn g) rfl ykX0_loadsIn vkX0_96 (by decide) (by decide) dX0_afterEating_11) (JZ.eqF (tgt := 19) dX0_afterEating_14 (by decide)))) (by decide) (Sok.retI (pc1 := 18) (EokI.iconst (v := (-1)) dX0_afterEating_17 (by decide)) (by decide) dX0_afterEating_18 rfl) (Sok.skip (pc := 19))) (Sok.retI (pc1 := 28) (EokI.bin (pc1 := 20) (pc2 := 27) (EokI.iload_n (q := 1) dX0_afterEating_19) (EokI.bin (pc1 := 21) (pc2 := 26) (EokI.iconst (v := 1) dX0_afterEating_20 (by decide)) (EokI.iCallV (pc1 := 23) (Aok.aR (pc1 := 22) (EokR.aload_n (q := 0) dX0_afterEating_21) (Aok.aI (pc1 := 23) (EokI.iload_n (q := 2) dX0_afterEating_22) Aok.nil)) (kX0_shiftOf g) rfl ykX0_shiftOf vkX0_87 (by decide) (by decide) dX0_afterEating_23) (OPI.ishl dX0_afterEating_26)) (OPI.isub dX0_afterEating_27)) (by decide) dX0_afterEating_28 rfl))
/-! PassHuts$Story.stepBack()Z -/
theorem dX5_stepBack_0 : decode cX5_stepBack 0 = .ok (.aload_n 0, 1) := by decide +kernel
theorem dX5_stepBack_1 : decode cX5_stepBack 1 = .ok (.getfield 44, 3) := by decide +kernel
theorem dX5_stepBack_4 : decode cX5_stepBack 4 = .ok (.ifCond .ne 5, 3) := by decide +kernel
theorem dX5_stepBack_7 : decode cX5_stepBack 7 = .ok (.iconst 0, 1) := by decide +kernel
theorem dX5_stepBack_8 : decode cX5_stepBack 8 = .ok (.ireturn, 1) := by decide +kernel
theorem dX5_stepBack_9 : decode cX5_stepBack 9 = .ok (.aload_n 0, 1) := by decide +kernel
theorem dX5_stepBack_10 : decode cX5_stepBack 10 = .ok (.aload_n 0, 1) := by decide +kernel
theorem dX5_stepBack_11 : decode cX5_stepBack 11 = .ok (.getfield 9, 3) := by decide +kernel
theorem dX5_stepBack_14 : decode cX5_stepBack 14 = .ok (.aload_n 0, 1) := by decide +kernel
theorem dX5_stepBack_15 : decode cX5_stepBack 15 = .ok (.getfield 50, 3) := by decide +kernel
theorem dX5_stepBack_18 : decode cX5_stepBack 18 = .ok (.iaload, 1) := by decide +kernel
theorem dX5_stepBack_19 : decode cX5_stepBack 19 = .ok (.putfield 37, 3) := by decide +kernel
theorem dX5_stepBack_22 : decode cX5_stepBack 22 = .ok (.aload_n 0, 1) := by decide +kernel
theorem dX5_stepBack_23 : decode cX5_stepBack 23 = .ok (.aload_n 0, 1) := by decide +kernel
theorem dX5_stepBack_24 : decode cX5_stepBack 24 = .ok (.getfield 15, 3) := by decide +kernel
theorem dX5_stepBack_27 : decode cX5_stepBack 27 = .ok (.aload_n 0, 1) := by decide +kernel
theorem dX5_stepBack_28 : decode cX5_stepBack 28 = .ok (.getfield 50, 3) := by decide +kernel
theorem dX5_stepBack_31 : decode cX5_stepBack 31 = .ok (.iaload, 1) := by decide +kernel
theorem dX5_stepBack_32 : decode cX5_stepBack 32 = .ok (.putfield 41, 3) := by decide +kernel
theorem dX5_stepBack_35 : decode cX5_stepBack 35 = .ok (.aload_n 0, 1) := by decide +kernel
theorem dX5_stepBack_36 : decode cX5_stepBack 36 = .ok (.aload_n 0, 1) := by decide +kernel
theorem dX5_stepBack_37 : decode cX5_stepBack 37 = .ok (.getfield 50, 3) := by decide +kernel
theorem dX5_stepBack_40 : decode cX5_stepBack 40 = .ok (.bipush 16, 2) := by decide +kernel
theorem dX5_stepBack_42 : decode cX5_stepBack 42 = .ok (.iadd, 1) := by decide +kernel
theorem dX5_stepBack_43 : decode cX5_stepBack 43 = .ok (.iconst 1, 1) := by decide +kernel
theorem dX5_stepBack_44 : decode cX5_stepBack 44 = .ok (.isub, 1) := by decide +kernel
theorem dX5_stepBack_45 : decode cX5_stepBack 45 = .ok (.bipush 16, 2) := by decide +kernel
theorem dX5_stepBack_47 : decode cX5_stepBack 47 = .ok (.irem, 1) := by decide +kernel
theorem dX5_stepBack_48 : decode cX5_stepBack 48 = .ok (.putfield 50, 3) := by decide +kernel
theorem dX5_stepBack_51 : decode cX5_stepBack 51 = .ok (.aload_n 0, 1) := by decide +kernel
theorem dX5_stepBack_52 : decode cX5_stepBack 52 = .ok (.dup, 1) := by decide +kernel
theorem dX5_stepBack_53 : decode cX5_stepBack 53 = .ok (.getfield 44, 3) := by decide +kernel
theorem dX5_stepBack_56 : decode cX5_stepBack 56 = .ok (.iconst 1, 1) := by decide +kernel
theorem dX5_stepBack_57 : decode cX5_stepBack 57 = .ok (.isub, 1) := by decide +kernel
theorem dX5_stepBack_58 : decode cX5_stepBack 58 = .ok (.putfield 44, 3) := by decide +kernel
theorem dX5_stepBack_61 : decode cX5_stepBack 61 = .ok (.iconst 1, 1) := by decide +kernel
theorem dX5_stepBack_62 : decode cX5_stepBack 62 = .ok (.ireturn, 1) := by decide +kernel
abbrev tX5_stepBack (k : Nat) : MT := (RX5, cX5_stepBack, 1, k, (some .boolean))
def mX5_stepBack : MX := bodyOf 1 (sSeq (sIf (cZ zeq (iGet 5 11 (rLoc 0))) (sRetZ (iK 0)) sSkip) (sSeq (sPutI 5 9 .int (rLoc 0) (iALd (rGet 5 0 (rLoc 0)) (iGet 5 8 (rLoc 0)))) (sSeq (sPutI 5 10 .int (rLoc 0) (iALd (rGet 5 1 (rLoc 0)) (iGet 5 8 (rLoc 0)))) (sSeq (sPutI 5 8 .int (rLoc 0) (iB gNZ jrem (iB gT2 (· - ·) (iB gT2 (· + ·) (iGet 5 8 (rLoc 0)) (iK 16)) (iK 1)) (iK 16))) (sSeq (sUpd 5 11 gT2 (· - ·) (rLoc 0) (iK 1)) (sRetZ (iK 1)))))))
theorem kX5_stepBack (g : GT) : MK g 0 yX5_stepBack cX5_stepBack 1 (some .boolean) mX5_stepBack := MK.of (pcN := 99999) (pcB := 0) (pcC := 0) rfl (Sok.seq (pc1 := 9) (Sok.ite (pc1 := 7) (pc2 := 9) (Cok.zero (pc1 := 4) (pcT := 7) (pcF := 9) (EokI.getf (pc1 := 1) (j := 11) (ci := 5) (T := TX5) (N := 13) (EokR.aload_n (q := 0) dX5_stepBack_0) rfl wsX5_in (by decide) flX5_44 dX5_stepBack_1) (JZ.eqF (tgt := 9) dX5_stepBack_4 (by decide))) (by decide) (Sok.retZ (pc1 := 8) (EokI.iconst (v := 0) dX5_stepBack_7 (by decide)) (by decide) dX5_stepBack_8 rfl) (Sok.skip (pc := 9))) (Sok.seq (pc1 := 22) (Sok.putI (ci := 5) (T := TX5) (NN := 13) (tt := tyX5) (j := 9) (pc1 := 10) (pc2 := 19) (ty := .int) (EokR.aload_n (q := 0) dX5_stepBack_9) (EokI.iALd (pc1 := 14) (pc2 := 18) (EokR.getf (pc1 := 11) (j := 0) (ci := 5) (T := TX5) (N := 13) (EokR.aload_n (q := 0) dX5_stepBack_10) rfl wsX5_in (by decide) flX5_9 dX5_stepBack_11) (EokI.getf (pc1 := 15) (j := 8) (ci := 5) (T := TX5) (N := 13) (EokR.aload_n (q := 0) dX5_stepBack_14) rfl wsX5_in (by decide) flX5_50 dX5_stepBack_15) dX5_stepBack_18) (by decide) rfl wsX5_in tyX5_ok nmX5 (by decide) flX5_37 rfl rfl dX5_stepBack_19) (Sok.seq (pc1 := 35) (Sok.putI (ci := 5) (T := TX5) (NN := 13) (tt := tyX5) (j := 10) (pc1 := 23) (pc2 := 32) (ty := .int) (EokR.aload_n (q := 0) dX5_stepBack_22) (EokI.iALd (pc1 := 27) (pc2 := 31) (EokR.getf (pc1 := 24) (j := 1) (ci := 5) (T := TX5) (N := 13) (EokR.aload_n (q := 0) dX5_stepBack_23) rfl wsX5_in (by decide) flX5_15 dX5_stepBack_24) (EokI.getf (pc1 := 28) (j := 8) (ci := 5) (T := TX5) (N := 13) (EokR.aload_n (q := 0) dX5_stepBack_27) rfl wsX5_in (by decide) flX5_50 dX5_stepBack_28) dX5_stepBack_31) (by decide) rfl wsX5_in tyX5_ok nmX5 (by decide) flX5_41 rfl rfl dX5_stepBack_32) (Sok.seq (pc1 := 51) (Sok.putI (ci := 5) (T := TX5) (NN := 13) (tt := tyX5) (j := 8) (pc1 := 36) (pc2 := 48) (ty := .int) (EokR.aload_n (q := 0) dX5_stepBack_35) (EokI.bin (pc1 := 45) (pc2 := 47) (EokI.bin (pc1 := 43) (pc2 := 44) (EokI.bin (pc1 := 40) (pc2 := 42) (EokI.getf (pc1 := 37) (j := 8) (ci := 5) (T := TX5) (N := 13) (EokR.aload_n (q := 0) dX5_stepBack_36) rfl wsX5_in (by decide) flX5_50 dX5_stepBack_37) (EokI.bipush (v := 16) dX5_stepBack_40 (by decide)) (OPI.iadd dX5_stepBack_42)) (EokI.iconst (v := 1) dX5_stepBack_43 (by decide)) (OPI.isub dX5_stepBack_44)) (EokI.bipush (v := 16) dX5_stepBack_45 (by decide)) (OPI.irem dX5_stepBack_47)) (by decide) rfl wsX5_in tyX5_ok nmX5 (by decide) flX5_50 rfl rfl dX5_stepBack_48) (Sok.seq (pc1 := 61) (Sok.upd (ci := 5) (T := TX5) (NN := 13) (tt := tyX5) (j := 11) (pc1 := 52) (pc2 := 57) (EokR.aload_n (q := 0) dX5_stepBack_51) dX5_stepBack_52 dX5_stepBack_53 (EokI.iconst (v := 1) dX5_stepBack_56 (by decide)) (OPI.isub dX5_stepBack_57) (by decide) rfl wsX5_in tyX5_ok nmX5 (by decide) flX5_44 rfl rfl dX5_stepBack_58) (Sok.retZ (pc1 := 62) (EokI.iconst (v := 1) dX5_stepBack_61 (by decide)) (by decide) dX5_stepBack_62 rfl))))))
/-! PassHuts$Trip.afterLine(LPassHuts$Hills;II)I -/
theorem dX9_afterLine_0 : decode cX9_afterLine 0 = .ok (.aload_n 0, 1) := by decide +kernel
theorem dX9_afterLine_1 : decode cX9_afterLine 1 = .ok (.getfield 9, 3) := by decide +kernel
theorem dX9_afterLine_4 : decode cX9_afterLine 4 = .ok (.iload_n 3, 1) := by decide +kernel
theorem dX9_afterLine_5 : decode cX9_afterLine 5 = .ok (.iaload, 1) := by decide +kernel
theorem dX9_afterLine_6 : decode cX9_afterLine 6 = .ok (.lookupswitch 56 #[(0, 26), (1, 44)], 26) := by decide +kernel
theorem dX9_afterLine_32 : decode cX9_afterLine 32 = .ok (.aload_n 1, 1) := by decide +kernel
theorem dX9_afterLine_33 : decode cX9_afterLine 33 = .ok (.iload_n 2, 1) := by decide +kernel
theorem dX9_afterLine_34 : decode cX9_afterLine 34 = .ok (.aload_n 0, 1) := by decide +kernel
theorem dX9_afterLine_35 : decode cX9_afterLine 35 = .ok (.getfield 15, 3) := by decide +kernel
theorem dX9_afterLine_38 : decode cX9_afterLine 38 = .ok (.iload_n 3, 1) := by decide +kernel
theorem dX9_afterLine_39 : decode cX9_afterLine 39 = .ok (.iaload, 1) := by decide +kernel
theorem dX9_afterLine_40 : decode cX9_afterLine 40 = .ok (.aload_n 0, 1) := by decide +kernel
theorem dX9_afterLine_41 : decode cX9_afterLine 41 = .ok (.getfield 18, 3) := by decide +kernel
theorem dX9_afterLine_44 : decode cX9_afterLine 44 = .ok (.iload_n 3, 1) := by decide +kernel
theorem dX9_afterLine_45 : decode cX9_afterLine 45 = .ok (.iaload, 1) := by decide +kernel
theorem dX9_afterLine_46 : decode cX9_afterLine 46 = .ok (.invokevirtual 54, 3) := by decide +kernel
theorem dX9_afterLine_49 : decode cX9_afterLine 49 = .ok (.ireturn, 1) := by decide +kernel
theorem dX9_afterLine_50 : decode cX9_afterLine 50 = .ok (.aload_n 1, 1) := by decide +kernel
theorem dX9_afterLine_51 : decode cX9_afterLine 51 = .ok (.iload_n 2, 1) := by decide +kernel
theorem dX9_afterLine_52 : decode cX9_afterLine 52 = .ok (.aload_n 0, 1) := by decide +kernel
theorem dX9_afterLine_53 : decode cX9_afterLine 53 = .ok (.getfield 15, 3) := by decide +kernel
theorem dX9_afterLine_56 : decode cX9_afterLine 56 = .ok (.iload_n 3, 1) := by decide +kernel
theorem dX9_afterLine_57 : decode cX9_afterLine 57 = .ok (.iaload, 1) := by decide +kernel
theorem dX9_afterLine_58 : decode cX9_afterLine 58 = .ok (.invokevirtual 58, 3) := by decide +kernel
theorem dX9_afterLine_61 : decode cX9_afterLine 61 = .ok (.ireturn, 1) := by decide +kernel
theorem dX9_afterLine_62 : decode cX9_afterLine 62 = .ok (.aload_n 1, 1) := by decide +kernel
theorem dX9_afterLine_63 : decode cX9_afterLine 63 = .ok (.iload_n 2, 1) := by decide +kernel
theorem dX9_afterLine_64 : decode cX9_afterLine 64 = .ok (.aload_n 0, 1) := by decide +kernel
theorem dX9_afterLine_65 : decode cX9_afterLine 65 = .ok (.getfield 15, 3) := by decide +kernel
theorem dX9_afterLine_68 : decode cX9_afterLine 68 = .ok (.iload_n 3, 1) := by decide +kernel
theorem dX9_afterLine_69 : decode cX9_afterLine 69 = .ok (.iaload, 1) := by decide +kernel
theorem dX9_afterLine_70 : decode cX9_afterLine 70 = .ok (.invokevirtual 62, 3) := by decide +kernel
theorem dX9_afterLine_73 : decode cX9_afterLine 73 = .ok (.ireturn, 1) := by decide +kernel
abbrev tX9_afterLine (k : Nat) : MT := (RX9, cX9_afterLine, 4, k, (some .int))
def mX9_afterLine : MX := bodyOf 4 (sSw (sCase (iALd (rGet 9 0 (rLoc 0)) (iLoc 3)) (fun x => if x = 0 then (sRetI (iCallV 0 mX0_afterCarrying (aR (rLoc 1) (aI (iLoc 2) (aI (iALd (rGet 9 1 (rLoc 0)) (iLoc 3)) (aI (iALd (rGet 9 2 (rLoc 0)) (iLoc 3)) aNil)))))) else if x = 1 then (sRetI (iCallV 0 mX0_afterLaying (aR (rLoc 1) (aI (iLoc 2) (aI (iALd (rGet 9 1 (rLoc 0)) (iLoc 3)) aNil))))) else (sRetI (iCallV 0 mX0_afterEating (aR (rLoc 1) (aI (iLoc 2) (aI (iALd (rGet 9 1 (rLoc 0)) (iLoc 3)) aNil))))))))
theorem kX9_afterLine (g : GT) : MK g 5 yX9_afterLine cX9_afterLine 4 (some .int) mX9_afterLine := MK.of (pcN := 99999) (pcB := 0) (pcC := 0) rfl (Sok.swB (Sok.lswitch (pc1 := 6) (pcN := 99999) (pcB := 99999) (fun x => if x = 0 then 32 else if x = 1 then 50 else 62) (EokI.iALd (pc1 := 4) (pc2 := 5) (EokR.getf (pc1 := 1) (j := 0) (ci := 9) (T := TX9) (N := 7) (EokR.aload_n (q := 0) dX9_afterLine_0) rfl wsX9_in (by decide) flX9_9 dX9_afterLine_1) (EokI.iload_n (q := 3) dX9_afterLine_4) dX9_afterLine_5) (by decide) dX9_afterLine_6 (by decide) (fun x => lsw2 rfl rfl (by decide) (by decide) (by decide)) (fun x => (Sok.ifx (c := x = 0) (Sok.retI (pc1 := 49) (EokI.iCallV (pc1 := 46) (Aok.aR (pc1 := 33) (EokR.aload_n (q := 1) dX9_afterLine_32) (Aok.aI (pc1 := 34) (EokI.iload_n (q := 2) dX9_afterLine_33) (Aok.aI (pc1 := 40) (EokI.iALd (pc1 := 38) (pc2 := 39) (EokR.getf (pc1 := 35) (j := 1) (ci := 9) (T := TX9) (N := 7) (EokR.aload_n (q := 0) dX9_afterLine_34) rfl wsX9_in (by decide) flX9_15 dX9_afterLine_35) (EokI.iload_n (q := 3) dX9_afterLine_38) dX9_afterLine_39) (Aok.aI (pc1 := 46) (EokI.iALd (pc1 := 44) (pc2 := 45) (EokR.getf (pc1 := 41) (j := 2) (ci := 9) (T := TX9) (N := 7) (EokR.aload_n (q := 0) dX9_afterLine_40) rfl wsX9_in (by decide) flX9_18 dX9_afterLine_41) (EokI.iload_n (q := 3) dX9_afterLine_44) dX9_afterLine_45) Aok.nil)))) (kX0_afterCarrying g) rfl ykX0_afterCarrying vkX9_54 (by decide) (by decide) dX9_afterLine_46) (by decide) dX9_afterLine_49 rfl) (Sok.ifx (c := x = 1) (Sok.retI (pc1 := 61) (EokI.iCallV (pc1 := 58) (Aok.aR (pc1 := 51) (EokR.aload_n (q := 1) dX9_afterLine_50) (Aok.aI (pc1 := 52) (EokI.iload_n (q := 2) dX9_afterLine_51) (Aok.aI (pc1 := 58) (EokI.iALd (pc1 := 56) (pc2 := 57) (EokR.getf (pc1 := 53) (j := 1) (ci := 9) (T := TX9) (N := 7) (EokR.aload_n (q := 0) dX9_afterLine_52) rfl wsX9_in (by decide) flX9_15 dX9_afterLine_53) (EokI.iload_n (q := 3) dX9_afterLine_56) dX9_afterLine_57) Aok.nil))) (kX0_afterLaying g) rfl ykX0_afterLaying vkX9_58 (by decide) (by decide) dX9_afterLine_58) (by decide) dX9_afterLine_61 rfl) (Sok.retI (pc1 := 73) (EokI.iCallV (pc1 := 70) (Aok.aR (pc1 := 63) (EokR.aload_n (q := 1) dX9_afterLine_62) (Aok.aI (pc1 := 64) (EokI.iload_n (q := 2) dX9_afterLine_63) (Aok.aI (pc1 := 70) (EokI.iALd (pc1 := 68) (pc2 := 69) (EokR.getf (pc1 := 65) (j := 1) (ci := 9) (T := TX9) (N := 7) (EokR.aload_n (q := 0) dX9_afterLine_64) rfl wsX9_in (by decide) flX9_15 dX9_afterLine_65) (EokI.iload_n (q := 3) dX9_afterLine_68) dX9_afterLine_69) Aok.nil))) (kX0_afterEating g) rfl ykX0_afterEating vkX9_62 (by decide) (by decide) dX9_afterLine_70) (by decide) dX9_afterLine_73 rfl))))))
/-! PassHuts$Hills.occupied(I)I -/
theorem dX0_occupied_0 : decode cX0_occupied 0 = .ok (.iconst 0, 1) := by decide +kernel
theorem dX0_occupied_1 : decode cX0_occupied 1 = .ok (.istore_n 2, 1) := by decide +kernel
theorem dX0_occupied_2 : decode cX0_occupied 2 = .ok (.iconst 0, 1) := by decide +kernel
theorem dX0_occupied_3 : decode cX0_occupied 3 = .ok (.istore_n 3, 1) := by decide +kernel
theorem dX0_occupied_4 : decode cX0_occupied 4 = .ok (.iload_n 3, 1) := by decide +kernel
theorem dX0_occupied_5 : decode cX0_occupied 5 = .ok (.aload_n 0, 1) := by decide +kernel
theorem dX0_occupied_6 : decode cX0_occupied 6 = .ok (.getfield 62, 3) := by decide +kernel
theorem dX0_occupied_9 : decode cX0_occupied 9 = .ok (.if_icmp .ge 24, 3) := by decide +kernel
theorem dX0_occupied_12 : decode cX0_occupied 12 = .ok (.aload_n 0, 1) := by decide +kernel
theorem dX0_occupied_13 : decode cX0_occupied 13 = .ok (.iload_n 1, 1) := by decide +kernel
theorem dX0_occupied_14 : decode cX0_occupied 14 = .ok (.iload_n 3, 1) := by decide +kernel
theorem dX0_occupied_15 : decode cX0_occupied 15 = .ok (.invokevirtual 96, 3) := by decide +kernel
theorem dX0_occupied_18 : decode cX0_occupied 18 = .ok (.ifCond .le 9, 3) := by decide +kernel
theorem dX0_occupied_21 : decode cX0_occupied 21 = .ok (.iload_n 2, 1) := by decide +kernel
theorem dX0_occupied_22 : decode cX0_occupied 22 = .ok (.iconst 1, 1) := by decide +kernel
theorem dX0_occupied_23 : decode cX0_occupied 23 = .ok (.iload_n 3, 1) := by decide +kernel
theorem dX0_occupied_24 : decode cX0_occupied 24 = .ok (.ishl, 1) := by decide +kernel
theorem dX0_occupied_25 : decode cX0_occupied 25 = .ok (.ior, 1) := by decide +kernel
theorem dX0_occupied_26 : decode cX0_occupied 26 = .ok (.istore_n 2, 1) := by decide +kernel
theorem dX0_occupied_27 : decode cX0_occupied 27 = .ok (.iinc 3 1, 3) := by decide +kernel
theorem dX0_occupied_30 : decode cX0_occupied 30 = .ok (.goto (-26), 3) := by decide +kernel
theorem dX0_occupied_33 : decode cX0_occupied 33 = .ok (.iload_n 2, 1) := by decide +kernel
theorem dX0_occupied_34 : decode cX0_occupied 34 = .ok (.ireturn, 1) := by decide +kernel
abbrev tX0_occupied (k : Nat) : MT := (RX0, cX0_occupied, 4, k, (some .int))
def lX0_occupied_1 : SX := (sLoop (cB rlt (iLoc 3) (iGet 0 3 (rLoc 0))) (sIf (cZ zgt (iCallV 0 mX0_loadsIn (aR (rLoc 0) (aI (iLoc 1) (aI (iLoc 3) aNil))))) (sSetI 2 (iB gT2 (· ||| ·) (iLoc 2) (iB gT2 jshl (iK 1) (iLoc 3)))) sSkip) (sInc 3 1))
theorem olX0_occupied_1 (g : GT) {pcB pcC : Nat} : Sok g (tX0_occupied 2) 4 33 pcB pcC (lX0_occupied_1) := (Sok.loop (pc := 4) (pc1 := 12) (pc2 := 27) (pcN := 33) (Cok.cmp (pc1 := 5) (pc2 := 9) (pcT := 12) (pcF := 33) (EokI.iload_n (q := 3) dX0_occupied_4) (EokI.getf (pc1 := 6) (j := 3) (ci := 0) (T := TX0) (N := 17) (EokR.aload_n (q := 0) dX0_occupied_5) rfl wsX0_in (by decide) flX0_62 dX0_occupied_6) (JI.ltF (tgt := 33) dX0_occupied_9 (by decide))) (by decide) (Sok.ite (pc1 := 21) (pc2 := 27) (Cok.zero (pc1 := 18) (pcT := 21) (pcF := 27) (EokI.iCallV (pc1 := 15) (Aok.aR (pc1 := 13) (EokR.aload_n (q := 0) dX0_occupied_12) (Aok.aI (pc1 := 14) (EokI.iload_n (q := 1) dX0_occupied_13) (Aok.aI (pc1 := 15) (EokI.iload_n (q := 3) dX0_occupied_14) Aok.nil))) (kX0_loadsIn g) rfl ykX0_loadsIn vkX0_96 (by decide) (by decide) dX0_occupied_15) (JZ.gtF (tgt := 27) dX0_occupied_18 (by decide))) (by decide) (Sok.setI_n (q := 2) (pc1 := 26) (EokI.bin (pc1 := 22) (pc2 := 25) (EokI.iload_n (q := 2) dX0_occupied_21) (EokI.bin (pc1 := 23) (pc2 := 24) (EokI.iconst (v := 1) dX0_occupied_22 (by decide)) (EokI.iload_n (q := 3) dX0_occupied_23) (OPI.ishl dX0_occupied_24)) (OPI.ior dX0_occupied_25)) (by decide) dX0_occupied_26 (show 2 < 4 by decide)) (Sok.skip (pc := 27))) (Sok.goto (pc1 := 30) (pcN := 4) (Sok.iinc (i := 3) (v := 1) dX0_occupied_27 (show 3 < 4 by decide) (by decide)) dX0_occupied_30 (by decide)))
def mX0_occupied : MX := bodyOf 4 (sSeq (sSetI 2 (iK 0)) (sSeq (sSeq (sSeq (sSetI 3 (iK 0)) lX0_occupied_1) (sForget 3)) (sRetI (iLoc 2))))
theorem kX0_occupied (g : GT) : MK g 2 yX0_occupied cX0_occupied 4 (some .int) mX0_occupied := MK.of (pcN := 99999) (pcB := 0) (pcC := 0) rfl (Sok.seq (pc1 := 2) (Sok.setI_n (q := 2) (pc1 := 1) (EokI.iconst (v := 0) dX0_occupied_0 (by decide)) (by decide) dX0_occupied_1 (show 2 < 4 by decide)) (Sok.seq (pc1 := 33) (Sok.seq (pc1 := 33) (Sok.seq (pc1 := 4) (Sok.setI_n (q := 3) (pc1 := 3) (EokI.iconst (v := 0) dX0_occupied_2 (by decide)) (by decide) dX0_occupied_3 (show 3 < 4 by decide)) (olX0_occupied_1 g )) (Sok.forget (pc := 33))) (Sok.retI (pc1 := 34) (EokI.iload_n (q := 2) dX0_occupied_33) (by decide) dX0_occupied_34 rfl)))
/-! PassHuts$Hills.allHuts()I -/
theorem dX0_allHuts_0 : decode cX0_allHuts 0 = .ok (.iconst 1, 1) := by decide +kernel
theorem dX0_allHuts_1 : decode cX0_allHuts 1 = .ok (.aload_n 0, 1) := by decide +kernel
theorem dX0_allHuts_2 : decode cX0_allHuts 2 = .ok (.getfield 62, 3) := by decide +kernel
theorem dX0_allHuts_5 : decode cX0_allHuts 5 = .ok (.ishl, 1) := by decide +kernel
theorem dX0_allHuts_6 : decode cX0_allHuts 6 = .ok (.iconst 1, 1) := by decide +kernel
theorem dX0_allHuts_7 : decode cX0_allHuts 7 = .ok (.isub, 1) := by decide +kernel
theorem dX0_allHuts_8 : decode cX0_allHuts 8 = .ok (.ireturn, 1) := by decide +kernel
abbrev tX0_allHuts (k : Nat) : MT := (RX0, cX0_allHuts, 1, k, (some .int))
def mX0_allHuts : MX := bodyOf 1 (sRetI (iB gT2 (· - ·) (iB gT2 jshl (iK 1) (iGet 0 3 (rLoc 0))) (iK 1)))
theorem kX0_allHuts (g : GT) : MK g 0 yX0_allHuts cX0_allHuts 1 (some .int) mX0_allHuts := MK.of (pcN := 99999) (pcB := 0) (pcC := 0) rfl (Sok.retI (pc1 := 8) (EokI.bin (pc1 := 6) (pc2 := 7) (EokI.bin (pc1 := 1) (pc2 := 5) (EokI.iconst (v := 1) dX0_allHuts_0 (by decide)) (EokI.getf (pc1 := 2) (j := 3) (ci := 0) (T := TX0) (N := 17) (EokR.aload_n (q := 0) dX0_allHuts_1) rfl wsX0_in (by decide) flX0_62 dX0_allHuts_2) (OPI.ishl dX0_allHuts_5)) (EokI.iconst (v := 1) dX0_allHuts_6 (by decide)) (OPI.isub dX0_allHuts_7)) (by decide) dX0_allHuts_8 rfl)
/-! PassHuts$Trip.runOver(LPassHuts$Hills;)V -/
theorem dX9_runOver_0 : decode cX9_runOver 0 = .ok (.aload_n 1, 1) := by decide +kernel
theorem dX9_runOver_1 : decode cX9_runOver 1 = .ok (.invokevirtual 25, 3) := by decide +kernel
theorem dX9_runOver_4 : decode cX9_runOver 4 = .ok (.istore_n 2, 1) := by decide +kernel
theorem dX9_runOver_5 : decode cX9_runOver 5 = .ok (.aload_n 0, 1) := by decide +kernel
theorem dX9_runOver_6 : decode cX9_runOver 6 = .ok (.iconst (-1), 1) := by decide +kernel
theorem dX9_runOver_7 : decode cX9_runOver 7 = .ok (.putfield 31, 3) := by decide +kernel
theorem dX9_runOver_10 : decode cX9_runOver 10 = .ok (.aload_n 0, 1) := by decide +kernel
theorem dX9_runOver_11 : decode cX9_runOver 11 = .ok (.iconst (-1), 1) := by decide +kernel
theorem dX9_runOver_12 : decode cX9_runOver 12 = .ok (.putfield 34, 3) := by decide +kernel
theorem dX9_runOver_15 : decode cX9_runOver 15 = .ok (.iconst 0, 1) := by decide +kernel
theorem dX9_runOver_16 : decode cX9_runOver 16 = .ok (.istore_n 3, 1) := by decide +kernel
theorem dX9_runOver_17 : decode cX9_runOver 17 = .ok (.iload_n 3, 1) := by decide +kernel
theorem dX9_runOver_18 : decode cX9_runOver 18 = .ok (.aload_n 0, 1) := by decide +kernel
theorem dX9_runOver_19 : decode cX9_runOver 19 = .ok (.getfield 21, 3) := by decide +kernel
theorem dX9_runOver_22 : decode cX9_runOver 22 = .ok (.if_icmp .ge 73, 3) := by decide +kernel
theorem dX9_runOver_25 : decode cX9_runOver 25 = .ok (.iload_n 3, 1) := by decide +kernel
theorem dX9_runOver_26 : decode cX9_runOver 26 = .ok (.bipush 40, 2) := by decide +kernel
theorem dX9_runOver_28 : decode cX9_runOver 28 = .ok (.if_icmp .ge 67, 3) := by decide +kernel
theorem dX9_runOver_31 : decode cX9_runOver 31 = .ok (.aload_n 0, 1) := by decide +kernel
theorem dX9_runOver_32 : decode cX9_runOver 32 = .ok (.aload_n 1, 1) := by decide +kernel
theorem dX9_runOver_33 : decode cX9_runOver 33 = .ok (.iload_n 2, 1) := by decide +kernel
theorem dX9_runOver_34 : decode cX9_runOver 34 = .ok (.iload_n 3, 1) := by decide +kernel
theorem dX9_runOver_35 : decode cX9_runOver 35 = .ok (.invokevirtual 37, 3) := by decide +kernel
theorem dX9_runOver_38 : decode cX9_runOver 38 = .ok (.istore 4, 2) := by decide +kernel
theorem dX9_runOver_40 : decode cX9_runOver 40 = .ok (.iload 4, 2) := by decide +kernel
theorem dX9_runOver_42 : decode cX9_runOver 42 = .ok (.ifCond .lt 9, 3) := by decide +kernel
theorem dX9_runOver_45 : decode cX9_runOver 45 = .ok (.iload 4, 2) := by decide +kernel
theorem dX9_runOver_47 : decode cX9_runOver 47 = .ok (.istore_n 2, 1) := by decide +kernel
theorem dX9_runOver_48 : decode cX9_runOver 48 = .ok (.goto 16, 3) := by decide +kernel
theorem dX9_runOver_51 : decode cX9_runOver 51 = .ok (.aload_n 0, 1) := by decide +kernel
theorem dX9_runOver_52 : decode cX9_runOver 52 = .ok (.getfield 31, 3) := by decide +kernel
theorem dX9_runOver_55 : decode cX9_runOver 55 = .ok (.iconst (-1), 1) := by decide +kernel
theorem dX9_runOver_56 : decode cX9_runOver 56 = .ok (.if_icmp .ne 8, 3) := by decide +kernel
theorem dX9_runOver_59 : decode cX9_runOver 59 = .ok (.aload_n 0, 1) := by decide +kernel
theorem dX9_runOver_60 : decode cX9_runOver 60 = .ok (.iload_n 3, 1) := by decide +kernel
theorem dX9_runOver_61 : decode cX9_runOver 61 = .ok (.putfield 31, 3) := by decide +kernel
theorem dX9_runOver_64 : decode cX9_runOver 64 = .ok (.aload_n 0, 1) := by decide +kernel
theorem dX9_runOver_65 : decode cX9_runOver 65 = .ok (.getfield 34, 3) := by decide +kernel
theorem dX9_runOver_68 : decode cX9_runOver 68 = .ok (.iconst (-1), 1) := by decide +kernel
theorem dX9_runOver_69 : decode cX9_runOver 69 = .ok (.if_icmp .ne 20, 3) := by decide +kernel
theorem dX9_runOver_72 : decode cX9_runOver 72 = .ok (.aload_n 1, 1) := by decide +kernel
theorem dX9_runOver_73 : decode cX9_runOver 73 = .ok (.iload_n 2, 1) := by decide +kernel
theorem dX9_runOver_74 : decode cX9_runOver 74 = .ok (.invokevirtual 41, 3) := by decide +kernel
theorem dX9_runOver_77 : decode cX9_runOver 77 = .ok (.aload_n 1, 1) := by decide +kernel
theorem dX9_runOver_78 : decode cX9_runOver 78 = .ok (.invokevirtual 45, 3) := by decide +kernel
theorem dX9_runOver_81 : decode cX9_runOver 81 = .ok (.if_icmp .ne 8, 3) := by decide +kernel
theorem dX9_runOver_84 : decode cX9_runOver 84 = .ok (.aload_n 0, 1) := by decide +kernel
theorem dX9_runOver_85 : decode cX9_runOver 85 = .ok (.iload_n 3, 1) := by decide +kernel
theorem dX9_runOver_86 : decode cX9_runOver 86 = .ok (.putfield 34, 3) := by decide +kernel
theorem dX9_runOver_89 : decode cX9_runOver 89 = .ok (.iinc 3 1, 3) := by decide +kernel
theorem dX9_runOver_92 : decode cX9_runOver 92 = .ok (.goto (-75), 3) := by decide +kernel
theorem dX9_runOver_95 : decode cX9_runOver 95 = .ok (.aload_n 0, 1) := by decide +kernel
theorem dX9_runOver_96 : decode cX9_runOver 96 = .ok (.aload_n 1, 1) := by decide +kernel
theorem dX9_runOver_97 : decode cX9_runOver 97 = .ok (.iload_n 2, 1) := by decide +kernel
theorem dX9_runOver_98 : decode cX9_runOver 98 = .ok (.invokevirtual 48, 3) := by decide +kernel
theorem dX9_runOver_101 : decode cX9_runOver 101 = .ok (.putfield 51, 3) := by decide +kernel
theorem dX9_runOver_104 : decode cX9_runOver 104 = .ok (.return_, 1) := by decide +kernel
abbrev tX9_runOver (k : Nat) : MT := (RX9, cX9_runOver, 5, k, none)
def lX9_runOver_1 : SX := (sLoop (cAnd (cB rlt (iLoc 3) (iGet 9 3 (rLoc 0))) (cB rlt (iLoc 3) (iK 40))) (sSeq (sSetI 4 (iCallV 9 mX9_afterLine (aR (rLoc 0) (aR (rLoc 1) (aI (iLoc 2) (aI (iLoc 3) aNil)))))) (sSeq (sIf (cZ zge (iLoc 4)) (sSetI 2 (iLoc 4)) (sIf (cB req (iGet 9 4 (rLoc 0)) (iK (-1))) (sPutI 9 4 .int (rLoc 0) (iLoc 3)) sSkip)) (sIf (cAnd (cB req (iGet 9 5 (rLoc 0)) (iK (-1))) (cB req (iCallV 0 mX0_occupied (aR (rLoc 1) (aI (iLoc 2) aNil))) (iCallV 0 mX0_allHuts (aR (rLoc 1) aNil)))) (sPutI 9 5 .int (rLoc 0) (iLoc 3)) sSkip))) (sSeq (sForget 4) (sInc 3 1)))
theorem olX9_runOver_1 (g : GT) {pcB pcC : Nat} : Sok g (tX9_runOver 6) 17 95 pcB pcC (lX9_runOver_1) := (Sok.loop (pc := 17) (pc1 := 31) (pc2 := 89) (pcN := 95) (Cok.and (pc1 := 25) (Cok.cmp (pc1 := 18) (pc2 := 22) (pcT := 25) (pcF := 95) (EokI.iload_n (q := 3) dX9_runOver_17) (EokI.getf (pc1 := 19) (j := 3) (ci := 9) (T := TX9) (N := 7) (EokR.aload_n (q := 0) dX9_runOver_18) rfl wsX9_in (by decide) flX9_21 dX9_runOver_19) (JI.ltF (tgt := 95) dX9_runOver_22 (by decide))) (Cok.cmp (pc1 := 26) (pc2 := 28) (pcT := 31) (pcF := 95) (EokI.iload_n (q := 3) dX9_runOver_25) (EokI.bipush (v := 40) dX9_runOver_26 (by decide)) (JI.ltF (tgt := 95) dX9_runOver_28 (by decide)))) (by decide) (Sok.seq (pc1 := 40) (Sok.setI (i := 4) (pc1 := 38) (EokI.iCallV (pc1 := 35) (Aok.aR (pc1 := 32) (EokR.aload_n (q := 0) dX9_runOver_31) (Aok.aR (pc1 := 33) (EokR.aload_n (q := 1) dX9_runOver_32) (Aok.aI (pc1 := 34) (EokI.iload_n (q := 2) dX9_runOver_33) (Aok.aI (pc1 := 35) (EokI.iload_n (q := 3) dX9_runOver_34) Aok.nil)))) (kX9_afterLine g) rfl ykX9_afterLine vkX9_37 (by decide) (by decide) dX9_runOver_35) (by decide) dX9_runOver_38 (show 4 < 5 by decide)) (Sok.seq (pc1 := 64) (Sok.ite (pc1 := 45) (pc2 := 51) (Cok.zero (pc1 := 42) (pcT := 45) (pcF := 51) (EokI.iload (i := 4) dX9_runOver_40) (JZ.geF (tgt := 51) dX9_runOver_42 (by decide))) (by decide) (Sok.goto (pc1 := 48) (pcN := 64) (Sok.setI_n (q := 2) (pc1 := 47) (EokI.iload (i := 4) dX9_runOver_45) (by decide) dX9_runOver_47 (show 2 < 5 by decide)) dX9_runOver_48 (by decide)) (Sok.ite (pc1 := 59) (pc2 := 64) (Cok.cmp (pc1 := 55) (pc2 := 56) (pcT := 59) (pcF := 64) (EokI.getf (pc1 := 52) (j := 4) (ci := 9) (T := TX9) (N := 7) (EokR.aload_n (q := 0) dX9_runOver_51) rfl wsX9_in (by decide) flX9_31 dX9_runOver_52) (EokI.iconst (v := (-1)) dX9_runOver_55 (by decide)) (JI.eqF (tgt := 64) dX9_runOver_56 (by decide))) (by decide) (Sok.putI (ci := 9) (T := TX9) (NN := 7) (tt := tyX9) (j := 4) (pc1 := 60) (pc2 := 61) (ty := .int) (EokR.aload_n (q := 0) dX9_runOver_59) (EokI.iload_n (q := 3) dX9_runOver_60) (by decide) rfl wsX9_in tyX9_ok nmX9 (by decide) flX9_31 rfl rfl dX9_runOver_61) (Sok.skip (pc := 64)))) (Sok.ite (pc1 := 84) (pc2 := 89) (Cok.and (pc1 := 72) (Cok.cmp (pc1 := 68) (pc2 := 69) (pcT := 72) (pcF := 89) (EokI.getf (pc1 := 65) (j := 5) (ci := 9) (T := TX9) (N := 7) (EokR.aload_n (q := 0) dX9_runOver_64) rfl wsX9_in (by decide) flX9_34 dX9_runOver_65) (EokI.iconst (v := (-1)) dX9_runOver_68 (by decide)) (JI.eqF (tgt := 89) dX9_runOver_69 (by decide))) (Cok.cmp (pc1 := 77) (pc2 := 81) (pcT := 84) (pcF := 89) (EokI.iCallV (pc1 := 74) (Aok.aR (pc1 := 73) (EokR.aload_n (q := 1) dX9_runOver_72) (Aok.aI (pc1 := 74) (EokI.iload_n (q := 2) dX9_runOver_73) Aok.nil)) (kX0_occupied g) rfl ykX0_occupied vkX9_41 (by decide) (by decide) dX9_runOver_74) (EokI.iCallV (pc1 := 78) (Aok.aR (pc1 := 78) (EokR.aload_n (q := 1) dX9_runOver_77) Aok.nil) (kX0_allHuts g) rfl ykX0_allHuts vkX9_45 (by decide) (by decide) dX9_runOver_78) (JI.eqF (tgt := 89) dX9_runOver_81 (by decide)))) (by decide) (Sok.putI (ci := 9) (T := TX9) (NN := 7) (tt := tyX9) (j := 5) (pc1 := 85) (pc2 := 86) (ty := .int) (EokR.aload_n (q := 0) dX9_runOver_84) (EokI.iload_n (q := 3) dX9_runOver_85) (by decide) rfl wsX9_in tyX9_ok nmX9 (by decide) flX9_34 rfl rfl dX9_runOver_86) (Sok.skip (pc := 89))))) (Sok.seq (pc1 := 89) Sok.forget (Sok.goto (pc1 := 92) (pcN := 17) (Sok.iinc (i := 3) (v := 1) dX9_runOver_89 (show 3 < 5 by decide) (by decide)) dX9_runOver_92 (by decide))))
def mX9_runOver : MX := bodyOf 5 (sSeq (sSeq (sSetI 2 (iCallV 0 mX0_toldLying (aR (rLoc 1) aNil))) (sSeq (sPutI 9 4 .int (rLoc 0) (iK (-1))) (sSeq (sPutI 9 5 .int (rLoc 0) (iK (-1))) (sSeq (sSeq (sSeq (sSetI 3 (iK 0)) lX9_runOver_1) (sForget 3)) (sPutI 9 6 .int (rLoc 0) (iCallV 0 mX0_sumOf (aR (rLoc 1) (aI (iLoc 2) aNil)))))))) sRetV)
theorem kX9_runOver (g : GT) : MK g 6 yX9_runOver cX9_runOver 5 none mX9_runOver := MK.of (pcN := 99999) (pcB := 0) (pcC := 0) rfl (Sok.seq (pc1 := 104) (Sok.seq (pc1 := 5) (Sok.setI_n (q := 2) (pc1 := 4) (EokI.iCallV (pc1 := 1) (Aok.aR (pc1 := 1) (EokR.aload_n (q := 1) dX9_runOver_0) Aok.nil) (kX0_toldLying g) rfl ykX0_toldLying vkX9_25 (by decide) (by decide) dX9_runOver_1) (by decide) dX9_runOver_4 (show 2 < 5 by decide)) (Sok.seq (pc1 := 10) (Sok.putI (ci := 9) (T := TX9) (NN := 7) (tt := tyX9) (j := 4) (pc1 := 6) (pc2 := 7) (ty := .int) (EokR.aload_n (q := 0) dX9_runOver_5) (EokI.iconst (v := (-1)) dX9_runOver_6 (by decide)) (by decide) rfl wsX9_in tyX9_ok nmX9 (by decide) flX9_31 rfl rfl dX9_runOver_7) (Sok.seq (pc1 := 15) (Sok.putI (ci := 9) (T := TX9) (NN := 7) (tt := tyX9) (j := 5) (pc1 := 11) (pc2 := 12) (ty := .int) (EokR.aload_n (q := 0) dX9_runOver_10) (EokI.iconst (v := (-1)) dX9_runOver_11 (by decide)) (by decide) rfl wsX9_in tyX9_ok nmX9 (by decide) flX9_34 rfl rfl dX9_runOver_12) (Sok.seq (pc1 := 95) (Sok.seq (pc1 := 95) (Sok.seq (pc1 := 17) (Sok.setI_n (q := 3) (pc1 := 16) (EokI.iconst (v := 0) dX9_runOver_15 (by decide)) (by decide) dX9_runOver_16 (show 3 < 5 by decide)) (olX9_runOver_1 g )) (Sok.forget (pc := 95))) (Sok.putI (ci := 9) (T := TX9) (NN := 7) (tt := tyX9) (j := 6) (pc1 := 96) (pc2 := 101) (ty := .int) (EokR.aload_n (q := 0) dX9_runOver_95) (EokI.iCallV (pc1 := 98) (Aok.aR (pc1 := 97) (EokR.aload_n (q := 1) dX9_runOver_96) (Aok.aI (pc1 := 98) (EokI.iload_n (q := 2) dX9_runOver_97) Aok.nil)) (kX0_sumOf g) rfl ykX0_sumOf vkX9_48 (by decide) (by decide) dX9_runOver_98) (by decide) rfl wsX9_in tyX9_ok nmX9 (by decide) flX9_51 rfl rfl dX9_runOver_101))))) (Sok.retV dX9_runOver_104 rfl))
/-! PassHuts$Lyings.numberOf(II)I -/
theorem dX2_numberOf_0 : decode cX2_numberOf 0 = .ok (.iload_n 2, 1) := by decide +kernel
theorem dX2_numberOf_1 : decode cX2_numberOf 1 = .ok (.bipush 8, 2) := by decide +kernel
theorem dX2_numberOf_3 : decode cX2_numberOf 3 = .ok (.ishl, 1) := by decide +kernel
theorem dX2_numberOf_4 : decode cX2_numberOf 4 = .ok (.iload_n 1, 1) := by decide +kernel
theorem dX2_numberOf_5 : decode cX2_numberOf 5 = .ok (.bipush 12, 2) := by decide +kernel
theorem dX2_numberOf_7 : decode cX2_numberOf 7 = .ok (.ishr, 1) := by decide +kernel
theorem dX2_numberOf_8 : decode cX2_numberOf 8 = .ok (.ior, 1) := by decide +kernel
theorem dX2_numberOf_9 : decode cX2_numberOf 9 = .ok (.istore_n 3, 1) := by decide +kernel
theorem dX2_numberOf_10 : decode cX2_numberOf 10 = .ok (.iload_n 1, 1) := by decide +kernel
theorem dX2_numberOf_11 : decode cX2_numberOf 11 = .ok (.sipush 4095, 3) := by decide +kernel
theorem dX2_numberOf_14 : decode cX2_numberOf 14 = .ok (.iand, 1) := by decide +kernel
theorem dX2_numberOf_15 : decode cX2_numberOf 15 = .ok (.istore 4, 2) := by decide +kernel
theorem dX2_numberOf_17 : decode cX2_numberOf 17 = .ok (.iload_n 3, 1) := by decide +kernel
theorem dX2_numberOf_18 : decode cX2_numberOf 18 = .ok (.ifCond .lt 22, 3) := by decide +kernel
theorem dX2_numberOf_21 : decode cX2_numberOf 21 = .ok (.iload_n 3, 1) := by decide +kernel
theorem dX2_numberOf_22 : decode cX2_numberOf 22 = .ok (.aload_n 0, 1) := by decide +kernel
theorem dX2_numberOf_23 : decode cX2_numberOf 23 = .ok (.getfield 15, 3) := by decide +kernel
theorem dX2_numberOf_26 : decode cX2_numberOf 26 = .ok (.arraylength, 1) := by decide +kernel
theorem dX2_numberOf_27 : decode cX2_numberOf 27 = .ok (.if_icmp .ge 13, 3) := by decide +kernel
theorem dX2_numberOf_30 : decode cX2_numberOf 30 = .ok (.iload 4, 2) := by decide +kernel
theorem dX2_numberOf_32 : decode cX2_numberOf 32 = .ok (.aload_n 0, 1) := by decide +kernel
theorem dX2_numberOf_33 : decode cX2_numberOf 33 = .ok (.getfield 18, 3) := by decide +kernel
theorem dX2_numberOf_36 : decode cX2_numberOf 36 = .ok (.arraylength, 1) := by decide +kernel
theorem dX2_numberOf_37 : decode cX2_numberOf 37 = .ok (.if_icmp .lt 5, 3) := by decide +kernel
theorem dX2_numberOf_40 : decode cX2_numberOf 40 = .ok (.iconst (-1), 1) := by decide +kernel
theorem dX2_numberOf_41 : decode cX2_numberOf 41 = .ok (.ireturn, 1) := by decide +kernel
theorem dX2_numberOf_42 : decode cX2_numberOf 42 = .ok (.aload_n 0, 1) := by decide +kernel
theorem dX2_numberOf_43 : decode cX2_numberOf 43 = .ok (.getfield 15, 3) := by decide +kernel
theorem dX2_numberOf_46 : decode cX2_numberOf 46 = .ok (.iload_n 3, 1) := by decide +kernel
theorem dX2_numberOf_47 : decode cX2_numberOf 47 = .ok (.iaload, 1) := by decide +kernel
theorem dX2_numberOf_48 : decode cX2_numberOf 48 = .ok (.aload_n 0, 1) := by decide +kernel
theorem dX2_numberOf_49 : decode cX2_numberOf 49 = .ok (.getfield 18, 3) := by decide +kernel
theorem dX2_numberOf_52 : decode cX2_numberOf 52 = .ok (.iload 4, 2) := by decide +kernel
theorem dX2_numberOf_54 : decode cX2_numberOf 54 = .ok (.iaload, 1) := by decide +kernel
theorem dX2_numberOf_55 : decode cX2_numberOf 55 = .ok (.iadd, 1) := by decide +kernel
theorem dX2_numberOf_56 : decode cX2_numberOf 56 = .ok (.istore 5, 2) := by decide +kernel
theorem dX2_numberOf_58 : decode cX2_numberOf 58 = .ok (.iload 5, 2) := by decide +kernel
theorem dX2_numberOf_60 : decode cX2_numberOf 60 = .ok (.sipush 6188, 3) := by decide +kernel
theorem dX2_numberOf_63 : decode cX2_numberOf 63 = .ok (.if_icmp .ge 8, 3) := by decide +kernel
theorem dX2_numberOf_66 : decode cX2_numberOf 66 = .ok (.iload 5, 2) := by decide +kernel
theorem dX2_numberOf_68 : decode cX2_numberOf 68 = .ok (.goto 4, 3) := by decide +kernel
theorem dX2_numberOf_71 : decode cX2_numberOf 71 = .ok (.iconst (-1), 1) := by decide +kernel
theorem dX2_numberOf_72 : decode cX2_numberOf 72 = .ok (.ireturn, 1) := by decide +kernel
abbrev tX2_numberOf (k : Nat) : MT := (RX2, cX2_numberOf, 6, k, (some .int))
def mX2_numberOf : MX := bodyOf 6 (sSeq (sSetI 3 (iB gT2 (· ||| ·) (iB gT2 jshl (iLoc 2) (iK 8)) (iB gT2 jshr (iLoc 1) (iK 12)))) (sSeq (sSetI 4 (iB gT2 (· &&& ·) (iLoc 1) (iK 4095))) (sSeq (sIf (cOr (cOr (cZ zlt (iLoc 3)) (cB rge (iLoc 3) (iLen (rGet 2 1 (rLoc 0))))) (cB rge (iLoc 4) (iLen (rGet 2 2 (rLoc 0))))) (sRetI (iK (-1))) sSkip) (sSeq (sSetI 5 (iB gT2 (· + ·) (iALd (rGet 2 1 (rLoc 0)) (iLoc 3)) (iALd (rGet 2 2 (rLoc 0)) (iLoc 4)))) (sRetI (iCond (cB rlt (iLoc 5) (iK 6188)) (iLoc 5) (iK (-1))))))))
theorem kX2_numberOf (g : GT) : MK g 0 yX2_numberOf cX2_numberOf 6 (some .int) mX2_numberOf := MK.of (pcN := 99999) (pcB := 0) (pcC := 0) rfl (Sok.seq (pc1 := 10) (Sok.setI_n (q := 3) (pc1 := 9) (EokI.bin (pc1 := 4) (pc2 := 8) (EokI.bin (pc1 := 1) (pc2 := 3) (EokI.iload_n (q := 2) dX2_numberOf_0) (EokI.bipush (v := 8) dX2_numberOf_1 (by decide)) (OPI.ishl dX2_numberOf_3)) (EokI.bin (pc1 := 5) (pc2 := 7) (EokI.iload_n (q := 1) dX2_numberOf_4) (EokI.bipush (v := 12) dX2_numberOf_5 (by decide)) (OPI.ishr dX2_numberOf_7)) (OPI.ior dX2_numberOf_8)) (by decide) dX2_numberOf_9 (show 3 < 6 by decide)) (Sok.seq (pc1 := 17) (Sok.setI (i := 4) (pc1 := 15) (EokI.bin (pc1 := 11) (pc2 := 14) (EokI.iload_n (q := 1) dX2_numberOf_10) (EokI.sipush (v := 4095) dX2_numberOf_11 (by decide)) (OPI.iand dX2_numberOf_14)) (by decide) dX2_numberOf_15 (show 4 < 6 by decide)) (Sok.seq (pc1 := 42) (Sok.ite (pc1 := 40) (pc2 := 42) (Cok.or (pc1 := 30) (Cok.or (pc1 := 21) (Cok.zero (pc1 := 18) (pcT := 40) (pcF := 21) (EokI.iload_n (q := 3) dX2_numberOf_17) (JZ.ltT (tgt := 40) dX2_numberOf_18 (by decide))) (Cok.cmp (pc1 := 22) (pc2 := 27) (pcT := 40) (pcF := 30) (EokI.iload_n (q := 3) dX2_numberOf_21) (EokI.alen (pc1 := 26) (EokR.getf (pc1 := 23) (j := 1) (ci := 2) (T := TX2) (N := 5) (EokR.aload_n (q := 0) dX2_numberOf_22) rfl wsX2_in (by decide) flX2_15 dX2_numberOf_23) dX2_numberOf_26) (JI.geT (tgt := 40) dX2_numberOf_27 (by decide)))) (Cok.cmp (pc1 := 32) (pc2 := 37) (pcT := 40) (pcF := 42) (EokI.iload (i := 4) dX2_numberOf_30) (EokI.alen (pc1 := 36) (EokR.getf (pc1 := 33) (j := 2) (ci := 2) (T := TX2) (N := 5) (EokR.aload_n (q := 0) dX2_numberOf_32) rfl wsX2_in (by decide) flX2_18 dX2_numberOf_33) dX2_numberOf_36) (JI.geF (tgt := 42) dX2_numberOf_37 (by decide)))) (by decide) (Sok.retI (pc1 := 41) (EokI.iconst (v := (-1)) dX2_numberOf_40 (by decide)) (by decide) dX2_numberOf_41 rfl) (Sok.skip (pc := 42))) (Sok.seq (pc1 := 58) (Sok.setI (i := 5) (pc1 := 56) (EokI.bin (pc1 := 48) (pc2 := 55) (EokI.iALd (pc1 := 46) (pc2 := 47) (EokR.getf (pc1 := 43) (j := 1) (ci := 2) (T := TX2) (N := 5) (EokR.aload_n (q := 0) dX2_numberOf_42) rfl wsX2_in (by decide) flX2_15 dX2_numberOf_43) (EokI.iload_n (q := 3) dX2_numberOf_46) dX2_numberOf_47) (EokI.iALd (pc1 := 52) (pc2 := 54) (EokR.getf (pc1 := 49) (j := 2) (ci := 2) (T := TX2) (N := 5) (EokR.aload_n (q := 0) dX2_numberOf_48) rfl wsX2_in (by decide) flX2_18 dX2_numberOf_49) (EokI.iload (i := 4) dX2_numberOf_52) dX2_numberOf_54) (OPI.iadd dX2_numberOf_55)) (by decide) dX2_numberOf_56 (show 5 < 6 by decide)) (Sok.retI (pc1 := 72) (EokI.cond' (pc1 := 66) (pc2 := 71) (Cok.cmp (pc1 := 60) (pc2 := 63) (pcT := 66) (pcF := 71) (EokI.iload (i := 5) dX2_numberOf_58) (EokI.sipush (v := 6188) dX2_numberOf_60 (by decide)) (JI.ltF (tgt := 71) dX2_numberOf_63 (by decide))) (EokI.goto (pc1 := 68) (pc2 := 72) (EokI.iload (i := 5) dX2_numberOf_66) dX2_numberOf_68 (by decide)) (EokI.iconst (v := (-1)) dX2_numberOf_71 (by decide))) (by decide) dX2_numberOf_72 rfl)))))
/-! PassHuts$Lyings.firstOf(I)I -/
theorem dX2_firstOf_0 : decode cX2_firstOf 0 = .ok (.iload_n 1, 1) := by decide +kernel
theorem dX2_firstOf_1 : decode cX2_firstOf 1 = .ok (.ifCond .lt 18, 3) := by decide +kernel
theorem dX2_firstOf_4 : decode cX2_firstOf 4 = .ok (.iload_n 1, 1) := by decide +kernel
theorem dX2_firstOf_5 : decode cX2_firstOf 5 = .ok (.bipush 13, 2) := by decide +kernel
theorem dX2_firstOf_7 : decode cX2_firstOf 7 = .ok (.if_icmp .ge 12, 3) := by decide +kernel
theorem dX2_firstOf_10 : decode cX2_firstOf 10 = .ok (.aload_n 0, 1) := by decide +kernel
theorem dX2_firstOf_11 : decode cX2_firstOf 11 = .ok (.getfield 21, 3) := by decide +kernel
theorem dX2_firstOf_14 : decode cX2_firstOf 14 = .ok (.iload_n 1, 1) := by decide +kernel
theorem dX2_firstOf_15 : decode cX2_firstOf 15 = .ok (.iaload, 1) := by decide +kernel
theorem dX2_firstOf_16 : decode cX2_firstOf 16 = .ok (.goto 4, 3) := by decide +kernel
theorem dX2_firstOf_19 : decode cX2_firstOf 19 = .ok (.iconst 0, 1) := by decide +kernel
theorem dX2_firstOf_20 : decode cX2_firstOf 20 = .ok (.ireturn, 1) := by decide +kernel
abbrev tX2_firstOf (k : Nat) : MT := (RX2, cX2_firstOf, 2, k, (some .int))
def mX2_firstOf : MX := bodyOf 2 (sRetI (iCond (cAnd (cZ zge (iLoc 1)) (cB rlt (iLoc 1) (iK 13))) (iALd (rGet 2 3 (rLoc 0)) (iLoc 1)) (iK 0)))
theorem kX2_firstOf (g : GT) : MK g 0 yX2_firstOf cX2_firstOf 2 (some .int) mX2_firstOf := MK.of (pcN := 99999) (pcB := 0) (pcC := 0) rfl (Sok.retI (pc1 := 20) (EokI.cond' (pc1 := 10) (pc2 := 19) (Cok.and (pc1 := 4) (Cok.zero (pc1 := 1) (pcT := 4) (pcF := 19) (EokI.iload_n (q := 1) dX2_firstOf_0) (JZ.geF (tgt := 19) dX2_firstOf_1 (by decide))) (Cok.cmp (pc1 := 5) (pc2 := 7) (pcT := 10) (pcF := 19) (EokI.iload_n (q := 1) dX2_firstOf_4) (EokI.bipush (v := 13) dX2_firstOf_5 (by decide)) (JI.ltF (tgt := 19) dX2_firstOf_7 (by decide)))) (EokI.goto (pc1 := 16) (pc2 := 20) (EokI.iALd (pc1 := 14) (pc2 := 15) (EokR.getf (pc1 := 11) (j := 3) (ci := 2) (T := TX2) (N := 5) (EokR.aload_n (q := 0) dX2_firstOf_10) rfl wsX2_in (by decide) flX2_21 dX2_firstOf_11) (EokI.iload_n (q := 1) dX2_firstOf_14) dX2_firstOf_15) dX2_firstOf_16 (by decide)) (EokI.iconst (v := 0) dX2_firstOf_19 (by decide))) (by decide) dX2_firstOf_20 rfl)
/-! PassHuts$Lyings.endOf(II)I -/
theorem dX2_endOf_0 : decode cX2_endOf 0 = .ok (.iload_n 1, 1) := by decide +kernel
theorem dX2_endOf_1 : decode cX2_endOf 1 = .ok (.ifCond .lt 22, 3) := by decide +kernel
theorem dX2_endOf_4 : decode cX2_endOf 4 = .ok (.iload_n 1, 1) := by decide +kernel
theorem dX2_endOf_5 : decode cX2_endOf 5 = .ok (.bipush 13, 2) := by decide +kernel
theorem dX2_endOf_7 : decode cX2_endOf 7 = .ok (.if_icmp .ge 16, 3) := by decide +kernel
theorem dX2_endOf_10 : decode cX2_endOf 10 = .ok (.iload_n 2, 1) := by decide +kernel
theorem dX2_endOf_11 : decode cX2_endOf 11 = .ok (.ifCond .lt 12, 3) := by decide +kernel
theorem dX2_endOf_14 : decode cX2_endOf 14 = .ok (.iload_n 2, 1) := by decide +kernel
theorem dX2_endOf_15 : decode cX2_endOf 15 = .ok (.iconst 5, 1) := by decide +kernel
theorem dX2_endOf_16 : decode cX2_endOf 16 = .ok (.if_icmp .gt 7, 3) := by decide +kernel
theorem dX2_endOf_19 : decode cX2_endOf 19 = .ok (.iconst 1, 1) := by decide +kernel
theorem dX2_endOf_20 : decode cX2_endOf 20 = .ok (.goto 4, 3) := by decide +kernel
theorem dX2_endOf_23 : decode cX2_endOf 23 = .ok (.iconst 0, 1) := by decide +kernel
theorem dX2_endOf_24 : decode cX2_endOf 24 = .ok (.istore_n 3, 1) := by decide +kernel
theorem dX2_endOf_25 : decode cX2_endOf 25 = .ok (.iload_n 3, 1) := by decide +kernel
theorem dX2_endOf_26 : decode cX2_endOf 26 = .ok (.ifCond .eq 17, 3) := by decide +kernel
theorem dX2_endOf_29 : decode cX2_endOf 29 = .ok (.aload_n 0, 1) := by decide +kernel
theorem dX2_endOf_30 : decode cX2_endOf 30 = .ok (.getfield 24, 3) := by decide +kernel
theorem dX2_endOf_33 : decode cX2_endOf 33 = .ok (.iload_n 2, 1) := by decide +kernel
theorem dX2_endOf_34 : decode cX2_endOf 34 = .ok (.bipush 13, 2) := by decide +kernel
theorem dX2_endOf_36 : decode cX2_endOf 36 = .ok (.imul, 1) := by decide +kernel
theorem dX2_endOf_37 : decode cX2_endOf 37 = .ok (.iload_n 1, 1) := by decide +kernel
theorem dX2_endOf_38 : decode cX2_endOf 38 = .ok (.iadd, 1) := by decide +kernel
theorem dX2_endOf_39 : decode cX2_endOf 39 = .ok (.iaload, 1) := by decide +kernel
theorem dX2_endOf_40 : decode cX2_endOf 40 = .ok (.goto 4, 3) := by decide +kernel
theorem dX2_endOf_43 : decode cX2_endOf 43 = .ok (.iconst 0, 1) := by decide +kernel
theorem dX2_endOf_44 : decode cX2_endOf 44 = .ok (.ireturn, 1) := by decide +kernel
abbrev tX2_endOf (k : Nat) : MT := (RX2, cX2_endOf, 4, k, (some .int))
def mX2_endOf : MX := bodyOf 4 (sSeq (sSetI 3 (iBool (cAnd (cAnd (cAnd (cZ zge (iLoc 1)) (cB rlt (iLoc 1) (iK 13))) (cZ zge (iLoc 2))) (cB rle (iLoc 2) (iK 5))))) (sRetI (iCond (cZ zne (iLoc 3)) (iALd (rGet 2 4 (rLoc 0)) (iB gT2 (· + ·) (iB gT2 (· * ·) (iLoc 2) (iK 13)) (iLoc 1))) (iK 0))))
theorem kX2_endOf (g : GT) : MK g 0 yX2_endOf cX2_endOf 4 (some .int) mX2_endOf := MK.of (pcN := 99999) (pcB := 0) (pcC := 0) rfl (Sok.seq (pc1 := 25) (Sok.setI_n (q := 3) (pc1 := 24) (EokI.cond' (pc1 := 19) (pc2 := 23) (Cok.and (pc1 := 14) (Cok.and (pc1 := 10) (Cok.and (pc1 := 4) (Cok.zero (pc1 := 1) (pcT := 4) (pcF := 23) (EokI.iload_n (q := 1) dX2_endOf_0) (JZ.geF (tgt := 23) dX2_endOf_1 (by decide))) (Cok.cmp (pc1 := 5) (pc2 := 7) (pcT := 10) (pcF := 23) (EokI.iload_n (q := 1) dX2_endOf_4) (EokI.bipush (v := 13) dX2_endOf_5 (by decide)) (JI.ltF (tgt := 23) dX2_endOf_7 (by decide)))) (Cok.zero (pc1 := 11) (pcT := 14) (pcF := 23) (EokI.iload_n (q := 2) dX2_endOf_10) (JZ.geF (tgt := 23) dX2_endOf_11 (by decide)))) (Cok.cmp (pc1 := 15) (pc2 := 16) (pcT := 19) (pcF := 23) (EokI.iload_n (q := 2) dX2_endOf_14) (EokI.iconst (v := 5) dX2_endOf_15 (by decide)) (JI.leF (tgt := 23) dX2_endOf_16 (by decide)))) (EokI.goto (pc1 := 20) (pc2 := 24) (EokI.iconst (v := 1) dX2_endOf_19 (by decide)) dX2_endOf_20 (by decide)) (EokI.iconst (v := 0) dX2_endOf_23 (by decide))) (by decide) dX2_endOf_24 (show 3 < 4 by decide)) (Sok.retI (pc1 := 44) (EokI.cond' (pc1 := 29) (pc2 := 43) (Cok.zero (pc1 := 26) (pcT := 29) (pcF := 43) (EokI.iload_n (q := 3) dX2_endOf_25) (JZ.neF (tgt := 43) dX2_endOf_26 (by decide))) (EokI.goto (pc1 := 40) (pc2 := 44) (EokI.iALd (pc1 := 33) (pc2 := 39) (EokR.getf (pc1 := 30) (j := 4) (ci := 2) (T := TX2) (N := 5) (EokR.aload_n (q := 0) dX2_endOf_29) rfl wsX2_in (by decide) flX2_24 dX2_endOf_30) (EokI.bin (pc1 := 37) (pc2 := 38) (EokI.bin (pc1 := 34) (pc2 := 36) (EokI.iload_n (q := 2) dX2_endOf_33) (EokI.bipush (v := 13) dX2_endOf_34 (by decide)) (OPI.imul dX2_endOf_36)) (EokI.iload_n (q := 1) dX2_endOf_37) (OPI.iadd dX2_endOf_38)) dX2_endOf_39) dX2_endOf_40 (by decide)) (EokI.iconst (v := 0) dX2_endOf_43 (by decide))) (by decide) dX2_endOf_44 rfl))
/-! PassHuts$Lyings.lyingAt(I)I -/
theorem dX2_lyingAt_0 : decode cX2_lyingAt 0 = .ok (.iload_n 1, 1) := by decide +kernel
theorem dX2_lyingAt_1 : decode cX2_lyingAt 1 = .ok (.ifCond .lt 19, 3) := by decide +kernel
theorem dX2_lyingAt_4 : decode cX2_lyingAt 4 = .ok (.iload_n 1, 1) := by decide +kernel
theorem dX2_lyingAt_5 : decode cX2_lyingAt 5 = .ok (.sipush 6188, 3) := by decide +kernel
theorem dX2_lyingAt_8 : decode cX2_lyingAt 8 = .ok (.if_icmp .ge 12, 3) := by decide +kernel
theorem dX2_lyingAt_11 : decode cX2_lyingAt 11 = .ok (.aload_n 0, 1) := by decide +kernel
theorem dX2_lyingAt_12 : decode cX2_lyingAt 12 = .ok (.getfield 9, 3) := by decide +kernel
theorem dX2_lyingAt_15 : decode cX2_lyingAt 15 = .ok (.iload_n 1, 1) := by decide +kernel
theorem dX2_lyingAt_16 : decode cX2_lyingAt 16 = .ok (.iaload, 1) := by decide +kernel
theorem dX2_lyingAt_17 : decode cX2_lyingAt 17 = .ok (.goto 4, 3) := by decide +kernel
theorem dX2_lyingAt_20 : decode cX2_lyingAt 20 = .ok (.iconst 0, 1) := by decide +kernel
theorem dX2_lyingAt_21 : decode cX2_lyingAt 21 = .ok (.ireturn, 1) := by decide +kernel
abbrev tX2_lyingAt (k : Nat) : MT := (RX2, cX2_lyingAt, 2, k, (some .int))
def mX2_lyingAt : MX := bodyOf 2 (sRetI (iCond (cAnd (cZ zge (iLoc 1)) (cB rlt (iLoc 1) (iK 6188))) (iALd (rGet 2 0 (rLoc 0)) (iLoc 1)) (iK 0)))
theorem kX2_lyingAt (g : GT) : MK g 0 yX2_lyingAt cX2_lyingAt 2 (some .int) mX2_lyingAt := MK.of (pcN := 99999) (pcB := 0) (pcC := 0) rfl (Sok.retI (pc1 := 21) (EokI.cond' (pc1 := 11) (pc2 := 20) (Cok.and (pc1 := 4) (Cok.zero (pc1 := 1) (pcT := 4) (pcF := 20) (EokI.iload_n (q := 1) dX2_lyingAt_0) (JZ.geF (tgt := 20) dX2_lyingAt_1 (by decide))) (Cok.cmp (pc1 := 5) (pc2 := 8) (pcT := 11) (pcF := 20) (EokI.iload_n (q := 1) dX2_lyingAt_4) (EokI.sipush (v := 6188) dX2_lyingAt_5 (by decide)) (JI.ltF (tgt := 20) dX2_lyingAt_8 (by decide)))) (EokI.goto (pc1 := 17) (pc2 := 21) (EokI.iALd (pc1 := 15) (pc2 := 16) (EokR.getf (pc1 := 12) (j := 0) (ci := 2) (T := TX2) (N := 5) (EokR.aload_n (q := 0) dX2_lyingAt_11) rfl wsX2_in (by decide) flX2_9 dX2_lyingAt_12) (EokI.iload_n (q := 1) dX2_lyingAt_15) dX2_lyingAt_16) dX2_lyingAt_17 (by decide)) (EokI.iconst (v := 0) dX2_lyingAt_20 (by decide))) (by decide) dX2_lyingAt_21 rfl)
/-! PassHuts$Lyings.numberBehind(LPassHuts$Hills;III)I -/
theorem dX2_numberBehind_0 : decode cX2_numberBehind 0 = .ok (.aload_n 1, 1) := by decide +kernel
theorem dX2_numberBehind_1 : decode cX2_numberBehind 1 = .ok (.iload_n 2, 1) := by decide +kernel
theorem dX2_numberBehind_2 : decode cX2_numberBehind 2 = .ok (.iload_n 3, 1) := by decide +kernel
theorem dX2_numberBehind_3 : decode cX2_numberBehind 3 = .ok (.iload 4, 2) := by decide +kernel
theorem dX2_numberBehind_5 : decode cX2_numberBehind 5 = .ok (.invokevirtual 34, 3) := by decide +kernel
theorem dX2_numberBehind_8 : decode cX2_numberBehind 8 = .ok (.istore 5, 2) := by decide +kernel
theorem dX2_numberBehind_10 : decode cX2_numberBehind 10 = .ok (.iload 5, 2) := by decide +kernel
theorem dX2_numberBehind_12 : decode cX2_numberBehind 12 = .ok (.ifCond .ge 7, 3) := by decide +kernel
theorem dX2_numberBehind_15 : decode cX2_numberBehind 15 = .ok (.iconst (-1), 1) := by decide +kernel
theorem dX2_numberBehind_16 : decode cX2_numberBehind 16 = .ok (.goto 19, 3) := by decide +kernel
theorem dX2_numberBehind_19 : decode cX2_numberBehind 19 = .ok (.aload_n 0, 1) := by decide +kernel
theorem dX2_numberBehind_20 : decode cX2_numberBehind 20 = .ok (.iload 5, 2) := by decide +kernel
theorem dX2_numberBehind_22 : decode cX2_numberBehind 22 = .ok (.iload_n 3, 1) := by decide +kernel
theorem dX2_numberBehind_23 : decode cX2_numberBehind 23 = .ok (.aload_n 1, 1) := by decide +kernel
theorem dX2_numberBehind_24 : decode cX2_numberBehind 24 = .ok (.iload 4, 2) := by decide +kernel
theorem dX2_numberBehind_26 : decode cX2_numberBehind 26 = .ok (.invokevirtual 39, 3) := by decide +kernel
theorem dX2_numberBehind_29 : decode cX2_numberBehind 29 = .ok (.isub, 1) := by decide +kernel
theorem dX2_numberBehind_30 : decode cX2_numberBehind 30 = .ok (.iconst 1, 1) := by decide +kernel
theorem dX2_numberBehind_31 : decode cX2_numberBehind 31 = .ok (.iadd, 1) := by decide +kernel
theorem dX2_numberBehind_32 : decode cX2_numberBehind 32 = .ok (.invokevirtual 43, 3) := by decide +kernel
theorem dX2_numberBehind_35 : decode cX2_numberBehind 35 = .ok (.ireturn, 1) := by decide +kernel
abbrev tX2_numberBehind (k : Nat) : MT := (RX2, cX2_numberBehind, 6, k, (some .int))
def mX2_numberBehind : MX := bodyOf 6 (sSeq (sSetI 5 (iCallV 0 mX0_afterWay (aR (rLoc 1) (aI (iLoc 2) (aI (iLoc 3) (aI (iLoc 4) aNil)))))) (sRetI (iCond (cZ zlt (iLoc 5)) (iK (-1)) (iCallV 2 mX2_numberOf (aR (rLoc 0) (aI (iLoc 5) (aI (iB gT2 (· + ·) (iB gT2 (· - ·) (iLoc 3) (iCallV 0 mX0_priceOver (aR (rLoc 1) (aI (iLoc 4) aNil)))) (iK 1)) aNil)))))))
theorem kX2_numberBehind (g : GT) : MK g 4 yX2_numberBehind cX2_numberBehind 6 (some .int) mX2_numberBehind := MK.of (pcN := 99999) (pcB := 0) (pcC := 0) rfl (Sok.seq (pc1 := 10) (Sok.setI (i := 5) (pc1 := 8) (EokI.iCallV (pc1 := 5) (Aok.aR (pc1 := 1) (EokR.aload_n (q := 1) dX2_numberBehind_0) (Aok.aI (pc1 := 2) (EokI.iload_n (q := 2) dX2_numberBehind_1) (Aok.aI (pc1 := 3) (EokI.iload_n (q := 3) dX2_numberBehind_2) (Aok.aI (pc1 := 5) (EokI.iload (i := 4) dX2_numberBehind_3) Aok.nil)))) (kX0_afterWay g) rfl ykX0_afterWay vkX2_34 (by decide) (by decide) dX2_numberBehind_5) (by decide) dX2_numberBehind_8 (show 5 < 6 by decide)) (Sok.retI (pc1 := 35) (EokI.cond' (pc1 := 15) (pc2 := 19) (Cok.zero (pc1 := 12) (pcT := 15) (pcF := 19) (EokI.iload (i := 5) dX2_numberBehind_10) (JZ.ltF (tgt := 19) dX2_numberBehind_12 (by decide))) (EokI.goto (pc1 := 16) (pc2 := 35) (EokI.iconst (v := (-1)) dX2_numberBehind_15 (by decide)) dX2_numberBehind_16 (by decide)) (EokI.iCallV (pc1 := 32) (Aok.aR (pc1 := 20) (EokR.aload_n (q := 0) dX2_numberBehind_19) (Aok.aI (pc1 := 22) (EokI.iload (i := 5) dX2_numberBehind_20) (Aok.aI (pc1 := 32) (EokI.bin (pc1 := 30) (pc2 := 31) (EokI.bin (pc1 := 23) (pc2 := 29) (EokI.iload_n (q := 3) dX2_numberBehind_22) (EokI.iCallV (pc1 := 26) (Aok.aR (pc1 := 24) (EokR.aload_n (q := 1) dX2_numberBehind_23) (Aok.aI (pc1 := 26) (EokI.iload (i := 4) dX2_numberBehind_24) Aok.nil)) (kX0_priceOver g) rfl ykX0_priceOver vkX2_39 (by decide) (by decide) dX2_numberBehind_26) (OPI.isub dX2_numberBehind_29)) (EokI.iconst (v := 1) dX2_numberBehind_30 (by decide)) (OPI.iadd dX2_numberBehind_31)) Aok.nil))) (kX2_numberOf g) rfl ykX2_numberOf vkX2_43 (by decide) (by decide) dX2_numberBehind_32)) (by decide) dX2_numberBehind_35 rfl))
/-! PassHuts$Hills.isWayToLie(I)Z -/
theorem dX0_isWayToLie_0 : decode cX0_isWayToLie 0 = .ok (.iload_n 1, 1) := by decide +kernel
theorem dX0_isWayToLie_1 : decode cX0_isWayToLie 1 = .ok (.aload_n 0, 1) := by decide +kernel
theorem dX0_isWayToLie_2 : decode cX0_isWayToLie 2 = .ok (.getfield 69, 3) := by decide +kernel
theorem dX0_isWayToLie_5 : decode cX0_isWayToLie 5 = .ok (.iand, 1) := by decide +kernel
theorem dX0_isWayToLie_6 : decode cX0_isWayToLie 6 = .ok (.ifCond .ne 7, 3) := by decide +kernel
theorem dX0_isWayToLie_9 : decode cX0_isWayToLie 9 = .ok (.iconst 1, 1) := by decide +kernel
theorem dX0_isWayToLie_10 : decode cX0_isWayToLie 10 = .ok (.goto 4, 3) := by decide +kernel
theorem dX0_isWayToLie_13 : decode cX0_isWayToLie 13 = .ok (.iconst 0, 1) := by decide +kernel
theorem dX0_isWayToLie_14 : decode cX0_isWayToLie 14 = .ok (.ireturn, 1) := by decide +kernel
abbrev tX0_isWayToLie (k : Nat) : MT := (RX0, cX0_isWayToLie, 2, k, (some .boolean))
def mX0_isWayToLie : MX := bodyOf 2 (sRetZ (iBool (cZ zeq (iB gT2 (· &&& ·) (iLoc 1) (iGet 0 16 (rLoc 0))))))
theorem kX0_isWayToLie (g : GT) : MK g 0 yX0_isWayToLie cX0_isWayToLie 2 (some .boolean) mX0_isWayToLie := MK.of (pcN := 99999) (pcB := 0) (pcC := 0) rfl (Sok.retZ (pc1 := 14) (EokI.cond' (pc1 := 9) (pc2 := 13) (Cok.zero (pc1 := 6) (pcT := 9) (pcF := 13) (EokI.bin (pc1 := 1) (pc2 := 5) (EokI.iload_n (q := 1) dX0_isWayToLie_0) (EokI.getf (pc1 := 2) (j := 16) (ci := 0) (T := TX0) (N := 17) (EokR.aload_n (q := 0) dX0_isWayToLie_1) rfl wsX0_in (by decide) flX0_69 dX0_isWayToLie_2) (OPI.iand dX0_isWayToLie_5)) (JZ.eqF (tgt := 13) dX0_isWayToLie_6 (by decide))) (EokI.goto (pc1 := 10) (pc2 := 14) (EokI.iconst (v := 1) dX0_isWayToLie_9 (by decide)) dX0_isWayToLie_10 (by decide)) (EokI.iconst (v := 0) dX0_isWayToLie_13 (by decide))) (by decide) dX0_isWayToLie_14 rfl)
/-! PassHuts$Hills.codeOf(I)I -/
theorem dX0_codeOf_0 : decode cX0_codeOf 0 = .ok (.iload_n 1, 1) := by decide +kernel
theorem dX0_codeOf_1 : decode cX0_codeOf 1 = .ok (.ifCond .lt 36, 3) := by decide +kernel
theorem dX0_codeOf_4 : decode cX0_codeOf 4 = .ok (.iload_n 1, 1) := by decide +kernel
theorem dX0_codeOf_5 : decode cX0_codeOf 5 = .ok (.aload_n 0, 1) := by decide +kernel
theorem dX0_codeOf_6 : decode cX0_codeOf 6 = .ok (.getfield 66, 3) := by decide +kernel
theorem dX0_codeOf_9 : decode cX0_codeOf 9 = .ok (.if_icmp .ge 28, 3) := by decide +kernel
theorem dX0_codeOf_12 : decode cX0_codeOf 12 = .ok (.iload_n 1, 1) := by decide +kernel
theorem dX0_codeOf_13 : decode cX0_codeOf 13 = .ok (.bipush 20, 2) := by decide +kernel
theorem dX0_codeOf_15 : decode cX0_codeOf 15 = .ok (.if_icmp .ge 22, 3) := by decide +kernel
theorem dX0_codeOf_18 : decode cX0_codeOf 18 = .ok (.bipush 8, 2) := by decide +kernel
theorem dX0_codeOf_20 : decode cX0_codeOf 20 = .ok (.aload_n 0, 1) := by decide +kernel
theorem dX0_codeOf_21 : decode cX0_codeOf 21 = .ok (.getfield 38, 3) := by decide +kernel
theorem dX0_codeOf_24 : decode cX0_codeOf 24 = .ok (.iload_n 1, 1) := by decide +kernel
theorem dX0_codeOf_25 : decode cX0_codeOf 25 = .ok (.iaload, 1) := by decide +kernel
theorem dX0_codeOf_26 : decode cX0_codeOf 26 = .ok (.imul, 1) := by decide +kernel
theorem dX0_codeOf_27 : decode cX0_codeOf 27 = .ok (.aload_n 0, 1) := by decide +kernel
theorem dX0_codeOf_28 : decode cX0_codeOf 28 = .ok (.getfield 41, 3) := by decide +kernel
theorem dX0_codeOf_31 : decode cX0_codeOf 31 = .ok (.iload_n 1, 1) := by decide +kernel
theorem dX0_codeOf_32 : decode cX0_codeOf 32 = .ok (.iaload, 1) := by decide +kernel
theorem dX0_codeOf_33 : decode cX0_codeOf 33 = .ok (.iadd, 1) := by decide +kernel
theorem dX0_codeOf_34 : decode cX0_codeOf 34 = .ok (.goto 4, 3) := by decide +kernel
theorem dX0_codeOf_37 : decode cX0_codeOf 37 = .ok (.iconst (-1), 1) := by decide +kernel
theorem dX0_codeOf_38 : decode cX0_codeOf 38 = .ok (.ireturn, 1) := by decide +kernel
abbrev tX0_codeOf (k : Nat) : MT := (RX0, cX0_codeOf, 2, k, (some .int))
def mX0_codeOf : MX := bodyOf 2 (sRetI (iCond (cAnd (cAnd (cZ zge (iLoc 1)) (cB rlt (iLoc 1) (iGet 0 4 (rLoc 0)))) (cB rlt (iLoc 1) (iK 20))) (iB gT2 (· + ·) (iB gT2 (· * ·) (iK 8) (iALd (rGet 0 9 (rLoc 0)) (iLoc 1))) (iALd (rGet 0 10 (rLoc 0)) (iLoc 1))) (iK (-1))))
theorem kX0_codeOf (g : GT) : MK g 0 yX0_codeOf cX0_codeOf 2 (some .int) mX0_codeOf := MK.of (pcN := 99999) (pcB := 0) (pcC := 0) rfl (Sok.retI (pc1 := 38) (EokI.cond' (pc1 := 18) (pc2 := 37) (Cok.and (pc1 := 12) (Cok.and (pc1 := 4) (Cok.zero (pc1 := 1) (pcT := 4) (pcF := 37) (EokI.iload_n (q := 1) dX0_codeOf_0) (JZ.geF (tgt := 37) dX0_codeOf_1 (by decide))) (Cok.cmp (pc1 := 5) (pc2 := 9) (pcT := 12) (pcF := 37) (EokI.iload_n (q := 1) dX0_codeOf_4) (EokI.getf (pc1 := 6) (j := 4) (ci := 0) (T := TX0) (N := 17) (EokR.aload_n (q := 0) dX0_codeOf_5) rfl wsX0_in (by decide) flX0_66 dX0_codeOf_6) (JI.ltF (tgt := 37) dX0_codeOf_9 (by decide)))) (Cok.cmp (pc1 := 13) (pc2 := 15) (pcT := 18) (pcF := 37) (EokI.iload_n (q := 1) dX0_codeOf_12) (EokI.bipush (v := 20) dX0_codeOf_13 (by decide)) (JI.ltF (tgt := 37) dX0_codeOf_15 (by decide)))) (EokI.goto (pc1 := 34) (pc2 := 38) (EokI.bin (pc1 := 27) (pc2 := 33) (EokI.bin (pc1 := 20) (pc2 := 26) (EokI.bipush (v := 8) dX0_codeOf_18 (by decide)) (EokI.iALd (pc1 := 24) (pc2 := 25) (EokR.getf (pc1 := 21) (j := 9) (ci := 0) (T := TX0) (N := 17) (EokR.aload_n (q := 0) dX0_codeOf_20) rfl wsX0_in (by decide) flX0_38 dX0_codeOf_21) (EokI.iload_n (q := 1) dX0_codeOf_24) dX0_codeOf_25) (OPI.imul dX0_codeOf_26)) (EokI.iALd (pc1 := 31) (pc2 := 32) (EokR.getf (pc1 := 28) (j := 10) (ci := 0) (T := TX0) (N := 17) (EokR.aload_n (q := 0) dX0_codeOf_27) rfl wsX0_in (by decide) flX0_41 dX0_codeOf_28) (EokI.iload_n (q := 1) dX0_codeOf_31) dX0_codeOf_32) (OPI.iadd dX0_codeOf_33)) dX0_codeOf_34 (by decide)) (EokI.iconst (v := (-1)) dX0_codeOf_37 (by decide))) (by decide) dX0_codeOf_38 rfl)
/-! PassHuts$Hills.isStuck(I)Z -/
theorem dX0_isStuck_0 : decode cX0_isStuck 0 = .ok (.aload_n 0, 1) := by decide +kernel
theorem dX0_isStuck_1 : decode cX0_isStuck 1 = .ok (.iload_n 1, 1) := by decide +kernel
theorem dX0_isStuck_2 : decode cX0_isStuck 2 = .ok (.invokevirtual 103, 3) := by decide +kernel
theorem dX0_isStuck_5 : decode cX0_isStuck 5 = .ok (.istore_n 2, 1) := by decide +kernel
theorem dX0_isStuck_6 : decode cX0_isStuck 6 = .ok (.iconst 0, 1) := by decide +kernel
theorem dX0_isStuck_7 : decode cX0_isStuck 7 = .ok (.istore_n 3, 1) := by decide +kernel
theorem dX0_isStuck_8 : decode cX0_isStuck 8 = .ok (.iload_n 3, 1) := by decide +kernel
theorem dX0_isStuck_9 : decode cX0_isStuck 9 = .ok (.aload_n 0, 1) := by decide +kernel
theorem dX0_isStuck_10 : decode cX0_isStuck 10 = .ok (.getfield 66, 3) := by decide +kernel
theorem dX0_isStuck_13 : decode cX0_isStuck 13 = .ok (.if_icmp .ge 21, 3) := by decide +kernel
theorem dX0_isStuck_16 : decode cX0_isStuck 16 = .ok (.aload_n 0, 1) := by decide +kernel
theorem dX0_isStuck_17 : decode cX0_isStuck 17 = .ok (.iload_n 1, 1) := by decide +kernel
theorem dX0_isStuck_18 : decode cX0_isStuck 18 = .ok (.iload_n 2, 1) := by decide +kernel
theorem dX0_isStuck_19 : decode cX0_isStuck 19 = .ok (.iload_n 3, 1) := by decide +kernel
theorem dX0_isStuck_20 : decode cX0_isStuck 20 = .ok (.invokevirtual 109, 3) := by decide +kernel
theorem dX0_isStuck_23 : decode cX0_isStuck 23 = .ok (.ifCond .lt 5, 3) := by decide +kernel
theorem dX0_isStuck_26 : decode cX0_isStuck 26 = .ok (.iconst 0, 1) := by decide +kernel
theorem dX0_isStuck_27 : decode cX0_isStuck 27 = .ok (.ireturn, 1) := by decide +kernel
theorem dX0_isStuck_28 : decode cX0_isStuck 28 = .ok (.iinc 3 1, 3) := by decide +kernel
theorem dX0_isStuck_31 : decode cX0_isStuck 31 = .ok (.goto (-23), 3) := by decide +kernel
theorem dX0_isStuck_34 : decode cX0_isStuck 34 = .ok (.iconst 1, 1) := by decide +kernel
theorem dX0_isStuck_35 : decode cX0_isStuck 35 = .ok (.ireturn, 1) := by decide +kernel
abbrev tX0_isStuck (k : Nat) : MT := (RX0, cX0_isStuck, 4, k, (some .boolean))
def lX0_isStuck_1 : SX := (sLoop (cB rlt (iLoc 3) (iGet 0 4 (rLoc 0))) (sIf (cZ zge (iCallV 0 mX0_afterWay (aR (rLoc 0) (aI (iLoc 1) (aI (iLoc 2) (aI (iLoc 3) aNil)))))) (sRetZ (iK 0)) sSkip) (sInc 3 1))
theorem olX0_isStuck_1 (g : GT) {pcB pcC : Nat} : Sok g (tX0_isStuck 4) 8 34 pcB pcC (lX0_isStuck_1) := (Sok.loop (pc := 8) (pc1 := 16) (pc2 := 28) (pcN := 34) (Cok.cmp (pc1 := 9) (pc2 := 13) (pcT := 16) (pcF := 34) (EokI.iload_n (q := 3) dX0_isStuck_8) (EokI.getf (pc1 := 10) (j := 4) (ci := 0) (T := TX0) (N := 17) (EokR.aload_n (q := 0) dX0_isStuck_9) rfl wsX0_in (by decide) flX0_66 dX0_isStuck_10) (JI.ltF (tgt := 34) dX0_isStuck_13 (by decide))) (by decide) (Sok.ite (pc1 := 26) (pc2 := 28) (Cok.zero (pc1 := 23) (pcT := 26) (pcF := 28) (EokI.iCallV (pc1 := 20) (Aok.aR (pc1 := 17) (EokR.aload_n (q := 0) dX0_isStuck_16) (Aok.aI (pc1 := 18) (EokI.iload_n (q := 1) dX0_isStuck_17) (Aok.aI (pc1 := 19) (EokI.iload_n (q := 2) dX0_isStuck_18) (Aok.aI (pc1 := 20) (EokI.iload_n (q := 3) dX0_isStuck_19) Aok.nil)))) (kX0_afterWay g) rfl ykX0_afterWay vkX0_109 (by decide) (by decide) dX0_isStuck_20) (JZ.geF (tgt := 28) dX0_isStuck_23 (by decide))) (by decide) (Sok.retZ (pc1 := 27) (EokI.iconst (v := 0) dX0_isStuck_26 (by decide)) (by decide) dX0_isStuck_27 rfl) (Sok.skip (pc := 28))) (Sok.goto (pc1 := 31) (pcN := 8) (Sok.iinc (i := 3) (v := 1) dX0_isStuck_28 (show 3 < 4 by decide) (by decide)) dX0_isStuck_31 (by decide)))
def mX0_isStuck : MX := bodyOf 4 (sSeq (sSetI 2 (iCallV 0 mX0_sumOf (aR (rLoc 0) (aI (iLoc 1) aNil)))) (sSeq (sSeq (sSeq (sSetI 3 (iK 0)) lX0_isStuck_1) (sForget 3)) (sRetZ (iK 1))))
theorem kX0_isStuck (g : GT) : MK g 4 yX0_isStuck cX0_isStuck 4 (some .boolean) mX0_isStuck := MK.of (pcN := 99999) (pcB := 0) (pcC := 0) rfl (Sok.seq (pc1 := 6) (Sok.setI_n (q := 2) (pc1 := 5) (EokI.iCallV (pc1 := 2) (Aok.aR (pc1 := 1) (EokR.aload_n (q := 0) dX0_isStuck_0) (Aok.aI (pc1 := 2) (EokI.iload_n (q := 1) dX0_isStuck_1) Aok.nil)) (kX0_sumOf g) rfl ykX0_sumOf vkX0_103 (by decide) (by decide) dX0_isStuck_2) (by decide) dX0_isStuck_5 (show 2 < 4 by decide)) (Sok.seq (pc1 := 34) (Sok.seq (pc1 := 34) (Sok.seq (pc1 := 8) (Sok.setI_n (q := 3) (pc1 := 7) (EokI.iconst (v := 0) dX0_isStuck_6 (by decide)) (by decide) dX0_isStuck_7 (show 3 < 4 by decide)) (olX0_isStuck_1 g )) (Sok.forget (pc := 34))) (Sok.retZ (pc1 := 35) (EokI.iconst (v := 1) dX0_isStuck_34 (by decide)) (by decide) dX0_isStuck_35 rfl)))
/-! PassHuts$Hills.onlyIn(II)I -/
theorem dX0_onlyIn_0 : decode cX0_onlyIn 0 = .ok (.iload_n 1, 1) := by decide +kernel
theorem dX0_onlyIn_1 : decode cX0_onlyIn 1 = .ok (.bipush 15, 2) := by decide +kernel
theorem dX0_onlyIn_3 : decode cX0_onlyIn 3 = .ok (.aload_n 0, 1) := by decide +kernel
theorem dX0_onlyIn_4 : decode cX0_onlyIn 4 = .ok (.iload_n 2, 1) := by decide +kernel
theorem dX0_onlyIn_5 : decode cX0_onlyIn 5 = .ok (.invokevirtual 87, 3) := by decide +kernel
theorem dX0_onlyIn_8 : decode cX0_onlyIn 8 = .ok (.ishl, 1) := by decide +kernel
theorem dX0_onlyIn_9 : decode cX0_onlyIn 9 = .ok (.iand, 1) := by decide +kernel
theorem dX0_onlyIn_10 : decode cX0_onlyIn 10 = .ok (.ireturn, 1) := by decide +kernel
abbrev tX0_onlyIn (k : Nat) : MT := (RX0, cX0_onlyIn, 3, k, (some .int))
def mX0_onlyIn : MX := bodyOf 3 (sRetI (iB gT2 (· &&& ·) (iLoc 1) (iB gT2 jshl (iK 15) (iCallV 0 mX0_shiftOf (aR (rLoc 0) (aI (iLoc 2) aNil))))))
theorem kX0_onlyIn (g : GT) : MK g 1 yX0_onlyIn cX0_onlyIn 3 (some .int) mX0_onlyIn := MK.of (pcN := 99999) (pcB := 0) (pcC := 0) rfl (Sok.retI (pc1 := 10) (EokI.bin (pc1 := 1) (pc2 := 9) (EokI.iload_n (q := 1) dX0_onlyIn_0) (EokI.bin (pc1 := 3) (pc2 := 8) (EokI.bipush (v := 15) dX0_onlyIn_1 (by decide)) (EokI.iCallV (pc1 := 5) (Aok.aR (pc1 := 4) (EokR.aload_n (q := 0) dX0_onlyIn_3) (Aok.aI (pc1 := 5) (EokI.iload_n (q := 2) dX0_onlyIn_4) Aok.nil)) (kX0_shiftOf g) rfl ykX0_shiftOf vkX0_87 (by decide) (by decide) dX0_onlyIn_5) (OPI.ishl dX0_onlyIn_8)) (OPI.iand dX0_onlyIn_9)) (by decide) dX0_onlyIn_10 rfl)
/-! PassHuts$Hills.countBefore(I)I -/
theorem dX0_countBefore_0 : decode cX0_countBefore 0 = .ok (.aload_n 0, 1) := by decide +kernel
theorem dX0_countBefore_1 : decode cX0_countBefore 1 = .ok (.iload_n 1, 1) := by decide +kernel
theorem dX0_countBefore_2 : decode cX0_countBefore 2 = .ok (.invokevirtual 103, 3) := by decide +kernel
theorem dX0_countBefore_5 : decode cX0_countBefore 5 = .ok (.istore_n 2, 1) := by decide +kernel
theorem dX0_countBefore_6 : decode cX0_countBefore 6 = .ok (.iconst 0, 1) := by decide +kernel
theorem dX0_countBefore_7 : decode cX0_countBefore 7 = .ok (.istore_n 3, 1) := by decide +kernel
theorem dX0_countBefore_8 : decode cX0_countBefore 8 = .ok (.iconst 0, 1) := by decide +kernel
theorem dX0_countBefore_9 : decode cX0_countBefore 9 = .ok (.istore 4, 2) := by decide +kernel
theorem dX0_countBefore_11 : decode cX0_countBefore 11 = .ok (.iload 4, 2) := by decide +kernel
theorem dX0_countBefore_13 : decode cX0_countBefore 13 = .ok (.aload_n 0, 1) := by decide +kernel
theorem dX0_countBefore_14 : decode cX0_countBefore 14 = .ok (.getfield 66, 3) := by decide +kernel
theorem dX0_countBefore_17 : decode cX0_countBefore 17 = .ok (.if_icmp .ge 100, 3) := by decide +kernel
theorem dX0_countBefore_20 : decode cX0_countBefore 20 = .ok (.iload 4, 2) := by decide +kernel
theorem dX0_countBefore_22 : decode cX0_countBefore 22 = .ok (.bipush 20, 2) := by decide +kernel
theorem dX0_countBefore_24 : decode cX0_countBefore 24 = .ok (.if_icmp .ge 93, 3) := by decide +kernel
theorem dX0_countBefore_27 : decode cX0_countBefore 27 = .ok (.iload_n 2, 1) := by decide +kernel
theorem dX0_countBefore_28 : decode cX0_countBefore 28 = .ok (.aload_n 0, 1) := by decide +kernel
theorem dX0_countBefore_29 : decode cX0_countBefore 29 = .ok (.getfield 35, 3) := by decide +kernel
theorem dX0_countBefore_32 : decode cX0_countBefore 32 = .ok (.iload 4, 2) := by decide +kernel
theorem dX0_countBefore_34 : decode cX0_countBefore 34 = .ok (.iaload, 1) := by decide +kernel
theorem dX0_countBefore_35 : decode cX0_countBefore 35 = .ok (.iadd, 1) := by decide +kernel
theorem dX0_countBefore_36 : decode cX0_countBefore 36 = .ok (.iconst 1, 1) := by decide +kernel
theorem dX0_countBefore_37 : decode cX0_countBefore 37 = .ok (.isub, 1) := by decide +kernel
theorem dX0_countBefore_38 : decode cX0_countBefore 38 = .ok (.istore 5, 2) := by decide +kernel
theorem dX0_countBefore_40 : decode cX0_countBefore 40 = .ok (.iload_n 1, 1) := by decide +kernel
theorem dX0_countBefore_41 : decode cX0_countBefore 41 = .ok (.aload_n 0, 1) := by decide +kernel
theorem dX0_countBefore_42 : decode cX0_countBefore 42 = .ok (.getfield 47, 3) := by decide +kernel
theorem dX0_countBefore_45 : decode cX0_countBefore 45 = .ok (.iload 4, 2) := by decide +kernel
theorem dX0_countBefore_47 : decode cX0_countBefore 47 = .ok (.iaload, 1) := by decide +kernel
theorem dX0_countBefore_48 : decode cX0_countBefore 48 = .ok (.ishr, 1) := by decide +kernel
theorem dX0_countBefore_49 : decode cX0_countBefore 49 = .ok (.bipush 15, 2) := by decide +kernel
theorem dX0_countBefore_51 : decode cX0_countBefore 51 = .ok (.iand, 1) := by decide +kernel
theorem dX0_countBefore_52 : decode cX0_countBefore 52 = .ok (.ifCond .le 14, 3) := by decide +kernel
theorem dX0_countBefore_55 : decode cX0_countBefore 55 = .ok (.iload 5, 2) := by decide +kernel
theorem dX0_countBefore_57 : decode cX0_countBefore 57 = .ok (.bipush 12, 2) := by decide +kernel
theorem dX0_countBefore_59 : decode cX0_countBefore 59 = .ok (.if_icmp .gt 7, 3) := by decide +kernel
theorem dX0_countBefore_62 : decode cX0_countBefore 62 = .ok (.iconst 1, 1) := by decide +kernel
theorem dX0_countBefore_63 : decode cX0_countBefore 63 = .ok (.goto 4, 3) := by decide +kernel
theorem dX0_countBefore_66 : decode cX0_countBefore 66 = .ok (.iconst 0, 1) := by decide +kernel
theorem dX0_countBefore_67 : decode cX0_countBefore 67 = .ok (.istore 6, 2) := by decide +kernel
theorem dX0_countBefore_69 : decode cX0_countBefore 69 = .ok (.iload 6, 2) := by decide +kernel
theorem dX0_countBefore_71 : decode cX0_countBefore 71 = .ok (.ifCond .eq 40, 3) := by decide +kernel
theorem dX0_countBefore_74 : decode cX0_countBefore 74 = .ok (.iload_n 1, 1) := by decide +kernel
theorem dX0_countBefore_75 : decode cX0_countBefore 75 = .ok (.aload_n 0, 1) := by decide +kernel
theorem dX0_countBefore_76 : decode cX0_countBefore 76 = .ok (.getfield 53, 3) := by decide +kernel
theorem dX0_countBefore_79 : decode cX0_countBefore 79 = .ok (.iload 4, 2) := by decide +kernel
theorem dX0_countBefore_81 : decode cX0_countBefore 81 = .ok (.iaload, 1) := by decide +kernel
theorem dX0_countBefore_82 : decode cX0_countBefore 82 = .ok (.isub, 1) := by decide +kernel
theorem dX0_countBefore_83 : decode cX0_countBefore 83 = .ok (.istore 7, 2) := by decide +kernel
theorem dX0_countBefore_85 : decode cX0_countBefore 85 = .ok (.aload_n 0, 1) := by decide +kernel
theorem dX0_countBefore_86 : decode cX0_countBefore 86 = .ok (.iload 7, 2) := by decide +kernel
theorem dX0_countBefore_88 : decode cX0_countBefore 88 = .ok (.invokevirtual 117, 3) := by decide +kernel
theorem dX0_countBefore_91 : decode cX0_countBefore 91 = .ok (.ifCond .eq 20, 3) := by decide +kernel
theorem dX0_countBefore_94 : decode cX0_countBefore 94 = .ok (.aload_n 0, 1) := by decide +kernel
theorem dX0_countBefore_95 : decode cX0_countBefore 95 = .ok (.iload 7, 2) := by decide +kernel
theorem dX0_countBefore_97 : decode cX0_countBefore 97 = .ok (.iload 5, 2) := by decide +kernel
theorem dX0_countBefore_99 : decode cX0_countBefore 99 = .ok (.iload 4, 2) := by decide +kernel
theorem dX0_countBefore_101 : decode cX0_countBefore 101 = .ok (.invokevirtual 109, 3) := by decide +kernel
theorem dX0_countBefore_104 : decode cX0_countBefore 104 = .ok (.iload_n 1, 1) := by decide +kernel
theorem dX0_countBefore_105 : decode cX0_countBefore 105 = .ok (.if_icmp .ne 6, 3) := by decide +kernel
theorem dX0_countBefore_108 : decode cX0_countBefore 108 = .ok (.iinc 3 1, 3) := by decide +kernel
theorem dX0_countBefore_111 : decode cX0_countBefore 111 = .ok (.iinc 4 1, 3) := by decide +kernel
theorem dX0_countBefore_114 : decode cX0_countBefore 114 = .ok (.goto (-103), 3) := by decide +kernel
theorem dX0_countBefore_117 : decode cX0_countBefore 117 = .ok (.iload_n 3, 1) := by decide +kernel
theorem dX0_countBefore_118 : decode cX0_countBefore 118 = .ok (.ireturn, 1) := by decide +kernel
abbrev tX0_countBefore (k : Nat) : MT := (RX0, cX0_countBefore, 8, k, (some .int))
def lX0_countBefore_1 : SX := (sLoop (cAnd (cB rlt (iLoc 4) (iGet 0 4 (rLoc 0))) (cB rlt (iLoc 4) (iK 20))) (sSeq (sSetI 5 (iB gT2 (· - ·) (iB gT2 (· + ·) (iLoc 2) (iALd (rGet 0 1 (rLoc 0)) (iLoc 4))) (iK 1))) (sSeq (sSetI 6 (iBool (cAnd (cZ zgt (iB gT2 (· &&& ·) (iB gT2 jshr (iLoc 1) (iALd (rGet 0 12 (rLoc 0)) (iLoc 4))) (iK 15))) (cB rle (iLoc 5) (iK 12))))) (sIf (cZ zne (iLoc 6)) (sSeq (sSetI 7 (iB gT2 (· - ·) (iLoc 1) (iALd (rGet 0 14 (rLoc 0)) (iLoc 4)))) (sIf (cAnd (cZ zne (iCallV 0 mX0_isWayToLie (aR (rLoc 0) (aI (iLoc 7) aNil)))) (cB req (iCallV 0 mX0_afterWay (aR (rLoc 0) (aI (iLoc 7) (aI (iLoc 5) (aI (iLoc 4) aNil))))) (iLoc 1))) (sInc 3 1) sSkip)) sSkip))) (sSeq (sForget 5) (sInc 4 1)))
theorem olX0_countBefore_1 (g : GT) {pcB pcC : Nat} : Sok g (tX0_countBefore 4) 11 117 pcB pcC (lX0_countBefore_1) := (Sok.loop (pc := 11) (pc1 := 27) (pc2 := 111) (pcN := 117) (Cok.and (pc1 := 20) (Cok.cmp (pc1 := 13) (pc2 := 17) (pcT := 20) (pcF := 117) (EokI.iload (i := 4) dX0_countBefore_11) (EokI.getf (pc1 := 14) (j := 4) (ci := 0) (T := TX0) (N := 17) (EokR.aload_n (q := 0) dX0_countBefore_13) rfl wsX0_in (by decide) flX0_66 dX0_countBefore_14) (JI.ltF (tgt := 117) dX0_countBefore_17 (by decide))) (Cok.cmp (pc1 := 22) (pc2 := 24) (pcT := 27) (pcF := 117) (EokI.iload (i := 4) dX0_countBefore_20) (EokI.bipush (v := 20) dX0_countBefore_22 (by decide)) (JI.ltF (tgt := 117) dX0_countBefore_24 (by decide)))) (by decide) (Sok.seq (pc1 := 40) (Sok.setI (i := 5) (pc1 := 38) (EokI.bin (pc1 := 36) (pc2 := 37) (EokI.bin (pc1 := 28) (pc2 := 35) (EokI.iload_n (q := 2) dX0_countBefore_27) (EokI.iALd (pc1 := 32) (pc2 := 34) (EokR.getf (pc1 := 29) (j := 1) (ci := 0) (T := TX0) (N := 17) (EokR.aload_n (q := 0) dX0_countBefore_28) rfl wsX0_in (by decide) flX0_35 dX0_countBefore_29) (EokI.iload (i := 4) dX0_countBefore_32) dX0_countBefore_34) (OPI.iadd dX0_countBefore_35)) (EokI.iconst (v := 1) dX0_countBefore_36 (by decide)) (OPI.isub dX0_countBefore_37)) (by decide) dX0_countBefore_38 (show 5 < 8 by decide)) (Sok.seq (pc1 := 69) (Sok.setI (i := 6) (pc1 := 67) (EokI.cond' (pc1 := 62) (pc2 := 66) (Cok.and (pc1 := 55) (Cok.zero (pc1 := 52) (pcT := 55) (pcF := 66) (EokI.bin (pc1 := 49) (pc2 := 51) (EokI.bin (pc1 := 41) (pc2 := 48) (EokI.iload_n (q := 1) dX0_countBefore_40) (EokI.iALd (pc1 := 45) (pc2 := 47) (EokR.getf (pc1 := 42) (j := 12) (ci := 0) (T := TX0) (N := 17) (EokR.aload_n (q := 0) dX0_countBefore_41) rfl wsX0_in (by decide) flX0_47 dX0_countBefore_42) (EokI.iload (i := 4) dX0_countBefore_45) dX0_countBefore_47) (OPI.ishr dX0_countBefore_48)) (EokI.bipush (v := 15) dX0_countBefore_49 (by decide)) (OPI.iand dX0_countBefore_51)) (JZ.gtF (tgt := 66) dX0_countBefore_52 (by decide))) (Cok.cmp (pc1 := 57) (pc2 := 59) (pcT := 62) (pcF := 66) (EokI.iload (i := 5) dX0_countBefore_55) (EokI.bipush (v := 12) dX0_countBefore_57 (by decide)) (JI.leF (tgt := 66) dX0_countBefore_59 (by decide)))) (EokI.goto (pc1 := 63) (pc2 := 67) (EokI.iconst (v := 1) dX0_countBefore_62 (by decide)) dX0_countBefore_63 (by decide)) (EokI.iconst (v := 0) dX0_countBefore_66 (by decide))) (by decide) dX0_countBefore_67 (show 6 < 8 by decide)) (Sok.ite (pc1 := 74) (pc2 := 111) (Cok.zero (pc1 := 71) (pcT := 74) (pcF := 111) (EokI.iload (i := 6) dX0_countBefore_69) (JZ.neF (tgt := 111) dX0_countBefore_71 (by decide))) (by decide) (Sok.seq (pc1 := 85) (Sok.setI (i := 7) (pc1 := 83) (EokI.bin (pc1 := 75) (pc2 := 82) (EokI.iload_n (q := 1) dX0_countBefore_74) (EokI.iALd (pc1 := 79) (pc2 := 81) (EokR.getf (pc1 := 76) (j := 14) (ci := 0) (T := TX0) (N := 17) (EokR.aload_n (q := 0) dX0_countBefore_75) rfl wsX0_in (by decide) flX0_53 dX0_countBefore_76) (EokI.iload (i := 4) dX0_countBefore_79) dX0_countBefore_81) (OPI.isub dX0_countBefore_82)) (by decide) dX0_countBefore_83 (show 7 < 8 by decide)) (Sok.ite (pc1 := 108) (pc2 := 111) (Cok.and (pc1 := 94) (Cok.zero (pc1 := 91) (pcT := 94) (pcF := 111) (EokI.iCallV (pc1 := 88) (Aok.aR (pc1 := 86) (EokR.aload_n (q := 0) dX0_countBefore_85) (Aok.aI (pc1 := 88) (EokI.iload (i := 7) dX0_countBefore_86) Aok.nil)) (kX0_isWayToLie g) rfl ykX0_isWayToLie vkX0_117 (by decide) (by decide) dX0_countBefore_88) (JZ.neF (tgt := 111) dX0_countBefore_91 (by decide))) (Cok.cmp (pc1 := 104) (pc2 := 105) (pcT := 108) (pcF := 111) (EokI.iCallV (pc1 := 101) (Aok.aR (pc1 := 95) (EokR.aload_n (q := 0) dX0_countBefore_94) (Aok.aI (pc1 := 97) (EokI.iload (i := 7) dX0_countBefore_95) (Aok.aI (pc1 := 99) (EokI.iload (i := 5) dX0_countBefore_97) (Aok.aI (pc1 := 101) (EokI.iload (i := 4) dX0_countBefore_99) Aok.nil)))) (kX0_afterWay g) rfl ykX0_afterWay vkX0_109 (by decide) (by decide) dX0_countBefore_101) (EokI.iload_n (q := 1) dX0_countBefore_104) (JI.eqF (tgt := 111) dX0_countBefore_105 (by decide)))) (by decide) (Sok.iinc (i := 3) (v := 1) dX0_countBefore_108 (show 3 < 8 by decide) (by decide)) (Sok.skip (pc := 111)))) (Sok.skip (pc := 111))))) (Sok.seq (pc1 := 111) Sok.forget (Sok.goto (pc1 := 114) (pcN := 11) (Sok.iinc (i := 4) (v := 1) dX0_countBefore_111 (show 4 < 8 by decide) (by decide)) dX0_countBefore_114 (by decide))))
def mX0_countBefore : MX := bodyOf 8 (sSeq (sSetI 2 (iCallV 0 mX0_sumOf (aR (rLoc 0) (aI (iLoc 1) aNil)))) (sSeq (sSetI 3 (iK 0)) (sSeq (sSeq (sSeq (sSetI 4 (iK 0)) lX0_countBefore_1) (sForget 4)) (sRetI (iLoc 3)))))
theorem kX0_countBefore (g : GT) : MK g 4 yX0_countBefore cX0_countBefore 8 (some .int) mX0_countBefore := MK.of (pcN := 99999) (pcB := 0) (pcC := 0) rfl (Sok.seq (pc1 := 6) (Sok.setI_n (q := 2) (pc1 := 5) (EokI.iCallV (pc1 := 2) (Aok.aR (pc1 := 1) (EokR.aload_n (q := 0) dX0_countBefore_0) (Aok.aI (pc1 := 2) (EokI.iload_n (q := 1) dX0_countBefore_1) Aok.nil)) (kX0_sumOf g) rfl ykX0_sumOf vkX0_103 (by decide) (by decide) dX0_countBefore_2) (by decide) dX0_countBefore_5 (show 2 < 8 by decide)) (Sok.seq (pc1 := 8) (Sok.setI_n (q := 3) (pc1 := 7) (EokI.iconst (v := 0) dX0_countBefore_6 (by decide)) (by decide) dX0_countBefore_7 (show 3 < 8 by decide)) (Sok.seq (pc1 := 117) (Sok.seq (pc1 := 117) (Sok.seq (pc1 := 11) (Sok.setI (i := 4) (pc1 := 9) (EokI.iconst (v := 0) dX0_countBefore_8 (by decide)) (by decide) dX0_countBefore_9 (show 4 < 8 by decide)) (olX0_countBefore_1 g )) (Sok.forget (pc := 117))) (Sok.retI (pc1 := 118) (EokI.iload_n (q := 3) dX0_countBefore_117) (by decide) dX0_countBefore_118 rfl))))
/-! PassHuts$Hills.withNeighbours(I)I -/
theorem dX0_withNeighbours_0 : decode cX0_withNeighbours 0 = .ok (.iload_n 1, 1) := by decide +kernel
theorem dX0_withNeighbours_1 : decode cX0_withNeighbours 1 = .ok (.istore_n 2, 1) := by decide +kernel
theorem dX0_withNeighbours_2 : decode cX0_withNeighbours 2 = .ok (.iconst 0, 1) := by decide +kernel
theorem dX0_withNeighbours_3 : decode cX0_withNeighbours 3 = .ok (.istore_n 3, 1) := by decide +kernel
theorem dX0_withNeighbours_4 : decode cX0_withNeighbours 4 = .ok (.iload_n 3, 1) := by decide +kernel
theorem dX0_withNeighbours_5 : decode cX0_withNeighbours 5 = .ok (.aload_n 0, 1) := by decide +kernel
theorem dX0_withNeighbours_6 : decode cX0_withNeighbours 6 = .ok (.getfield 62, 3) := by decide +kernel
theorem dX0_withNeighbours_9 : decode cX0_withNeighbours 9 = .ok (.if_icmp .ge 25, 3) := by decide +kernel
theorem dX0_withNeighbours_12 : decode cX0_withNeighbours 12 = .ok (.iload_n 1, 1) := by decide +kernel
theorem dX0_withNeighbours_13 : decode cX0_withNeighbours 13 = .ok (.iload_n 3, 1) := by decide +kernel
theorem dX0_withNeighbours_14 : decode cX0_withNeighbours 14 = .ok (.ishr, 1) := by decide +kernel
theorem dX0_withNeighbours_15 : decode cX0_withNeighbours 15 = .ok (.iconst 1, 1) := by decide +kernel
theorem dX0_withNeighbours_16 : decode cX0_withNeighbours 16 = .ok (.iand, 1) := by decide +kernel
theorem dX0_withNeighbours_17 : decode cX0_withNeighbours 17 = .ok (.ifCond .eq 11, 3) := by decide +kernel
theorem dX0_withNeighbours_20 : decode cX0_withNeighbours 20 = .ok (.iload_n 2, 1) := by decide +kernel
theorem dX0_withNeighbours_21 : decode cX0_withNeighbours 21 = .ok (.aload_n 0, 1) := by decide +kernel
theorem dX0_withNeighbours_22 : decode cX0_withNeighbours 22 = .ok (.iload_n 3, 1) := by decide +kernel
theorem dX0_withNeighbours_23 : decode cX0_withNeighbours 23 = .ok (.invokevirtual 120, 3) := by decide +kernel
theorem dX0_withNeighbours_26 : decode cX0_withNeighbours 26 = .ok (.ior, 1) := by decide +kernel
theorem dX0_withNeighbours_27 : decode cX0_withNeighbours 27 = .ok (.istore_n 2, 1) := by decide +kernel
theorem dX0_withNeighbours_28 : decode cX0_withNeighbours 28 = .ok (.iinc 3 1, 3) := by decide +kernel
theorem dX0_withNeighbours_31 : decode cX0_withNeighbours 31 = .ok (.goto (-27), 3) := by decide +kernel
theorem dX0_withNeighbours_34 : decode cX0_withNeighbours 34 = .ok (.iload_n 2, 1) := by decide +kernel
theorem dX0_withNeighbours_35 : decode cX0_withNeighbours 35 = .ok (.ireturn, 1) := by decide +kernel
abbrev tX0_withNeighbours (k : Nat) : MT := (RX0, cX0_withNeighbours, 4, k, (some .int))
def lX0_withNeighbours_1 : SX := (sLoop (cB rlt (iLoc 3) (iGet 0 3 (rLoc 0))) (sIf (cZ zne (iB gT2 (· &&& ·) (iB gT2 jshr (iLoc 1) (iLoc 3)) (iK 1))) (sSetI 2 (iB gT2 (· ||| ·) (iLoc 2) (iCallV 0 mX0_neighbours (aR (rLoc 0) (aI (iLoc 3) aNil))))) sSkip) (sInc 3 1))
theorem olX0_withNeighbours_1 (g : GT) {pcB pcC : Nat} : Sok g (tX0_withNeighbours 3) 4 34 pcB pcC (lX0_withNeighbours_1) := (Sok.loop (pc := 4) (pc1 := 12) (pc2 := 28) (pcN := 34) (Cok.cmp (pc1 := 5) (pc2 := 9) (pcT := 12) (pcF := 34) (EokI.iload_n (q := 3) dX0_withNeighbours_4) (EokI.getf (pc1 := 6) (j := 3) (ci := 0) (T := TX0) (N := 17) (EokR.aload_n (q := 0) dX0_withNeighbours_5) rfl wsX0_in (by decide) flX0_62 dX0_withNeighbours_6) (JI.ltF (tgt := 34) dX0_withNeighbours_9 (by decide))) (by decide) (Sok.ite (pc1 := 20) (pc2 := 28) (Cok.zero (pc1 := 17) (pcT := 20) (pcF := 28) (EokI.bin (pc1 := 15) (pc2 := 16) (EokI.bin (pc1 := 13) (pc2 := 14) (EokI.iload_n (q := 1) dX0_withNeighbours_12) (EokI.iload_n (q := 3) dX0_withNeighbours_13) (OPI.ishr dX0_withNeighbours_14)) (EokI.iconst (v := 1) dX0_withNeighbours_15 (by decide)) (OPI.iand dX0_withNeighbours_16)) (JZ.neF (tgt := 28) dX0_withNeighbours_17 (by decide))) (by decide) (Sok.setI_n (q := 2) (pc1 := 27) (EokI.bin (pc1 := 21) (pc2 := 26) (EokI.iload_n (q := 2) dX0_withNeighbours_20) (EokI.iCallV (pc1 := 23) (Aok.aR (pc1 := 22) (EokR.aload_n (q := 0) dX0_withNeighbours_21) (Aok.aI (pc1 := 23) (EokI.iload_n (q := 3) dX0_withNeighbours_22) Aok.nil)) (kX0_neighbours g) rfl ykX0_neighbours vkX0_120 (by decide) (by decide) dX0_withNeighbours_23) (OPI.ior dX0_withNeighbours_26)) (by decide) dX0_withNeighbours_27 (show 2 < 4 by decide)) (Sok.skip (pc := 28))) (Sok.goto (pc1 := 31) (pcN := 4) (Sok.iinc (i := 3) (v := 1) dX0_withNeighbours_28 (show 3 < 4 by decide) (by decide)) dX0_withNeighbours_31 (by decide)))
def mX0_withNeighbours : MX := bodyOf 4 (sSeq (sSetI 2 (iLoc 1)) (sSeq (sSeq (sSeq (sSetI 3 (iK 0)) lX0_withNeighbours_1) (sForget 3)) (sRetI (iLoc 2))))
theorem kX0_withNeighbours (g : GT) : MK g 3 yX0_withNeighbours cX0_withNeighbours 4 (some .int) mX0_withNeighbours := MK.of (pcN := 99999) (pcB := 0) (pcC := 0) rfl (Sok.seq (pc1 := 2) (Sok.setI_n (q := 2) (pc1 := 1) (EokI.iload_n (q := 1) dX0_withNeighbours_0) (by decide) dX0_withNeighbours_1 (show 2 < 4 by decide)) (Sok.seq (pc1 := 34) (Sok.seq (pc1 := 34) (Sok.seq (pc1 := 4) (Sok.setI_n (q := 3) (pc1 := 3) (EokI.iconst (v := 0) dX0_withNeighbours_2 (by decide)) (by decide) dX0_withNeighbours_3 (show 3 < 4 by decide)) (olX0_withNeighbours_1 g )) (Sok.forget (pc := 34))) (Sok.retI (pc1 := 35) (EokI.iload_n (q := 2) dX0_withNeighbours_34) (by decide) dX0_withNeighbours_35 rfl)))
/-! PassHuts$Hills.joinedTo(I)I -/
theorem dX0_joinedTo_0 : decode cX0_joinedTo 0 = .ok (.iconst 1, 1) := by decide +kernel
theorem dX0_joinedTo_1 : decode cX0_joinedTo 1 = .ok (.iload_n 1, 1) := by decide +kernel
theorem dX0_joinedTo_2 : decode cX0_joinedTo 2 = .ok (.ishl, 1) := by decide +kernel
theorem dX0_joinedTo_3 : decode cX0_joinedTo 3 = .ok (.istore_n 2, 1) := by decide +kernel
theorem dX0_joinedTo_4 : decode cX0_joinedTo 4 = .ok (.iconst 0, 1) := by decide +kernel
theorem dX0_joinedTo_5 : decode cX0_joinedTo 5 = .ok (.istore_n 3, 1) := by decide +kernel
theorem dX0_joinedTo_6 : decode cX0_joinedTo 6 = .ok (.iload_n 3, 1) := by decide +kernel
theorem dX0_joinedTo_7 : decode cX0_joinedTo 7 = .ok (.aload_n 0, 1) := by decide +kernel
theorem dX0_joinedTo_8 : decode cX0_joinedTo 8 = .ok (.getfield 62, 3) := by decide +kernel
theorem dX0_joinedTo_11 : decode cX0_joinedTo 11 = .ok (.if_icmp .ge 15, 3) := by decide +kernel
theorem dX0_joinedTo_14 : decode cX0_joinedTo 14 = .ok (.aload_n 0, 1) := by decide +kernel
theorem dX0_joinedTo_15 : decode cX0_joinedTo 15 = .ok (.iload_n 2, 1) := by decide +kernel
theorem dX0_joinedTo_16 : decode cX0_joinedTo 16 = .ok (.invokevirtual 123, 3) := by decide +kernel
theorem dX0_joinedTo_19 : decode cX0_joinedTo 19 = .ok (.istore_n 2, 1) := by decide +kernel
theorem dX0_joinedTo_20 : decode cX0_joinedTo 20 = .ok (.iinc 3 1, 3) := by decide +kernel
theorem dX0_joinedTo_23 : decode cX0_joinedTo 23 = .ok (.goto (-17), 3) := by decide +kernel
theorem dX0_joinedTo_26 : decode cX0_joinedTo 26 = .ok (.iload_n 2, 1) := by decide +kernel
theorem dX0_joinedTo_27 : decode cX0_joinedTo 27 = .ok (.ireturn, 1) := by decide +kernel
abbrev tX0_joinedTo (k : Nat) : MT := (RX0, cX0_joinedTo, 4, k, (some .int))
def lX0_joinedTo_1 : SX := (sLoop (cB rlt (iLoc 3) (iGet 0 3 (rLoc 0))) (sSetI 2 (iCallV 0 mX0_withNeighbours (aR (rLoc 0) (aI (iLoc 2) aNil)))) (sInc 3 1))
theorem olX0_joinedTo_1 (g : GT) {pcB pcC : Nat} : Sok g (tX0_joinedTo 4) 6 26 pcB pcC (lX0_joinedTo_1) := (Sok.loop (pc := 6) (pc1 := 14) (pc2 := 20) (pcN := 26) (Cok.cmp (pc1 := 7) (pc2 := 11) (pcT := 14) (pcF := 26) (EokI.iload_n (q := 3) dX0_joinedTo_6) (EokI.getf (pc1 := 8) (j := 3) (ci := 0) (T := TX0) (N := 17) (EokR.aload_n (q := 0) dX0_joinedTo_7) rfl wsX0_in (by decide) flX0_62 dX0_joinedTo_8) (JI.ltF (tgt := 26) dX0_joinedTo_11 (by decide))) (by decide) (Sok.setI_n (q := 2) (pc1 := 19) (EokI.iCallV (pc1 := 16) (Aok.aR (pc1 := 15) (EokR.aload_n (q := 0) dX0_joinedTo_14) (Aok.aI (pc1 := 16) (EokI.iload_n (q := 2) dX0_joinedTo_15) Aok.nil)) (kX0_withNeighbours g) rfl ykX0_withNeighbours vkX0_123 (by decide) (by decide) dX0_joinedTo_16) (by decide) dX0_joinedTo_19 (show 2 < 4 by decide)) (Sok.goto (pc1 := 23) (pcN := 6) (Sok.iinc (i := 3) (v := 1) dX0_joinedTo_20 (show 3 < 4 by decide) (by decide)) dX0_joinedTo_23 (by decide)))
def mX0_joinedTo : MX := bodyOf 4 (sSeq (sSetI 2 (iB gT2 jshl (iK 1) (iLoc 1))) (sSeq (sSeq (sSeq (sSetI 3 (iK 0)) lX0_joinedTo_1) (sForget 3)) (sRetI (iLoc 2))))
theorem kX0_joinedTo (g : GT) : MK g 4 yX0_joinedTo cX0_joinedTo 4 (some .int) mX0_joinedTo := MK.of (pcN := 99999) (pcB := 0) (pcC := 0) rfl (Sok.seq (pc1 := 4) (Sok.setI_n (q := 2) (pc1 := 3) (EokI.bin (pc1 := 1) (pc2 := 2) (EokI.iconst (v := 1) dX0_joinedTo_0 (by decide)) (EokI.iload_n (q := 1) dX0_joinedTo_1) (OPI.ishl dX0_joinedTo_2)) (by decide) dX0_joinedTo_3 (show 2 < 4 by decide)) (Sok.seq (pc1 := 26) (Sok.seq (pc1 := 26) (Sok.seq (pc1 := 6) (Sok.setI_n (q := 3) (pc1 := 5) (EokI.iconst (v := 0) dX0_joinedTo_4 (by decide)) (by decide) dX0_joinedTo_5 (show 3 < 4 by decide)) (olX0_joinedTo_1 g )) (Sok.forget (pc := 26))) (Sok.retI (pc1 := 27) (EokI.iload_n (q := 2) dX0_joinedTo_26) (by decide) dX0_joinedTo_27 rfl)))
/-! PassHuts$Hills.pathsBetween(II)I -/
theorem dX0_pathsBetween_0 : decode cX0_pathsBetween 0 = .ok (.iconst 1, 1) := by decide +kernel
theorem dX0_pathsBetween_1 : decode cX0_pathsBetween 1 = .ok (.iload_n 1, 1) := by decide +kernel
theorem dX0_pathsBetween_2 : decode cX0_pathsBetween 2 = .ok (.ishl, 1) := by decide +kernel
theorem dX0_pathsBetween_3 : decode cX0_pathsBetween 3 = .ok (.istore_n 3, 1) := by decide +kernel
theorem dX0_pathsBetween_4 : decode cX0_pathsBetween 4 = .ok (.iconst 0, 1) := by decide +kernel
theorem dX0_pathsBetween_5 : decode cX0_pathsBetween 5 = .ok (.istore 4, 2) := by decide +kernel
theorem dX0_pathsBetween_7 : decode cX0_pathsBetween 7 = .ok (.iload 4, 2) := by decide +kernel
theorem dX0_pathsBetween_9 : decode cX0_pathsBetween 9 = .ok (.aload_n 0, 1) := by decide +kernel
theorem dX0_pathsBetween_10 : decode cX0_pathsBetween 10 = .ok (.getfield 62, 3) := by decide +kernel
theorem dX0_pathsBetween_13 : decode cX0_pathsBetween 13 = .ok (.if_icmp .ge 26, 3) := by decide +kernel
theorem dX0_pathsBetween_16 : decode cX0_pathsBetween 16 = .ok (.iload_n 3, 1) := by decide +kernel
theorem dX0_pathsBetween_17 : decode cX0_pathsBetween 17 = .ok (.iload_n 2, 1) := by decide +kernel
theorem dX0_pathsBetween_18 : decode cX0_pathsBetween 18 = .ok (.ishr, 1) := by decide +kernel
theorem dX0_pathsBetween_19 : decode cX0_pathsBetween 19 = .ok (.iconst 1, 1) := by decide +kernel
theorem dX0_pathsBetween_20 : decode cX0_pathsBetween 20 = .ok (.iand, 1) := by decide +kernel
theorem dX0_pathsBetween_21 : decode cX0_pathsBetween 21 = .ok (.ifCond .eq 6, 3) := by decide +kernel
theorem dX0_pathsBetween_24 : decode cX0_pathsBetween 24 = .ok (.iload 4, 2) := by decide +kernel
theorem dX0_pathsBetween_26 : decode cX0_pathsBetween 26 = .ok (.ireturn, 1) := by decide +kernel
theorem dX0_pathsBetween_27 : decode cX0_pathsBetween 27 = .ok (.aload_n 0, 1) := by decide +kernel
theorem dX0_pathsBetween_28 : decode cX0_pathsBetween 28 = .ok (.iload_n 3, 1) := by decide +kernel
theorem dX0_pathsBetween_29 : decode cX0_pathsBetween 29 = .ok (.invokevirtual 123, 3) := by decide +kernel
theorem dX0_pathsBetween_32 : decode cX0_pathsBetween 32 = .ok (.istore_n 3, 1) := by decide +kernel
theorem dX0_pathsBetween_33 : decode cX0_pathsBetween 33 = .ok (.iinc 4 1, 3) := by decide +kernel
theorem dX0_pathsBetween_36 : decode cX0_pathsBetween 36 = .ok (.goto (-29), 3) := by decide +kernel
theorem dX0_pathsBetween_39 : decode cX0_pathsBetween 39 = .ok (.iconst (-1), 1) := by decide +kernel
theorem dX0_pathsBetween_40 : decode cX0_pathsBetween 40 = .ok (.ireturn, 1) := by decide +kernel
abbrev tX0_pathsBetween (k : Nat) : MT := (RX0, cX0_pathsBetween, 5, k, (some .int))
def lX0_pathsBetween_1 : SX := (sLoop (cB rlt (iLoc 4) (iGet 0 3 (rLoc 0))) (sSeq (sIf (cZ zne (iB gT2 (· &&& ·) (iB gT2 jshr (iLoc 3) (iLoc 2)) (iK 1))) (sRetI (iLoc 4)) sSkip) (sSetI 3 (iCallV 0 mX0_withNeighbours (aR (rLoc 0) (aI (iLoc 3) aNil))))) (sInc 4 1))
theorem olX0_pathsBetween_1 (g : GT) {pcB pcC : Nat} : Sok g (tX0_pathsBetween 4) 7 39 pcB pcC (lX0_pathsBetween_1) := (Sok.loop (pc := 7) (pc1 := 16) (pc2 := 33) (pcN := 39) (Cok.cmp (pc1 := 9) (pc2 := 13) (pcT := 16) (pcF := 39) (EokI.iload (i := 4) dX0_pathsBetween_7) (EokI.getf (pc1 := 10) (j := 3) (ci := 0) (T := TX0) (N := 17) (EokR.aload_n (q := 0) dX0_pathsBetween_9) rfl wsX0_in (by decide) flX0_62 dX0_pathsBetween_10) (JI.ltF (tgt := 39) dX0_pathsBetween_13 (by decide))) (by decide) (Sok.seq (pc1 := 27) (Sok.ite (pc1 := 24) (pc2 := 27) (Cok.zero (pc1 := 21) (pcT := 24) (pcF := 27) (EokI.bin (pc1 := 19) (pc2 := 20) (EokI.bin (pc1 := 17) (pc2 := 18) (EokI.iload_n (q := 3) dX0_pathsBetween_16) (EokI.iload_n (q := 2) dX0_pathsBetween_17) (OPI.ishr dX0_pathsBetween_18)) (EokI.iconst (v := 1) dX0_pathsBetween_19 (by decide)) (OPI.iand dX0_pathsBetween_20)) (JZ.neF (tgt := 27) dX0_pathsBetween_21 (by decide))) (by decide) (Sok.retI (pc1 := 26) (EokI.iload (i := 4) dX0_pathsBetween_24) (by decide) dX0_pathsBetween_26 rfl) (Sok.skip (pc := 27))) (Sok.setI_n (q := 3) (pc1 := 32) (EokI.iCallV (pc1 := 29) (Aok.aR (pc1 := 28) (EokR.aload_n (q := 0) dX0_pathsBetween_27) (Aok.aI (pc1 := 29) (EokI.iload_n (q := 3) dX0_pathsBetween_28) Aok.nil)) (kX0_withNeighbours g) rfl ykX0_withNeighbours vkX0_123 (by decide) (by decide) dX0_pathsBetween_29) (by decide) dX0_pathsBetween_32 (show 3 < 5 by decide))) (Sok.goto (pc1 := 36) (pcN := 7) (Sok.iinc (i := 4) (v := 1) dX0_pathsBetween_33 (show 4 < 5 by decide) (by decide)) dX0_pathsBetween_36 (by decide)))
def mX0_pathsBetween : MX := bodyOf 5 (sSeq (sSetI 3 (iB gT2 jshl (iK 1) (iLoc 1))) (sSeq (sSeq (sSeq (sSetI 4 (iK 0)) lX0_pathsBetween_1) (sForget 4)) (sRetI (iK (-1)))))
theorem kX0_pathsBetween (g : GT) : MK g 4 yX0_pathsBetween cX0_pathsBetween 5 (some .int) mX0_pathsBetween := MK.of (pcN := 99999) (pcB := 0) (pcC := 0) rfl (Sok.seq (pc1 := 4) (Sok.setI_n (q := 3) (pc1 := 3) (EokI.bin (pc1 := 1) (pc2 := 2) (EokI.iconst (v := 1) dX0_pathsBetween_0 (by decide)) (EokI.iload_n (q := 1) dX0_pathsBetween_1) (OPI.ishl dX0_pathsBetween_2)) (by decide) dX0_pathsBetween_3 (show 3 < 5 by decide)) (Sok.seq (pc1 := 39) (Sok.seq (pc1 := 39) (Sok.seq (pc1 := 7) (Sok.setI (i := 4) (pc1 := 5) (EokI.iconst (v := 0) dX0_pathsBetween_4 (by decide)) (by decide) dX0_pathsBetween_5 (show 4 < 5 by decide)) (olX0_pathsBetween_1 g )) (Sok.forget (pc := 39))) (Sok.retI (pc1 := 40) (EokI.iconst (v := (-1)) dX0_pathsBetween_39 (by decide)) (by decide) dX0_pathsBetween_40 rfl)))
/-! PassHuts$Hills.passProductOn(II)V -/
theorem dX0_passProductOn_0 : decode cX0_passProductOn 0 = .ok (.iconst 0, 1) := by decide +kernel
theorem dX0_passProductOn_1 : decode cX0_passProductOn 1 = .ok (.istore_n 3, 1) := by decide +kernel
theorem dX0_passProductOn_2 : decode cX0_passProductOn 2 = .ok (.iload_n 3, 1) := by decide +kernel
theorem dX0_passProductOn_3 : decode cX0_passProductOn 3 = .ok (.aload_n 0, 1) := by decide +kernel
theorem dX0_passProductOn_4 : decode cX0_passProductOn 4 = .ok (.getfield 62, 3) := by decide +kernel
theorem dX0_passProductOn_7 : decode cX0_passProductOn 7 = .ok (.if_icmp .ge 50, 3) := by decide +kernel
theorem dX0_passProductOn_10 : decode cX0_passProductOn 10 = .ok (.iload_n 3, 1) := by decide +kernel
theorem dX0_passProductOn_11 : decode cX0_passProductOn 11 = .ok (.iconst 5, 1) := by decide +kernel
theorem dX0_passProductOn_12 : decode cX0_passProductOn 12 = .ok (.if_icmp .ge 45, 3) := by decide +kernel
theorem dX0_passProductOn_15 : decode cX0_passProductOn 15 = .ok (.aload_n 0, 1) := by decide +kernel
theorem dX0_passProductOn_16 : decode cX0_passProductOn 16 = .ok (.aload_n 0, 1) := by decide +kernel
theorem dX0_passProductOn_17 : decode cX0_passProductOn 17 = .ok (.iload_n 1, 1) := by decide +kernel
theorem dX0_passProductOn_18 : decode cX0_passProductOn 18 = .ok (.iload_n 3, 1) := by decide +kernel
theorem dX0_passProductOn_19 : decode cX0_passProductOn 19 = .ok (.invokevirtual 106, 3) := by decide +kernel
theorem dX0_passProductOn_22 : decode cX0_passProductOn 22 = .ok (.invokevirtual 130, 3) := by decide +kernel
theorem dX0_passProductOn_25 : decode cX0_passProductOn 25 = .ok (.istore 4, 2) := by decide +kernel
theorem dX0_passProductOn_27 : decode cX0_passProductOn 27 = .ok (.iload 4, 2) := by decide +kernel
theorem dX0_passProductOn_29 : decode cX0_passProductOn 29 = .ok (.ifCond .le 22, 3) := by decide +kernel
theorem dX0_passProductOn_32 : decode cX0_passProductOn 32 = .ok (.aload_n 0, 1) := by decide +kernel
theorem dX0_passProductOn_33 : decode cX0_passProductOn 33 = .ok (.getfield 56, 3) := by decide +kernel
theorem dX0_passProductOn_36 : decode cX0_passProductOn 36 = .ok (.iload_n 3, 1) := by decide +kernel
theorem dX0_passProductOn_37 : decode cX0_passProductOn 37 = .ok (.aload_n 0, 1) := by decide +kernel
theorem dX0_passProductOn_38 : decode cX0_passProductOn 38 = .ok (.getfield 56, 3) := by decide +kernel
theorem dX0_passProductOn_41 : decode cX0_passProductOn 41 = .ok (.iload_n 3, 1) := by decide +kernel
theorem dX0_passProductOn_42 : decode cX0_passProductOn 42 = .ok (.iaload, 1) := by decide +kernel
theorem dX0_passProductOn_43 : decode cX0_passProductOn 43 = .ok (.iload_n 2, 1) := by decide +kernel
theorem dX0_passProductOn_44 : decode cX0_passProductOn 44 = .ok (.iload 4, 2) := by decide +kernel
theorem dX0_passProductOn_46 : decode cX0_passProductOn 46 = .ok (.imul, 1) := by decide +kernel
theorem dX0_passProductOn_47 : decode cX0_passProductOn 47 = .ok (.invokestatic 133, 3) := by decide +kernel
theorem dX0_passProductOn_50 : decode cX0_passProductOn 50 = .ok (.iastore, 1) := by decide +kernel
theorem dX0_passProductOn_51 : decode cX0_passProductOn 51 = .ok (.iinc 3 1, 3) := by decide +kernel
theorem dX0_passProductOn_54 : decode cX0_passProductOn 54 = .ok (.goto (-52), 3) := by decide +kernel
theorem dX0_passProductOn_57 : decode cX0_passProductOn 57 = .ok (.return_, 1) := by decide +kernel
abbrev tX0_passProductOn (k : Nat) : MT := (RX0, cX0_passProductOn, 5, k, none)
def lX0_passProductOn_1 : SX := (sLoop (cAnd (cB rlt (iLoc 3) (iGet 0 3 (rLoc 0))) (cB rlt (iLoc 3) (iK 5))) (sSeq (sSetI 4 (iCallV 0 mX0_priceOver (aR (rLoc 0) (aI (iCallV 0 mX0_wayBetween (aR (rLoc 0) (aI (iLoc 1) (aI (iLoc 3) aNil)))) aNil)))) (sIf (cZ zgt (iLoc 4)) (sASt 0 narI (rGet 0 15 (rLoc 0)) (iLoc 3) (iB gT2 jmin (iALd (rGet 0 15 (rLoc 0)) (iLoc 3)) (iB gT2 (· * ·) (iLoc 2) (iLoc 4)))) sSkip)) (sSeq (sForget 4) (sInc 3 1)))
theorem olX0_passProductOn_1 (g : GT) {pcB pcC : Nat} : Sok g (tX0_passProductOn 2) 2 57 pcB pcC (lX0_passProductOn_1) := (Sok.loop (pc := 2) (pc1 := 15) (pc2 := 51) (pcN := 57) (Cok.and (pc1 := 10) (Cok.cmp (pc1 := 3) (pc2 := 7) (pcT := 10) (pcF := 57) (EokI.iload_n (q := 3) dX0_passProductOn_2) (EokI.getf (pc1 := 4) (j := 3) (ci := 0) (T := TX0) (N := 17) (EokR.aload_n (q := 0) dX0_passProductOn_3) rfl wsX0_in (by decide) flX0_62 dX0_passProductOn_4) (JI.ltF (tgt := 57) dX0_passProductOn_7 (by decide))) (Cok.cmp (pc1 := 11) (pc2 := 12) (pcT := 15) (pcF := 57) (EokI.iload_n (q := 3) dX0_passProductOn_10) (EokI.iconst (v := 5) dX0_passProductOn_11 (by decide)) (JI.ltF (tgt := 57) dX0_passProductOn_12 (by decide)))) (by decide) (Sok.seq (pc1 := 27) (Sok.setI (i := 4) (pc1 := 25) (EokI.iCallV (pc1 := 22) (Aok.aR (pc1 := 16) (EokR.aload_n (q := 0) dX0_passProductOn_15) (Aok.aI (pc1 := 22) (EokI.iCallV (pc1 := 19) (Aok.aR (pc1 := 17) (EokR.aload_n (q := 0) dX0_passProductOn_16) (Aok.aI (pc1 := 18) (EokI.iload_n (q := 1) dX0_passProductOn_17) (Aok.aI (pc1 := 19) (EokI.iload_n (q := 3) dX0_passProductOn_18) Aok.nil))) (kX0_wayBetween g) rfl ykX0_wayBetween vkX0_106 (by decide) (by decide) dX0_passProductOn_19) Aok.nil)) (kX0_priceOver g) rfl ykX0_priceOver vkX0_130 (by decide) (by decide) dX0_passProductOn_22) (by decide) dX0_passProductOn_25 (show 4 < 5 by decide)) (Sok.ite (pc1 := 32) (pc2 := 51) (Cok.zero (pc1 := 29) (pcT := 32) (pcF := 51) (EokI.iload (i := 4) dX0_passProductOn_27) (JZ.gtF (tgt := 51) dX0_passProductOn_29 (by decide))) (by decide) (Sok.iASt (pc1 := 36) (pc2 := 37) (pc3 := 50) (EokR.getf (pc1 := 33) (j := 15) (ci := 0) (T := TX0) (N := 17) (EokR.aload_n (q := 0) dX0_passProductOn_32) rfl wsX0_in (by decide) flX0_56 dX0_passProductOn_33) (EokI.iload_n (q := 3) dX0_passProductOn_36) (EokI.mmin (pc1 := 43) (pc2 := 47) (EokI.iALd (pc1 := 41) (pc2 := 42) (EokR.getf (pc1 := 38) (j := 15) (ci := 0) (T := TX0) (N := 17) (EokR.aload_n (q := 0) dX0_passProductOn_37) rfl wsX0_in (by decide) flX0_56 dX0_passProductOn_38) (EokI.iload_n (q := 3) dX0_passProductOn_41) dX0_passProductOn_42) (EokI.bin (pc1 := 44) (pc2 := 46) (EokI.iload_n (q := 2) dX0_passProductOn_43) (EokI.iload (i := 4) dX0_passProductOn_44) (OPI.imul dX0_passProductOn_46)) mlX0_133 wst_mmin wini_math wco_mmin (by decide) dX0_passProductOn_47) (by decide) dX0_passProductOn_50) (Sok.skip (pc := 51)))) (Sok.seq (pc1 := 51) Sok.forget (Sok.goto (pc1 := 54) (pcN := 2) (Sok.iinc (i := 3) (v := 1) dX0_passProductOn_51 (show 3 < 5 by decide) (by decide)) dX0_passProductOn_54 (by decide))))
def mX0_passProductOn : MX := bodyOf 5 (sSeq (sSeq (sSeq (sSetI 3 (iK 0)) lX0_passProductOn_1) (sForget 3)) sRetV)
theorem kX0_passProductOn (g : GT) : MK g 2 yX0_passProductOn cX0_passProductOn 5 none mX0_passProductOn := MK.of (pcN := 99999) (pcB := 0) (pcC := 0) rfl (Sok.seq (pc1 := 57) (Sok.seq (pc1 := 57) (Sok.seq (pc1 := 2) (Sok.setI_n (q := 3) (pc1 := 1) (EokI.iconst (v := 0) dX0_passProductOn_0 (by decide)) (by decide) dX0_passProductOn_1 (show 3 < 5 by decide)) (olX0_passProductOn_1 g )) (Sok.forget (pc := 57))) (Sok.retV dX0_passProductOn_57 rfl))
/-! PassHuts$Hills.leastProduct(II)I -/
theorem dX0_leastProduct_0 : decode cX0_leastProduct 0 = .ok (.aload_n 0, 1) := by decide +kernel
theorem dX0_leastProduct_1 : decode cX0_leastProduct 1 = .ok (.iload_n 1, 1) := by decide +kernel
theorem dX0_leastProduct_2 : decode cX0_leastProduct 2 = .ok (.invokevirtual 75, 3) := by decide +kernel
theorem dX0_leastProduct_5 : decode cX0_leastProduct 5 = .ok (.ifCond .eq 11, 3) := by decide +kernel
theorem dX0_leastProduct_8 : decode cX0_leastProduct 8 = .ok (.aload_n 0, 1) := by decide +kernel
theorem dX0_leastProduct_9 : decode cX0_leastProduct 9 = .ok (.iload_n 2, 1) := by decide +kernel
theorem dX0_leastProduct_10 : decode cX0_leastProduct 10 = .ok (.invokevirtual 75, 3) := by decide +kernel
theorem dX0_leastProduct_13 : decode cX0_leastProduct 13 = .ok (.ifCond .ne 5, 3) := by decide +kernel
theorem dX0_leastProduct_16 : decode cX0_leastProduct 16 = .ok (.iconst (-1), 1) := by decide +kernel
theorem dX0_leastProduct_17 : decode cX0_leastProduct 17 = .ok (.ireturn, 1) := by decide +kernel
theorem dX0_leastProduct_18 : decode cX0_leastProduct 18 = .ok (.iconst 0, 1) := by decide +kernel
theorem dX0_leastProduct_19 : decode cX0_leastProduct 19 = .ok (.istore_n 3, 1) := by decide +kernel
theorem dX0_leastProduct_20 : decode cX0_leastProduct 20 = .ok (.iload_n 3, 1) := by decide +kernel
theorem dX0_leastProduct_21 : decode cX0_leastProduct 21 = .ok (.aload_n 0, 1) := by decide +kernel
theorem dX0_leastProduct_22 : decode cX0_leastProduct 22 = .ok (.getfield 62, 3) := by decide +kernel
theorem dX0_leastProduct_25 : decode cX0_leastProduct 25 = .ok (.if_icmp .ge 31, 3) := by decide +kernel
theorem dX0_leastProduct_28 : decode cX0_leastProduct 28 = .ok (.iload_n 3, 1) := by decide +kernel
theorem dX0_leastProduct_29 : decode cX0_leastProduct 29 = .ok (.iconst 5, 1) := by decide +kernel
theorem dX0_leastProduct_30 : decode cX0_leastProduct 30 = .ok (.if_icmp .ge 26, 3) := by decide +kernel
theorem dX0_leastProduct_33 : decode cX0_leastProduct 33 = .ok (.aload_n 0, 1) := by decide +kernel
theorem dX0_leastProduct_34 : decode cX0_leastProduct 34 = .ok (.getfield 56, 3) := by decide +kernel
theorem dX0_leastProduct_37 : decode cX0_leastProduct 37 = .ok (.iload_n 3, 1) := by decide +kernel
theorem dX0_leastProduct_38 : decode cX0_leastProduct 38 = .ok (.iload_n 3, 1) := by decide +kernel
theorem dX0_leastProduct_39 : decode cX0_leastProduct 39 = .ok (.iload_n 1, 1) := by decide +kernel
theorem dX0_leastProduct_40 : decode cX0_leastProduct 40 = .ok (.if_icmp .ne 7, 3) := by decide +kernel
theorem dX0_leastProduct_43 : decode cX0_leastProduct 43 = .ok (.iconst 1, 1) := by decide +kernel
theorem dX0_leastProduct_44 : decode cX0_leastProduct 44 = .ok (.goto 5, 3) := by decide +kernel
theorem dX0_leastProduct_47 : decode cX0_leastProduct 47 = .ok (.ldc 126, 2) := by decide +kernel
theorem dX0_leastProduct_49 : decode cX0_leastProduct 49 = .ok (.iastore, 1) := by decide +kernel
theorem dX0_leastProduct_50 : decode cX0_leastProduct 50 = .ok (.iinc 3 1, 3) := by decide +kernel
theorem dX0_leastProduct_53 : decode cX0_leastProduct 53 = .ok (.goto (-33), 3) := by decide +kernel
theorem dX0_leastProduct_56 : decode cX0_leastProduct 56 = .ok (.iconst 0, 1) := by decide +kernel
theorem dX0_leastProduct_57 : decode cX0_leastProduct 57 = .ok (.istore_n 3, 1) := by decide +kernel
theorem dX0_leastProduct_58 : decode cX0_leastProduct 58 = .ok (.iload_n 3, 1) := by decide +kernel
theorem dX0_leastProduct_59 : decode cX0_leastProduct 59 = .ok (.aload_n 0, 1) := by decide +kernel
theorem dX0_leastProduct_60 : decode cX0_leastProduct 60 = .ok (.getfield 62, 3) := by decide +kernel
theorem dX0_leastProduct_63 : decode cX0_leastProduct 63 = .ok (.if_icmp .ge 58, 3) := by decide +kernel
theorem dX0_leastProduct_66 : decode cX0_leastProduct 66 = .ok (.iconst 0, 1) := by decide +kernel
theorem dX0_leastProduct_67 : decode cX0_leastProduct 67 = .ok (.istore 4, 2) := by decide +kernel
theorem dX0_leastProduct_69 : decode cX0_leastProduct 69 = .ok (.iload 4, 2) := by decide +kernel
theorem dX0_leastProduct_71 : decode cX0_leastProduct 71 = .ok (.aload_n 0, 1) := by decide +kernel
theorem dX0_leastProduct_72 : decode cX0_leastProduct 72 = .ok (.getfield 62, 3) := by decide +kernel
theorem dX0_leastProduct_75 : decode cX0_leastProduct 75 = .ok (.if_icmp .ge 40, 3) := by decide +kernel
theorem dX0_leastProduct_78 : decode cX0_leastProduct 78 = .ok (.iload 4, 2) := by decide +kernel
theorem dX0_leastProduct_80 : decode cX0_leastProduct 80 = .ok (.iconst 5, 1) := by decide +kernel
theorem dX0_leastProduct_81 : decode cX0_leastProduct 81 = .ok (.if_icmp .ge 34, 3) := by decide +kernel
theorem dX0_leastProduct_84 : decode cX0_leastProduct 84 = .ok (.aload_n 0, 1) := by decide +kernel
theorem dX0_leastProduct_85 : decode cX0_leastProduct 85 = .ok (.getfield 56, 3) := by decide +kernel
theorem dX0_leastProduct_88 : decode cX0_leastProduct 88 = .ok (.iload 4, 2) := by decide +kernel
theorem dX0_leastProduct_90 : decode cX0_leastProduct 90 = .ok (.iaload, 1) := by decide +kernel
theorem dX0_leastProduct_91 : decode cX0_leastProduct 91 = .ok (.ldc 126, 2) := by decide +kernel
theorem dX0_leastProduct_93 : decode cX0_leastProduct 93 = .ok (.if_icmp .ge 16, 3) := by decide +kernel
theorem dX0_leastProduct_96 : decode cX0_leastProduct 96 = .ok (.aload_n 0, 1) := by decide +kernel
theorem dX0_leastProduct_97 : decode cX0_leastProduct 97 = .ok (.iload 4, 2) := by decide +kernel
theorem dX0_leastProduct_99 : decode cX0_leastProduct 99 = .ok (.aload_n 0, 1) := by decide +kernel
theorem dX0_leastProduct_100 : decode cX0_leastProduct 100 = .ok (.getfield 56, 3) := by decide +kernel
theorem dX0_leastProduct_103 : decode cX0_leastProduct 103 = .ok (.iload 4, 2) := by decide +kernel
theorem dX0_leastProduct_105 : decode cX0_leastProduct 105 = .ok (.iaload, 1) := by decide +kernel
theorem dX0_leastProduct_106 : decode cX0_leastProduct 106 = .ok (.invokevirtual 127, 3) := by decide +kernel
theorem dX0_leastProduct_109 : decode cX0_leastProduct 109 = .ok (.iinc 4 1, 3) := by decide +kernel
theorem dX0_leastProduct_112 : decode cX0_leastProduct 112 = .ok (.goto (-43), 3) := by decide +kernel
theorem dX0_leastProduct_115 : decode cX0_leastProduct 115 = .ok (.iinc 3 1, 3) := by decide +kernel
theorem dX0_leastProduct_118 : decode cX0_leastProduct 118 = .ok (.goto (-60), 3) := by decide +kernel
theorem dX0_leastProduct_121 : decode cX0_leastProduct 121 = .ok (.aload_n 0, 1) := by decide +kernel
theorem dX0_leastProduct_122 : decode cX0_leastProduct 122 = .ok (.getfield 56, 3) := by decide +kernel
theorem dX0_leastProduct_125 : decode cX0_leastProduct 125 = .ok (.iload_n 2, 1) := by decide +kernel
theorem dX0_leastProduct_126 : decode cX0_leastProduct 126 = .ok (.iaload, 1) := by decide +kernel
theorem dX0_leastProduct_127 : decode cX0_leastProduct 127 = .ok (.ldc 126, 2) := by decide +kernel
theorem dX0_leastProduct_129 : decode cX0_leastProduct 129 = .ok (.if_icmp .ge 12, 3) := by decide +kernel
theorem dX0_leastProduct_132 : decode cX0_leastProduct 132 = .ok (.aload_n 0, 1) := by decide +kernel
theorem dX0_leastProduct_133 : decode cX0_leastProduct 133 = .ok (.getfield 56, 3) := by decide +kernel
theorem dX0_leastProduct_136 : decode cX0_leastProduct 136 = .ok (.iload_n 2, 1) := by decide +kernel
theorem dX0_leastProduct_137 : decode cX0_leastProduct 137 = .ok (.iaload, 1) := by decide +kernel
theorem dX0_leastProduct_138 : decode cX0_leastProduct 138 = .ok (.goto 4, 3) := by decide +kernel
theorem dX0_leastProduct_141 : decode cX0_leastProduct 141 = .ok (.iconst (-1), 1) := by decide +kernel
theorem dX0_leastProduct_142 : decode cX0_leastProduct 142 = .ok (.ireturn, 1) := by decide +kernel
abbrev tX0_leastProduct (k : Nat) : MT := (RX0, cX0_leastProduct, 5, k, (some .int))
def lX0_leastProduct_1 : SX := (sLoop (cAnd (cB rlt (iLoc 3) (iGet 0 3 (rLoc 0))) (cB rlt (iLoc 3) (iK 5))) (sASt 0 narI (rGet 0 15 (rLoc 0)) (iLoc 3) (iCond (cB req (iLoc 3) (iLoc 1)) (iK 1) (iK 1000000))) (sInc 3 1))
def lX0_leastProduct_2 : SX := (sLoop (cAnd (cB rlt (iLoc 4) (iGet 0 3 (rLoc 0))) (cB rlt (iLoc 4) (iK 5))) (sIf (cB rlt (iALd (rGet 0 15 (rLoc 0)) (iLoc 4)) (iK 1000000)) (sCallV 0 mX0_passProductOn (aR (rLoc 0) (aI (iLoc 4) (aI (iALd (rGet 0 15 (rLoc 0)) (iLoc 4)) aNil)))) sSkip) (sInc 4 1))
def lX0_leastProduct_3 : SX := (sLoop (cB rlt (iLoc 3) (iGet 0 3 (rLoc 0))) (sSeq (sSetI 4 (iK 0)) lX0_leastProduct_2) (sSeq (sForget 4) (sInc 3 1)))
theorem olX0_leastProduct_2 (g : GT) {pcB pcC : Nat} : Sok g (tX0_leastProduct 3) 69 115 pcB pcC (lX0_leastProduct_2) := (Sok.loop (pc := 69) (pc1 := 84) (pc2 := 109) (pcN := 115) (Cok.and (pc1 := 78) (Cok.cmp (pc1 := 71) (pc2 := 75) (pcT := 78) (pcF := 115) (EokI.iload (i := 4) dX0_leastProduct_69) (EokI.getf (pc1 := 72) (j := 3) (ci := 0) (T := TX0) (N := 17) (EokR.aload_n (q := 0) dX0_leastProduct_71) rfl wsX0_in (by decide) flX0_62 dX0_leastProduct_72) (JI.ltF (tgt := 115) dX0_leastProduct_75 (by decide))) (Cok.cmp (pc1 := 80) (pc2 := 81) (pcT := 84) (pcF := 115) (EokI.iload (i := 4) dX0_leastProduct_78) (EokI.iconst (v := 5) dX0_leastProduct_80 (by decide)) (JI.ltF (tgt := 115) dX0_leastProduct_81 (by decide)))) (by decide) (Sok.ite (pc1 := 96) (pc2 := 109) (Cok.cmp (pc1 := 91) (pc2 := 93) (pcT := 96) (pcF := 109) (EokI.iALd (pc1 := 88) (pc2 := 90) (EokR.getf (pc1 := 85) (j := 15) (ci := 0) (T := TX0) (N := 17) (EokR.aload_n (q := 0) dX0_leastProduct_84) rfl wsX0_in (by decide) flX0_56 dX0_leastProduct_85) (EokI.iload (i := 4) dX0_leastProduct_88) dX0_leastProduct_90) (EokI.ldc (v := 1000000) ckX0_126 dX0_leastProduct_91) (JI.ltF (tgt := 109) dX0_leastProduct_93 (by decide))) (by decide) (Sok.sCallV (pc1 := 106) (Aok.aR (pc1 := 97) (EokR.aload_n (q := 0) dX0_leastProduct_96) (Aok.aI (pc1 := 99) (EokI.iload (i := 4) dX0_leastProduct_97) (Aok.aI (pc1 := 106) (EokI.iALd (pc1 := 103) (pc2 := 105) (EokR.getf (pc1 := 100) (j := 15) (ci := 0) (T := TX0) (N := 17) (EokR.aload_n (q := 0) dX0_leastProduct_99) rfl wsX0_in (by decide) flX0_56 dX0_leastProduct_100) (EokI.iload (i := 4) dX0_leastProduct_103) dX0_leastProduct_105) Aok.nil))) (by decide) (kX0_passProductOn g) rfl ykX0_passProductOn vkX0_127 (by decide) (by decide) dX0_leastProduct_106) (Sok.skip (pc := 109))) (Sok.goto (pc1 := 112) (pcN := 69) (Sok.iinc (i := 4) (v := 1) dX0_leastProduct_109 (show 4 < 5 by decide) (by decide)) dX0_leastProduct_112 (by decide)))
theorem olX0_leastProduct_3 (g : GT) {pcB pcC : Nat} : Sok g (tX0_leastProduct 3) 58 121 pcB pcC (lX0_leastProduct_3) := (Sok.loop (pc := 58) (pc1 := 66) (pc2 := 115) (pcN := 121) (Cok.cmp (pc1 := 59) (pc2 := 63) (pcT := 66) (pcF := 121) (EokI.iload_n (q := 3) dX0_leastProduct_58) (EokI.getf (pc1 := 60) (j := 3) (ci := 0) (T := TX0) (N := 17) (EokR.aload_n (q := 0) dX0_leastProduct_59) rfl wsX0_in (by decide) flX0_62 dX0_leastProduct_60) (JI.ltF (tgt := 121) dX0_leastProduct_63 (by decide))) (by decide) (Sok.seq (pc1 := 69) (Sok.setI (i := 4) (pc1 := 67) (EokI.iconst (v := 0) dX0_leastProduct_66 (by decide)) (by decide) dX0_leastProduct_67 (show 4 < 5 by decide)) (olX0_leastProduct_2 g )) (Sok.seq (pc1 := 115) Sok.forget (Sok.goto (pc1 := 118) (pcN := 58) (Sok.iinc (i := 3) (v := 1) dX0_leastProduct_115 (show 3 < 5 by decide) (by decide)) dX0_leastProduct_118 (by decide))))
theorem olX0_leastProduct_1 (g : GT) {pcB pcC : Nat} : Sok g (tX0_leastProduct 3) 20 56 pcB pcC (lX0_leastProduct_1) := (Sok.loop (pc := 20) (pc1 := 33) (pc2 := 50) (pcN := 56) (Cok.and (pc1 := 28) (Cok.cmp (pc1 := 21) (pc2 := 25) (pcT := 28) (pcF := 56) (EokI.iload_n (q := 3) dX0_leastProduct_20) (EokI.getf (pc1 := 22) (j := 3) (ci := 0) (T := TX0) (N := 17) (EokR.aload_n (q := 0) dX0_leastProduct_21) rfl wsX0_in (by decide) flX0_62 dX0_leastProduct_22) (JI.ltF (tgt := 56) dX0_leastProduct_25 (by decide))) (Cok.cmp (pc1 := 29) (pc2 := 30) (pcT := 33) (pcF := 56) (EokI.iload_n (q := 3) dX0_leastProduct_28) (EokI.iconst (v := 5) dX0_leastProduct_29 (by decide)) (JI.ltF (tgt := 56) dX0_leastProduct_30 (by decide)))) (by decide) (Sok.iASt (pc1 := 37) (pc2 := 38) (pc3 := 49) (EokR.getf (pc1 := 34) (j := 15) (ci := 0) (T := TX0) (N := 17) (EokR.aload_n (q := 0) dX0_leastProduct_33) rfl wsX0_in (by decide) flX0_56 dX0_leastProduct_34) (EokI.iload_n (q := 3) dX0_leastProduct_37) (EokI.cond' (pc1 := 43) (pc2 := 47) (Cok.cmp (pc1 := 39) (pc2 := 40) (pcT := 43) (pcF := 47) (EokI.iload_n (q := 3) dX0_leastProduct_38) (EokI.iload_n (q := 1) dX0_leastProduct_39) (JI.eqF (tgt := 47) dX0_leastProduct_40 (by decide))) (EokI.goto (pc1 := 44) (pc2 := 49) (EokI.iconst (v := 1) dX0_leastProduct_43 (by decide)) dX0_leastProduct_44 (by decide)) (EokI.ldc (v := 1000000) ckX0_126 dX0_leastProduct_47)) (by decide) dX0_leastProduct_49) (Sok.goto (pc1 := 53) (pcN := 20) (Sok.iinc (i := 3) (v := 1) dX0_leastProduct_50 (show 3 < 5 by decide) (by decide)) dX0_leastProduct_53 (by decide)))
def mX0_leastProduct : MX := bodyOf 5 (sSeq (sIf (cOr (cNot (cZ zne (iCallV 0 mX0_isHut (aR (rLoc 0) (aI (iLoc 1) aNil))))) (cNot (cZ zne (iCallV 0 mX0_isHut (aR (rLoc 0) (aI (iLoc 2) aNil)))))) (sRetI (iK (-1))) sSkip) (sSeq (sSeq (sSeq (sSetI 3 (iK 0)) lX0_leastProduct_1) (sForget 3)) (sSeq (sSeq (sSeq (sSetI 3 (iK 0)) lX0_leastProduct_3) (sForget 3)) (sRetI (iCond (cB rlt (iALd (rGet 0 15 (rLoc 0)) (iLoc 2)) (iK 1000000)) (iALd (rGet 0 15 (rLoc 0)) (iLoc 2)) (iK (-1)))))))
theorem kX0_leastProduct (g : GT) : MK g 3 yX0_leastProduct cX0_leastProduct 5 (some .int) mX0_leastProduct := MK.of (pcN := 99999) (pcB := 0) (pcC := 0) rfl (Sok.seq (pc1 := 18) (Sok.ite (pc1 := 16) (pc2 := 18) (Cok.or (pc1 := 8) (Cok.not (Cok.zero (pc1 := 5) (pcT := 8) (pcF := 16) (EokI.iCallV (pc1 := 2) (Aok.aR (pc1 := 1) (EokR.aload_n (q := 0) dX0_leastProduct_0) (Aok.aI (pc1 := 2) (EokI.iload_n (q := 1) dX0_leastProduct_1) Aok.nil)) (kX0_isHut g) rfl ykX0_isHut vkX0_75 (by decide) (by decide) dX0_leastProduct_2) (JZ.neF (tgt := 16) dX0_leastProduct_5 (by decide)))) (Cok.not (Cok.zero (pc1 := 13) (pcT := 18) (pcF := 16) (EokI.iCallV (pc1 := 10) (Aok.aR (pc1 := 9) (EokR.aload_n (q := 0) dX0_leastProduct_8) (Aok.aI (pc1 := 10) (EokI.iload_n (q := 2) dX0_leastProduct_9) Aok.nil)) (kX0_isHut g) rfl ykX0_isHut vkX0_75 (by decide) (by decide) dX0_leastProduct_10) (JZ.neT (tgt := 18) dX0_leastProduct_13 (by decide))))) (by decide) (Sok.retI (pc1 := 17) (EokI.iconst (v := (-1)) dX0_leastProduct_16 (by decide)) (by decide) dX0_leastProduct_17 rfl) (Sok.skip (pc := 18))) (Sok.seq (pc1 := 56) (Sok.seq (pc1 := 56) (Sok.seq (pc1 := 20) (Sok.setI_n (q := 3) (pc1 := 19) (EokI.iconst (v := 0) dX0_leastProduct_18 (by decide)) (by decide) dX0_leastProduct_19 (show 3 < 5 by decide)) (olX0_leastProduct_1 g )) (Sok.forget (pc := 56))) (Sok.seq (pc1 := 121) (Sok.seq (pc1 := 121) (Sok.seq (pc1 := 58) (Sok.setI_n (q := 3) (pc1 := 57) (EokI.iconst (v := 0) dX0_leastProduct_56 (by decide)) (by decide) dX0_leastProduct_57 (show 3 < 5 by decide)) (olX0_leastProduct_3 g )) (Sok.forget (pc := 121))) (Sok.retI (pc1 := 142) (EokI.cond' (pc1 := 132) (pc2 := 141) (Cok.cmp (pc1 := 127) (pc2 := 129) (pcT := 132) (pcF := 141) (EokI.iALd (pc1 := 125) (pc2 := 126) (EokR.getf (pc1 := 122) (j := 15) (ci := 0) (T := TX0) (N := 17) (EokR.aload_n (q := 0) dX0_leastProduct_121) rfl wsX0_in (by decide) flX0_56 dX0_leastProduct_122) (EokI.iload_n (q := 2) dX0_leastProduct_125) dX0_leastProduct_126) (EokI.ldc (v := 1000000) ckX0_126 dX0_leastProduct_127) (JI.ltF (tgt := 141) dX0_leastProduct_129 (by decide))) (EokI.goto (pc1 := 138) (pc2 := 142) (EokI.iALd (pc1 := 136) (pc2 := 137) (EokR.getf (pc1 := 133) (j := 15) (ci := 0) (T := TX0) (N := 17) (EokR.aload_n (q := 0) dX0_leastProduct_132) rfl wsX0_in (by decide) flX0_56 dX0_leastProduct_133) (EokI.iload_n (q := 2) dX0_leastProduct_136) dX0_leastProduct_137) dX0_leastProduct_138 (by decide)) (EokI.iconst (v := (-1)) dX0_leastProduct_141 (by decide))) (by decide) dX0_leastProduct_142 rfl))))
/-! PassHuts$Story.addSeen(IIZ)Z -/
theorem dX5_addSeen_0 : decode cX5_addSeen 0 = .ok (.aload_n 0, 1) := by decide +kernel
theorem dX5_addSeen_1 : decode cX5_addSeen 1 = .ok (.getfield 47, 3) := by decide +kernel
theorem dX5_addSeen_4 : decode cX5_addSeen 4 = .ok (.bipush 8, 2) := by decide +kernel
theorem dX5_addSeen_6 : decode cX5_addSeen 6 = .ok (.if_icmp .lt 5, 3) := by decide +kernel
theorem dX5_addSeen_9 : decode cX5_addSeen 9 = .ok (.iconst 0, 1) := by decide +kernel
theorem dX5_addSeen_10 : decode cX5_addSeen 10 = .ok (.ireturn, 1) := by decide +kernel
theorem dX5_addSeen_11 : decode cX5_addSeen 11 = .ok (.aload_n 0, 1) := by decide +kernel
theorem dX5_addSeen_12 : decode cX5_addSeen 12 = .ok (.getfield 18, 3) := by decide +kernel
theorem dX5_addSeen_15 : decode cX5_addSeen 15 = .ok (.aload_n 0, 1) := by decide +kernel
theorem dX5_addSeen_16 : decode cX5_addSeen 16 = .ok (.getfield 47, 3) := by decide +kernel
theorem dX5_addSeen_19 : decode cX5_addSeen 19 = .ok (.iload_n 1, 1) := by decide +kernel
theorem dX5_addSeen_20 : decode cX5_addSeen 20 = .ok (.iconst 5, 1) := by decide +kernel
theorem dX5_addSeen_21 : decode cX5_addSeen 21 = .ok (.ishl, 1) := by decide +kernel
theorem dX5_addSeen_22 : decode cX5_addSeen 22 = .ok (.iload_n 2, 1) := by decide +kernel
theorem dX5_addSeen_23 : decode cX5_addSeen 23 = .ok (.iconst 1, 1) := by decide +kernel
theorem dX5_addSeen_24 : decode cX5_addSeen 24 = .ok (.ishl, 1) := by decide +kernel
theorem dX5_addSeen_25 : decode cX5_addSeen 25 = .ok (.ior, 1) := by decide +kernel
theorem dX5_addSeen_26 : decode cX5_addSeen 26 = .ok (.iload_n 3, 1) := by decide +kernel
theorem dX5_addSeen_27 : decode cX5_addSeen 27 = .ok (.ifCond .eq 7, 3) := by decide +kernel
theorem dX5_addSeen_30 : decode cX5_addSeen 30 = .ok (.iconst 1, 1) := by decide +kernel
theorem dX5_addSeen_31 : decode cX5_addSeen 31 = .ok (.goto 4, 3) := by decide +kernel
theorem dX5_addSeen_34 : decode cX5_addSeen 34 = .ok (.iconst 0, 1) := by decide +kernel
theorem dX5_addSeen_35 : decode cX5_addSeen 35 = .ok (.ior, 1) := by decide +kernel
theorem dX5_addSeen_36 : decode cX5_addSeen 36 = .ok (.iastore, 1) := by decide +kernel
theorem dX5_addSeen_37 : decode cX5_addSeen 37 = .ok (.aload_n 0, 1) := by decide +kernel
theorem dX5_addSeen_38 : decode cX5_addSeen 38 = .ok (.dup, 1) := by decide +kernel
theorem dX5_addSeen_39 : decode cX5_addSeen 39 = .ok (.getfield 47, 3) := by decide +kernel
theorem dX5_addSeen_42 : decode cX5_addSeen 42 = .ok (.iconst 1, 1) := by decide +kernel
theorem dX5_addSeen_43 : decode cX5_addSeen 43 = .ok (.iadd, 1) := by decide +kernel
theorem dX5_addSeen_44 : decode cX5_addSeen 44 = .ok (.putfield 47, 3) := by decide +kernel
theorem dX5_addSeen_47 : decode cX5_addSeen 47 = .ok (.iconst 1, 1) := by decide +kernel
theorem dX5_addSeen_48 : decode cX5_addSeen 48 = .ok (.ireturn, 1) := by decide +kernel
abbrev tX5_addSeen (k : Nat) : MT := (RX5, cX5_addSeen, 4, k, (some .boolean))
def mX5_addSeen : MX := bodyOf 4 (sSeq (sIf (cB rge (iGet 5 12 (rLoc 0)) (iK 8)) (sRetZ (iK 0)) sSkip) (sSeq (sASt 0 narI (rGet 5 2 (rLoc 0)) (iGet 5 12 (rLoc 0)) (iB gT2 (· ||| ·) (iB gT2 (· ||| ·) (iB gT2 jshl (iLoc 1) (iK 5)) (iB gT2 jshl (iLoc 2) (iK 1))) (iCond (cZ zne (iLoc 3)) (iK 1) (iK 0)))) (sSeq (sUpd 5 12 gT2 (· + ·) (rLoc 0) (iK 1)) (sRetZ (iK 1)))))
theorem kX5_addSeen (g : GT) : MK g 0 yX5_addSeen cX5_addSeen 4 (some .boolean) mX5_addSeen := MK.of (pcN := 99999) (pcB := 0) (pcC := 0) rfl (Sok.seq (pc1 := 11) (Sok.ite (pc1 := 9) (pc2 := 11) (Cok.cmp (pc1 := 4) (pc2 := 6) (pcT := 9) (pcF := 11) (EokI.getf (pc1 := 1) (j := 12) (ci := 5) (T := TX5) (N := 13) (EokR.aload_n (q := 0) dX5_addSeen_0) rfl wsX5_in (by decide) flX5_47 dX5_addSeen_1) (EokI.bipush (v := 8) dX5_addSeen_4 (by decide)) (JI.geF (tgt := 11) dX5_addSeen_6 (by decide))) (by decide) (Sok.retZ (pc1 := 10) (EokI.iconst (v := 0) dX5_addSeen_9 (by decide)) (by decide) dX5_addSeen_10 rfl) (Sok.skip (pc := 11))) (Sok.seq (pc1 := 37) (Sok.iASt (pc1 := 15) (pc2 := 19) (pc3 := 36) (EokR.getf (pc1 := 12) (j := 2) (ci := 5) (T := TX5) (N := 13) (EokR.aload_n (q := 0) dX5_addSeen_11) rfl wsX5_in (by decide) flX5_18 dX5_addSeen_12) (EokI.getf (pc1 := 16) (j := 12) (ci := 5) (T := TX5) (N := 13) (EokR.aload_n (q := 0) dX5_addSeen_15) rfl wsX5_in (by decide) flX5_47 dX5_addSeen_16) (EokI.bin (pc1 := 26) (pc2 := 35) (EokI.bin (pc1 := 22) (pc2 := 25) (EokI.bin (pc1 := 20) (pc2 := 21) (EokI.iload_n (q := 1) dX5_addSeen_19) (EokI.iconst (v := 5) dX5_addSeen_20 (by decide)) (OPI.ishl dX5_addSeen_21)) (EokI.bin (pc1 := 23) (pc2 := 24) (EokI.iload_n (q := 2) dX5_addSeen_22) (EokI.iconst (v := 1) dX5_addSeen_23 (by decide)) (OPI.ishl dX5_addSeen_24)) (OPI.ior dX5_addSeen_25)) (EokI.cond' (pc1 := 30) (pc2 := 34) (Cok.zero (pc1 := 27) (pcT := 30) (pcF := 34) (EokI.iload_n (q := 3) dX5_addSeen_26) (JZ.neF (tgt := 34) dX5_addSeen_27 (by decide))) (EokI.goto (pc1 := 31) (pc2 := 35) (EokI.iconst (v := 1) dX5_addSeen_30 (by decide)) dX5_addSeen_31 (by decide)) (EokI.iconst (v := 0) dX5_addSeen_34 (by decide))) (OPI.ior dX5_addSeen_35)) (by decide) dX5_addSeen_36) (Sok.seq (pc1 := 47) (Sok.upd (ci := 5) (T := TX5) (NN := 13) (tt := tyX5) (j := 12) (pc1 := 38) (pc2 := 43) (EokR.aload_n (q := 0) dX5_addSeen_37) dX5_addSeen_38 dX5_addSeen_39 (EokI.iconst (v := 1) dX5_addSeen_42 (by decide)) (OPI.iadd dX5_addSeen_43) (by decide) rfl wsX5_in tyX5_ok nmX5 (by decide) flX5_47 rfl rfl dX5_addSeen_44) (Sok.retZ (pc1 := 48) (EokI.iconst (v := 1) dX5_addSeen_47 (by decide)) (by decide) dX5_addSeen_48 rfl))))
/-! PassHuts$Story.agrees(LPassHuts$Hills;I)Z -/
theorem dX5_agrees_0 : decode cX5_agrees 0 = .ok (.iconst 0, 1) := by decide +kernel
theorem dX5_agrees_1 : decode cX5_agrees 1 = .ok (.istore_n 3, 1) := by decide +kernel
theorem dX5_agrees_2 : decode cX5_agrees 2 = .ok (.iload_n 3, 1) := by decide +kernel
theorem dX5_agrees_3 : decode cX5_agrees 3 = .ok (.aload_n 0, 1) := by decide +kernel
theorem dX5_agrees_4 : decode cX5_agrees 4 = .ok (.getfield 47, 3) := by decide +kernel
theorem dX5_agrees_7 : decode cX5_agrees 7 = .ok (.if_icmp .ge 72, 3) := by decide +kernel
theorem dX5_agrees_10 : decode cX5_agrees 10 = .ok (.iload_n 3, 1) := by decide +kernel
theorem dX5_agrees_11 : decode cX5_agrees 11 = .ok (.bipush 8, 2) := by decide +kernel
theorem dX5_agrees_13 : decode cX5_agrees 13 = .ok (.if_icmp .ge 66, 3) := by decide +kernel
theorem dX5_agrees_16 : decode cX5_agrees 16 = .ok (.aload_n 1, 1) := by decide +kernel
theorem dX5_agrees_17 : decode cX5_agrees 17 = .ok (.iload_n 2, 1) := by decide +kernel
theorem dX5_agrees_18 : decode cX5_agrees 18 = .ok (.aload_n 0, 1) := by decide +kernel
theorem dX5_agrees_19 : decode cX5_agrees 19 = .ok (.getfield 18, 3) := by decide +kernel
theorem dX5_agrees_22 : decode cX5_agrees 22 = .ok (.iload_n 3, 1) := by decide +kernel
theorem dX5_agrees_23 : decode cX5_agrees 23 = .ok (.iaload, 1) := by decide +kernel
theorem dX5_agrees_24 : decode cX5_agrees 24 = .ok (.iconst 5, 1) := by decide +kernel
theorem dX5_agrees_25 : decode cX5_agrees 25 = .ok (.ishr, 1) := by decide +kernel
theorem dX5_agrees_26 : decode cX5_agrees 26 = .ok (.invokevirtual 59, 3) := by decide +kernel
theorem dX5_agrees_29 : decode cX5_agrees 29 = .ok (.aload_n 0, 1) := by decide +kernel
theorem dX5_agrees_30 : decode cX5_agrees 30 = .ok (.getfield 18, 3) := by decide +kernel
theorem dX5_agrees_33 : decode cX5_agrees 33 = .ok (.iload_n 3, 1) := by decide +kernel
theorem dX5_agrees_34 : decode cX5_agrees 34 = .ok (.iaload, 1) := by decide +kernel
theorem dX5_agrees_35 : decode cX5_agrees 35 = .ok (.iconst 1, 1) := by decide +kernel
theorem dX5_agrees_36 : decode cX5_agrees 36 = .ok (.ishr, 1) := by decide +kernel
theorem dX5_agrees_37 : decode cX5_agrees 37 = .ok (.bipush 15, 2) := by decide +kernel
theorem dX5_agrees_39 : decode cX5_agrees 39 = .ok (.iand, 1) := by decide +kernel
theorem dX5_agrees_40 : decode cX5_agrees 40 = .ok (.if_icmp .lt 7, 3) := by decide +kernel
theorem dX5_agrees_43 : decode cX5_agrees 43 = .ok (.iconst 1, 1) := by decide +kernel
theorem dX5_agrees_44 : decode cX5_agrees 44 = .ok (.goto 4, 3) := by decide +kernel
theorem dX5_agrees_47 : decode cX5_agrees 47 = .ok (.iconst 0, 1) := by decide +kernel
theorem dX5_agrees_48 : decode cX5_agrees 48 = .ok (.istore 4, 2) := by decide +kernel
theorem dX5_agrees_50 : decode cX5_agrees 50 = .ok (.iload 4, 2) := by decide +kernel
theorem dX5_agrees_52 : decode cX5_agrees 52 = .ok (.aload_n 0, 1) := by decide +kernel
theorem dX5_agrees_53 : decode cX5_agrees 53 = .ok (.getfield 18, 3) := by decide +kernel
theorem dX5_agrees_56 : decode cX5_agrees 56 = .ok (.iload_n 3, 1) := by decide +kernel
theorem dX5_agrees_57 : decode cX5_agrees 57 = .ok (.iaload, 1) := by decide +kernel
theorem dX5_agrees_58 : decode cX5_agrees 58 = .ok (.iconst 1, 1) := by decide +kernel
theorem dX5_agrees_59 : decode cX5_agrees 59 = .ok (.iand, 1) := by decide +kernel
theorem dX5_agrees_60 : decode cX5_agrees 60 = .ok (.ifCond .eq 7, 3) := by decide +kernel
theorem dX5_agrees_63 : decode cX5_agrees 63 = .ok (.iconst 1, 1) := by decide +kernel
theorem dX5_agrees_64 : decode cX5_agrees 64 = .ok (.goto 4, 3) := by decide +kernel
theorem dX5_agrees_67 : decode cX5_agrees 67 = .ok (.iconst 0, 1) := by decide +kernel
theorem dX5_agrees_68 : decode cX5_agrees 68 = .ok (.if_icmp .eq 5, 3) := by decide +kernel
theorem dX5_agrees_71 : decode cX5_agrees 71 = .ok (.iconst 0, 1) := by decide +kernel
theorem dX5_agrees_72 : decode cX5_agrees 72 = .ok (.ireturn, 1) := by decide +kernel
theorem dX5_agrees_73 : decode cX5_agrees 73 = .ok (.iinc 3 1, 3) := by decide +kernel
theorem dX5_agrees_76 : decode cX5_agrees 76 = .ok (.goto (-74), 3) := by decide +kernel
theorem dX5_agrees_79 : decode cX5_agrees 79 = .ok (.iconst 1, 1) := by decide +kernel
theorem dX5_agrees_80 : decode cX5_agrees 80 = .ok (.ireturn, 1) := by decide +kernel
abbrev tX5_agrees (k : Nat) : MT := (RX5, cX5_agrees, 5, k, (some .boolean))
def lX5_agrees_1 : SX := (sLoop (cAnd (cB rlt (iLoc 3) (iGet 5 12 (rLoc 0))) (cB rlt (iLoc 3) (iK 8))) (sSeq (sSetI 4 (iBool (cB rge (iCallV 0 mX0_loadsIn (aR (rLoc 1) (aI (iLoc 2) (aI (iB gT2 jshr (iALd (rGet 5 2 (rLoc 0)) (iLoc 3)) (iK 5)) aNil)))) (iB gT2 (· &&& ·) (iB gT2 jshr (iALd (rGet 5 2 (rLoc 0)) (iLoc 3)) (iK 1)) (iK 15))))) (sIf (cB rne (iLoc 4) (iBool (cZ zne (iB gT2 (· &&& ·) (iALd (rGet 5 2 (rLoc 0)) (iLoc 3)) (iK 1))))) (sRetZ (iK 0)) sSkip)) (sSeq (sForget 4) (sInc 3 1)))
theorem olX5_agrees_1 (g : GT) {pcB pcC : Nat} : Sok g (tX5_agrees 2) 2 79 pcB pcC (lX5_agrees_1) := (Sok.loop (pc := 2) (pc1 := 16) (pc2 := 73) (pcN := 79) (Cok.and (pc1 := 10) (Cok.cmp (pc1 := 3) (pc2 := 7) (pcT := 10) (pcF := 79) (EokI.iload_n (q := 3) dX5_agrees_2) (EokI.getf (pc1 := 4) (j := 12) (ci := 5) (T := TX5) (N := 13) (EokR.aload_n (q := 0) dX5_agrees_3) rfl wsX5_in (by decide) flX5_47 dX5_agrees_4) (JI.ltF (tgt := 79) dX5_agrees_7 (by decide))) (Cok.cmp (pc1 := 11) (pc2 := 13) (pcT := 16) (pcF := 79) (EokI.iload_n (q := 3) dX5_agrees_10) (EokI.bipush (v := 8) dX5_agrees_11 (by decide)) (JI.ltF (tgt := 79) dX5_agrees_13 (by decide)))) (by decide) (Sok.seq (pc1 := 50) (Sok.setI (i := 4) (pc1 := 48) (EokI.cond' (pc1 := 43) (pc2 := 47) (Cok.cmp (pc1 := 29) (pc2 := 40) (pcT := 43) (pcF := 47) (EokI.iCallV (pc1 := 26) (Aok.aR (pc1 := 17) (EokR.aload_n (q := 1) dX5_agrees_16) (Aok.aI (pc1 := 18) (EokI.iload_n (q := 2) dX5_agrees_17) (Aok.aI (pc1 := 26) (EokI.bin (pc1 := 24) (pc2 := 25) (EokI.iALd (pc1 := 22) (pc2 := 23) (EokR.getf (pc1 := 19) (j := 2) (ci := 5) (T := TX5) (N := 13) (EokR.aload_n (q := 0) dX5_agrees_18) rfl wsX5_in (by decide) flX5_18 dX5_agrees_19) (EokI.iload_n (q := 3) dX5_agrees_22) dX5_agrees_23) (EokI.iconst (v := 5) dX5_agrees_24 (by decide)) (OPI.ishr dX5_agrees_25)) Aok.nil))) (kX0_loadsIn g) rfl ykX0_loadsIn vkX5_59 (by decide) (by decide) dX5_agrees_26) (EokI.bin (pc1 := 37) (pc2 := 39) (EokI.bin (pc1 := 35) (pc2 := 36) (EokI.iALd (pc1 := 33) (pc2 := 34) (EokR.getf (pc1 := 30) (j := 2) (ci := 5) (T := TX5) (N := 13) (EokR.aload_n (q := 0) dX5_agrees_29) rfl wsX5_in (by decide) flX5_18 dX5_agrees_30) (EokI.iload_n (q := 3) dX5_agrees_33) dX5_agrees_34) (EokI.iconst (v := 1) dX5_agrees_35 (by decide)) (OPI.ishr dX5_agrees_36)) (EokI.bipush (v := 15) dX5_agrees_37 (by decide)) (OPI.iand dX5_agrees_39)) (JI.geF (tgt := 47) dX5_agrees_40 (by decide))) (EokI.goto (pc1 := 44) (pc2 := 48) (EokI.iconst (v := 1) dX5_agrees_43 (by decide)) dX5_agrees_44 (by decide)) (EokI.iconst (v := 0) dX5_agrees_47 (by decide))) (by decide) dX5_agrees_48 (show 4 < 5 by decide)) (Sok.ite (pc1 := 71) (pc2 := 73) (Cok.cmp (pc1 := 52) (pc2 := 68) (pcT := 71) (pcF := 73) (EokI.iload (i := 4) dX5_agrees_50) (EokI.cond' (pc1 := 63) (pc2 := 67) (Cok.zero (pc1 := 60) (pcT := 63) (pcF := 67) (EokI.bin (pc1 := 58) (pc2 := 59) (EokI.iALd (pc1 := 56) (pc2 := 57) (EokR.getf (pc1 := 53) (j := 2) (ci := 5) (T := TX5) (N := 13) (EokR.aload_n (q := 0) dX5_agrees_52) rfl wsX5_in (by decide) flX5_18 dX5_agrees_53) (EokI.iload_n (q := 3) dX5_agrees_56) dX5_agrees_57) (EokI.iconst (v := 1) dX5_agrees_58 (by decide)) (OPI.iand dX5_agrees_59)) (JZ.neF (tgt := 67) dX5_agrees_60 (by decide))) (EokI.goto (pc1 := 64) (pc2 := 68) (EokI.iconst (v := 1) dX5_agrees_63 (by decide)) dX5_agrees_64 (by decide)) (EokI.iconst (v := 0) dX5_agrees_67 (by decide))) (JI.neF (tgt := 73) dX5_agrees_68 (by decide))) (by decide) (Sok.retZ (pc1 := 72) (EokI.iconst (v := 0) dX5_agrees_71 (by decide)) (by decide) dX5_agrees_72 rfl) (Sok.skip (pc := 73)))) (Sok.seq (pc1 := 73) Sok.forget (Sok.goto (pc1 := 76) (pcN := 2) (Sok.iinc (i := 3) (v := 1) dX5_agrees_73 (show 3 < 5 by decide) (by decide)) dX5_agrees_76 (by decide))))
def mX5_agrees : MX := bodyOf 5 (sSeq (sSeq (sSeq (sSetI 3 (iK 0)) lX5_agrees_1) (sForget 3)) (sRetZ (iK 1)))
theorem kX5_agrees (g : GT) : MK g 2 yX5_agrees cX5_agrees 5 (some .boolean) mX5_agrees := MK.of (pcN := 99999) (pcB := 0) (pcC := 0) rfl (Sok.seq (pc1 := 79) (Sok.seq (pc1 := 79) (Sok.seq (pc1 := 2) (Sok.setI_n (q := 3) (pc1 := 1) (EokI.iconst (v := 0) dX5_agrees_0 (by decide)) (by decide) dX5_agrees_1 (show 3 < 5 by decide)) (olX5_agrees_1 g )) (Sok.forget (pc := 79))) (Sok.retZ (pc1 := 80) (EokI.iconst (v := 1) dX5_agrees_79 (by decide)) (by decide) dX5_agrees_80 rfl))
/-! PassHuts$Story.stirred(J)J -/
theorem dX5_stirred_0 : decode cX5_stirred 0 = .ok (.lload_n 0, 1) := by decide +kernel
theorem dX5_stirred_1 : decode cX5_stirred 1 = .ok (.ldc2_w 89, 3) := by decide +kernel
theorem dX5_stirred_4 : decode cX5_stirred 4 = .ok (.lmul, 1) := by decide +kernel
theorem dX5_stirred_5 : decode cX5_stirred 5 = .ok (.ldc2_w 91, 3) := by decide +kernel
theorem dX5_stirred_8 : decode cX5_stirred 8 = .ok (.ladd, 1) := by decide +kernel
theorem dX5_stirred_9 : decode cX5_stirred 9 = .ok (.ldc2_w 93, 3) := by decide +kernel
theorem dX5_stirred_12 : decode cX5_stirred 12 = .ok (.lrem, 1) := by decide +kernel
theorem dX5_stirred_13 : decode cX5_stirred 13 = .ok (.lreturn, 1) := by decide +kernel
abbrev tX5_stirred (k : Nat) : MT := (RX5, cX5_stirred, 2, k, (some .long))
def mX5_stirred : MX := bodyOf 2 (sRetL (lB gNZL jlrem (lB gT2 (· + ·) (lB gT2 (· * ·) (lLoc 0) (lK 1103515245)) (lK 12345)) (lK 2147483648)))
theorem kX5_stirred (g : GT) : MK g 0 yX5_stirred cX5_stirred 2 (some .long) mX5_stirred := MK.of (pcN := 99999) (pcB := 0) (pcC := 0) rfl (Sok.retL (pc1 := 13) (EokL.bin (pc1 := 9) (pc2 := 12) (EokL.bin (pc1 := 5) (pc2 := 8) (EokL.bin (pc1 := 1) (pc2 := 4) (EokL.lload_n (q := 0) dX5_stirred_0) (EokL.ldc2 (v := 1103515245) ckX5_89 dX5_stirred_1) (OPL.lmul dX5_stirred_4)) (EokL.ldc2 (v := 12345) ckX5_91 dX5_stirred_5) (OPL.ladd dX5_stirred_8)) (EokL.ldc2 (v := 2147483648) ckX5_93 dX5_stirred_9) (OPL.lrem dX5_stirred_12)) (by decide) dX5_stirred_13 rfl)
/-! PassHuts$Story.drawn(JI)I -/
theorem dX5_drawn_0 : decode cX5_drawn 0 = .ok (.iload_n 2, 1) := by decide +kernel
theorem dX5_drawn_1 : decode cX5_drawn 1 = .ok (.ifCond .le 15, 3) := by decide +kernel
theorem dX5_drawn_4 : decode cX5_drawn 4 = .ok (.lload_n 0, 1) := by decide +kernel
theorem dX5_drawn_5 : decode cX5_drawn 5 = .ok (.ldc2_w 95, 3) := by decide +kernel
theorem dX5_drawn_8 : decode cX5_drawn 8 = .ok (.ldiv, 1) := by decide +kernel
theorem dX5_drawn_9 : decode cX5_drawn 9 = .ok (.iload_n 2, 1) := by decide +kernel
theorem dX5_drawn_10 : decode cX5_drawn 10 = .ok (.i2l, 1) := by decide +kernel
theorem dX5_drawn_11 : decode cX5_drawn 11 = .ok (.lrem, 1) := by decide +kernel
theorem dX5_drawn_12 : decode cX5_drawn 12 = .ok (.l2i, 1) := by decide +kernel
theorem dX5_drawn_13 : decode cX5_drawn 13 = .ok (.goto 4, 3) := by decide +kernel
theorem dX5_drawn_16 : decode cX5_drawn 16 = .ok (.iconst 0, 1) := by decide +kernel
theorem dX5_drawn_17 : decode cX5_drawn 17 = .ok (.ireturn, 1) := by decide +kernel
abbrev tX5_drawn (k : Nat) : MT := (RX5, cX5_drawn, 3, k, (some .int))
def mX5_drawn : MX := bodyOf 3 (sRetI (iCond (cZ zgt (iLoc 2)) (iOfL (lB gNZL jlrem (lB gNZL (· / ·) (lLoc 0) (lK 65536)) (lOfI (iLoc 2)))) (iK 0)))
theorem kX5_drawn (g : GT) : MK g 0 yX5_drawn cX5_drawn 3 (some .int) mX5_drawn := MK.of (pcN := 99999) (pcB := 0) (pcC := 0) rfl (Sok.retI (pc1 := 17) (EokI.cond' (pc1 := 4) (pc2 := 16) (Cok.zero (pc1 := 1) (pcT := 4) (pcF := 16) (EokI.iload_n (q := 2) dX5_drawn_0) (JZ.gtF (tgt := 16) dX5_drawn_1 (by decide))) (EokI.goto (pc1 := 13) (pc2 := 17) (EokI.l2i (pc1 := 12) (EokL.bin (pc1 := 9) (pc2 := 11) (EokL.bin (pc1 := 5) (pc2 := 8) (EokL.lload_n (q := 0) dX5_drawn_4) (EokL.ldc2 (v := 65536) ckX5_95 dX5_drawn_5) (OPL.ldiv dX5_drawn_8)) (EokL.i2l (pc1 := 10) (EokI.iload_n (q := 2) dX5_drawn_9) dX5_drawn_10) (OPL.lrem dX5_drawn_11)) dX5_drawn_12) dX5_drawn_13 (by decide)) (EokI.iconst (v := 0) dX5_drawn_16 (by decide))) (by decide) dX5_drawn_17 rfl)
/-! PassHuts$Story.drawSeasons(LPassHuts$Hills;III)I -/
theorem dX5_drawSeasons_0 : decode cX5_drawSeasons 0 = .ok (.aload_n 0, 1) := by decide +kernel
theorem dX5_drawSeasons_1 : decode cX5_drawSeasons 1 = .ok (.getfield 37, 3) := by decide +kernel
theorem dX5_drawSeasons_4 : decode cX5_drawSeasons 4 = .ok (.istore 5, 2) := by decide +kernel
theorem dX5_drawSeasons_6 : decode cX5_drawSeasons 6 = .ok (.iconst 0, 1) := by decide +kernel
theorem dX5_drawSeasons_7 : decode cX5_drawSeasons 7 = .ok (.istore 6, 2) := by decide +kernel
theorem dX5_drawSeasons_9 : decode cX5_drawSeasons 9 = .ok (.iload_n 2, 1) := by decide +kernel
theorem dX5_drawSeasons_10 : decode cX5_drawSeasons 10 = .ok (.i2l, 1) := by decide +kernel
theorem dX5_drawSeasons_11 : decode cX5_drawSeasons 11 = .ok (.lstore 7, 2) := by decide +kernel
theorem dX5_drawSeasons_13 : decode cX5_drawSeasons 13 = .ok (.iconst 0, 1) := by decide +kernel
theorem dX5_drawSeasons_14 : decode cX5_drawSeasons 14 = .ok (.istore 9, 2) := by decide +kernel
theorem dX5_drawSeasons_16 : decode cX5_drawSeasons 16 = .ok (.iload 9, 2) := by decide +kernel
theorem dX5_drawSeasons_18 : decode cX5_drawSeasons 18 = .ok (.iload_n 3, 1) := by decide +kernel
theorem dX5_drawSeasons_19 : decode cX5_drawSeasons 19 = .ok (.if_icmp .ge 128, 3) := by decide +kernel
theorem dX5_drawSeasons_22 : decode cX5_drawSeasons 22 = .ok (.aload_n 1, 1) := by decide +kernel
theorem dX5_drawSeasons_23 : decode cX5_drawSeasons 23 = .ok (.getfield 64, 3) := by decide +kernel
theorem dX5_drawSeasons_26 : decode cX5_drawSeasons 26 = .ok (.ifCond .le 121, 3) := by decide +kernel
theorem dX5_drawSeasons_29 : decode cX5_drawSeasons 29 = .ok (.lload 7, 2) := by decide +kernel
theorem dX5_drawSeasons_31 : decode cX5_drawSeasons 31 = .ok (.invokestatic 67, 3) := by decide +kernel
theorem dX5_drawSeasons_34 : decode cX5_drawSeasons 34 = .ok (.lstore 7, 2) := by decide +kernel
theorem dX5_drawSeasons_36 : decode cX5_drawSeasons 36 = .ok (.lload 7, 2) := by decide +kernel
theorem dX5_drawSeasons_38 : decode cX5_drawSeasons 38 = .ok (.aload_n 1, 1) := by decide +kernel
theorem dX5_drawSeasons_39 : decode cX5_drawSeasons 39 = .ok (.getfield 64, 3) := by decide +kernel
theorem dX5_drawSeasons_42 : decode cX5_drawSeasons 42 = .ok (.invokestatic 71, 3) := by decide +kernel
theorem dX5_drawSeasons_45 : decode cX5_drawSeasons 45 = .ok (.istore 10, 2) := by decide +kernel
theorem dX5_drawSeasons_47 : decode cX5_drawSeasons 47 = .ok (.lload 7, 2) := by decide +kernel
theorem dX5_drawSeasons_49 : decode cX5_drawSeasons 49 = .ok (.invokestatic 67, 3) := by decide +kernel
theorem dX5_drawSeasons_52 : decode cX5_drawSeasons 52 = .ok (.lstore 7, 2) := by decide +kernel
theorem dX5_drawSeasons_54 : decode cX5_drawSeasons 54 = .ok (.lload 7, 2) := by decide +kernel
theorem dX5_drawSeasons_56 : decode cX5_drawSeasons 56 = .ok (.aload_n 1, 1) := by decide +kernel
theorem dX5_drawSeasons_57 : decode cX5_drawSeasons 57 = .ok (.getfield 64, 3) := by decide +kernel
theorem dX5_drawSeasons_60 : decode cX5_drawSeasons 60 = .ok (.invokestatic 71, 3) := by decide +kernel
theorem dX5_drawSeasons_63 : decode cX5_drawSeasons 63 = .ok (.istore 11, 2) := by decide +kernel
theorem dX5_drawSeasons_65 : decode cX5_drawSeasons 65 = .ok (.lload 7, 2) := by decide +kernel
theorem dX5_drawSeasons_67 : decode cX5_drawSeasons 67 = .ok (.invokestatic 67, 3) := by decide +kernel
theorem dX5_drawSeasons_70 : decode cX5_drawSeasons 70 = .ok (.lstore 7, 2) := by decide +kernel
theorem dX5_drawSeasons_72 : decode cX5_drawSeasons 72 = .ok (.lload 7, 2) := by decide +kernel
theorem dX5_drawSeasons_74 : decode cX5_drawSeasons 74 = .ok (.iconst 4, 1) := by decide +kernel
theorem dX5_drawSeasons_75 : decode cX5_drawSeasons 75 = .ok (.invokestatic 71, 3) := by decide +kernel
theorem dX5_drawSeasons_78 : decode cX5_drawSeasons 78 = .ok (.iconst 3, 1) := by decide +kernel
theorem dX5_drawSeasons_79 : decode cX5_drawSeasons 79 = .ok (.if_icmp .ge 7, 3) := by decide +kernel
theorem dX5_drawSeasons_82 : decode cX5_drawSeasons 82 = .ok (.iconst 1, 1) := by decide +kernel
theorem dX5_drawSeasons_83 : decode cX5_drawSeasons 83 = .ok (.goto 4, 3) := by decide +kernel
theorem dX5_drawSeasons_86 : decode cX5_drawSeasons 86 = .ok (.iconst 0, 1) := by decide +kernel
theorem dX5_drawSeasons_87 : decode cX5_drawSeasons 87 = .ok (.istore 12, 2) := by decide +kernel
theorem dX5_drawSeasons_89 : decode cX5_drawSeasons 89 = .ok (.iload 12, 2) := by decide +kernel
theorem dX5_drawSeasons_91 : decode cX5_drawSeasons 91 = .ok (.ifCond .eq 16, 3) := by decide +kernel
theorem dX5_drawSeasons_94 : decode cX5_drawSeasons 94 = .ok (.aload_n 1, 1) := by decide +kernel
theorem dX5_drawSeasons_95 : decode cX5_drawSeasons 95 = .ok (.iload 5, 2) := by decide +kernel
theorem dX5_drawSeasons_97 : decode cX5_drawSeasons 97 = .ok (.iload 10, 2) := by decide +kernel
theorem dX5_drawSeasons_99 : decode cX5_drawSeasons 99 = .ok (.iload 11, 2) := by decide +kernel
theorem dX5_drawSeasons_101 : decode cX5_drawSeasons 101 = .ok (.invokevirtual 75, 3) := by decide +kernel
theorem dX5_drawSeasons_104 : decode cX5_drawSeasons 104 = .ok (.goto 11, 3) := by decide +kernel
theorem dX5_drawSeasons_107 : decode cX5_drawSeasons 107 = .ok (.aload_n 1, 1) := by decide +kernel
theorem dX5_drawSeasons_108 : decode cX5_drawSeasons 108 = .ok (.iload 5, 2) := by decide +kernel
theorem dX5_drawSeasons_110 : decode cX5_drawSeasons 110 = .ok (.iload 10, 2) := by decide +kernel
theorem dX5_drawSeasons_112 : decode cX5_drawSeasons 112 = .ok (.invokevirtual 79, 3) := by decide +kernel
theorem dX5_drawSeasons_115 : decode cX5_drawSeasons 115 = .ok (.istore 13, 2) := by decide +kernel
theorem dX5_drawSeasons_117 : decode cX5_drawSeasons 117 = .ok (.iload 13, 2) := by decide +kernel
theorem dX5_drawSeasons_119 : decode cX5_drawSeasons 119 = .ok (.ifCond .lt 22, 3) := by decide +kernel
theorem dX5_drawSeasons_122 : decode cX5_drawSeasons 122 = .ok (.iload 13, 2) := by decide +kernel
theorem dX5_drawSeasons_124 : decode cX5_drawSeasons 124 = .ok (.istore 5, 2) := by decide +kernel
theorem dX5_drawSeasons_126 : decode cX5_drawSeasons 126 = .ok (.iload 6, 2) := by decide +kernel
theorem dX5_drawSeasons_128 : decode cX5_drawSeasons 128 = .ok (.iload 12, 2) := by decide +kernel
theorem dX5_drawSeasons_130 : decode cX5_drawSeasons 130 = .ok (.ifCond .eq 7, 3) := by decide +kernel
theorem dX5_drawSeasons_133 : decode cX5_drawSeasons 133 = .ok (.iconst 1, 1) := by decide +kernel
theorem dX5_drawSeasons_134 : decode cX5_drawSeasons 134 = .ok (.goto 4, 3) := by decide +kernel
theorem dX5_drawSeasons_137 : decode cX5_drawSeasons 137 = .ok (.iconst 0, 1) := by decide +kernel
theorem dX5_drawSeasons_138 : decode cX5_drawSeasons 138 = .ok (.iadd, 1) := by decide +kernel
theorem dX5_drawSeasons_139 : decode cX5_drawSeasons 139 = .ok (.istore 6, 2) := by decide +kernel
theorem dX5_drawSeasons_141 : decode cX5_drawSeasons 141 = .ok (.iinc 9 1, 3) := by decide +kernel
theorem dX5_drawSeasons_144 : decode cX5_drawSeasons 144 = .ok (.goto (-128), 3) := by decide +kernel
theorem dX5_drawSeasons_147 : decode cX5_drawSeasons 147 = .ok (.iload 4, 2) := by decide +kernel
theorem dX5_drawSeasons_149 : decode cX5_drawSeasons 149 = .ok (.ifCond .ne 6, 3) := by decide +kernel
theorem dX5_drawSeasons_152 : decode cX5_drawSeasons 152 = .ok (.iload 6, 2) := by decide +kernel
theorem dX5_drawSeasons_154 : decode cX5_drawSeasons 154 = .ok (.ireturn, 1) := by decide +kernel
theorem dX5_drawSeasons_155 : decode cX5_drawSeasons 155 = .ok (.iload 4, 2) := by decide +kernel
theorem dX5_drawSeasons_157 : decode cX5_drawSeasons 157 = .ok (.iconst 1, 1) := by decide +kernel
theorem dX5_drawSeasons_158 : decode cX5_drawSeasons 158 = .ok (.if_icmp .ne 12, 3) := by decide +kernel
theorem dX5_drawSeasons_161 : decode cX5_drawSeasons 161 = .ok (.aload_n 1, 1) := by decide +kernel
theorem dX5_drawSeasons_162 : decode cX5_drawSeasons 162 = .ok (.iload 5, 2) := by decide +kernel
theorem dX5_drawSeasons_164 : decode cX5_drawSeasons 164 = .ok (.invokevirtual 82, 3) := by decide +kernel
theorem dX5_drawSeasons_167 : decode cX5_drawSeasons 167 = .ok (.goto 9, 3) := by decide +kernel
theorem dX5_drawSeasons_170 : decode cX5_drawSeasons 170 = .ok (.aload_n 1, 1) := by decide +kernel
theorem dX5_drawSeasons_171 : decode cX5_drawSeasons 171 = .ok (.iload 5, 2) := by decide +kernel
theorem dX5_drawSeasons_173 : decode cX5_drawSeasons 173 = .ok (.invokevirtual 86, 3) := by decide +kernel
theorem dX5_drawSeasons_176 : decode cX5_drawSeasons 176 = .ok (.ireturn, 1) := by decide +kernel
abbrev tX5_drawSeasons (k : Nat) : MT := (RX5, cX5_drawSeasons, 14, k, (some .int))
def lX5_drawSeasons_1 : SX := (sLoop (cAnd (cB rlt (iLoc 9) (iLoc 3)) (cZ zgt (iGet 0 3 (rLoc 1)))) (sSeq (sSetL 7 (lCallS mX5_stirred (aL (lLoc 7) aNil))) (sSeq (sSetI 10 (iCallS mX5_drawn (aL (lLoc 7) (aI (iGet 0 3 (rLoc 1)) aNil)))) (sSeq (sSetL 7 (lCallS mX5_stirred (aL (lLoc 7) aNil))) (sSeq (sSetI 11 (iCallS mX5_drawn (aL (lLoc 7) (aI (iGet 0 3 (rLoc 1)) aNil)))) (sSeq (sSetL 7 (lCallS mX5_stirred (aL (lLoc 7) aNil))) (sSeq (sSetI 12 (iBool (cB rlt (iCallS mX5_drawn (aL (lLoc 7) (aI (iK 4) aNil))) (iK 3)))) (sSeq (sSetI 13 (iCond (cZ zne (iLoc 12)) (iCallV 0 mX0_afterCarrying (aR (rLoc 1) (aI (iLoc 5) (aI (iLoc 10) (aI (iLoc 11) aNil))))) (iCallV 0 mX0_afterLaying (aR (rLoc 1) (aI (iLoc 5) (aI (iLoc 10) aNil)))))) (sIf (cZ zge (iLoc 13)) (sSeq (sSetI 5 (iLoc 13)) (sSetI 6 (iB gT2 (· + ·) (iLoc 6) (iCond (cZ zne (iLoc 12)) (iK 1) (iK 0))))) sSkip)))))))) (sSeq (sForget 10) (sInc 9 1)))
theorem olX5_drawSeasons_1 (g : GT) {pcB pcC : Nat} : Sok g (tX5_drawSeasons 5) 16 147 pcB pcC (lX5_drawSeasons_1) := (Sok.loop (pc := 16) (pc1 := 29) (pc2 := 141) (pcN := 147) (Cok.and (pc1 := 22) (Cok.cmp (pc1 := 18) (pc2 := 19) (pcT := 22) (pcF := 147) (EokI.iload (i := 9) dX5_drawSeasons_16) (EokI.iload_n (q := 3) dX5_drawSeasons_18) (JI.ltF (tgt := 147) dX5_drawSeasons_19 (by decide))) (Cok.zero (pc1 := 26) (pcT := 29) (pcF := 147) (EokI.getf (pc1 := 23) (j := 3) (ci := 0) (T := TX0) (N := 17) (EokR.aload_n (q := 1) dX5_drawSeasons_22) rfl wsX0_in (by decide) flX5_64 dX5_drawSeasons_23) (JZ.gtF (tgt := 147) dX5_drawSeasons_26 (by decide)))) (by decide) (Sok.seq (pc1 := 36) (Sok.setL (i := 7) (pc1 := 34) (EokL.lCallS (pc1 := 31) (Aok.aL (pc1 := 31) (EokL.lload (i := 7) dX5_drawSeasons_29) Aok.nil) (kX5_stirred g) ykX5_stirred skX5_67 (by decide) (by decide) dX5_drawSeasons_31) (by decide) dX5_drawSeasons_34 (show 8 < 14 by decide)) (Sok.seq (pc1 := 47) (Sok.setI (i := 10) (pc1 := 45) (EokI.iCallS (pc1 := 42) (Aok.aL (pc1 := 38) (EokL.lload (i := 7) dX5_drawSeasons_36) (Aok.aI (pc1 := 42) (EokI.getf (pc1 := 39) (j := 3) (ci := 0) (T := TX0) (N := 17) (EokR.aload_n (q := 1) dX5_drawSeasons_38) rfl wsX0_in (by decide) flX5_64 dX5_drawSeasons_39) Aok.nil)) (kX5_drawn g) ykX5_drawn skX5_71 (by decide) (by decide) dX5_drawSeasons_42) (by decide) dX5_drawSeasons_45 (show 10 < 14 by decide)) (Sok.seq (pc1 := 54) (Sok.setL (i := 7) (pc1 := 52) (EokL.lCallS (pc1 := 49) (Aok.aL (pc1 := 49) (EokL.lload (i := 7) dX5_drawSeasons_47) Aok.nil) (kX5_stirred g) ykX5_stirred skX5_67 (by decide) (by decide) dX5_drawSeasons_49) (by decide) dX5_drawSeasons_52 (show 8 < 14 by decide)) (Sok.seq (pc1 := 65) (Sok.setI (i := 11) (pc1 := 63) (EokI.iCallS (pc1 := 60) (Aok.aL (pc1 := 56) (EokL.lload (i := 7) dX5_drawSeasons_54) (Aok.aI (pc1 := 60) (EokI.getf (pc1 := 57) (j := 3) (ci := 0) (T := TX0) (N := 17) (EokR.aload_n (q := 1) dX5_drawSeasons_56) rfl wsX0_in (by decide) flX5_64 dX5_drawSeasons_57) Aok.nil)) (kX5_drawn g) ykX5_drawn skX5_71 (by decide) (by decide) dX5_drawSeasons_60) (by decide) dX5_drawSeasons_63 (show 11 < 14 by decide)) (Sok.seq (pc1 := 72) (Sok.setL (i := 7) (pc1 := 70) (EokL.lCallS (pc1 := 67) (Aok.aL (pc1 := 67) (EokL.lload (i := 7) dX5_drawSeasons_65) Aok.nil) (kX5_stirred g) ykX5_stirred skX5_67 (by decide) (by decide) dX5_drawSeasons_67) (by decide) dX5_drawSeasons_70 (show 8 < 14 by decide)) (Sok.seq (pc1 := 89) (Sok.setI (i := 12) (pc1 := 87) (EokI.cond' (pc1 := 82) (pc2 := 86) (Cok.cmp (pc1 := 78) (pc2 := 79) (pcT := 82) (pcF := 86) (EokI.iCallS (pc1 := 75) (Aok.aL (pc1 := 74) (EokL.lload (i := 7) dX5_drawSeasons_72) (Aok.aI (pc1 := 75) (EokI.iconst (v := 4) dX5_drawSeasons_74 (by decide)) Aok.nil)) (kX5_drawn g) ykX5_drawn skX5_71 (by decide) (by decide) dX5_drawSeasons_75) (EokI.iconst (v := 3) dX5_drawSeasons_78 (by decide)) (JI.ltF (tgt := 86) dX5_drawSeasons_79 (by decide))) (EokI.goto (pc1 := 83) (pc2 := 87) (EokI.iconst (v := 1) dX5_drawSeasons_82 (by decide)) dX5_drawSeasons_83 (by decide)) (EokI.iconst (v := 0) dX5_drawSeasons_86 (by decide))) (by decide) dX5_drawSeasons_87 (show 12 < 14 by decide)) (Sok.seq (pc1 := 117) (Sok.setI (i := 13) (pc1 := 115) (EokI.cond' (pc1 := 94) (pc2 := 107) (Cok.zero (pc1 := 91) (pcT := 94) (pcF := 107) (EokI.iload (i := 12) dX5_drawSeasons_89) (JZ.neF (tgt := 107) dX5_drawSeasons_91 (by decide))) (EokI.goto (pc1 := 104) (pc2 := 115) (EokI.iCallV (pc1 := 101) (Aok.aR (pc1 := 95) (EokR.aload_n (q := 1) dX5_drawSeasons_94) (Aok.aI (pc1 := 97) (EokI.iload (i := 5) dX5_drawSeasons_95) (Aok.aI (pc1 := 99) (EokI.iload (i := 10) dX5_drawSeasons_97) (Aok.aI (pc1 := 101) (EokI.iload (i := 11) dX5_drawSeasons_99) Aok.nil)))) (kX0_afterCarrying g) rfl ykX0_afterCarrying vkX5_75 (by decide) (by decide) dX5_drawSeasons_101) dX5_drawSeasons_104 (by decide)) (EokI.iCallV (pc1 := 112) (Aok.aR (pc1 := 108) (EokR.aload_n (q := 1) dX5_drawSeasons_107) (Aok.aI (pc1 := 110) (EokI.iload (i := 5) dX5_drawSeasons_108) (Aok.aI (pc1 := 112) (EokI.iload (i := 10) dX5_drawSeasons_110) Aok.nil))) (kX0_afterLaying g) rfl ykX0_afterLaying vkX5_79 (by decide) (by decide) dX5_drawSeasons_112)) (by decide) dX5_drawSeasons_115 (show 13 < 14 by decide)) (Sok.ite (pc1 := 122) (pc2 := 141) (Cok.zero (pc1 := 119) (pcT := 122) (pcF := 141) (EokI.iload (i := 13) dX5_drawSeasons_117) (JZ.geF (tgt := 141) dX5_drawSeasons_119 (by decide))) (by decide) (Sok.seq (pc1 := 126) (Sok.setI (i := 5) (pc1 := 124) (EokI.iload (i := 13) dX5_drawSeasons_122) (by decide) dX5_drawSeasons_124 (show 5 < 14 by decide)) (Sok.setI (i := 6) (pc1 := 139) (EokI.bin (pc1 := 128) (pc2 := 138) (EokI.iload (i := 6) dX5_drawSeasons_126) (EokI.cond' (pc1 := 133) (pc2 := 137) (Cok.zero (pc1 := 130) (pcT := 133) (pcF := 137) (EokI.iload (i := 12) dX5_drawSeasons_128) (JZ.neF (tgt := 137) dX5_drawSeasons_130 (by decide))) (EokI.goto (pc1 := 134) (pc2 := 138) (EokI.iconst (v := 1) dX5_drawSeasons_133 (by decide)) dX5_drawSeasons_134 (by decide)) (EokI.iconst (v := 0) dX5_drawSeasons_137 (by decide))) (OPI.iadd dX5_drawSeasons_138)) (by decide) dX5_drawSeasons_139 (show 6 < 14 by decide))) (Sok.skip (pc := 141)))))))))) (Sok.seq (pc1 := 141) Sok.forget (Sok.goto (pc1 := 144) (pcN := 16) (Sok.iinc (i := 9) (v := 1) dX5_drawSeasons_141 (show 9 < 14 by decide) (by decide)) dX5_drawSeasons_144 (by decide))))
def mX5_drawSeasons : MX := bodyOf 14 (sSeq (sSetI 5 (iGet 5 9 (rLoc 0))) (sSeq (sSetI 6 (iK 0)) (sSeq (sSetL 7 (lOfI (iLoc 2))) (sSeq (sSeq (sSeq (sSetI 9 (iK 0)) lX5_drawSeasons_1) (sForget 9)) (sSeq (sIf (cZ zeq (iLoc 4)) (sRetI (iLoc 6)) sSkip) (sRetI (iCond (cB req (iLoc 4) (iK 1)) (iCallV 0 mX0_sumOf (aR (rLoc 1) (aI (iLoc 5) aNil))) (iCallV 0 mX0_occupied (aR (rLoc 1) (aI (iLoc 5) aNil))))))))))
theorem kX5_drawSeasons (g : GT) : MK g 5 yX5_drawSeasons cX5_drawSeasons 14 (some .int) mX5_drawSeasons := MK.of (pcN := 99999) (pcB := 0) (pcC := 0) rfl (Sok.seq (pc1 := 6) (Sok.setI (i := 5) (pc1 := 4) (EokI.getf (pc1 := 1) (j := 9) (ci := 5) (T := TX5) (N := 13) (EokR.aload_n (q := 0) dX5_drawSeasons_0) rfl wsX5_in (by decide) flX5_37 dX5_drawSeasons_1) (by decide) dX5_drawSeasons_4 (show 5 < 14 by decide)) (Sok.seq (pc1 := 9) (Sok.setI (i := 6) (pc1 := 7) (EokI.iconst (v := 0) dX5_drawSeasons_6 (by decide)) (by decide) dX5_drawSeasons_7 (show 6 < 14 by decide)) (Sok.seq (pc1 := 13) (Sok.setL (i := 7) (pc1 := 11) (EokL.i2l (pc1 := 10) (EokI.iload_n (q := 2) dX5_drawSeasons_9) dX5_drawSeasons_10) (by decide) dX5_drawSeasons_11 (show 8 < 14 by decide)) (Sok.seq (pc1 := 147) (Sok.seq (pc1 := 147) (Sok.seq (pc1 := 16) (Sok.setI (i := 9) (pc1 := 14) (EokI.iconst (v := 0) dX5_drawSeasons_13 (by decide)) (by decide) dX5_drawSeasons_14 (show 9 < 14 by decide)) (olX5_drawSeasons_1 g )) (Sok.forget (pc := 147))) (Sok.seq (pc1 := 155) (Sok.ite (pc1 := 152) (pc2 := 155) (Cok.zero (pc1 := 149) (pcT := 152) (pcF := 155) (EokI.iload (i := 4) dX5_drawSeasons_147) (JZ.eqF (tgt := 155) dX5_drawSeasons_149 (by decide))) (by decide) (Sok.retI (pc1 := 154) (EokI.iload (i := 6) dX5_drawSeasons_152) (by decide) dX5_drawSeasons_154 rfl) (Sok.skip (pc := 155))) (Sok.retI (pc1 := 176) (EokI.cond' (pc1 := 161) (pc2 := 170) (Cok.cmp (pc1 := 157) (pc2 := 158) (pcT := 161) (pcF := 170) (EokI.iload (i := 4) dX5_drawSeasons_155) (EokI.iconst (v := 1) dX5_drawSeasons_157 (by decide)) (JI.eqF (tgt := 170) dX5_drawSeasons_158 (by decide))) (EokI.goto (pc1 := 167) (pc2 := 176) (EokI.iCallV (pc1 := 164) (Aok.aR (pc1 := 162) (EokR.aload_n (q := 1) dX5_drawSeasons_161) (Aok.aI (pc1 := 164) (EokI.iload (i := 5) dX5_drawSeasons_162) Aok.nil)) (kX0_sumOf g) rfl ykX0_sumOf vkX5_82 (by decide) (by decide) dX5_drawSeasons_164) dX5_drawSeasons_167 (by decide)) (EokI.iCallV (pc1 := 173) (Aok.aR (pc1 := 171) (EokR.aload_n (q := 1) dX5_drawSeasons_170) (Aok.aI (pc1 := 173) (EokI.iload (i := 5) dX5_drawSeasons_171) Aok.nil)) (kX0_occupied g) rfl ykX0_occupied vkX5_86 (by decide) (by decide) dX5_drawSeasons_173)) (by decide) dX5_drawSeasons_176 rfl))))))
/-! PassHuts$Story.backToMark(I)Z -/
theorem dX5_backToMark_0 : decode cX5_backToMark 0 = .ok (.iload_n 1, 1) := by decide +kernel
theorem dX5_backToMark_1 : decode cX5_backToMark 1 = .ok (.ifCond .lt 17, 3) := by decide +kernel
theorem dX5_backToMark_4 : decode cX5_backToMark 4 = .ok (.iload_n 1, 1) := by decide +kernel
theorem dX5_backToMark_5 : decode cX5_backToMark 5 = .ok (.iconst 4, 1) := by decide +kernel
theorem dX5_backToMark_6 : decode cX5_backToMark 6 = .ok (.if_icmp .ge 12, 3) := by decide +kernel
theorem dX5_backToMark_9 : decode cX5_backToMark 9 = .ok (.aload_n 0, 1) := by decide +kernel
theorem dX5_backToMark_10 : decode cX5_backToMark 10 = .ok (.getfield 21, 3) := by decide +kernel
theorem dX5_backToMark_13 : decode cX5_backToMark 13 = .ok (.iload_n 1, 1) := by decide +kernel
theorem dX5_backToMark_14 : decode cX5_backToMark 14 = .ok (.baload, 1) := by decide +kernel
theorem dX5_backToMark_15 : decode cX5_backToMark 15 = .ok (.ifCond .ne 5, 3) := by decide +kernel
theorem dX5_backToMark_18 : decode cX5_backToMark 18 = .ok (.iconst 0, 1) := by decide +kernel
theorem dX5_backToMark_19 : decode cX5_backToMark 19 = .ok (.ireturn, 1) := by decide +kernel
theorem dX5_backToMark_20 : decode cX5_backToMark 20 = .ok (.aload_n 0, 1) := by decide +kernel
theorem dX5_backToMark_21 : decode cX5_backToMark 21 = .ok (.aload_n 0, 1) := by decide +kernel
theorem dX5_backToMark_22 : decode cX5_backToMark 22 = .ok (.getfield 25, 3) := by decide +kernel
theorem dX5_backToMark_25 : decode cX5_backToMark 25 = .ok (.iload_n 1, 1) := by decide +kernel
theorem dX5_backToMark_26 : decode cX5_backToMark 26 = .ok (.iaload, 1) := by decide +kernel
theorem dX5_backToMark_27 : decode cX5_backToMark 27 = .ok (.putfield 37, 3) := by decide +kernel
theorem dX5_backToMark_30 : decode cX5_backToMark 30 = .ok (.aload_n 0, 1) := by decide +kernel
theorem dX5_backToMark_31 : decode cX5_backToMark 31 = .ok (.aload_n 0, 1) := by decide +kernel
theorem dX5_backToMark_32 : decode cX5_backToMark 32 = .ok (.getfield 28, 3) := by decide +kernel
theorem dX5_backToMark_35 : decode cX5_backToMark 35 = .ok (.iload_n 1, 1) := by decide +kernel
theorem dX5_backToMark_36 : decode cX5_backToMark 36 = .ok (.iaload, 1) := by decide +kernel
theorem dX5_backToMark_37 : decode cX5_backToMark 37 = .ok (.putfield 41, 3) := by decide +kernel
theorem dX5_backToMark_40 : decode cX5_backToMark 40 = .ok (.aload_n 0, 1) := by decide +kernel
theorem dX5_backToMark_41 : decode cX5_backToMark 41 = .ok (.aload_n 0, 1) := by decide +kernel
theorem dX5_backToMark_42 : decode cX5_backToMark 42 = .ok (.getfield 31, 3) := by decide +kernel
theorem dX5_backToMark_45 : decode cX5_backToMark 45 = .ok (.iload_n 1, 1) := by decide +kernel
theorem dX5_backToMark_46 : decode cX5_backToMark 46 = .ok (.iaload, 1) := by decide +kernel
theorem dX5_backToMark_47 : decode cX5_backToMark 47 = .ok (.putfield 47, 3) := by decide +kernel
theorem dX5_backToMark_50 : decode cX5_backToMark 50 = .ok (.iconst 0, 1) := by decide +kernel
theorem dX5_backToMark_51 : decode cX5_backToMark 51 = .ok (.istore_n 2, 1) := by decide +kernel
theorem dX5_backToMark_52 : decode cX5_backToMark 52 = .ok (.iload_n 2, 1) := by decide +kernel
theorem dX5_backToMark_53 : decode cX5_backToMark 53 = .ok (.bipush 8, 2) := by decide +kernel
theorem dX5_backToMark_55 : decode cX5_backToMark 55 = .ok (.if_icmp .ge 26, 3) := by decide +kernel
theorem dX5_backToMark_58 : decode cX5_backToMark 58 = .ok (.aload_n 0, 1) := by decide +kernel
theorem dX5_backToMark_59 : decode cX5_backToMark 59 = .ok (.getfield 18, 3) := by decide +kernel
theorem dX5_backToMark_62 : decode cX5_backToMark 62 = .ok (.iload_n 2, 1) := by decide +kernel
theorem dX5_backToMark_63 : decode cX5_backToMark 63 = .ok (.aload_n 0, 1) := by decide +kernel
theorem dX5_backToMark_64 : decode cX5_backToMark 64 = .ok (.getfield 34, 3) := by decide +kernel
theorem dX5_backToMark_67 : decode cX5_backToMark 67 = .ok (.iload_n 1, 1) := by decide +kernel
theorem dX5_backToMark_68 : decode cX5_backToMark 68 = .ok (.bipush 8, 2) := by decide +kernel
theorem dX5_backToMark_70 : decode cX5_backToMark 70 = .ok (.imul, 1) := by decide +kernel
theorem dX5_backToMark_71 : decode cX5_backToMark 71 = .ok (.iload_n 2, 1) := by decide +kernel
theorem dX5_backToMark_72 : decode cX5_backToMark 72 = .ok (.iadd, 1) := by decide +kernel
theorem dX5_backToMark_73 : decode cX5_backToMark 73 = .ok (.iaload, 1) := by decide +kernel
theorem dX5_backToMark_74 : decode cX5_backToMark 74 = .ok (.iastore, 1) := by decide +kernel
theorem dX5_backToMark_75 : decode cX5_backToMark 75 = .ok (.iinc 2 1, 3) := by decide +kernel
theorem dX5_backToMark_78 : decode cX5_backToMark 78 = .ok (.goto (-26), 3) := by decide +kernel
theorem dX5_backToMark_81 : decode cX5_backToMark 81 = .ok (.aload_n 0, 1) := by decide +kernel
theorem dX5_backToMark_82 : decode cX5_backToMark 82 = .ok (.iconst 0, 1) := by decide +kernel
theorem dX5_backToMark_83 : decode cX5_backToMark 83 = .ok (.putfield 44, 3) := by decide +kernel
theorem dX5_backToMark_86 : decode cX5_backToMark 86 = .ok (.iconst 1, 1) := by decide +kernel
theorem dX5_backToMark_87 : decode cX5_backToMark 87 = .ok (.ireturn, 1) := by decide +kernel
abbrev tX5_backToMark (k : Nat) : MT := (RX5, cX5_backToMark, 3, k, (some .boolean))
def lX5_backToMark_1 : SX := (sLoop (cB rlt (iLoc 2) (iK 8)) (sASt 0 narI (rGet 5 2 (rLoc 0)) (iLoc 2) (iALd (rGet 5 7 (rLoc 0)) (iB gT2 (· + ·) (iB gT2 (· * ·) (iLoc 1) (iK 8)) (iLoc 2)))) (sInc 2 1))
theorem olX5_backToMark_1 (g : GT) {pcB pcC : Nat} : Sok g (tX5_backToMark 0) 52 81 pcB pcC (lX5_backToMark_1) := (Sok.loop (pc := 52) (pc1 := 58) (pc2 := 75) (pcN := 81) (Cok.cmp (pc1 := 53) (pc2 := 55) (pcT := 58) (pcF := 81) (EokI.iload_n (q := 2) dX5_backToMark_52) (EokI.bipush (v := 8) dX5_backToMark_53 (by decide)) (JI.ltF (tgt := 81) dX5_backToMark_55 (by decide))) (by decide) (Sok.iASt (pc1 := 62) (pc2 := 63) (pc3 := 74) (EokR.getf (pc1 := 59) (j := 2) (ci := 5) (T := TX5) (N := 13) (EokR.aload_n (q := 0) dX5_backToMark_58) rfl wsX5_in (by decide) flX5_18 dX5_backToMark_59) (EokI.iload_n (q := 2) dX5_backToMark_62) (EokI.iALd (pc1 := 67) (pc2 := 73) (EokR.getf (pc1 := 64) (j := 7) (ci := 5) (T := TX5) (N := 13) (EokR.aload_n (q := 0) dX5_backToMark_63) rfl wsX5_in (by decide) flX5_34 dX5_backToMark_64) (EokI.bin (pc1 := 71) (pc2 := 72) (EokI.bin (pc1 := 68) (pc2 := 70) (EokI.iload_n (q := 1) dX5_backToMark_67) (EokI.bipush (v := 8) dX5_backToMark_68 (by decide)) (OPI.imul dX5_backToMark_70)) (EokI.iload_n (q := 2) dX5_backToMark_71) (OPI.iadd dX5_backToMark_72)) dX5_backToMark_73) (by decide) dX5_backToMark_74) (Sok.goto (pc1 := 78) (pcN := 52) (Sok.iinc (i := 2) (v := 1) dX5_backToMark_75 (show 2 < 3 by decide) (by decide)) dX5_backToMark_78 (by decide)))
def mX5_backToMark : MX := bodyOf 3 (sSeq (sIf (cOr (cOr (cZ zlt (iLoc 1)) (cB rge (iLoc 1) (iK 4))) (cNot (cZ zne (zALd (rGet 5 3 (rLoc 0)) (iLoc 1))))) (sRetZ (iK 0)) sSkip) (sSeq (sPutI 5 9 .int (rLoc 0) (iALd (rGet 5 4 (rLoc 0)) (iLoc 1))) (sSeq (sPutI 5 10 .int (rLoc 0) (iALd (rGet 5 5 (rLoc 0)) (iLoc 1))) (sSeq (sPutI 5 12 .int (rLoc 0) (iALd (rGet 5 6 (rLoc 0)) (iLoc 1))) (sSeq (sSeq (sSeq (sSetI 2 (iK 0)) lX5_backToMark_1) (sForget 2)) (sSeq (sPutI 5 11 .int (rLoc 0) (iK 0)) (sRetZ (iK 1))))))))
theorem kX5_backToMark (g : GT) : MK g 0 yX5_backToMark cX5_backToMark 3 (some .boolean) mX5_backToMark := MK.of (pcN := 99999) (pcB := 0) (pcC := 0) rfl (Sok.seq (pc1 := 20) (Sok.ite (pc1 := 18) (pc2 := 20) (Cok.or (pc1 := 9) (Cok.or (pc1 := 4) (Cok.zero (pc1 := 1) (pcT := 18) (pcF := 4) (EokI.iload_n (q := 1) dX5_backToMark_0) (JZ.ltT (tgt := 18) dX5_backToMark_1 (by decide))) (Cok.cmp (pc1 := 5) (pc2 := 6) (pcT := 18) (pcF := 9) (EokI.iload_n (q := 1) dX5_backToMark_4) (EokI.iconst (v := 4) dX5_backToMark_5 (by decide)) (JI.geT (tgt := 18) dX5_backToMark_6 (by decide)))) (Cok.not (Cok.zero (pc1 := 15) (pcT := 20) (pcF := 18) (EokI.zALd (pc1 := 13) (pc2 := 14) (EokR.getf (pc1 := 10) (j := 3) (ci := 5) (T := TX5) (N := 13) (EokR.aload_n (q := 0) dX5_backToMark_9) rfl wsX5_in (by decide) flX5_21 dX5_backToMark_10) (EokI.iload_n (q := 1) dX5_backToMark_13) dX5_backToMark_14) (JZ.neT (tgt := 20) dX5_backToMark_15 (by decide))))) (by decide) (Sok.retZ (pc1 := 19) (EokI.iconst (v := 0) dX5_backToMark_18 (by decide)) (by decide) dX5_backToMark_19 rfl) (Sok.skip (pc := 20))) (Sok.seq (pc1 := 30) (Sok.putI (ci := 5) (T := TX5) (NN := 13) (tt := tyX5) (j := 9) (pc1 := 21) (pc2 := 27) (ty := .int) (EokR.aload_n (q := 0) dX5_backToMark_20) (EokI.iALd (pc1 := 25) (pc2 := 26) (EokR.getf (pc1 := 22) (j := 4) (ci := 5) (T := TX5) (N := 13) (EokR.aload_n (q := 0) dX5_backToMark_21) rfl wsX5_in (by decide) flX5_25 dX5_backToMark_22) (EokI.iload_n (q := 1) dX5_backToMark_25) dX5_backToMark_26) (by decide) rfl wsX5_in tyX5_ok nmX5 (by decide) flX5_37 rfl rfl dX5_backToMark_27) (Sok.seq (pc1 := 40) (Sok.putI (ci := 5) (T := TX5) (NN := 13) (tt := tyX5) (j := 10) (pc1 := 31) (pc2 := 37) (ty := .int) (EokR.aload_n (q := 0) dX5_backToMark_30) (EokI.iALd (pc1 := 35) (pc2 := 36) (EokR.getf (pc1 := 32) (j := 5) (ci := 5) (T := TX5) (N := 13) (EokR.aload_n (q := 0) dX5_backToMark_31) rfl wsX5_in (by decide) flX5_28 dX5_backToMark_32) (EokI.iload_n (q := 1) dX5_backToMark_35) dX5_backToMark_36) (by decide) rfl wsX5_in tyX5_ok nmX5 (by decide) flX5_41 rfl rfl dX5_backToMark_37) (Sok.seq (pc1 := 50) (Sok.putI (ci := 5) (T := TX5) (NN := 13) (tt := tyX5) (j := 12) (pc1 := 41) (pc2 := 47) (ty := .int) (EokR.aload_n (q := 0) dX5_backToMark_40) (EokI.iALd (pc1 := 45) (pc2 := 46) (EokR.getf (pc1 := 42) (j := 6) (ci := 5) (T := TX5) (N := 13) (EokR.aload_n (q := 0) dX5_backToMark_41) rfl wsX5_in (by decide) flX5_31 dX5_backToMark_42) (EokI.iload_n (q := 1) dX5_backToMark_45) dX5_backToMark_46) (by decide) rfl wsX5_in tyX5_ok nmX5 (by decide) flX5_47 rfl rfl dX5_backToMark_47) (Sok.seq (pc1 := 81) (Sok.seq (pc1 := 81) (Sok.seq (pc1 := 52) (Sok.setI_n (q := 2) (pc1 := 51) (EokI.iconst (v := 0) dX5_backToMark_50 (by decide)) (by decide) dX5_backToMark_51 (show 2 < 3 by decide)) (olX5_backToMark_1 g )) (Sok.forget (pc := 81))) (Sok.seq (pc1 := 86) (Sok.putI (ci := 5) (T := TX5) (NN := 13) (tt := tyX5) (j := 11) (pc1 := 82) (pc2 := 83) (ty := .int) (EokR.aload_n (q := 0) dX5_backToMark_81) (EokI.iconst (v := 0) dX5_backToMark_82 (by decide)) (by decide) rfl wsX5_in tyX5_ok nmX5 (by decide) flX5_44 rfl rfl dX5_backToMark_83) (Sok.retZ (pc1 := 87) (EokI.iconst (v := 1) dX5_backToMark_86 (by decide)) (by decide) dX5_backToMark_87 rfl)))))))
/-! PassHuts$Story.layMark(I)Z -/
theorem dX5_layMark_0 : decode cX5_layMark 0 = .ok (.iload_n 1, 1) := by decide +kernel
theorem dX5_layMark_1 : decode cX5_layMark 1 = .ok (.ifCond .lt 8, 3) := by decide +kernel
theorem dX5_layMark_4 : decode cX5_layMark 4 = .ok (.iload_n 1, 1) := by decide +kernel
theorem dX5_layMark_5 : decode cX5_layMark 5 = .ok (.iconst 4, 1) := by decide +kernel
theorem dX5_layMark_6 : decode cX5_layMark 6 = .ok (.if_icmp .lt 5, 3) := by decide +kernel
theorem dX5_layMark_9 : decode cX5_layMark 9 = .ok (.iconst 0, 1) := by decide +kernel
theorem dX5_layMark_10 : decode cX5_layMark 10 = .ok (.ireturn, 1) := by decide +kernel
theorem dX5_layMark_11 : decode cX5_layMark 11 = .ok (.aload_n 0, 1) := by decide +kernel
theorem dX5_layMark_12 : decode cX5_layMark 12 = .ok (.getfield 21, 3) := by decide +kernel
theorem dX5_layMark_15 : decode cX5_layMark 15 = .ok (.iload_n 1, 1) := by decide +kernel
theorem dX5_layMark_16 : decode cX5_layMark 16 = .ok (.iconst 1, 1) := by decide +kernel
theorem dX5_layMark_17 : decode cX5_layMark 17 = .ok (.bastore, 1) := by decide +kernel
theorem dX5_layMark_18 : decode cX5_layMark 18 = .ok (.aload_n 0, 1) := by decide +kernel
theorem dX5_layMark_19 : decode cX5_layMark 19 = .ok (.getfield 25, 3) := by decide +kernel
theorem dX5_layMark_22 : decode cX5_layMark 22 = .ok (.iload_n 1, 1) := by decide +kernel
theorem dX5_layMark_23 : decode cX5_layMark 23 = .ok (.aload_n 0, 1) := by decide +kernel
theorem dX5_layMark_24 : decode cX5_layMark 24 = .ok (.getfield 37, 3) := by decide +kernel
theorem dX5_layMark_27 : decode cX5_layMark 27 = .ok (.iastore, 1) := by decide +kernel
theorem dX5_layMark_28 : decode cX5_layMark 28 = .ok (.aload_n 0, 1) := by decide +kernel
theorem dX5_layMark_29 : decode cX5_layMark 29 = .ok (.getfield 28, 3) := by decide +kernel
theorem dX5_layMark_32 : decode cX5_layMark 32 = .ok (.iload_n 1, 1) := by decide +kernel
theorem dX5_layMark_33 : decode cX5_layMark 33 = .ok (.aload_n 0, 1) := by decide +kernel
theorem dX5_layMark_34 : decode cX5_layMark 34 = .ok (.getfield 41, 3) := by decide +kernel
theorem dX5_layMark_37 : decode cX5_layMark 37 = .ok (.iastore, 1) := by decide +kernel
theorem dX5_layMark_38 : decode cX5_layMark 38 = .ok (.aload_n 0, 1) := by decide +kernel
theorem dX5_layMark_39 : decode cX5_layMark 39 = .ok (.getfield 31, 3) := by decide +kernel
theorem dX5_layMark_42 : decode cX5_layMark 42 = .ok (.iload_n 1, 1) := by decide +kernel
theorem dX5_layMark_43 : decode cX5_layMark 43 = .ok (.aload_n 0, 1) := by decide +kernel
theorem dX5_layMark_44 : decode cX5_layMark 44 = .ok (.getfield 47, 3) := by decide +kernel
theorem dX5_layMark_47 : decode cX5_layMark 47 = .ok (.iastore, 1) := by decide +kernel
theorem dX5_layMark_48 : decode cX5_layMark 48 = .ok (.iconst 0, 1) := by decide +kernel
theorem dX5_layMark_49 : decode cX5_layMark 49 = .ok (.istore_n 2, 1) := by decide +kernel
theorem dX5_layMark_50 : decode cX5_layMark 50 = .ok (.iload_n 2, 1) := by decide +kernel
theorem dX5_layMark_51 : decode cX5_layMark 51 = .ok (.bipush 8, 2) := by decide +kernel
theorem dX5_layMark_53 : decode cX5_layMark 53 = .ok (.if_icmp .ge 26, 3) := by decide +kernel
theorem dX5_layMark_56 : decode cX5_layMark 56 = .ok (.aload_n 0, 1) := by decide +kernel
theorem dX5_layMark_57 : decode cX5_layMark 57 = .ok (.getfield 34, 3) := by decide +kernel
theorem dX5_layMark_60 : decode cX5_layMark 60 = .ok (.iload_n 1, 1) := by decide +kernel
theorem dX5_layMark_61 : decode cX5_layMark 61 = .ok (.bipush 8, 2) := by decide +kernel
theorem dX5_layMark_63 : decode cX5_layMark 63 = .ok (.imul, 1) := by decide +kernel
theorem dX5_layMark_64 : decode cX5_layMark 64 = .ok (.iload_n 2, 1) := by decide +kernel
theorem dX5_layMark_65 : decode cX5_layMark 65 = .ok (.iadd, 1) := by decide +kernel
theorem dX5_layMark_66 : decode cX5_layMark 66 = .ok (.aload_n 0, 1) := by decide +kernel
theorem dX5_layMark_67 : decode cX5_layMark 67 = .ok (.getfield 18, 3) := by decide +kernel
theorem dX5_layMark_70 : decode cX5_layMark 70 = .ok (.iload_n 2, 1) := by decide +kernel
theorem dX5_layMark_71 : decode cX5_layMark 71 = .ok (.iaload, 1) := by decide +kernel
theorem dX5_layMark_72 : decode cX5_layMark 72 = .ok (.iastore, 1) := by decide +kernel
theorem dX5_layMark_73 : decode cX5_layMark 73 = .ok (.iinc 2 1, 3) := by decide +kernel
theorem dX5_layMark_76 : decode cX5_layMark 76 = .ok (.goto (-26), 3) := by decide +kernel
theorem dX5_layMark_79 : decode cX5_layMark 79 = .ok (.iconst 1, 1) := by decide +kernel
theorem dX5_layMark_80 : decode cX5_layMark 80 = .ok (.ireturn, 1) := by decide +kernel
abbrev tX5_layMark (k : Nat) : MT := (RX5, cX5_layMark, 3, k, (some .boolean))
def lX5_layMark_1 : SX := (sLoop (cB rlt (iLoc 2) (iK 8)) (sASt 0 narI (rGet 5 7 (rLoc 0)) (iB gT2 (· + ·) (iB gT2 (· * ·) (iLoc 1) (iK 8)) (iLoc 2)) (iALd (rGet 5 2 (rLoc 0)) (iLoc 2))) (sInc 2 1))
theorem olX5_layMark_1 (g : GT) {pcB pcC : Nat} : Sok g (tX5_layMark 0) 50 79 pcB pcC (lX5_layMark_1) := (Sok.loop (pc := 50) (pc1 := 56) (pc2 := 73) (pcN := 79) (Cok.cmp (pc1 := 51) (pc2 := 53) (pcT := 56) (pcF := 79) (EokI.iload_n (q := 2) dX5_layMark_50) (EokI.bipush (v := 8) dX5_layMark_51 (by decide)) (JI.ltF (tgt := 79) dX5_layMark_53 (by decide))) (by decide) (Sok.iASt (pc1 := 60) (pc2 := 66) (pc3 := 72) (EokR.getf (pc1 := 57) (j := 7) (ci := 5) (T := TX5) (N := 13) (EokR.aload_n (q := 0) dX5_layMark_56) rfl wsX5_in (by decide) flX5_34 dX5_layMark_57) (EokI.bin (pc1 := 64) (pc2 := 65) (EokI.bin (pc1 := 61) (pc2 := 63) (EokI.iload_n (q := 1) dX5_layMark_60) (EokI.bipush (v := 8) dX5_layMark_61 (by decide)) (OPI.imul dX5_layMark_63)) (EokI.iload_n (q := 2) dX5_layMark_64) (OPI.iadd dX5_layMark_65)) (EokI.iALd (pc1 := 70) (pc2 := 71) (EokR.getf (pc1 := 67) (j := 2) (ci := 5) (T := TX5) (N := 13) (EokR.aload_n (q := 0) dX5_layMark_66) rfl wsX5_in (by decide) flX5_18 dX5_layMark_67) (EokI.iload_n (q := 2) dX5_layMark_70) dX5_layMark_71) (by decide) dX5_layMark_72) (Sok.goto (pc1 := 76) (pcN := 50) (Sok.iinc (i := 2) (v := 1) dX5_layMark_73 (show 2 < 3 by decide) (by decide)) dX5_layMark_76 (by decide)))
def mX5_layMark : MX := bodyOf 3 (sSeq (sIf (cOr (cZ zlt (iLoc 1)) (cB rge (iLoc 1) (iK 4))) (sRetZ (iK 0)) sSkip) (sSeq (sASt 3 narZ (rGet 5 3 (rLoc 0)) (iLoc 1) (iK 1)) (sSeq (sASt 0 narI (rGet 5 4 (rLoc 0)) (iLoc 1) (iGet 5 9 (rLoc 0))) (sSeq (sASt 0 narI (rGet 5 5 (rLoc 0)) (iLoc 1) (iGet 5 10 (rLoc 0))) (sSeq (sASt 0 narI (rGet 5 6 (rLoc 0)) (iLoc 1) (iGet 5 12 (rLoc 0))) (sSeq (sSeq (sSeq (sSetI 2 (iK 0)) lX5_layMark_1) (sForget 2)) (sRetZ (iK 1))))))))
theorem kX5_layMark (g : GT) : MK g 0 yX5_layMark cX5_layMark 3 (some .boolean) mX5_layMark := MK.of (pcN := 99999) (pcB := 0) (pcC := 0) rfl (Sok.seq (pc1 := 11) (Sok.ite (pc1 := 9) (pc2 := 11) (Cok.or (pc1 := 4) (Cok.zero (pc1 := 1) (pcT := 9) (pcF := 4) (EokI.iload_n (q := 1) dX5_layMark_0) (JZ.ltT (tgt := 9) dX5_layMark_1 (by decide))) (Cok.cmp (pc1 := 5) (pc2 := 6) (pcT := 9) (pcF := 11) (EokI.iload_n (q := 1) dX5_layMark_4) (EokI.iconst (v := 4) dX5_layMark_5 (by decide)) (JI.geF (tgt := 11) dX5_layMark_6 (by decide)))) (by decide) (Sok.retZ (pc1 := 10) (EokI.iconst (v := 0) dX5_layMark_9 (by decide)) (by decide) dX5_layMark_10 rfl) (Sok.skip (pc := 11))) (Sok.seq (pc1 := 18) (Sok.zASt (pc1 := 15) (pc2 := 16) (pc3 := 17) (EokR.getf (pc1 := 12) (j := 3) (ci := 5) (T := TX5) (N := 13) (EokR.aload_n (q := 0) dX5_layMark_11) rfl wsX5_in (by decide) flX5_21 dX5_layMark_12) (EokI.iload_n (q := 1) dX5_layMark_15) (EokI.iconst (v := 1) dX5_layMark_16 (by decide)) (by decide) dX5_layMark_17) (Sok.seq (pc1 := 28) (Sok.iASt (pc1 := 22) (pc2 := 23) (pc3 := 27) (EokR.getf (pc1 := 19) (j := 4) (ci := 5) (T := TX5) (N := 13) (EokR.aload_n (q := 0) dX5_layMark_18) rfl wsX5_in (by decide) flX5_25 dX5_layMark_19) (EokI.iload_n (q := 1) dX5_layMark_22) (EokI.getf (pc1 := 24) (j := 9) (ci := 5) (T := TX5) (N := 13) (EokR.aload_n (q := 0) dX5_layMark_23) rfl wsX5_in (by decide) flX5_37 dX5_layMark_24) (by decide) dX5_layMark_27) (Sok.seq (pc1 := 38) (Sok.iASt (pc1 := 32) (pc2 := 33) (pc3 := 37) (EokR.getf (pc1 := 29) (j := 5) (ci := 5) (T := TX5) (N := 13) (EokR.aload_n (q := 0) dX5_layMark_28) rfl wsX5_in (by decide) flX5_28 dX5_layMark_29) (EokI.iload_n (q := 1) dX5_layMark_32) (EokI.getf (pc1 := 34) (j := 10) (ci := 5) (T := TX5) (N := 13) (EokR.aload_n (q := 0) dX5_layMark_33) rfl wsX5_in (by decide) flX5_41 dX5_layMark_34) (by decide) dX5_layMark_37) (Sok.seq (pc1 := 48) (Sok.iASt (pc1 := 42) (pc2 := 43) (pc3 := 47) (EokR.getf (pc1 := 39) (j := 6) (ci := 5) (T := TX5) (N := 13) (EokR.aload_n (q := 0) dX5_layMark_38) rfl wsX5_in (by decide) flX5_31 dX5_layMark_39) (EokI.iload_n (q := 1) dX5_layMark_42) (EokI.getf (pc1 := 44) (j := 12) (ci := 5) (T := TX5) (N := 13) (EokR.aload_n (q := 0) dX5_layMark_43) rfl wsX5_in (by decide) flX5_47 dX5_layMark_44) (by decide) dX5_layMark_47) (Sok.seq (pc1 := 79) (Sok.seq (pc1 := 79) (Sok.seq (pc1 := 50) (Sok.setI_n (q := 2) (pc1 := 49) (EokI.iconst (v := 0) dX5_layMark_48 (by decide)) (by decide) dX5_layMark_49 (show 2 < 3 by decide)) (olX5_layMark_1 g )) (Sok.forget (pc := 79))) (Sok.retZ (pc1 := 80) (EokI.iconst (v := 1) dX5_layMark_79 (by decide)) (by decide) dX5_layMark_80 rfl)))))))
/-! PassHuts$Lyings.addLowest(III)I -/
theorem dX2_addLowest_0 : decode cX2_addLowest 0 = .ok (.iload_n 3, 1) := by decide +kernel
theorem dX2_addLowest_1 : decode cX2_addLowest 1 = .ok (.istore 4, 2) := by decide +kernel
theorem dX2_addLowest_3 : decode cX2_addLowest 3 = .ok (.iconst 0, 1) := by decide +kernel
theorem dX2_addLowest_4 : decode cX2_addLowest 4 = .ok (.istore 5, 2) := by decide +kernel
theorem dX2_addLowest_6 : decode cX2_addLowest 6 = .ok (.iload 5, 2) := by decide +kernel
theorem dX2_addLowest_8 : decode cX2_addLowest 8 = .ok (.iload_n 1, 1) := by decide +kernel
theorem dX2_addLowest_9 : decode cX2_addLowest 9 = .ok (.if_icmp .gt 83, 3) := by decide +kernel
theorem dX2_addLowest_12 : decode cX2_addLowest 12 = .ok (.iconst 0, 1) := by decide +kernel
theorem dX2_addLowest_13 : decode cX2_addLowest 13 = .ok (.istore 6, 2) := by decide +kernel
theorem dX2_addLowest_15 : decode cX2_addLowest 15 = .ok (.iload 6, 2) := by decide +kernel
theorem dX2_addLowest_17 : decode cX2_addLowest 17 = .ok (.iload_n 1, 1) := by decide +kernel
theorem dX2_addLowest_18 : decode cX2_addLowest 18 = .ok (.iload 5, 2) := by decide +kernel
theorem dX2_addLowest_20 : decode cX2_addLowest 20 = .ok (.isub, 1) := by decide +kernel
theorem dX2_addLowest_21 : decode cX2_addLowest 21 = .ok (.if_icmp .gt 65, 3) := by decide +kernel
theorem dX2_addLowest_24 : decode cX2_addLowest 24 = .ok (.iload 5, 2) := by decide +kernel
theorem dX2_addLowest_26 : decode cX2_addLowest 26 = .ok (.bipush 8, 2) := by decide +kernel
theorem dX2_addLowest_28 : decode cX2_addLowest 28 = .ok (.ishl, 1) := by decide +kernel
theorem dX2_addLowest_29 : decode cX2_addLowest 29 = .ok (.iload 6, 2) := by decide +kernel
theorem dX2_addLowest_31 : decode cX2_addLowest 31 = .ok (.iconst 4, 1) := by decide +kernel
theorem dX2_addLowest_32 : decode cX2_addLowest 32 = .ok (.ishl, 1) := by decide +kernel
theorem dX2_addLowest_33 : decode cX2_addLowest 33 = .ok (.ior, 1) := by decide +kernel
theorem dX2_addLowest_34 : decode cX2_addLowest 34 = .ok (.iload_n 1, 1) := by decide +kernel
theorem dX2_addLowest_35 : decode cX2_addLowest 35 = .ok (.iload 5, 2) := by decide +kernel
theorem dX2_addLowest_37 : decode cX2_addLowest 37 = .ok (.isub, 1) := by decide +kernel
theorem dX2_addLowest_38 : decode cX2_addLowest 38 = .ok (.iload 6, 2) := by decide +kernel
theorem dX2_addLowest_40 : decode cX2_addLowest 40 = .ok (.isub, 1) := by decide +kernel
theorem dX2_addLowest_41 : decode cX2_addLowest 41 = .ok (.ior, 1) := by decide +kernel
theorem dX2_addLowest_42 : decode cX2_addLowest 42 = .ok (.istore 7, 2) := by decide +kernel
theorem dX2_addLowest_44 : decode cX2_addLowest 44 = .ok (.iload 4, 2) := by decide +kernel
theorem dX2_addLowest_46 : decode cX2_addLowest 46 = .ok (.sipush 6188, 3) := by decide +kernel
theorem dX2_addLowest_49 : decode cX2_addLowest 49 = .ok (.if_icmp .ge 31, 3) := by decide +kernel
theorem dX2_addLowest_52 : decode cX2_addLowest 52 = .ok (.aload_n 0, 1) := by decide +kernel
theorem dX2_addLowest_53 : decode cX2_addLowest 53 = .ok (.getfield 18, 3) := by decide +kernel
theorem dX2_addLowest_56 : decode cX2_addLowest 56 = .ok (.iload 7, 2) := by decide +kernel
theorem dX2_addLowest_58 : decode cX2_addLowest 58 = .ok (.iload 4, 2) := by decide +kernel
theorem dX2_addLowest_60 : decode cX2_addLowest 60 = .ok (.iload_n 3, 1) := by decide +kernel
theorem dX2_addLowest_61 : decode cX2_addLowest 61 = .ok (.isub, 1) := by decide +kernel
theorem dX2_addLowest_62 : decode cX2_addLowest 62 = .ok (.iastore, 1) := by decide +kernel
theorem dX2_addLowest_63 : decode cX2_addLowest 63 = .ok (.aload_n 0, 1) := by decide +kernel
theorem dX2_addLowest_64 : decode cX2_addLowest 64 = .ok (.getfield 9, 3) := by decide +kernel
theorem dX2_addLowest_67 : decode cX2_addLowest 67 = .ok (.iload 4, 2) := by decide +kernel
theorem dX2_addLowest_69 : decode cX2_addLowest 69 = .ok (.iload_n 2, 1) := by decide +kernel
theorem dX2_addLowest_70 : decode cX2_addLowest 70 = .ok (.bipush 12, 2) := by decide +kernel
theorem dX2_addLowest_72 : decode cX2_addLowest 72 = .ok (.ishl, 1) := by decide +kernel
theorem dX2_addLowest_73 : decode cX2_addLowest 73 = .ok (.iload 7, 2) := by decide +kernel
theorem dX2_addLowest_75 : decode cX2_addLowest 75 = .ok (.ior, 1) := by decide +kernel
theorem dX2_addLowest_76 : decode cX2_addLowest 76 = .ok (.iastore, 1) := by decide +kernel
theorem dX2_addLowest_77 : decode cX2_addLowest 77 = .ok (.iinc 4 1, 3) := by decide +kernel
theorem dX2_addLowest_80 : decode cX2_addLowest 80 = .ok (.iinc 6 1, 3) := by decide +kernel
theorem dX2_addLowest_83 : decode cX2_addLowest 83 = .ok (.goto (-68), 3) := by decide +kernel
theorem dX2_addLowest_86 : decode cX2_addLowest 86 = .ok (.iinc 5 1, 3) := by decide +kernel
theorem dX2_addLowest_89 : decode cX2_addLowest 89 = .ok (.goto (-83), 3) := by decide +kernel
theorem dX2_addLowest_92 : decode cX2_addLowest 92 = .ok (.iload 4, 2) := by decide +kernel
theorem dX2_addLowest_94 : decode cX2_addLowest 94 = .ok (.ireturn, 1) := by decide +kernel
abbrev tX2_addLowest (k : Nat) : MT := (RX2, cX2_addLowest, 8, k, (some .int))
def lX2_addLowest_1 : SX := (sLoop (cB rle (iLoc 6) (iB gT2 (· - ·) (iLoc 1) (iLoc 5))) (sSeq (sSetI 7 (iB gT2 (· ||| ·) (iB gT2 (· ||| ·) (iB gT2 jshl (iLoc 5) (iK 8)) (iB gT2 jshl (iLoc 6) (iK 4))) (iB gT2 (· - ·) (iB gT2 (· - ·) (iLoc 1) (iLoc 5)) (iLoc 6)))) (sIf (cB rlt (iLoc 4) (iK 6188)) (sSeq (sASt 0 narI (rGet 2 2 (rLoc 0)) (iLoc 7) (iB gT2 (· - ·) (iLoc 4) (iLoc 3))) (sSeq (sASt 0 narI (rGet 2 0 (rLoc 0)) (iLoc 4) (iB gT2 (· ||| ·) (iB gT2 jshl (iLoc 2) (iK 12)) (iLoc 7))) (sInc 4 1))) sSkip)) (sSeq (sForget 7) (sInc 6 1)))
def lX2_addLowest_2 : SX := (sLoop (cB rle (iLoc 5) (iLoc 1)) (sSeq (sSetI 6 (iK 0)) lX2_addLowest_1) (sSeq (sForget 6) (sInc 5 1)))
theorem olX2_addLowest_1 (g : GT) {pcB pcC : Nat} : Sok g (tX2_addLowest 0) 15 86 pcB pcC (lX2_addLowest_1) := (Sok.loop (pc := 15) (pc1 := 24) (pc2 := 80) (pcN := 86) (Cok.cmp (pc1 := 17) (pc2 := 21) (pcT := 24) (pcF := 86) (EokI.iload (i := 6) dX2_addLowest_15) (EokI.bin (pc1 := 18) (pc2 := 20) (EokI.iload_n (q := 1) dX2_addLowest_17) (EokI.iload (i := 5) dX2_addLowest_18) (OPI.isub dX2_addLowest_20)) (JI.leF (tgt := 86) dX2_addLowest_21 (by decide))) (by decide) (Sok.seq (pc1 := 44) (Sok.setI (i := 7) (pc1 := 42) (EokI.bin (pc1 := 34) (pc2 := 41) (EokI.bin (pc1 := 29) (pc2 := 33) (EokI.bin (pc1 := 26) (pc2 := 28) (EokI.iload (i := 5) dX2_addLowest_24) (EokI.bipush (v := 8) dX2_addLowest_26 (by decide)) (OPI.ishl dX2_addLowest_28)) (EokI.bin (pc1 := 31) (pc2 := 32) (EokI.iload (i := 6) dX2_addLowest_29) (EokI.iconst (v := 4) dX2_addLowest_31 (by decide)) (OPI.ishl dX2_addLowest_32)) (OPI.ior dX2_addLowest_33)) (EokI.bin (pc1 := 38) (pc2 := 40) (EokI.bin (pc1 := 35) (pc2 := 37) (EokI.iload_n (q := 1) dX2_addLowest_34) (EokI.iload (i := 5) dX2_addLowest_35) (OPI.isub dX2_addLowest_37)) (EokI.iload (i := 6) dX2_addLowest_38) (OPI.isub dX2_addLowest_40)) (OPI.ior dX2_addLowest_41)) (by decide) dX2_addLowest_42 (show 7 < 8 by decide)) (Sok.ite (pc1 := 52) (pc2 := 80) (Cok.cmp (pc1 := 46) (pc2 := 49) (pcT := 52) (pcF := 80) (EokI.iload (i := 4) dX2_addLowest_44) (EokI.sipush (v := 6188) dX2_addLowest_46 (by decide)) (JI.ltF (tgt := 80) dX2_addLowest_49 (by decide))) (by decide) (Sok.seq (pc1 := 63) (Sok.iASt (pc1 := 56) (pc2 := 58) (pc3 := 62) (EokR.getf (pc1 := 53) (j := 2) (ci := 2) (T := TX2) (N := 5) (EokR.aload_n (q := 0) dX2_addLowest_52) rfl wsX2_in (by decide) flX2_18 dX2_addLowest_53) (EokI.iload (i := 7) dX2_addLowest_56) (EokI.bin (pc1 := 60) (pc2 := 61) (EokI.iload (i := 4) dX2_addLowest_58) (EokI.iload_n (q := 3) dX2_addLowest_60) (OPI.isub dX2_addLowest_61)) (by decide) dX2_addLowest_62) (Sok.seq (pc1 := 77) (Sok.iASt (pc1 := 67) (pc2 := 69) (pc3 := 76) (EokR.getf (pc1 := 64) (j := 0) (ci := 2) (T := TX2) (N := 5) (EokR.aload_n (q := 0) dX2_addLowest_63) rfl wsX2_in (by decide) flX2_9 dX2_addLowest_64) (EokI.iload (i := 4) dX2_addLowest_67) (EokI.bin (pc1 := 73) (pc2 := 75) (EokI.bin (pc1 := 70) (pc2 := 72) (EokI.iload_n (q := 2) dX2_addLowest_69) (EokI.bipush (v := 12) dX2_addLowest_70 (by decide)) (OPI.ishl dX2_addLowest_72)) (EokI.iload (i := 7) dX2_addLowest_73) (OPI.ior dX2_addLowest_75)) (by decide) dX2_addLowest_76) (Sok.iinc (i := 4) (v := 1) dX2_addLowest_77 (show 4 < 8 by decide) (by decide)))) (Sok.skip (pc := 80)))) (Sok.seq (pc1 := 80) Sok.forget (Sok.goto (pc1 := 83) (pcN := 15) (Sok.iinc (i := 6) (v := 1) dX2_addLowest_80 (show 6 < 8 by decide) (by decide)) dX2_addLowest_83 (by decide))))
theorem olX2_addLowest_2 (g : GT) {pcB pcC : Nat} : Sok g (tX2_addLowest 0) 6 92 pcB pcC (lX2_addLowest_2) := (Sok.loop (pc := 6) (pc1 := 12) (pc2 := 86) (pcN := 92) (Cok.cmp (pc1 := 8) (pc2 := 9) (pcT := 12) (pcF := 92) (EokI.iload (i := 5) dX2_addLowest_6) (EokI.iload_n (q := 1) dX2_addLowest_8) (JI.leF (tgt := 92) dX2_addLowest_9 (by decide))) (by decide) (Sok.seq (pc1 := 15) (Sok.setI (i := 6) (pc1 := 13) (EokI.iconst (v := 0) dX2_addLowest_12 (by decide)) (by decide) dX2_addLowest_13 (show 6 < 8 by decide)) (olX2_addLowest_1 g )) (Sok.seq (pc1 := 86) Sok.forget (Sok.goto (pc1 := 89) (pcN := 6) (Sok.iinc (i := 5) (v := 1) dX2_addLowest_86 (show 5 < 8 by decide) (by decide)) dX2_addLowest_89 (by decide))))
def mX2_addLowest : MX := bodyOf 8 (sSeq (sSetI 4 (iLoc 3)) (sSeq (sSeq (sSeq (sSetI 5 (iK 0)) lX2_addLowest_2) (sForget 5)) (sRetI (iLoc 4))))
theorem kX2_addLowest (g : GT) : MK g 0 yX2_addLowest cX2_addLowest 8 (some .int) mX2_addLowest := MK.of (pcN := 99999) (pcB := 0) (pcC := 0) rfl (Sok.seq (pc1 := 3) (Sok.setI (i := 4) (pc1 := 1) (EokI.iload_n (q := 3) dX2_addLowest_0) (by decide) dX2_addLowest_1 (show 4 < 8 by decide)) (Sok.seq (pc1 := 92) (Sok.seq (pc1 := 92) (Sok.seq (pc1 := 6) (Sok.setI (i := 5) (pc1 := 4) (EokI.iconst (v := 0) dX2_addLowest_3 (by decide)) (by decide) dX2_addLowest_4 (show 5 < 8 by decide)) (olX2_addLowest_2 g )) (Sok.forget (pc := 92))) (Sok.retI (pc1 := 94) (EokI.iload (i := 4) dX2_addLowest_92) (by decide) dX2_addLowest_94 rfl)))
/-! PassHuts$Lyings.fillEnds()V -/
theorem dX2_fillEnds_0 : decode cX2_fillEnds 0 = .ok (.iconst 0, 1) := by decide +kernel
theorem dX2_fillEnds_1 : decode cX2_fillEnds 1 = .ok (.istore_n 1, 1) := by decide +kernel
theorem dX2_fillEnds_2 : decode cX2_fillEnds 2 = .ok (.iload_n 1, 1) := by decide +kernel
theorem dX2_fillEnds_3 : decode cX2_fillEnds 3 = .ok (.iconst 5, 1) := by decide +kernel
theorem dX2_fillEnds_4 : decode cX2_fillEnds 4 = .ok (.if_icmp .gt 69, 3) := by decide +kernel
theorem dX2_fillEnds_7 : decode cX2_fillEnds 7 = .ok (.iconst 0, 1) := by decide +kernel
theorem dX2_fillEnds_8 : decode cX2_fillEnds 8 = .ok (.istore_n 2, 1) := by decide +kernel
theorem dX2_fillEnds_9 : decode cX2_fillEnds 9 = .ok (.iconst 0, 1) := by decide +kernel
theorem dX2_fillEnds_10 : decode cX2_fillEnds 10 = .ok (.istore_n 3, 1) := by decide +kernel
theorem dX2_fillEnds_11 : decode cX2_fillEnds 11 = .ok (.iload_n 3, 1) := by decide +kernel
theorem dX2_fillEnds_12 : decode cX2_fillEnds 12 = .ok (.bipush 13, 2) := by decide +kernel
theorem dX2_fillEnds_14 : decode cX2_fillEnds 14 = .ok (.if_icmp .ge 53, 3) := by decide +kernel
theorem dX2_fillEnds_17 : decode cX2_fillEnds 17 = .ok (.iload_n 1, 1) := by decide +kernel
theorem dX2_fillEnds_18 : decode cX2_fillEnds 18 = .ok (.ifCond .ne 15, 3) := by decide +kernel
theorem dX2_fillEnds_21 : decode cX2_fillEnds 21 = .ok (.iload_n 3, 1) := by decide +kernel
theorem dX2_fillEnds_22 : decode cX2_fillEnds 22 = .ok (.ifCond .ne 7, 3) := by decide +kernel
theorem dX2_fillEnds_25 : decode cX2_fillEnds 25 = .ok (.iconst 1, 1) := by decide +kernel
theorem dX2_fillEnds_26 : decode cX2_fillEnds 26 = .ok (.goto 22, 3) := by decide +kernel
theorem dX2_fillEnds_29 : decode cX2_fillEnds 29 = .ok (.iconst 0, 1) := by decide +kernel
theorem dX2_fillEnds_30 : decode cX2_fillEnds 30 = .ok (.goto 18, 3) := by decide +kernel
theorem dX2_fillEnds_33 : decode cX2_fillEnds 33 = .ok (.iload_n 2, 1) := by decide +kernel
theorem dX2_fillEnds_34 : decode cX2_fillEnds 34 = .ok (.aload_n 0, 1) := by decide +kernel
theorem dX2_fillEnds_35 : decode cX2_fillEnds 35 = .ok (.getfield 24, 3) := by decide +kernel
theorem dX2_fillEnds_38 : decode cX2_fillEnds 38 = .ok (.iload_n 1, 1) := by decide +kernel
theorem dX2_fillEnds_39 : decode cX2_fillEnds 39 = .ok (.iconst 1, 1) := by decide +kernel
theorem dX2_fillEnds_40 : decode cX2_fillEnds 40 = .ok (.isub, 1) := by decide +kernel
theorem dX2_fillEnds_41 : decode cX2_fillEnds 41 = .ok (.bipush 13, 2) := by decide +kernel
theorem dX2_fillEnds_43 : decode cX2_fillEnds 43 = .ok (.imul, 1) := by decide +kernel
theorem dX2_fillEnds_44 : decode cX2_fillEnds 44 = .ok (.iload_n 3, 1) := by decide +kernel
theorem dX2_fillEnds_45 : decode cX2_fillEnds 45 = .ok (.iadd, 1) := by decide +kernel
theorem dX2_fillEnds_46 : decode cX2_fillEnds 46 = .ok (.iaload, 1) := by decide +kernel
theorem dX2_fillEnds_47 : decode cX2_fillEnds 47 = .ok (.iadd, 1) := by decide +kernel
theorem dX2_fillEnds_48 : decode cX2_fillEnds 48 = .ok (.istore_n 2, 1) := by decide +kernel
theorem dX2_fillEnds_49 : decode cX2_fillEnds 49 = .ok (.aload_n 0, 1) := by decide +kernel
theorem dX2_fillEnds_50 : decode cX2_fillEnds 50 = .ok (.getfield 24, 3) := by decide +kernel
theorem dX2_fillEnds_53 : decode cX2_fillEnds 53 = .ok (.iload_n 1, 1) := by decide +kernel
theorem dX2_fillEnds_54 : decode cX2_fillEnds 54 = .ok (.bipush 13, 2) := by decide +kernel
theorem dX2_fillEnds_56 : decode cX2_fillEnds 56 = .ok (.imul, 1) := by decide +kernel
theorem dX2_fillEnds_57 : decode cX2_fillEnds 57 = .ok (.iload_n 3, 1) := by decide +kernel
theorem dX2_fillEnds_58 : decode cX2_fillEnds 58 = .ok (.iadd, 1) := by decide +kernel
theorem dX2_fillEnds_59 : decode cX2_fillEnds 59 = .ok (.iload_n 2, 1) := by decide +kernel
theorem dX2_fillEnds_60 : decode cX2_fillEnds 60 = .ok (.iastore, 1) := by decide +kernel
theorem dX2_fillEnds_61 : decode cX2_fillEnds 61 = .ok (.iinc 3 1, 3) := by decide +kernel
theorem dX2_fillEnds_64 : decode cX2_fillEnds 64 = .ok (.goto (-53), 3) := by decide +kernel
theorem dX2_fillEnds_67 : decode cX2_fillEnds 67 = .ok (.iinc 1 1, 3) := by decide +kernel
theorem dX2_fillEnds_70 : decode cX2_fillEnds 70 = .ok (.goto (-68), 3) := by decide +kernel
theorem dX2_fillEnds_73 : decode cX2_fillEnds 73 = .ok (.iconst 0, 1) := by decide +kernel
theorem dX2_fillEnds_74 : decode cX2_fillEnds 74 = .ok (.istore_n 1, 1) := by decide +kernel
theorem dX2_fillEnds_75 : decode cX2_fillEnds 75 = .ok (.iload_n 1, 1) := by decide +kernel
theorem dX2_fillEnds_76 : decode cX2_fillEnds 76 = .ok (.aload_n 0, 1) := by decide +kernel
theorem dX2_fillEnds_77 : decode cX2_fillEnds 77 = .ok (.getfield 24, 3) := by decide +kernel
theorem dX2_fillEnds_80 : decode cX2_fillEnds 80 = .ok (.arraylength, 1) := by decide +kernel
theorem dX2_fillEnds_81 : decode cX2_fillEnds 81 = .ok (.if_icmp .ge 27, 3) := by decide +kernel
theorem dX2_fillEnds_84 : decode cX2_fillEnds 84 = .ok (.aload_n 0, 1) := by decide +kernel
theorem dX2_fillEnds_85 : decode cX2_fillEnds 85 = .ok (.getfield 24, 3) := by decide +kernel
theorem dX2_fillEnds_88 : decode cX2_fillEnds 88 = .ok (.iload_n 1, 1) := by decide +kernel
theorem dX2_fillEnds_89 : decode cX2_fillEnds 89 = .ok (.dup2, 1) := by decide +kernel
theorem dX2_fillEnds_90 : decode cX2_fillEnds 90 = .ok (.iaload, 1) := by decide +kernel
theorem dX2_fillEnds_91 : decode cX2_fillEnds 91 = .ok (.aload_n 0, 1) := by decide +kernel
theorem dX2_fillEnds_92 : decode cX2_fillEnds 92 = .ok (.getfield 21, 3) := by decide +kernel
theorem dX2_fillEnds_95 : decode cX2_fillEnds 95 = .ok (.iload_n 1, 1) := by decide +kernel
theorem dX2_fillEnds_96 : decode cX2_fillEnds 96 = .ok (.bipush 13, 2) := by decide +kernel
theorem dX2_fillEnds_98 : decode cX2_fillEnds 98 = .ok (.irem, 1) := by decide +kernel
theorem dX2_fillEnds_99 : decode cX2_fillEnds 99 = .ok (.iaload, 1) := by decide +kernel
theorem dX2_fillEnds_100 : decode cX2_fillEnds 100 = .ok (.iadd, 1) := by decide +kernel
theorem dX2_fillEnds_101 : decode cX2_fillEnds 101 = .ok (.iastore, 1) := by decide +kernel
theorem dX2_fillEnds_102 : decode cX2_fillEnds 102 = .ok (.iinc 1 1, 3) := by decide +kernel
theorem dX2_fillEnds_105 : decode cX2_fillEnds 105 = .ok (.goto (-30), 3) := by decide +kernel
theorem dX2_fillEnds_108 : decode cX2_fillEnds 108 = .ok (.return_, 1) := by decide +kernel
abbrev tX2_fillEnds (k : Nat) : MT := (RX2, cX2_fillEnds, 4, k, none)
def lX2_fillEnds_1 : SX := (sLoop (cB rlt (iLoc 3) (iK 13)) (sSeq (sSetI 2 (iCond (cZ zeq (iLoc 1)) (iCond (cZ zeq (iLoc 3)) (iK 1) (iK 0)) (iB gT2 (· + ·) (iLoc 2) (iALd (rGet 2 4 (rLoc 0)) (iB gT2 (· + ·) (iB gT2 (· * ·) (iB gT2 (· - ·) (iLoc 1) (iK 1)) (iK 13)) (iLoc 3)))))) (sASt 0 narI (rGet 2 4 (rLoc 0)) (iB gT2 (· + ·) (iB gT2 (· * ·) (iLoc 1) (iK 13)) (iLoc 3)) (iLoc 2))) (sInc 3 1))
def lX2_fillEnds_2 : SX := (sLoop (cB rle (iLoc 1) (iK 5)) (sSeq (sSetI 2 (iK 0)) (sSeq (sSetI 3 (iK 0)) lX2_fillEnds_1)) (sSeq (sForget 2) (sInc 1 1)))
def lX2_fillEnds_3 : SX := (sLoop (cB rlt (iLoc 1) (iLen (rGet 2 4 (rLoc 0)))) (sAUpd gT2 (· + ·) (rGet 2 4 (rLoc 0)) (iLoc 1) (iALd (rGet 2 3 (rLoc 0)) (iB gNZ jrem (iLoc 1) (iK 13)))) (sInc 1 1))
theorem olX2_fillEnds_3 (g : GT) {pcB pcC : Nat} : Sok g (tX2_fillEnds 0) 75 108 pcB pcC (lX2_fillEnds_3) := (Sok.loop (pc := 75) (pc1 := 84) (pc2 := 102) (pcN := 108) (Cok.cmp (pc1 := 76) (pc2 := 81) (pcT := 84) (pcF := 108) (EokI.iload_n (q := 1) dX2_fillEnds_75) (EokI.alen (pc1 := 80) (EokR.getf (pc1 := 77) (j := 4) (ci := 2) (T := TX2) (N := 5) (EokR.aload_n (q := 0) dX2_fillEnds_76) rfl wsX2_in (by decide) flX2_24 dX2_fillEnds_77) dX2_fillEnds_80) (JI.ltF (tgt := 108) dX2_fillEnds_81 (by decide))) (by decide) (Sok.aupd (pc1 := 88) (pc2 := 89) (pc3 := 100) (EokR.getf (pc1 := 85) (j := 4) (ci := 2) (T := TX2) (N := 5) (EokR.aload_n (q := 0) dX2_fillEnds_84) rfl wsX2_in (by decide) flX2_24 dX2_fillEnds_85) (EokI.iload_n (q := 1) dX2_fillEnds_88) dX2_fillEnds_89 dX2_fillEnds_90 (EokI.iALd (pc1 := 95) (pc2 := 99) (EokR.getf (pc1 := 92) (j := 3) (ci := 2) (T := TX2) (N := 5) (EokR.aload_n (q := 0) dX2_fillEnds_91) rfl wsX2_in (by decide) flX2_21 dX2_fillEnds_92) (EokI.bin (pc1 := 96) (pc2 := 98) (EokI.iload_n (q := 1) dX2_fillEnds_95) (EokI.bipush (v := 13) dX2_fillEnds_96 (by decide)) (OPI.irem dX2_fillEnds_98)) dX2_fillEnds_99) (OPI.iadd dX2_fillEnds_100) (by decide) dX2_fillEnds_101) (Sok.goto (pc1 := 105) (pcN := 75) (Sok.iinc (i := 1) (v := 1) dX2_fillEnds_102 (show 1 < 4 by decide) (by decide)) dX2_fillEnds_105 (by decide)))
theorem olX2_fillEnds_1 (g : GT) {pcB pcC : Nat} : Sok g (tX2_fillEnds 0) 11 67 pcB pcC (lX2_fillEnds_1) := (Sok.loop (pc := 11) (pc1 := 17) (pc2 := 61) (pcN := 67) (Cok.cmp (pc1 := 12) (pc2 := 14) (pcT := 17) (pcF := 67) (EokI.iload_n (q := 3) dX2_fillEnds_11) (EokI.bipush (v := 13) dX2_fillEnds_12 (by decide)) (JI.ltF (tgt := 67) dX2_fillEnds_14 (by decide))) (by decide) (Sok.seq (pc1 := 49) (Sok.setI_n (q := 2) (pc1 := 48) (EokI.cond' (pc1 := 21) (pc2 := 33) (Cok.zero (pc1 := 18) (pcT := 21) (pcF := 33) (EokI.iload_n (q := 1) dX2_fillEnds_17) (JZ.eqF (tgt := 33) dX2_fillEnds_18 (by decide))) (EokI.cond' (pc1 := 25) (pc2 := 29) (Cok.zero (pc1 := 22) (pcT := 25) (pcF := 29) (EokI.iload_n (q := 3) dX2_fillEnds_21) (JZ.eqF (tgt := 29) dX2_fillEnds_22 (by decide))) (EokI.goto (pc1 := 26) (pc2 := 48) (EokI.iconst (v := 1) dX2_fillEnds_25 (by decide)) dX2_fillEnds_26 (by decide)) (EokI.goto (pc1 := 30) (pc2 := 48) (EokI.iconst (v := 0) dX2_fillEnds_29 (by decide)) dX2_fillEnds_30 (by decide))) (EokI.bin (pc1 := 34) (pc2 := 47) (EokI.iload_n (q := 2) dX2_fillEnds_33) (EokI.iALd (pc1 := 38) (pc2 := 46) (EokR.getf (pc1 := 35) (j := 4) (ci := 2) (T := TX2) (N := 5) (EokR.aload_n (q := 0) dX2_fillEnds_34) rfl wsX2_in (by decide) flX2_24 dX2_fillEnds_35) (EokI.bin (pc1 := 44) (pc2 := 45) (EokI.bin (pc1 := 41) (pc2 := 43) (EokI.bin (pc1 := 39) (pc2 := 40) (EokI.iload_n (q := 1) dX2_fillEnds_38) (EokI.iconst (v := 1) dX2_fillEnds_39 (by decide)) (OPI.isub dX2_fillEnds_40)) (EokI.bipush (v := 13) dX2_fillEnds_41 (by decide)) (OPI.imul dX2_fillEnds_43)) (EokI.iload_n (q := 3) dX2_fillEnds_44) (OPI.iadd dX2_fillEnds_45)) dX2_fillEnds_46) (OPI.iadd dX2_fillEnds_47))) (by decide) dX2_fillEnds_48 (show 2 < 4 by decide)) (Sok.iASt (pc1 := 53) (pc2 := 59) (pc3 := 60) (EokR.getf (pc1 := 50) (j := 4) (ci := 2) (T := TX2) (N := 5) (EokR.aload_n (q := 0) dX2_fillEnds_49) rfl wsX2_in (by decide) flX2_24 dX2_fillEnds_50) (EokI.bin (pc1 := 57) (pc2 := 58) (EokI.bin (pc1 := 54) (pc2 := 56) (EokI.iload_n (q := 1) dX2_fillEnds_53) (EokI.bipush (v := 13) dX2_fillEnds_54 (by decide)) (OPI.imul dX2_fillEnds_56)) (EokI.iload_n (q := 3) dX2_fillEnds_57) (OPI.iadd dX2_fillEnds_58)) (EokI.iload_n (q := 2) dX2_fillEnds_59) (by decide) dX2_fillEnds_60)) (Sok.goto (pc1 := 64) (pcN := 11) (Sok.iinc (i := 3) (v := 1) dX2_fillEnds_61 (show 3 < 4 by decide) (by decide)) dX2_fillEnds_64 (by decide)))
theorem olX2_fillEnds_2 (g : GT) {pcB pcC : Nat} : Sok g (tX2_fillEnds 0) 2 73 pcB pcC (lX2_fillEnds_2) := (Sok.loop (pc := 2) (pc1 := 7) (pc2 := 67) (pcN := 73) (Cok.cmp (pc1 := 3) (pc2 := 4) (pcT := 7) (pcF := 73) (EokI.iload_n (q := 1) dX2_fillEnds_2) (EokI.iconst (v := 5) dX2_fillEnds_3 (by decide)) (JI.leF (tgt := 73) dX2_fillEnds_4 (by decide))) (by decide) (Sok.seq (pc1 := 9) (Sok.setI_n (q := 2) (pc1 := 8) (EokI.iconst (v := 0) dX2_fillEnds_7 (by decide)) (by decide) dX2_fillEnds_8 (show 2 < 4 by decide)) (Sok.seq (pc1 := 11) (Sok.setI_n (q := 3) (pc1 := 10) (EokI.iconst (v := 0) dX2_fillEnds_9 (by decide)) (by decide) dX2_fillEnds_10 (show 3 < 4 by decide)) (olX2_fillEnds_1 g ))) (Sok.seq (pc1 := 67) Sok.forget (Sok.goto (pc1 := 70) (pcN := 2) (Sok.iinc (i := 1) (v := 1) dX2_fillEnds_67 (show 1 < 4 by decide) (by decide)) dX2_fillEnds_70 (by decide))))
def mX2_fillEnds : MX := bodyOf 4 (sSeq (sSeq (sSeq (sSeq (sSetI 1 (iK 0)) lX2_fillEnds_2) (sForget 1)) (sSeq (sSeq (sSetI 1 (iK 0)) lX2_fillEnds_3) (sForget 1))) sRetV)
theorem kX2_fillEnds (g : GT) : MK g 0 yX2_fillEnds cX2_fillEnds 4 none mX2_fillEnds := MK.of (pcN := 99999) (pcB := 0) (pcC := 0) rfl (Sok.seq (pc1 := 108) (Sok.seq (pc1 := 73) (Sok.seq (pc1 := 73) (Sok.seq (pc1 := 2) (Sok.setI_n (q := 1) (pc1 := 1) (EokI.iconst (v := 0) dX2_fillEnds_0 (by decide)) (by decide) dX2_fillEnds_1 (show 1 < 4 by decide)) (olX2_fillEnds_2 g )) (Sok.forget (pc := 73))) (Sok.seq (pc1 := 108) (Sok.seq (pc1 := 75) (Sok.setI_n (q := 1) (pc1 := 74) (EokI.iconst (v := 0) dX2_fillEnds_73 (by decide)) (by decide) dX2_fillEnds_74 (show 1 < 4 by decide)) (olX2_fillEnds_3 g )) (Sok.forget (pc := 108)))) (Sok.retV dX2_fillEnds_108 rfl))
