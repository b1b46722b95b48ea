set_option maxRecDepth 20000
set_option maxHeartbeats 4000000
/-! PassHutsModel.thrown()I -/
theorem dX12_thrown_0 : decode cX12_thrown 0 = .ok (.aload_n 0, 1) := by decide +kernel
theorem dX12_thrown_1 : decode cX12_thrown 1 = .ok (.getfield 1, 3) := by decide +kernel
theorem dX12_thrown_4 : decode cX12_thrown 4 = .ok (.ireturn, 1) := by decide +kernel
abbrev tX12_thrown (k : Nat) : MT := (RX12, cX12_thrown, 1, k, (some .int))
def mX12_thrown : MX := bodyOf 1 (sRetI (iGet 12 0 (rLoc 0)))
theorem kX12_thrown (g : GT) : MK g 0 yX12_thrown cX12_thrown 1 (some .int) mX12_thrown := MK.of (pcN := 99999) (pcB := 0) (pcC := 0) rfl (Sok.retI (pc1 := 4) (EokI.getf (pc1 := 1) (j := 0) (ci := 12) (T := TX12) (N := 27) (EokR.aload_n (q := 0) dX12_thrown_0) rfl wsX12_in (by decide) flX12_1 dX12_thrown_1) (by decide) dX12_thrown_4 rfl)
/-! PassHutsModel.lay(J)V -/
theorem dX12_lay_0 : decode cX12_lay 0 = .ok (.bipush 56, 2) := by decide +kernel
theorem dX12_lay_2 : decode cX12_lay 2 = .ok (.istore_n 3, 1) := by decide +kernel
theorem dX12_lay_3 : decode cX12_lay 3 = .ok (.iload_n 3, 1) := by decide +kernel
theorem dX12_lay_4 : decode cX12_lay 4 = .ok (.ifCond .lt 71, 3) := by decide +kernel
theorem dX12_lay_7 : decode cX12_lay 7 = .ok (.lload_n 1, 1) := by decide +kernel
theorem dX12_lay_8 : decode cX12_lay 8 = .ok (.iload_n 3, 1) := by decide +kernel
theorem dX12_lay_9 : decode cX12_lay 9 = .ok (.lshr, 1) := by decide +kernel
theorem dX12_lay_10 : decode cX12_lay 10 = .ok (.l2i, 1) := by decide +kernel
theorem dX12_lay_11 : decode cX12_lay 11 = .ok (.sipush 255, 3) := by decide +kernel
theorem dX12_lay_14 : decode cX12_lay 14 = .ok (.iand, 1) := by decide +kernel
theorem dX12_lay_15 : decode cX12_lay 15 = .ok (.istore 4, 2) := by decide +kernel
theorem dX12_lay_17 : decode cX12_lay 17 = .ok (.iload 4, 2) := by decide +kernel
theorem dX12_lay_19 : decode cX12_lay 19 = .ok (.bipush 10, 2) := by decide +kernel
theorem dX12_lay_21 : decode cX12_lay 21 = .ok (.if_icmp .eq 17, 3) := by decide +kernel
theorem dX12_lay_24 : decode cX12_lay 24 = .ok (.iload 4, 2) := by decide +kernel
theorem dX12_lay_26 : decode cX12_lay 26 = .ok (.bipush 32, 2) := by decide +kernel
theorem dX12_lay_28 : decode cX12_lay 28 = .ok (.if_icmp .lt 41, 3) := by decide +kernel
theorem dX12_lay_31 : decode cX12_lay 31 = .ok (.iload 4, 2) := by decide +kernel
theorem dX12_lay_33 : decode cX12_lay 33 = .ok (.bipush 126, 2) := by decide +kernel
theorem dX12_lay_35 : decode cX12_lay 35 = .ok (.if_icmp .gt 34, 3) := by decide +kernel
theorem dX12_lay_38 : decode cX12_lay 38 = .ok (.aload_n 0, 1) := by decide +kernel
theorem dX12_lay_39 : decode cX12_lay 39 = .ok (.getfield 11, 3) := by decide +kernel
theorem dX12_lay_42 : decode cX12_lay 42 = .ok (.sipush 1000, 3) := by decide +kernel
theorem dX12_lay_45 : decode cX12_lay 45 = .ok (.if_icmp .ge 24, 3) := by decide +kernel
theorem dX12_lay_48 : decode cX12_lay 48 = .ok (.aload_n 0, 1) := by decide +kernel
theorem dX12_lay_49 : decode cX12_lay 49 = .ok (.getfield 14, 3) := by decide +kernel
theorem dX12_lay_52 : decode cX12_lay 52 = .ok (.aload_n 0, 1) := by decide +kernel
theorem dX12_lay_53 : decode cX12_lay 53 = .ok (.getfield 11, 3) := by decide +kernel
theorem dX12_lay_56 : decode cX12_lay 56 = .ok (.iload 4, 2) := by decide +kernel
theorem dX12_lay_58 : decode cX12_lay 58 = .ok (.iastore, 1) := by decide +kernel
theorem dX12_lay_59 : decode cX12_lay 59 = .ok (.aload_n 0, 1) := by decide +kernel
theorem dX12_lay_60 : decode cX12_lay 60 = .ok (.dup, 1) := by decide +kernel
theorem dX12_lay_61 : decode cX12_lay 61 = .ok (.getfield 11, 3) := by decide +kernel
theorem dX12_lay_64 : decode cX12_lay 64 = .ok (.iconst 1, 1) := by decide +kernel
theorem dX12_lay_65 : decode cX12_lay 65 = .ok (.iadd, 1) := by decide +kernel
theorem dX12_lay_66 : decode cX12_lay 66 = .ok (.putfield 11, 3) := by decide +kernel
theorem dX12_lay_69 : decode cX12_lay 69 = .ok (.iinc 3 (-8), 3) := by decide +kernel
theorem dX12_lay_72 : decode cX12_lay 72 = .ok (.goto (-69), 3) := by decide +kernel
theorem dX12_lay_75 : decode cX12_lay 75 = .ok (.return_, 1) := by decide +kernel
abbrev tX12_lay (k : Nat) : MT := (RX12, cX12_lay, 5, k, none)
def lX12_lay_1 : SX := (sLoop (cZ zge (iLoc 3)) (sSeq (sSetI 4 (iB gT2 (· &&& ·) (iOfL (lBI jlshr (lLoc 1) (iLoc 3))) (iK 255))) (sIf (cAnd (cOr (cB req (iLoc 4) (iK 10)) (cAnd (cB rge (iLoc 4) (iK 32)) (cB rle (iLoc 4) (iK 126)))) (cB rlt (iGet 12 2 (rLoc 0)) (iK 1000))) (sSeq (sASt 0 narI (rGet 12 1 (rLoc 0)) (iGet 12 2 (rLoc 0)) (iLoc 4)) (sUpd 12 2 gT2 (· + ·) (rLoc 0) (iK 1))) sSkip)) (sSeq (sForget 4) (sInc 3 (-8))))
theorem olX12_lay_1 (g : GT) {pcB pcC : Nat} : Sok g (tX12_lay 0) 3 75 pcB pcC (lX12_lay_1) := (Sok.loop (pc := 3) (pc1 := 7) (pc2 := 69) (pcN := 75) (Cok.zero (pc1 := 4) (pcT := 7) (pcF := 75) (EokI.iload_n (q := 3) dX12_lay_3) (JZ.geF (tgt := 75) dX12_lay_4 (by decide))) (by decide) (Sok.seq (pc1 := 17) (Sok.setI (i := 4) (pc1 := 15) (EokI.bin (pc1 := 11) (pc2 := 14) (EokI.l2i (pc1 := 10) (EokL.binI (pc1 := 8) (pc2 := 9) (EokL.lload_n (q := 1) dX12_lay_7) (EokI.iload_n (q := 3) dX12_lay_8) (OPLI.lshr dX12_lay_9)) dX12_lay_10) (EokI.sipush (v := 255) dX12_lay_11 (by decide)) (OPI.iand dX12_lay_14)) (by decide) dX12_lay_15 (show 4 < 5 by decide)) (Sok.ite (pc1 := 48) (pc2 := 69) (Cok.and (pc1 := 38) (Cok.or (pc1 := 24) (Cok.cmp (pc1 := 19) (pc2 := 21) (pcT := 38) (pcF := 24) (EokI.iload (i := 4) dX12_lay_17) (EokI.bipush (v := 10) dX12_lay_19 (by decide)) (JI.eqT (tgt := 38) dX12_lay_21 (by decide))) (Cok.and (pc1 := 31) (Cok.cmp (pc1 := 26) (pc2 := 28) (pcT := 31) (pcF := 69) (EokI.iload (i := 4) dX12_lay_24) (EokI.bipush (v := 32) dX12_lay_26 (by decide)) (JI.geF (tgt := 69) dX12_lay_28 (by decide))) (Cok.cmp (pc1 := 33) (pc2 := 35) (pcT := 38) (pcF := 69) (EokI.iload (i := 4) dX12_lay_31) (EokI.bipush (v := 126) dX12_lay_33 (by decide)) (JI.leF (tgt := 69) dX12_lay_35 (by decide))))) (Cok.cmp (pc1 := 42) (pc2 := 45) (pcT := 48) (pcF := 69) (EokI.getf (pc1 := 39) (j := 2) (ci := 12) (T := TX12) (N := 27) (EokR.aload_n (q := 0) dX12_lay_38) rfl wsX12_in (by decide) flX12_11 dX12_lay_39) (EokI.sipush (v := 1000) dX12_lay_42 (by decide)) (JI.ltF (tgt := 69) dX12_lay_45 (by decide)))) (by decide) (Sok.seq (pc1 := 59) (Sok.iASt (pc1 := 52) (pc2 := 56) (pc3 := 58) (EokR.getf (pc1 := 49) (j := 1) (ci := 12) (T := TX12) (N := 27) (EokR.aload_n (q := 0) dX12_lay_48) rfl wsX12_in (by decide) flX12_14 dX12_lay_49) (EokI.getf (pc1 := 53) (j := 2) (ci := 12) (T := TX12) (N := 27) (EokR.aload_n (q := 0) dX12_lay_52) rfl wsX12_in (by decide) flX12_11 dX12_lay_53) (EokI.iload (i := 4) dX12_lay_56) (by decide) dX12_lay_58) (Sok.upd (ci := 12) (T := TX12) (NN := 27) (tt := tyX12) (j := 2) (pc1 := 60) (pc2 := 65) (EokR.aload_n (q := 0) dX12_lay_59) dX12_lay_60 dX12_lay_61 (EokI.iconst (v := 1) dX12_lay_64 (by decide)) (OPI.iadd dX12_lay_65) (by decide) rfl wsX12_in tyX12_ok nmX12 (by decide) flX12_11 rfl rfl dX12_lay_66)) (Sok.skip (pc := 69)))) (Sok.seq (pc1 := 69) Sok.forget (Sok.goto (pc1 := 72) (pcN := 3) (Sok.iinc (i := 3) (v := (-8)) dX12_lay_69 (show 3 < 5 by decide) (by decide)) dX12_lay_72 (by decide))))
def mX12_lay : MX := bodyOf 5 (sSeq (sSeq (sSeq (sSetI 3 (iK 56)) lX12_lay_1) (sForget 3)) sRetV)
theorem kX12_lay (g : GT) : MK g 0 yX12_lay cX12_lay 5 none mX12_lay := MK.of (pcN := 99999) (pcB := 0) (pcC := 0) rfl (Sok.seq (pc1 := 75) (Sok.seq (pc1 := 75) (Sok.seq (pc1 := 3) (Sok.setI_n (q := 3) (pc1 := 2) (EokI.bipush (v := 56) dX12_lay_0 (by decide)) (by decide) dX12_lay_2 (show 3 < 5 by decide)) (olX12_lay_1 g )) (Sok.forget (pc := 75))) (Sok.retV dX12_lay_75 rfl))
/-! PassHutsModel.feed(JJJ)I -/
theorem dX12_feed_0 : decode cX12_feed 0 = .ok (.aload_n 0, 1) := by decide +kernel
theorem dX12_feed_1 : decode cX12_feed 1 = .ok (.iconst 0, 1) := by decide +kernel
theorem dX12_feed_2 : decode cX12_feed 2 = .ok (.putfield 1, 3) := by decide +kernel
theorem dX12_feed_5 : decode cX12_feed 5 = .ok (.aload_n 0, 1) := by decide +kernel
theorem dX12_feed_6 : decode cX12_feed 6 = .ok (.lload_n 1, 1) := by decide +kernel
theorem dX12_feed_7 : decode cX12_feed 7 = .ok (.invokevirtual 7, 3) := by decide +kernel
theorem dX12_feed_10 : decode cX12_feed 10 = .ok (.aload_n 0, 1) := by decide +kernel
theorem dX12_feed_11 : decode cX12_feed 11 = .ok (.lload_n 3, 1) := by decide +kernel
theorem dX12_feed_12 : decode cX12_feed 12 = .ok (.invokevirtual 7, 3) := by decide +kernel
theorem dX12_feed_15 : decode cX12_feed 15 = .ok (.aload_n 0, 1) := by decide +kernel
theorem dX12_feed_16 : decode cX12_feed 16 = .ok (.lload 5, 2) := by decide +kernel
theorem dX12_feed_18 : decode cX12_feed 18 = .ok (.invokevirtual 7, 3) := by decide +kernel
theorem dX12_feed_21 : decode cX12_feed 21 = .ok (.aload_n 0, 1) := by decide +kernel
theorem dX12_feed_22 : decode cX12_feed 22 = .ok (.getfield 11, 3) := by decide +kernel
theorem dX12_feed_25 : decode cX12_feed 25 = .ok (.ireturn, 1) := by decide +kernel
abbrev tX12_feed (k : Nat) : MT := (RX12, cX12_feed, 7, k, (some .int))
def mX12_feed : MX := bodyOf 7 (sSeq (sPutI 12 0 .int (rLoc 0) (iK 0)) (sSeq (sCallV 12 mX12_lay (aR (rLoc 0) (aL (lLoc 1) aNil))) (sSeq (sCallV 12 mX12_lay (aR (rLoc 0) (aL (lLoc 3) aNil))) (sSeq (sCallV 12 mX12_lay (aR (rLoc 0) (aL (lLoc 5) aNil))) (sRetI (iGet 12 2 (rLoc 0)))))))
theorem kX12_feed (g : GT) : MK g 1 yX12_feed cX12_feed 7 (some .int) mX12_feed := MK.of (pcN := 99999) (pcB := 0) (pcC := 0) rfl (Sok.seq (pc1 := 5) (Sok.putI (ci := 12) (T := TX12) (NN := 27) (tt := tyX12) (j := 0) (pc1 := 1) (pc2 := 2) (ty := .int) (EokR.aload_n (q := 0) dX12_feed_0) (EokI.iconst (v := 0) dX12_feed_1 (by decide)) (by decide) rfl wsX12_in tyX12_ok nmX12 (by decide) flX12_1 rfl rfl dX12_feed_2) (Sok.seq (pc1 := 10) (Sok.sCallV (pc1 := 7) (Aok.aR (pc1 := 6) (EokR.aload_n (q := 0) dX12_feed_5) (Aok.aL (pc1 := 7) (EokL.lload_n (q := 1) dX12_feed_6) Aok.nil)) (by decide) (kX12_lay g) rfl ykX12_lay vkX12_7 (by decide) (by decide) dX12_feed_7) (Sok.seq (pc1 := 15) (Sok.sCallV (pc1 := 12) (Aok.aR (pc1 := 11) (EokR.aload_n (q := 0) dX12_feed_10) (Aok.aL (pc1 := 12) (EokL.lload_n (q := 3) dX12_feed_11) Aok.nil)) (by decide) (kX12_lay g) rfl ykX12_lay vkX12_7 (by decide) (by decide) dX12_feed_12) (Sok.seq (pc1 := 21) (Sok.sCallV (pc1 := 18) (Aok.aR (pc1 := 16) (EokR.aload_n (q := 0) dX12_feed_15) (Aok.aL (pc1 := 18) (EokL.lload (i := 5) dX12_feed_16) Aok.nil)) (by decide) (kX12_lay g) rfl ykX12_lay vkX12_7 (by decide) (by decide) dX12_feed_18) (Sok.retI (pc1 := 25) (EokI.getf (pc1 := 22) (j := 2) (ci := 12) (T := TX12) (N := 27) (EokR.aload_n (q := 0) dX12_feed_21) rfl wsX12_in (by decide) flX12_11 dX12_feed_22) (by decide) dX12_feed_25 rfl)))))
/-! PassHutsModel.laysNow()V -/
theorem dX12_laysNow_0 : decode cX12_laysNow 0 = .ok (.iconst 0, 1) := by decide +kernel
theorem dX12_laysNow_1 : decode cX12_laysNow 1 = .ok (.istore_n 1, 1) := by decide +kernel
theorem dX12_laysNow_2 : decode cX12_laysNow 2 = .ok (.iload_n 1, 1) := by decide +kernel
theorem dX12_laysNow_3 : decode cX12_laysNow 3 = .ok (.iconst 5, 1) := by decide +kernel
theorem dX12_laysNow_4 : decode cX12_laysNow 4 = .ok (.if_icmp .ge 21, 3) := by decide +kernel
theorem dX12_laysNow_7 : decode cX12_laysNow 7 = .ok (.aload_n 0, 1) := by decide +kernel
theorem dX12_laysNow_8 : decode cX12_laysNow 8 = .ok (.getfield 100, 3) := by decide +kernel
theorem dX12_laysNow_11 : decode cX12_laysNow 11 = .ok (.iload_n 1, 1) := by decide +kernel
theorem dX12_laysNow_12 : decode cX12_laysNow 12 = .ok (.aload_n 0, 1) := by decide +kernel
theorem dX12_laysNow_13 : decode cX12_laysNow 13 = .ok (.getfield 93, 3) := by decide +kernel
theorem dX12_laysNow_16 : decode cX12_laysNow 16 = .ok (.iload_n 1, 1) := by decide +kernel
theorem dX12_laysNow_17 : decode cX12_laysNow 17 = .ok (.iaload, 1) := by decide +kernel
theorem dX12_laysNow_18 : decode cX12_laysNow 18 = .ok (.iastore, 1) := by decide +kernel
theorem dX12_laysNow_19 : decode cX12_laysNow 19 = .ok (.iinc 1 1, 3) := by decide +kernel
theorem dX12_laysNow_22 : decode cX12_laysNow 22 = .ok (.goto (-20), 3) := by decide +kernel
theorem dX12_laysNow_25 : decode cX12_laysNow 25 = .ok (.return_, 1) := by decide +kernel
abbrev tX12_laysNow (k : Nat) : MT := (RX12, cX12_laysNow, 2, k, none)
def lX12_laysNow_1 : SX := (sLoop (cB rlt (iLoc 1) (iK 5)) (sASt 0 narI (rGet 12 20 (rLoc 0)) (iLoc 1) (iALd (rGet 12 17 (rLoc 0)) (iLoc 1))) (sInc 1 1))
theorem olX12_laysNow_1 (g : GT) {pcB pcC : Nat} : Sok g (tX12_laysNow 0) 2 25 pcB pcC (lX12_laysNow_1) := (Sok.loop (pc := 2) (pc1 := 7) (pc2 := 19) (pcN := 25) (Cok.cmp (pc1 := 3) (pc2 := 4) (pcT := 7) (pcF := 25) (EokI.iload_n (q := 1) dX12_laysNow_2) (EokI.iconst (v := 5) dX12_laysNow_3 (by decide)) (JI.ltF (tgt := 25) dX12_laysNow_4 (by decide))) (by decide) (Sok.iASt (pc1 := 11) (pc2 := 12) (pc3 := 18) (EokR.getf (pc1 := 8) (j := 20) (ci := 12) (T := TX12) (N := 27) (EokR.aload_n (q := 0) dX12_laysNow_7) rfl wsX12_in (by decide) flX12_100 dX12_laysNow_8) (EokI.iload_n (q := 1) dX12_laysNow_11) (EokI.iALd (pc1 := 16) (pc2 := 17) (EokR.getf (pc1 := 13) (j := 17) (ci := 12) (T := TX12) (N := 27) (EokR.aload_n (q := 0) dX12_laysNow_12) rfl wsX12_in (by decide) flX12_93 dX12_laysNow_13) (EokI.iload_n (q := 1) dX12_laysNow_16) dX12_laysNow_17) (by decide) dX12_laysNow_18) (Sok.goto (pc1 := 22) (pcN := 2) (Sok.iinc (i := 1) (v := 1) dX12_laysNow_19 (show 1 < 2 by decide) (by decide)) dX12_laysNow_22 (by decide)))
def mX12_laysNow : MX := bodyOf 2 (sSeq (sSeq (sSeq (sSetI 1 (iK 0)) lX12_laysNow_1) (sForget 1)) sRetV)
theorem kX12_laysNow (g : GT) : MK g 0 yX12_laysNow cX12_laysNow 2 none mX12_laysNow := MK.of (pcN := 99999) (pcB := 0) (pcC := 0) rfl (Sok.seq (pc1 := 25) (Sok.seq (pc1 := 25) (Sok.seq (pc1 := 2) (Sok.setI_n (q := 1) (pc1 := 1) (EokI.iconst (v := 0) dX12_laysNow_0 (by decide)) (by decide) dX12_laysNow_1 (show 1 < 2 by decide)) (olX12_laysNow_1 g )) (Sok.forget (pc := 25))) (Sok.retV dX12_laysNow_25 rfl))
/-! PassHutsModel.huts()I -/
theorem dX12_huts_0 : decode cX12_huts 0 = .ok (.aload_n 0, 1) := by decide +kernel
theorem dX12_huts_1 : decode cX12_huts 1 = .ok (.getfield 75, 3) := by decide +kernel
theorem dX12_huts_4 : decode cX12_huts 4 = .ok (.iconst 0, 1) := by decide +kernel
theorem dX12_huts_5 : decode cX12_huts 5 = .ok (.iaload, 1) := by decide +kernel
theorem dX12_huts_6 : decode cX12_huts 6 = .ok (.ireturn, 1) := by decide +kernel
abbrev tX12_huts (k : Nat) : MT := (RX12, cX12_huts, 1, k, (some .int))
def mX12_huts : MX := bodyOf 1 (sRetI (iALd (rGet 12 10 (rLoc 0)) (iK 0)))
theorem kX12_huts (g : GT) : MK g 0 yX12_huts cX12_huts 1 (some .int) mX12_huts := MK.of (pcN := 99999) (pcB := 0) (pcC := 0) rfl (Sok.retI (pc1 := 6) (EokI.iALd (pc1 := 4) (pc2 := 5) (EokR.getf (pc1 := 1) (j := 10) (ci := 12) (T := TX12) (N := 27) (EokR.aload_n (q := 0) dX12_huts_0) rfl wsX12_in (by decide) flX12_75 dX12_huts_1) (EokI.iconst (v := 0) dX12_huts_4 (by decide)) dX12_huts_5) (by decide) dX12_huts_6 rfl)
/-! PassHutsModel.isHut(I)Z -/
theorem dX12_isHut_0 : decode cX12_isHut 0 = .ok (.iload_n 1, 1) := by decide +kernel
theorem dX12_isHut_1 : decode cX12_isHut 1 = .ok (.ifCond .lt 15, 3) := by decide +kernel
theorem dX12_isHut_4 : decode cX12_isHut 4 = .ok (.iload_n 1, 1) := by decide +kernel
theorem dX12_isHut_5 : decode cX12_isHut 5 = .ok (.aload_n 0, 1) := by decide +kernel
theorem dX12_isHut_6 : decode cX12_isHut 6 = .ok (.invokevirtual 215, 3) := by decide +kernel
theorem dX12_isHut_9 : decode cX12_isHut 9 = .ok (.if_icmp .ge 7, 3) := by decide +kernel
theorem dX12_isHut_12 : decode cX12_isHut 12 = .ok (.iconst 1, 1) := by decide +kernel
theorem dX12_isHut_13 : decode cX12_isHut 13 = .ok (.goto 4, 3) := by decide +kernel
theorem dX12_isHut_16 : decode cX12_isHut 16 = .ok (.iconst 0, 1) := by decide +kernel
theorem dX12_isHut_17 : decode cX12_isHut 17 = .ok (.ireturn, 1) := by decide +kernel
abbrev tX12_isHut (k : Nat) : MT := (RX12, cX12_isHut, 2, k, (some .boolean))
def mX12_isHut : MX := bodyOf 2 (sRetZ (iBool (cAnd (cZ zge (iLoc 1)) (cB rlt (iLoc 1) (iCallV 12 mX12_huts (aR (rLoc 0) aNil))))))
theorem kX12_isHut (g : GT) : MK g 1 yX12_isHut cX12_isHut 2 (some .boolean) mX12_isHut := MK.of (pcN := 99999) (pcB := 0) (pcC := 0) rfl (Sok.retZ (pc1 := 17) (EokI.cond' (pc1 := 12) (pc2 := 16) (Cok.and (pc1 := 4) (Cok.zero (pc1 := 1) (pcT := 4) (pcF := 16) (EokI.iload_n (q := 1) dX12_isHut_0) (JZ.geF (tgt := 16) dX12_isHut_1 (by decide))) (Cok.cmp (pc1 := 5) (pc2 := 9) (pcT := 12) (pcF := 16) (EokI.iload_n (q := 1) dX12_isHut_4) (EokI.iCallV (pc1 := 6) (Aok.aR (pc1 := 6) (EokR.aload_n (q := 0) dX12_isHut_5) Aok.nil) (kX12_huts g) rfl ykX12_huts vkX12_215 (by decide) (by decide) dX12_isHut_6) (JI.ltF (tgt := 16) dX12_isHut_9 (by decide)))) (EokI.goto (pc1 := 13) (pc2 := 17) (EokI.iconst (v := 1) dX12_isHut_12 (by decide)) dX12_isHut_13 (by decide)) (EokI.iconst (v := 0) dX12_isHut_16 (by decide))) (by decide) dX12_isHut_17 rfl)
/-! PassHutsModel.hutOf(II)I -/
theorem dX12_hutOf_0 : decode cX12_hutOf 0 = .ok (.aload_n 0, 1) := by decide +kernel
theorem dX12_hutOf_1 : decode cX12_hutOf 1 = .ok (.getfield 75, 3) := by decide +kernel
theorem dX12_hutOf_4 : decode cX12_hutOf 4 = .ok (.iconst 3, 1) := by decide +kernel
theorem dX12_hutOf_5 : decode cX12_hutOf 5 = .ok (.iconst 2, 1) := by decide +kernel
theorem dX12_hutOf_6 : decode cX12_hutOf 6 = .ok (.iload_n 1, 1) := by decide +kernel
theorem dX12_hutOf_7 : decode cX12_hutOf 7 = .ok (.imul, 1) := by decide +kernel
theorem dX12_hutOf_8 : decode cX12_hutOf 8 = .ok (.iadd, 1) := by decide +kernel
theorem dX12_hutOf_9 : decode cX12_hutOf 9 = .ok (.iload_n 2, 1) := by decide +kernel
theorem dX12_hutOf_10 : decode cX12_hutOf 10 = .ok (.iadd, 1) := by decide +kernel
theorem dX12_hutOf_11 : decode cX12_hutOf 11 = .ok (.iaload, 1) := by decide +kernel
theorem dX12_hutOf_12 : decode cX12_hutOf 12 = .ok (.ireturn, 1) := by decide +kernel
abbrev tX12_hutOf (k : Nat) : MT := (RX12, cX12_hutOf, 3, k, (some .int))
def mX12_hutOf : MX := bodyOf 3 (sRetI (iALd (rGet 12 10 (rLoc 0)) (iB gT2 (· + ·) (iB gT2 (· + ·) (iK 3) (iB gT2 (· * ·) (iK 2) (iLoc 1))) (iLoc 2))))
theorem kX12_hutOf (g : GT) : MK g 0 yX12_hutOf cX12_hutOf 3 (some .int) mX12_hutOf := MK.of (pcN := 99999) (pcB := 0) (pcC := 0) rfl (Sok.retI (pc1 := 12) (EokI.iALd (pc1 := 4) (pc2 := 11) (EokR.getf (pc1 := 1) (j := 10) (ci := 12) (T := TX12) (N := 27) (EokR.aload_n (q := 0) dX12_hutOf_0) rfl wsX12_in (by decide) flX12_75 dX12_hutOf_1) (EokI.bin (pc1 := 9) (pc2 := 10) (EokI.bin (pc1 := 5) (pc2 := 8) (EokI.iconst (v := 3) dX12_hutOf_4 (by decide)) (EokI.bin (pc1 := 6) (pc2 := 7) (EokI.iconst (v := 2) dX12_hutOf_5 (by decide)) (EokI.iload_n (q := 1) dX12_hutOf_6) (OPI.imul dX12_hutOf_7)) (OPI.iadd dX12_hutOf_8)) (EokI.iload_n (q := 2) dX12_hutOf_9) (OPI.iadd dX12_hutOf_10)) dX12_hutOf_11) (by decide) dX12_hutOf_12 rfl)
/-! PassHutsModel.isFull(I)Z -/
theorem dX12_isFull_0 : decode cX12_isFull 0 = .ok (.aload_n 0, 1) := by decide +kernel
theorem dX12_isFull_1 : decode cX12_isFull 1 = .ok (.iload_n 1, 1) := by decide +kernel
theorem dX12_isFull_2 : decode cX12_isFull 2 = .ok (.iconst 0, 1) := by decide +kernel
theorem dX12_isFull_3 : decode cX12_isFull 3 = .ok (.invokevirtual 236, 3) := by decide +kernel
theorem dX12_isFull_6 : decode cX12_isFull 6 = .ok (.iconst 3, 1) := by decide +kernel
theorem dX12_isFull_7 : decode cX12_isFull 7 = .ok (.if_icmp .ne 17, 3) := by decide +kernel
theorem dX12_isFull_10 : decode cX12_isFull 10 = .ok (.aload_n 0, 1) := by decide +kernel
theorem dX12_isFull_11 : decode cX12_isFull 11 = .ok (.getfield 100, 3) := by decide +kernel
theorem dX12_isFull_14 : decode cX12_isFull 14 = .ok (.iload_n 1, 1) := by decide +kernel
theorem dX12_isFull_15 : decode cX12_isFull 15 = .ok (.iaload, 1) := by decide +kernel
theorem dX12_isFull_16 : decode cX12_isFull 16 = .ok (.iconst 3, 1) := by decide +kernel
theorem dX12_isFull_17 : decode cX12_isFull 17 = .ok (.if_icmp .lt 7, 3) := by decide +kernel
theorem dX12_isFull_20 : decode cX12_isFull 20 = .ok (.iconst 1, 1) := by decide +kernel
theorem dX12_isFull_21 : decode cX12_isFull 21 = .ok (.goto 4, 3) := by decide +kernel
theorem dX12_isFull_24 : decode cX12_isFull 24 = .ok (.iconst 0, 1) := by decide +kernel
theorem dX12_isFull_25 : decode cX12_isFull 25 = .ok (.ireturn, 1) := by decide +kernel
abbrev tX12_isFull (k : Nat) : MT := (RX12, cX12_isFull, 2, k, (some .boolean))
def mX12_isFull : MX := bodyOf 2 (sRetZ (iBool (cAnd (cB req (iCallV 12 mX12_hutOf (aR (rLoc 0) (aI (iLoc 1) (aI (iK 0) aNil)))) (iK 3)) (cB rge (iALd (rGet 12 20 (rLoc 0)) (iLoc 1)) (iK 3)))))
theorem kX12_isFull (g : GT) : MK g 1 yX12_isFull cX12_isFull 2 (some .boolean) mX12_isFull := MK.of (pcN := 99999) (pcB := 0) (pcC := 0) rfl (Sok.retZ (pc1 := 25) (EokI.cond' (pc1 := 20) (pc2 := 24) (Cok.and (pc1 := 10) (Cok.cmp (pc1 := 6) (pc2 := 7) (pcT := 10) (pcF := 24) (EokI.iCallV (pc1 := 3) (Aok.aR (pc1 := 1) (EokR.aload_n (q := 0) dX12_isFull_0) (Aok.aI (pc1 := 2) (EokI.iload_n (q := 1) dX12_isFull_1) (Aok.aI (pc1 := 3) (EokI.iconst (v := 0) dX12_isFull_2 (by decide)) Aok.nil))) (kX12_hutOf g) rfl ykX12_hutOf vkX12_236 (by decide) (by decide) dX12_isFull_3) (EokI.iconst (v := 3) dX12_isFull_6 (by decide)) (JI.eqF (tgt := 24) dX12_isFull_7 (by decide))) (Cok.cmp (pc1 := 16) (pc2 := 17) (pcT := 20) (pcF := 24) (EokI.iALd (pc1 := 14) (pc2 := 15) (EokR.getf (pc1 := 11) (j := 20) (ci := 12) (T := TX12) (N := 27) (EokR.aload_n (q := 0) dX12_isFull_10) rfl wsX12_in (by decide) flX12_100 dX12_isFull_11) (EokI.iload_n (q := 1) dX12_isFull_14) dX12_isFull_15) (EokI.iconst (v := 3) dX12_isFull_16 (by decide)) (JI.geF (tgt := 24) dX12_isFull_17 (by decide)))) (EokI.goto (pc1 := 21) (pc2 := 25) (EokI.iconst (v := 1) dX12_isFull_20 (by decide)) dX12_isFull_21 (by decide)) (EokI.iconst (v := 0) dX12_isFull_24 (by decide))) (by decide) dX12_isFull_25 rfl)
/-! PassHutsModel.allLoads()I -/
theorem dX12_allLoads_0 : decode cX12_allLoads 0 = .ok (.iconst 0, 1) := by decide +kernel
theorem dX12_allLoads_1 : decode cX12_allLoads 1 = .ok (.istore_n 1, 1) := by decide +kernel
theorem dX12_allLoads_2 : decode cX12_allLoads 2 = .ok (.iconst 0, 1) := by decide +kernel
theorem dX12_allLoads_3 : decode cX12_allLoads 3 = .ok (.istore_n 2, 1) := by decide +kernel
theorem dX12_allLoads_4 : decode cX12_allLoads 4 = .ok (.iload_n 2, 1) := by decide +kernel
theorem dX12_allLoads_5 : decode cX12_allLoads 5 = .ok (.iconst 5, 1) := by decide +kernel
theorem dX12_allLoads_6 : decode cX12_allLoads 6 = .ok (.if_icmp .ge 18, 3) := by decide +kernel
theorem dX12_allLoads_9 : decode cX12_allLoads 9 = .ok (.iload_n 1, 1) := by decide +kernel
theorem dX12_allLoads_10 : decode cX12_allLoads 10 = .ok (.aload_n 0, 1) := by decide +kernel
theorem dX12_allLoads_11 : decode cX12_allLoads 11 = .ok (.getfield 100, 3) := by decide +kernel
theorem dX12_allLoads_14 : decode cX12_allLoads 14 = .ok (.iload_n 2, 1) := by decide +kernel
theorem dX12_allLoads_15 : decode cX12_allLoads 15 = .ok (.iaload, 1) := by decide +kernel
theorem dX12_allLoads_16 : decode cX12_allLoads 16 = .ok (.iadd, 1) := by decide +kernel
theorem dX12_allLoads_17 : decode cX12_allLoads 17 = .ok (.istore_n 1, 1) := by decide +kernel
theorem dX12_allLoads_18 : decode cX12_allLoads 18 = .ok (.iinc 2 1, 3) := by decide +kernel
theorem dX12_allLoads_21 : decode cX12_allLoads 21 = .ok (.goto (-17), 3) := by decide +kernel
theorem dX12_allLoads_24 : decode cX12_allLoads 24 = .ok (.iload_n 1, 1) := by decide +kernel
theorem dX12_allLoads_25 : decode cX12_allLoads 25 = .ok (.ireturn, 1) := by decide +kernel
abbrev tX12_allLoads (k : Nat) : MT := (RX12, cX12_allLoads, 3, k, (some .int))
def lX12_allLoads_1 : SX := (sLoop (cB rlt (iLoc 2) (iK 5)) (sSetI 1 (iB gT2 (· + ·) (iLoc 1) (iALd (rGet 12 20 (rLoc 0)) (iLoc 2)))) (sInc 2 1))
theorem olX12_allLoads_1 (g : GT) {pcB pcC : Nat} : Sok g (tX12_allLoads 0) 4 24 pcB pcC (lX12_allLoads_1) := (Sok.loop (pc := 4) (pc1 := 9) (pc2 := 18) (pcN := 24) (Cok.cmp (pc1 := 5) (pc2 := 6) (pcT := 9) (pcF := 24) (EokI.iload_n (q := 2) dX12_allLoads_4) (EokI.iconst (v := 5) dX12_allLoads_5 (by decide)) (JI.ltF (tgt := 24) dX12_allLoads_6 (by decide))) (by decide) (Sok.setI_n (q := 1) (pc1 := 17) (EokI.bin (pc1 := 10) (pc2 := 16) (EokI.iload_n (q := 1) dX12_allLoads_9) (EokI.iALd (pc1 := 14) (pc2 := 15) (EokR.getf (pc1 := 11) (j := 20) (ci := 12) (T := TX12) (N := 27) (EokR.aload_n (q := 0) dX12_allLoads_10) rfl wsX12_in (by decide) flX12_100 dX12_allLoads_11) (EokI.iload_n (q := 2) dX12_allLoads_14) dX12_allLoads_15) (OPI.iadd dX12_allLoads_16)) (by decide) dX12_allLoads_17 (show 1 < 3 by decide)) (Sok.goto (pc1 := 21) (pcN := 4) (Sok.iinc (i := 2) (v := 1) dX12_allLoads_18 (show 2 < 3 by decide) (by decide)) dX12_allLoads_21 (by decide)))
def mX12_allLoads : MX := bodyOf 3 (sSeq (sSetI 1 (iK 0)) (sSeq (sSeq (sSeq (sSetI 2 (iK 0)) lX12_allLoads_1) (sForget 2)) (sRetI (iLoc 1))))
theorem kX12_allLoads (g : GT) : MK g 0 yX12_allLoads cX12_allLoads 3 (some .int) mX12_allLoads := MK.of (pcN := 99999) (pcB := 0) (pcC := 0) rfl (Sok.seq (pc1 := 2) (Sok.setI_n (q := 1) (pc1 := 1) (EokI.iconst (v := 0) dX12_allLoads_0 (by decide)) (by decide) dX12_allLoads_1 (show 1 < 3 by decide)) (Sok.seq (pc1 := 24) (Sok.seq (pc1 := 24) (Sok.seq (pc1 := 4) (Sok.setI_n (q := 2) (pc1 := 3) (EokI.iconst (v := 0) dX12_allLoads_2 (by decide)) (by decide) dX12_allLoads_3 (show 2 < 3 by decide)) (olX12_allLoads_1 g )) (Sok.forget (pc := 24))) (Sok.retI (pc1 := 25) (EokI.iload_n (q := 1) dX12_allLoads_24) (by decide) dX12_allLoads_25 rfl)))
/-! PassHutsModel.copies(III)V -/
theorem dX12_copies_0 : decode cX12_copies 0 = .ok (.iconst 0, 1) := by decide +kernel
theorem dX12_copies_1 : decode cX12_copies 1 = .ok (.istore 4, 2) := by decide +kernel
theorem dX12_copies_3 : decode cX12_copies 3 = .ok (.iload 4, 2) := by decide +kernel
theorem dX12_copies_5 : decode cX12_copies 5 = .ok (.iload_n 3, 1) := by decide +kernel
theorem dX12_copies_6 : decode cX12_copies 6 = .ok (.if_icmp .ge 27, 3) := by decide +kernel
theorem dX12_copies_9 : decode cX12_copies 9 = .ok (.aload_n 0, 1) := by decide +kernel
theorem dX12_copies_10 : decode cX12_copies 10 = .ok (.getfield 93, 3) := by decide +kernel
theorem dX12_copies_13 : decode cX12_copies 13 = .ok (.iload_n 2, 1) := by decide +kernel
theorem dX12_copies_14 : decode cX12_copies 14 = .ok (.iload 4, 2) := by decide +kernel
theorem dX12_copies_16 : decode cX12_copies 16 = .ok (.iadd, 1) := by decide +kernel
theorem dX12_copies_17 : decode cX12_copies 17 = .ok (.aload_n 0, 1) := by decide +kernel
theorem dX12_copies_18 : decode cX12_copies 18 = .ok (.getfield 93, 3) := by decide +kernel
theorem dX12_copies_21 : decode cX12_copies 21 = .ok (.iload_n 1, 1) := by decide +kernel
theorem dX12_copies_22 : decode cX12_copies 22 = .ok (.iload 4, 2) := by decide +kernel
theorem dX12_copies_24 : decode cX12_copies 24 = .ok (.iadd, 1) := by decide +kernel
theorem dX12_copies_25 : decode cX12_copies 25 = .ok (.iaload, 1) := by decide +kernel
theorem dX12_copies_26 : decode cX12_copies 26 = .ok (.iastore, 1) := by decide +kernel
theorem dX12_copies_27 : decode cX12_copies 27 = .ok (.iinc 4 1, 3) := by decide +kernel
theorem dX12_copies_30 : decode cX12_copies 30 = .ok (.goto (-27), 3) := by decide +kernel
theorem dX12_copies_33 : decode cX12_copies 33 = .ok (.return_, 1) := by decide +kernel
abbrev tX12_copies (k : Nat) : MT := (RX12, cX12_copies, 5, k, none)
def lX12_copies_1 : SX := (sLoop (cB rlt (iLoc 4) (iLoc 3)) (sASt 0 narI (rGet 12 17 (rLoc 0)) (iB gT2 (· + ·) (iLoc 2) (iLoc 4)) (iALd (rGet 12 17 (rLoc 0)) (iB gT2 (· + ·) (iLoc 1) (iLoc 4)))) (sInc 4 1))
theorem olX12_copies_1 (g : GT) {pcB pcC : Nat} : Sok g (tX12_copies 0) 3 33 pcB pcC (lX12_copies_1) := (Sok.loop (pc := 3) (pc1 := 9) (pc2 := 27) (pcN := 33) (Cok.cmp (pc1 := 5) (pc2 := 6) (pcT := 9) (pcF := 33) (EokI.iload (i := 4) dX12_copies_3) (EokI.iload_n (q := 3) dX12_copies_5) (JI.ltF (tgt := 33) dX12_copies_6 (by decide))) (by decide) (Sok.iASt (pc1 := 13) (pc2 := 17) (pc3 := 26) (EokR.getf (pc1 := 10) (j := 17) (ci := 12) (T := TX12) (N := 27) (EokR.aload_n (q := 0) dX12_copies_9) rfl wsX12_in (by decide) flX12_93 dX12_copies_10) (EokI.bin (pc1 := 14) (pc2 := 16) (EokI.iload_n (q := 2) dX12_copies_13) (EokI.iload (i := 4) dX12_copies_14) (OPI.iadd dX12_copies_16)) (EokI.iALd (pc1 := 21) (pc2 := 25) (EokR.getf (pc1 := 18) (j := 17) (ci := 12) (T := TX12) (N := 27) (EokR.aload_n (q := 0) dX12_copies_17) rfl wsX12_in (by decide) flX12_93 dX12_copies_18) (EokI.bin (pc1 := 22) (pc2 := 24) (EokI.iload_n (q := 1) dX12_copies_21) (EokI.iload (i := 4) dX12_copies_22) (OPI.iadd dX12_copies_24)) dX12_copies_25) (by decide) dX12_copies_26) (Sok.goto (pc1 := 30) (pcN := 3) (Sok.iinc (i := 4) (v := 1) dX12_copies_27 (show 4 < 5 by decide) (by decide)) dX12_copies_30 (by decide)))
def mX12_copies : MX := bodyOf 5 (sSeq (sSeq (sSeq (sSetI 4 (iK 0)) lX12_copies_1) (sForget 4)) sRetV)
theorem kX12_copies (g : GT) : MK g 0 yX12_copies cX12_copies 5 none mX12_copies := MK.of (pcN := 99999) (pcB := 0) (pcC := 0) rfl (Sok.seq (pc1 := 33) (Sok.seq (pc1 := 33) (Sok.seq (pc1 := 3) (Sok.setI (i := 4) (pc1 := 1) (EokI.iconst (v := 0) dX12_copies_0 (by decide)) (by decide) dX12_copies_1 (show 4 < 5 by decide)) (olX12_copies_1 g )) (Sok.forget (pc := 33))) (Sok.retV dX12_copies_33 rfl))
/-! PassHutsModel.keeps()V -/
theorem dX12_keeps_0 : decode cX12_keeps 0 = .ok (.aload_n 0, 1) := by decide +kernel
theorem dX12_keeps_1 : decode cX12_keeps 1 = .ok (.getfield 242, 3) := by decide +kernel
theorem dX12_keeps_4 : decode cX12_keeps 4 = .ok (.bipush 16, 2) := by decide +kernel
theorem dX12_keeps_6 : decode cX12_keeps 6 = .ok (.if_icmp .ne 47, 3) := by decide +kernel
theorem dX12_keeps_9 : decode cX12_keeps 9 = .ok (.iconst 1, 1) := by decide +kernel
theorem dX12_keeps_10 : decode cX12_keeps 10 = .ok (.istore_n 1, 1) := by decide +kernel
theorem dX12_keeps_11 : decode cX12_keeps 11 = .ok (.iload_n 1, 1) := by decide +kernel
theorem dX12_keeps_12 : decode cX12_keeps 12 = .ok (.bipush 16, 2) := by decide +kernel
theorem dX12_keeps_14 : decode cX12_keeps 14 = .ok (.if_icmp .ge 29, 3) := by decide +kernel
theorem dX12_keeps_17 : decode cX12_keeps 17 = .ok (.aload_n 0, 1) := by decide +kernel
theorem dX12_keeps_18 : decode cX12_keeps 18 = .ok (.bipush 31, 2) := by decide +kernel
theorem dX12_keeps_20 : decode cX12_keeps 20 = .ok (.iconst 5, 1) := by decide +kernel
theorem dX12_keeps_21 : decode cX12_keeps 21 = .ok (.iload_n 1, 1) := by decide +kernel
theorem dX12_keeps_22 : decode cX12_keeps 22 = .ok (.iadd, 1) := by decide +kernel
theorem dX12_keeps_23 : decode cX12_keeps 23 = .ok (.imul, 1) := by decide +kernel
theorem dX12_keeps_24 : decode cX12_keeps 24 = .ok (.bipush 31, 2) := by decide +kernel
theorem dX12_keeps_26 : decode cX12_keeps 26 = .ok (.iconst 5, 1) := by decide +kernel
theorem dX12_keeps_27 : decode cX12_keeps 27 = .ok (.iload_n 1, 1) := by decide +kernel
theorem dX12_keeps_28 : decode cX12_keeps 28 = .ok (.iadd, 1) := by decide +kernel
theorem dX12_keeps_29 : decode cX12_keeps 29 = .ok (.iconst 1, 1) := by decide +kernel
theorem dX12_keeps_30 : decode cX12_keeps 30 = .ok (.isub, 1) := by decide +kernel
theorem dX12_keeps_31 : decode cX12_keeps 31 = .ok (.imul, 1) := by decide +kernel
theorem dX12_keeps_32 : decode cX12_keeps 32 = .ok (.bipush 6, 2) := by decide +kernel
theorem dX12_keeps_34 : decode cX12_keeps 34 = .ok (.invokevirtual 248, 3) := by decide +kernel
theorem dX12_keeps_37 : decode cX12_keeps 37 = .ok (.iinc 1 1, 3) := by decide +kernel
theorem dX12_keeps_40 : decode cX12_keeps 40 = .ok (.goto (-29), 3) := by decide +kernel
theorem dX12_keeps_43 : decode cX12_keeps 43 = .ok (.aload_n 0, 1) := by decide +kernel
theorem dX12_keeps_44 : decode cX12_keeps 44 = .ok (.dup, 1) := by decide +kernel
theorem dX12_keeps_45 : decode cX12_keeps 45 = .ok (.getfield 242, 3) := by decide +kernel
theorem dX12_keeps_48 : decode cX12_keeps 48 = .ok (.iconst 1, 1) := by decide +kernel
theorem dX12_keeps_49 : decode cX12_keeps 49 = .ok (.isub, 1) := by decide +kernel
theorem dX12_keeps_50 : decode cX12_keeps 50 = .ok (.putfield 242, 3) := by decide +kernel
theorem dX12_keeps_53 : decode cX12_keeps 53 = .ok (.aload_n 0, 1) := by decide +kernel
theorem dX12_keeps_54 : decode cX12_keeps 54 = .ok (.iconst 0, 1) := by decide +kernel
theorem dX12_keeps_55 : decode cX12_keeps 55 = .ok (.bipush 31, 2) := by decide +kernel
theorem dX12_keeps_57 : decode cX12_keeps 57 = .ok (.iconst 5, 1) := by decide +kernel
theorem dX12_keeps_58 : decode cX12_keeps 58 = .ok (.aload_n 0, 1) := by decide +kernel
theorem dX12_keeps_59 : decode cX12_keeps 59 = .ok (.getfield 242, 3) := by decide +kernel
theorem dX12_keeps_62 : decode cX12_keeps 62 = .ok (.iadd, 1) := by decide +kernel
theorem dX12_keeps_63 : decode cX12_keeps 63 = .ok (.imul, 1) := by decide +kernel
theorem dX12_keeps_64 : decode cX12_keeps 64 = .ok (.bipush 6, 2) := by decide +kernel
theorem dX12_keeps_66 : decode cX12_keeps 66 = .ok (.invokevirtual 248, 3) := by decide +kernel
theorem dX12_keeps_69 : decode cX12_keeps 69 = .ok (.aload_n 0, 1) := by decide +kernel
theorem dX12_keeps_70 : decode cX12_keeps 70 = .ok (.dup, 1) := by decide +kernel
theorem dX12_keeps_71 : decode cX12_keeps 71 = .ok (.getfield 242, 3) := by decide +kernel
theorem dX12_keeps_74 : decode cX12_keeps 74 = .ok (.iconst 1, 1) := by decide +kernel
theorem dX12_keeps_75 : decode cX12_keeps 75 = .ok (.iadd, 1) := by decide +kernel
theorem dX12_keeps_76 : decode cX12_keeps 76 = .ok (.putfield 242, 3) := by decide +kernel
theorem dX12_keeps_79 : decode cX12_keeps 79 = .ok (.return_, 1) := by decide +kernel
abbrev tX12_keeps (k : Nat) : MT := (RX12, cX12_keeps, 2, k, none)
def lX12_keeps_1 : SX := (sLoop (cB rlt (iLoc 1) (iK 16)) (sCallV 12 mX12_copies (aR (rLoc 0) (aI (iB gT2 (· * ·) (iK 31) (iB gT2 (· + ·) (iK 5) (iLoc 1))) (aI (iB gT2 (· * ·) (iK 31) (iB gT2 (· - ·) (iB gT2 (· + ·) (iK 5) (iLoc 1)) (iK 1))) (aI (iK 6) aNil))))) (sInc 1 1))
theorem olX12_keeps_1 (g : GT) {pcB pcC : Nat} : Sok g (tX12_keeps 1) 11 43 pcB pcC (lX12_keeps_1) := (Sok.loop (pc := 11) (pc1 := 17) (pc2 := 37) (pcN := 43) (Cok.cmp (pc1 := 12) (pc2 := 14) (pcT := 17) (pcF := 43) (EokI.iload_n (q := 1) dX12_keeps_11) (EokI.bipush (v := 16) dX12_keeps_12 (by decide)) (JI.ltF (tgt := 43) dX12_keeps_14 (by decide))) (by decide) (Sok.sCallV (pc1 := 34) (Aok.aR (pc1 := 18) (EokR.aload_n (q := 0) dX12_keeps_17) (Aok.aI (pc1 := 24) (EokI.bin (pc1 := 20) (pc2 := 23) (EokI.bipush (v := 31) dX12_keeps_18 (by decide)) (EokI.bin (pc1 := 21) (pc2 := 22) (EokI.iconst (v := 5) dX12_keeps_20 (by decide)) (EokI.iload_n (q := 1) dX12_keeps_21) (OPI.iadd dX12_keeps_22)) (OPI.imul dX12_keeps_23)) (Aok.aI (pc1 := 32) (EokI.bin (pc1 := 26) (pc2 := 31) (EokI.bipush (v := 31) dX12_keeps_24 (by decide)) (EokI.bin (pc1 := 29) (pc2 := 30) (EokI.bin (pc1 := 27) (pc2 := 28) (EokI.iconst (v := 5) dX12_keeps_26 (by decide)) (EokI.iload_n (q := 1) dX12_keeps_27) (OPI.iadd dX12_keeps_28)) (EokI.iconst (v := 1) dX12_keeps_29 (by decide)) (OPI.isub dX12_keeps_30)) (OPI.imul dX12_keeps_31)) (Aok.aI (pc1 := 34) (EokI.bipush (v := 6) dX12_keeps_32 (by decide)) Aok.nil)))) (by decide) (kX12_copies g) rfl ykX12_copies vkX12_248 (by decide) (by decide) dX12_keeps_34) (Sok.goto (pc1 := 40) (pcN := 11) (Sok.iinc (i := 1) (v := 1) dX12_keeps_37 (show 1 < 2 by decide) (by decide)) dX12_keeps_40 (by decide)))
def mX12_keeps : MX := bodyOf 2 (sSeq (sSeq (sIf (cB req (iGet 12 18 (rLoc 0)) (iK 16)) (sSeq (sSeq (sSeq (sSetI 1 (iK 1)) lX12_keeps_1) (sForget 1)) (sUpd 12 18 gT2 (· - ·) (rLoc 0) (iK 1))) sSkip) (sSeq (sCallV 12 mX12_copies (aR (rLoc 0) (aI (iK 0) (aI (iB gT2 (· * ·) (iK 31) (iB gT2 (· + ·) (iK 5) (iGet 12 18 (rLoc 0)))) (aI (iK 6) aNil))))) (sUpd 12 18 gT2 (· + ·) (rLoc 0) (iK 1)))) sRetV)
theorem kX12_keeps (g : GT) : MK g 1 yX12_keeps cX12_keeps 2 none mX12_keeps := MK.of (pcN := 99999) (pcB := 0) (pcC := 0) rfl (Sok.seq (pc1 := 79) (Sok.seq (pc1 := 53) (Sok.ite (pc1 := 9) (pc2 := 53) (Cok.cmp (pc1 := 4) (pc2 := 6) (pcT := 9) (pcF := 53) (EokI.getf (pc1 := 1) (j := 18) (ci := 12) (T := TX12) (N := 27) (EokR.aload_n (q := 0) dX12_keeps_0) rfl wsX12_in (by decide) flX12_242 dX12_keeps_1) (EokI.bipush (v := 16) dX12_keeps_4 (by decide)) (JI.eqF (tgt := 53) dX12_keeps_6 (by decide))) (by decide) (Sok.seq (pc1 := 43) (Sok.seq (pc1 := 43) (Sok.seq (pc1 := 11) (Sok.setI_n (q := 1) (pc1 := 10) (EokI.iconst (v := 1) dX12_keeps_9 (by decide)) (by decide) dX12_keeps_10 (show 1 < 2 by decide)) (olX12_keeps_1 g )) (Sok.forget (pc := 43))) (Sok.upd (ci := 12) (T := TX12) (NN := 27) (tt := tyX12) (j := 18) (pc1 := 44) (pc2 := 49) (EokR.aload_n (q := 0) dX12_keeps_43) dX12_keeps_44 dX12_keeps_45 (EokI.iconst (v := 1) dX12_keeps_48 (by decide)) (OPI.isub dX12_keeps_49) (by decide) rfl wsX12_in tyX12_ok nmX12 (by decide) flX12_242 rfl rfl dX12_keeps_50)) (Sok.skip (pc := 53))) (Sok.seq (pc1 := 69) (Sok.sCallV (pc1 := 66) (Aok.aR (pc1 := 54) (EokR.aload_n (q := 0) dX12_keeps_53) (Aok.aI (pc1 := 55) (EokI.iconst (v := 0) dX12_keeps_54 (by decide)) (Aok.aI (pc1 := 64) (EokI.bin (pc1 := 57) (pc2 := 63) (EokI.bipush (v := 31) dX12_keeps_55 (by decide)) (EokI.bin (pc1 := 58) (pc2 := 62) (EokI.iconst (v := 5) dX12_keeps_57 (by decide)) (EokI.getf (pc1 := 59) (j := 18) (ci := 12) (T := TX12) (N := 27) (EokR.aload_n (q := 0) dX12_keeps_58) rfl wsX12_in (by decide) flX12_242 dX12_keeps_59) (OPI.iadd dX12_keeps_62)) (OPI.imul dX12_keeps_63)) (Aok.aI (pc1 := 66) (EokI.bipush (v := 6) dX12_keeps_64 (by decide)) Aok.nil)))) (by decide) (kX12_copies g) rfl ykX12_copies vkX12_248 (by decide) (by decide) dX12_keeps_66) (Sok.upd (ci := 12) (T := TX12) (NN := 27) (tt := tyX12) (j := 18) (pc1 := 70) (pc2 := 75) (EokR.aload_n (q := 0) dX12_keeps_69) dX12_keeps_70 dX12_keeps_71 (EokI.iconst (v := 1) dX12_keeps_74 (by decide)) (OPI.iadd dX12_keeps_75) (by decide) rfl wsX12_in tyX12_ok nmX12 (by decide) flX12_242 rfl rfl dX12_keeps_76))) (Sok.retV dX12_keeps_79 rfl))
/-! PassHutsModel.lay(I)I -/
theorem dX12_lay__0 : decode cX12_lay_ 0 = .ok (.aload_n 0, 1) := by decide +kernel
theorem dX12_lay__1 : decode cX12_lay_ 1 = .ok (.iconst 0, 1) := by decide +kernel
theorem dX12_lay__2 : decode cX12_lay_ 2 = .ok (.putfield 1, 3) := by decide +kernel
theorem dX12_lay__5 : decode cX12_lay_ 5 = .ok (.aload_n 0, 1) := by decide +kernel
theorem dX12_lay__6 : decode cX12_lay_ 6 = .ok (.invokevirtual 271, 3) := by decide +kernel
theorem dX12_lay__9 : decode cX12_lay_ 9 = .ok (.aload_n 0, 1) := by decide +kernel
theorem dX12_lay__10 : decode cX12_lay_ 10 = .ok (.iload_n 1, 1) := by decide +kernel
theorem dX12_lay__11 : decode cX12_lay_ 11 = .ok (.invokevirtual 264, 3) := by decide +kernel
theorem dX12_lay__14 : decode cX12_lay_ 14 = .ok (.ifCond .eq 20, 3) := by decide +kernel
theorem dX12_lay__17 : decode cX12_lay_ 17 = .ok (.aload_n 0, 1) := by decide +kernel
theorem dX12_lay__18 : decode cX12_lay_ 18 = .ok (.iload_n 1, 1) := by decide +kernel
theorem dX12_lay__19 : decode cX12_lay_ 19 = .ok (.invokevirtual 255, 3) := by decide +kernel
theorem dX12_lay__22 : decode cX12_lay_ 22 = .ok (.ifCond .ne 12, 3) := by decide +kernel
theorem dX12_lay__25 : decode cX12_lay_ 25 = .ok (.aload_n 0, 1) := by decide +kernel
theorem dX12_lay__26 : decode cX12_lay_ 26 = .ok (.invokevirtual 258, 3) := by decide +kernel
theorem dX12_lay__29 : decode cX12_lay_ 29 = .ok (.bipush 12, 2) := by decide +kernel
theorem dX12_lay__31 : decode cX12_lay_ 31 = .ok (.if_icmp .ne 5, 3) := by decide +kernel
theorem dX12_lay__34 : decode cX12_lay_ 34 = .ok (.iconst (-1), 1) := by decide +kernel
theorem dX12_lay__35 : decode cX12_lay_ 35 = .ok (.ireturn, 1) := by decide +kernel
theorem dX12_lay__36 : decode cX12_lay_ 36 = .ok (.aload_n 0, 1) := by decide +kernel
theorem dX12_lay__37 : decode cX12_lay_ 37 = .ok (.invokevirtual 281, 3) := by decide +kernel
theorem dX12_lay__40 : decode cX12_lay_ 40 = .ok (.aload_n 0, 1) := by decide +kernel
theorem dX12_lay__41 : decode cX12_lay_ 41 = .ok (.getfield 93, 3) := by decide +kernel
theorem dX12_lay__44 : decode cX12_lay_ 44 = .ok (.iload_n 1, 1) := by decide +kernel
theorem dX12_lay__45 : decode cX12_lay_ 45 = .ok (.dup2, 1) := by decide +kernel
theorem dX12_lay__46 : decode cX12_lay_ 46 = .ok (.iaload, 1) := by decide +kernel
theorem dX12_lay__47 : decode cX12_lay_ 47 = .ok (.iconst 1, 1) := by decide +kernel
theorem dX12_lay__48 : decode cX12_lay_ 48 = .ok (.iadd, 1) := by decide +kernel
theorem dX12_lay__49 : decode cX12_lay_ 49 = .ok (.iastore, 1) := by decide +kernel
theorem dX12_lay__50 : decode cX12_lay_ 50 = .ok (.aload_n 0, 1) := by decide +kernel
theorem dX12_lay__51 : decode cX12_lay_ 51 = .ok (.getfield 93, 3) := by decide +kernel
theorem dX12_lay__54 : decode cX12_lay_ 54 = .ok (.iload_n 1, 1) := by decide +kernel
theorem dX12_lay__55 : decode cX12_lay_ 55 = .ok (.iaload, 1) := by decide +kernel
theorem dX12_lay__56 : decode cX12_lay_ 56 = .ok (.ireturn, 1) := by decide +kernel
abbrev tX12_lay_ (k : Nat) : MT := (RX12, cX12_lay_, 2, k, (some .int))
def mX12_lay_ : MX := bodyOf 2 (sSeq (sPutI 12 0 .int (rLoc 0) (iK 0)) (sSeq (sCallV 12 mX12_laysNow (aR (rLoc 0) aNil)) (sSeq (sIf (cOr (cOr (cNot (cZ zne (iCallV 12 mX12_isHut (aR (rLoc 0) (aI (iLoc 1) aNil))))) (cZ zne (iCallV 12 mX12_isFull (aR (rLoc 0) (aI (iLoc 1) aNil))))) (cB req (iCallV 12 mX12_allLoads (aR (rLoc 0) aNil)) (iK 12))) (sRetI (iK (-1))) sSkip) (sSeq (sCallV 12 mX12_keeps (aR (rLoc 0) aNil)) (sSeq (sAUpd gT2 (· + ·) (rGet 12 17 (rLoc 0)) (iLoc 1) (iK 1)) (sRetI (iALd (rGet 12 17 (rLoc 0)) (iLoc 1))))))))
theorem kX12_lay_ (g : GT) : MK g 2 yX12_lay_ cX12_lay_ 2 (some .int) mX12_lay_ := MK.of (pcN := 99999) (pcB := 0) (pcC := 0) rfl (Sok.seq (pc1 := 5) (Sok.putI (ci := 12) (T := TX12) (NN := 27) (tt := tyX12) (j := 0) (pc1 := 1) (pc2 := 2) (ty := .int) (EokR.aload_n (q := 0) dX12_lay__0) (EokI.iconst (v := 0) dX12_lay__1 (by decide)) (by decide) rfl wsX12_in tyX12_ok nmX12 (by decide) flX12_1 rfl rfl dX12_lay__2) (Sok.seq (pc1 := 9) (Sok.sCallV (pc1 := 6) (Aok.aR (pc1 := 6) (EokR.aload_n (q := 0) dX12_lay__5) Aok.nil) (by decide) (kX12_laysNow g) rfl ykX12_laysNow vkX12_271 (by decide) (by decide) dX12_lay__6) (Sok.seq (pc1 := 36) (Sok.ite (pc1 := 34) (pc2 := 36) (Cok.or (pc1 := 25) (Cok.or (pc1 := 17) (Cok.not (Cok.zero (pc1 := 14) (pcT := 17) (pcF := 34) (EokI.iCallV (pc1 := 11) (Aok.aR (pc1 := 10) (EokR.aload_n (q := 0) dX12_lay__9) (Aok.aI (pc1 := 11) (EokI.iload_n (q := 1) dX12_lay__10) Aok.nil)) (kX12_isHut g) rfl ykX12_isHut vkX12_264 (by decide) (by decide) dX12_lay__11) (JZ.neF (tgt := 34) dX12_lay__14 (by decide)))) (Cok.zero (pc1 := 22) (pcT := 34) (pcF := 25) (EokI.iCallV (pc1 := 19) (Aok.aR (pc1 := 18) (EokR.aload_n (q := 0) dX12_lay__17) (Aok.aI (pc1 := 19) (EokI.iload_n (q := 1) dX12_lay__18) Aok.nil)) (kX12_isFull g) rfl ykX12_isFull vkX12_255 (by decide) (by decide) dX12_lay__19) (JZ.neT (tgt := 34) dX12_lay__22 (by decide)))) (Cok.cmp (pc1 := 29) (pc2 := 31) (pcT := 34) (pcF := 36) (EokI.iCallV (pc1 := 26) (Aok.aR (pc1 := 26) (EokR.aload_n (q := 0) dX12_lay__25) Aok.nil) (kX12_allLoads g) rfl ykX12_allLoads vkX12_258 (by decide) (by decide) dX12_lay__26) (EokI.bipush (v := 12) dX12_lay__29 (by decide)) (JI.eqF (tgt := 36) dX12_lay__31 (by decide)))) (by decide) (Sok.retI (pc1 := 35) (EokI.iconst (v := (-1)) dX12_lay__34 (by decide)) (by decide) dX12_lay__35 rfl) (Sok.skip (pc := 36))) (Sok.seq (pc1 := 40) (Sok.sCallV (pc1 := 37) (Aok.aR (pc1 := 37) (EokR.aload_n (q := 0) dX12_lay__36) Aok.nil) (by decide) (kX12_keeps g) rfl ykX12_keeps vkX12_281 (by decide) (by decide) dX12_lay__37) (Sok.seq (pc1 := 50) (Sok.aupd (pc1 := 44) (pc2 := 45) (pc3 := 48) (EokR.getf (pc1 := 41) (j := 17) (ci := 12) (T := TX12) (N := 27) (EokR.aload_n (q := 0) dX12_lay__40) rfl wsX12_in (by decide) flX12_93 dX12_lay__41) (EokI.iload_n (q := 1) dX12_lay__44) dX12_lay__45 dX12_lay__46 (EokI.iconst (v := 1) dX12_lay__47 (by decide)) (OPI.iadd dX12_lay__48) (by decide) dX12_lay__49) (Sok.retI (pc1 := 56) (EokI.iALd (pc1 := 54) (pc2 := 55) (EokR.getf (pc1 := 51) (j := 17) (ci := 12) (T := TX12) (N := 27) (EokR.aload_n (q := 0) dX12_lay__50) rfl wsX12_in (by decide) flX12_93 dX12_lay__51) (EokI.iload_n (q := 1) dX12_lay__54) dX12_lay__55) (by decide) dX12_lay__56 rfl))))))
/-! PassHutsModel.isLetter(I)Z -/
theorem dX12_isLetter_0 : decode cX12_isLetter 0 = .ok (.iload_n 0, 1) := by decide +kernel
theorem dX12_isLetter_1 : decode cX12_isLetter 1 = .ok (.bipush 97, 2) := by decide +kernel
theorem dX12_isLetter_3 : decode cX12_isLetter 3 = .ok (.if_icmp .lt 13, 3) := by decide +kernel
theorem dX12_isLetter_6 : decode cX12_isLetter 6 = .ok (.iload_n 0, 1) := by decide +kernel
theorem dX12_isLetter_7 : decode cX12_isLetter 7 = .ok (.bipush 122, 2) := by decide +kernel
theorem dX12_isLetter_9 : decode cX12_isLetter 9 = .ok (.if_icmp .gt 7, 3) := by decide +kernel
theorem dX12_isLetter_12 : decode cX12_isLetter 12 = .ok (.iconst 1, 1) := by decide +kernel
theorem dX12_isLetter_13 : decode cX12_isLetter 13 = .ok (.goto 4, 3) := by decide +kernel
theorem dX12_isLetter_16 : decode cX12_isLetter 16 = .ok (.iconst 0, 1) := by decide +kernel
theorem dX12_isLetter_17 : decode cX12_isLetter 17 = .ok (.ireturn, 1) := by decide +kernel
abbrev tX12_isLetter (k : Nat) : MT := (RX12, cX12_isLetter, 1, k, (some .boolean))
def mX12_isLetter : MX := bodyOf 1 (sRetZ (iBool (cAnd (cB rge (iLoc 0) (iK 97)) (cB rle (iLoc 0) (iK 122)))))
theorem kX12_isLetter (g : GT) : MK g 0 yX12_isLetter cX12_isLetter 1 (some .boolean) mX12_isLetter := MK.of (pcN := 99999) (pcB := 0) (pcC := 0) rfl (Sok.retZ (pc1 := 17) (EokI.cond' (pc1 := 12) (pc2 := 16) (Cok.and (pc1 := 6) (Cok.cmp (pc1 := 1) (pc2 := 3) (pcT := 6) (pcF := 16) (EokI.iload_n (q := 0) dX12_isLetter_0) (EokI.bipush (v := 97) dX12_isLetter_1 (by decide)) (JI.geF (tgt := 16) dX12_isLetter_3 (by decide))) (Cok.cmp (pc1 := 7) (pc2 := 9) (pcT := 12) (pcF := 16) (EokI.iload_n (q := 0) dX12_isLetter_6) (EokI.bipush (v := 122) dX12_isLetter_7 (by decide)) (JI.leF (tgt := 16) dX12_isLetter_9 (by decide)))) (EokI.goto (pc1 := 13) (pc2 := 17) (EokI.iconst (v := 1) dX12_isLetter_12 (by decide)) dX12_isLetter_13 (by decide)) (EokI.iconst (v := 0) dX12_isLetter_16 (by decide))) (by decide) dX12_isLetter_17 rfl)
/-! PassHutsModel.isDigit(I)Z -/
theorem dX12_isDigit_0 : decode cX12_isDigit 0 = .ok (.iload_n 0, 1) := by decide +kernel
theorem dX12_isDigit_1 : decode cX12_isDigit 1 = .ok (.bipush 48, 2) := by decide +kernel
theorem dX12_isDigit_3 : decode cX12_isDigit 3 = .ok (.if_icmp .lt 13, 3) := by decide +kernel
theorem dX12_isDigit_6 : decode cX12_isDigit 6 = .ok (.iload_n 0, 1) := by decide +kernel
theorem dX12_isDigit_7 : decode cX12_isDigit 7 = .ok (.bipush 57, 2) := by decide +kernel
theorem dX12_isDigit_9 : decode cX12_isDigit 9 = .ok (.if_icmp .gt 7, 3) := by decide +kernel
theorem dX12_isDigit_12 : decode cX12_isDigit 12 = .ok (.iconst 1, 1) := by decide +kernel
theorem dX12_isDigit_13 : decode cX12_isDigit 13 = .ok (.goto 4, 3) := by decide +kernel
theorem dX12_isDigit_16 : decode cX12_isDigit 16 = .ok (.iconst 0, 1) := by decide +kernel
theorem dX12_isDigit_17 : decode cX12_isDigit 17 = .ok (.ireturn, 1) := by decide +kernel
abbrev tX12_isDigit (k : Nat) : MT := (RX12, cX12_isDigit, 1, k, (some .boolean))
def mX12_isDigit : MX := bodyOf 1 (sRetZ (iBool (cAnd (cB rge (iLoc 0) (iK 48)) (cB rle (iLoc 0) (iK 57)))))
theorem kX12_isDigit (g : GT) : MK g 0 yX12_isDigit cX12_isDigit 1 (some .boolean) mX12_isDigit := MK.of (pcN := 99999) (pcB := 0) (pcC := 0) rfl (Sok.retZ (pc1 := 17) (EokI.cond' (pc1 := 12) (pc2 := 16) (Cok.and (pc1 := 6) (Cok.cmp (pc1 := 1) (pc2 := 3) (pcT := 6) (pcF := 16) (EokI.iload_n (q := 0) dX12_isDigit_0) (EokI.bipush (v := 48) dX12_isDigit_1 (by decide)) (JI.geF (tgt := 16) dX12_isDigit_3 (by decide))) (Cok.cmp (pc1 := 7) (pc2 := 9) (pcT := 12) (pcF := 16) (EokI.iload_n (q := 0) dX12_isDigit_6) (EokI.bipush (v := 57) dX12_isDigit_7 (by decide)) (JI.leF (tgt := 16) dX12_isDigit_9 (by decide)))) (EokI.goto (pc1 := 13) (pc2 := 17) (EokI.iconst (v := 1) dX12_isDigit_12 (by decide)) dX12_isDigit_13 (by decide)) (EokI.iconst (v := 0) dX12_isDigit_16 (by decide))) (by decide) dX12_isDigit_17 rfl)
/-! PassHutsModel.rank(I)I -/
theorem dX12_rank_0 : decode cX12_rank 0 = .ok (.iload_n 0, 1) := by decide +kernel
theorem dX12_rank_1 : decode cX12_rank 1 = .ok (.invokestatic 122, 3) := by decide +kernel
theorem dX12_rank_4 : decode cX12_rank 4 = .ok (.ifCond .eq 10, 3) := by decide +kernel
theorem dX12_rank_7 : decode cX12_rank 7 = .ok (.iload_n 0, 1) := by decide +kernel
theorem dX12_rank_8 : decode cX12_rank 8 = .ok (.bipush 96, 2) := by decide +kernel
theorem dX12_rank_10 : decode cX12_rank 10 = .ok (.isub, 1) := by decide +kernel
theorem dX12_rank_11 : decode cX12_rank 11 = .ok (.goto 7, 3) := by decide +kernel
theorem dX12_rank_14 : decode cX12_rank 14 = .ok (.iload_n 0, 1) := by decide +kernel
theorem dX12_rank_15 : decode cX12_rank 15 = .ok (.bipush 21, 2) := by decide +kernel
theorem dX12_rank_17 : decode cX12_rank 17 = .ok (.isub, 1) := by decide +kernel
theorem dX12_rank_18 : decode cX12_rank 18 = .ok (.ireturn, 1) := by decide +kernel
abbrev tX12_rank (k : Nat) : MT := (RX12, cX12_rank, 1, k, (some .int))
def mX12_rank : MX := bodyOf 1 (sRetI (iCond (cZ zne (iCallS mX12_isLetter (aI (iLoc 0) aNil))) (iB gT2 (· - ·) (iLoc 0) (iK 96)) (iB gT2 (· - ·) (iLoc 0) (iK 21))))
theorem kX12_rank (g : GT) : MK g 1 yX12_rank cX12_rank 1 (some .int) mX12_rank := MK.of (pcN := 99999) (pcB := 0) (pcC := 0) rfl (Sok.retI (pc1 := 18) (EokI.cond' (pc1 := 7) (pc2 := 14) (Cok.zero (pc1 := 4) (pcT := 7) (pcF := 14) (EokI.iCallS (pc1 := 1) (Aok.aI (pc1 := 1) (EokI.iload_n (q := 0) dX12_rank_0) Aok.nil) (kX12_isLetter g) ykX12_isLetter skX12_122 (by decide) (by decide) dX12_rank_1) (JZ.neF (tgt := 14) dX12_rank_4 (by decide))) (EokI.goto (pc1 := 11) (pc2 := 18) (EokI.bin (pc1 := 8) (pc2 := 10) (EokI.iload_n (q := 0) dX12_rank_7) (EokI.bipush (v := 96) dX12_rank_8 (by decide)) (OPI.isub dX12_rank_10)) dX12_rank_11 (by decide)) (EokI.bin (pc1 := 15) (pc2 := 17) (EokI.iload_n (q := 0) dX12_rank_14) (EokI.bipush (v := 21) dX12_rank_15 (by decide)) (OPI.isub dX12_rank_17))) (by decide) dX12_rank_18 rfl)
/-! PassHutsModel.isSignOf(I)Z -/
theorem dX12_isSignOf_0 : decode cX12_isSignOf 0 = .ok (.iload_n 0, 1) := by decide +kernel
theorem dX12_isSignOf_1 : decode cX12_isSignOf 1 = .ok (.bipush 40, 2) := by decide +kernel
theorem dX12_isSignOf_3 : decode cX12_isSignOf 3 = .ok (.if_icmp .eq 45, 3) := by decide +kernel
theorem dX12_isSignOf_6 : decode cX12_isSignOf 6 = .ok (.iload_n 0, 1) := by decide +kernel
theorem dX12_isSignOf_7 : decode cX12_isSignOf 7 = .ok (.bipush 41, 2) := by decide +kernel
theorem dX12_isSignOf_9 : decode cX12_isSignOf 9 = .ok (.if_icmp .eq 39, 3) := by decide +kernel
theorem dX12_isSignOf_12 : decode cX12_isSignOf 12 = .ok (.iload_n 0, 1) := by decide +kernel
theorem dX12_isSignOf_13 : decode cX12_isSignOf 13 = .ok (.bipush 59, 2) := by decide +kernel
theorem dX12_isSignOf_15 : decode cX12_isSignOf 15 = .ok (.if_icmp .eq 33, 3) := by decide +kernel
theorem dX12_isSignOf_18 : decode cX12_isSignOf 18 = .ok (.iload_n 0, 1) := by decide +kernel
theorem dX12_isSignOf_19 : decode cX12_isSignOf 19 = .ok (.bipush 61, 2) := by decide +kernel
theorem dX12_isSignOf_21 : decode cX12_isSignOf 21 = .ok (.if_icmp .eq 27, 3) := by decide +kernel
theorem dX12_isSignOf_24 : decode cX12_isSignOf 24 = .ok (.iload_n 0, 1) := by decide +kernel
theorem dX12_isSignOf_25 : decode cX12_isSignOf 25 = .ok (.bipush 60, 2) := by decide +kernel
theorem dX12_isSignOf_27 : decode cX12_isSignOf 27 = .ok (.if_icmp .eq 21, 3) := by decide +kernel
theorem dX12_isSignOf_30 : decode cX12_isSignOf 30 = .ok (.iload_n 0, 1) := by decide +kernel
theorem dX12_isSignOf_31 : decode cX12_isSignOf 31 = .ok (.bipush 43, 2) := by decide +kernel
theorem dX12_isSignOf_33 : decode cX12_isSignOf 33 = .ok (.if_icmp .eq 15, 3) := by decide +kernel
theorem dX12_isSignOf_36 : decode cX12_isSignOf 36 = .ok (.iload_n 0, 1) := by decide +kernel
theorem dX12_isSignOf_37 : decode cX12_isSignOf 37 = .ok (.bipush 45, 2) := by decide +kernel
theorem dX12_isSignOf_39 : decode cX12_isSignOf 39 = .ok (.if_icmp .eq 9, 3) := by decide +kernel
theorem dX12_isSignOf_42 : decode cX12_isSignOf 42 = .ok (.iload_n 0, 1) := by decide +kernel
theorem dX12_isSignOf_43 : decode cX12_isSignOf 43 = .ok (.bipush 42, 2) := by decide +kernel
theorem dX12_isSignOf_45 : decode cX12_isSignOf 45 = .ok (.if_icmp .ne 7, 3) := by decide +kernel
theorem dX12_isSignOf_48 : decode cX12_isSignOf 48 = .ok (.iconst 1, 1) := by decide +kernel
theorem dX12_isSignOf_49 : decode cX12_isSignOf 49 = .ok (.goto 4, 3) := by decide +kernel
theorem dX12_isSignOf_52 : decode cX12_isSignOf 52 = .ok (.iconst 0, 1) := by decide +kernel
theorem dX12_isSignOf_53 : decode cX12_isSignOf 53 = .ok (.ireturn, 1) := by decide +kernel
abbrev tX12_isSignOf (k : Nat) : MT := (RX12, cX12_isSignOf, 1, k, (some .boolean))
def mX12_isSignOf : MX := bodyOf 1 (sRetZ (iBool (cOr (cOr (cOr (cOr (cOr (cOr (cOr (cB req (iLoc 0) (iK 40)) (cB req (iLoc 0) (iK 41))) (cB req (iLoc 0) (iK 59))) (cB req (iLoc 0) (iK 61))) (cB req (iLoc 0) (iK 60))) (cB req (iLoc 0) (iK 43))) (cB req (iLoc 0) (iK 45))) (cB req (iLoc 0) (iK 42)))))
theorem kX12_isSignOf (g : GT) : MK g 0 yX12_isSignOf cX12_isSignOf 1 (some .boolean) mX12_isSignOf := MK.of (pcN := 99999) (pcB := 0) (pcC := 0) rfl (Sok.retZ (pc1 := 53) (EokI.cond' (pc1 := 48) (pc2 := 52) (Cok.or (pc1 := 42) (Cok.or (pc1 := 36) (Cok.or (pc1 := 30) (Cok.or (pc1 := 24) (Cok.or (pc1 := 18) (Cok.or (pc1 := 12) (Cok.or (pc1 := 6) (Cok.cmp (pc1 := 1) (pc2 := 3) (pcT := 48) (pcF := 6) (EokI.iload_n (q := 0) dX12_isSignOf_0) (EokI.bipush (v := 40) dX12_isSignOf_1 (by decide)) (JI.eqT (tgt := 48) dX12_isSignOf_3 (by decide))) (Cok.cmp (pc1 := 7) (pc2 := 9) (pcT := 48) (pcF := 12) (EokI.iload_n (q := 0) dX12_isSignOf_6) (EokI.bipush (v := 41) dX12_isSignOf_7 (by decide)) (JI.eqT (tgt := 48) dX12_isSignOf_9 (by decide)))) (Cok.cmp (pc1 := 13) (pc2 := 15) (pcT := 48) (pcF := 18) (EokI.iload_n (q := 0) dX12_isSignOf_12) (EokI.bipush (v := 59) dX12_isSignOf_13 (by decide)) (JI.eqT (tgt := 48) dX12_isSignOf_15 (by decide)))) (Cok.cmp (pc1 := 19) (pc2 := 21) (pcT := 48) (pcF := 24) (EokI.iload_n (q := 0) dX12_isSignOf_18) (EokI.bipush (v := 61) dX12_isSignOf_19 (by decide)) (JI.eqT (tgt := 48) dX12_isSignOf_21 (by decide)))) (Cok.cmp (pc1 := 25) (pc2 := 27) (pcT := 48) (pcF := 30) (EokI.iload_n (q := 0) dX12_isSignOf_24) (EokI.bipush (v := 60) dX12_isSignOf_25 (by decide)) (JI.eqT (tgt := 48) dX12_isSignOf_27 (by decide)))) (Cok.cmp (pc1 := 31) (pc2 := 33) (pcT := 48) (pcF := 36) (EokI.iload_n (q := 0) dX12_isSignOf_30) (EokI.bipush (v := 43) dX12_isSignOf_31 (by decide)) (JI.eqT (tgt := 48) dX12_isSignOf_33 (by decide)))) (Cok.cmp (pc1 := 37) (pc2 := 39) (pcT := 48) (pcF := 42) (EokI.iload_n (q := 0) dX12_isSignOf_36) (EokI.bipush (v := 45) dX12_isSignOf_37 (by decide)) (JI.eqT (tgt := 48) dX12_isSignOf_39 (by decide)))) (Cok.cmp (pc1 := 43) (pc2 := 45) (pcT := 48) (pcF := 52) (EokI.iload_n (q := 0) dX12_isSignOf_42) (EokI.bipush (v := 42) dX12_isSignOf_43 (by decide)) (JI.eqF (tgt := 52) dX12_isSignOf_45 (by decide)))) (EokI.goto (pc1 := 49) (pc2 := 53) (EokI.iconst (v := 1) dX12_isSignOf_48 (by decide)) dX12_isSignOf_49 (by decide)) (EokI.iconst (v := 0) dX12_isSignOf_52 (by decide))) (by decide) dX12_isSignOf_53 rfl)
/-! PassHutsModel.cutAll()V -/
theorem dX12_cutAll_0 : decode cX12_cutAll 0 = .ok (.aload_n 0, 1) := by decide +kernel
theorem dX12_cutAll_1 : decode cX12_cutAll 1 = .ok (.aload_n 0, 1) := by decide +kernel
theorem dX12_cutAll_2 : decode cX12_cutAll 2 = .ok (.getfield 11, 3) := by decide +kernel
theorem dX12_cutAll_5 : decode cX12_cutAll 5 = .ok (.putfield 126, 3) := by decide +kernel
theorem dX12_cutAll_8 : decode cX12_cutAll 8 = .ok (.aload_n 0, 1) := by decide +kernel
theorem dX12_cutAll_9 : decode cX12_cutAll 9 = .ok (.iconst 0, 1) := by decide +kernel
theorem dX12_cutAll_10 : decode cX12_cutAll 10 = .ok (.putfield 11, 3) := by decide +kernel
theorem dX12_cutAll_13 : decode cX12_cutAll 13 = .ok (.iconst 0, 1) := by decide +kernel
theorem dX12_cutAll_14 : decode cX12_cutAll 14 = .ok (.istore_n 1, 1) := by decide +kernel
theorem dX12_cutAll_15 : decode cX12_cutAll 15 = .ok (.iconst 0, 1) := by decide +kernel
theorem dX12_cutAll_16 : decode cX12_cutAll 16 = .ok (.istore_n 2, 1) := by decide +kernel
theorem dX12_cutAll_17 : decode cX12_cutAll 17 = .ok (.iload_n 2, 1) := by decide +kernel
theorem dX12_cutAll_18 : decode cX12_cutAll 18 = .ok (.aload_n 0, 1) := by decide +kernel
theorem dX12_cutAll_19 : decode cX12_cutAll 19 = .ok (.getfield 126, 3) := by decide +kernel
theorem dX12_cutAll_22 : decode cX12_cutAll 22 = .ok (.if_icmp .ge 257, 3) := by decide +kernel
theorem dX12_cutAll_25 : decode cX12_cutAll 25 = .ok (.aload_n 0, 1) := by decide +kernel
theorem dX12_cutAll_26 : decode cX12_cutAll 26 = .ok (.getfield 14, 3) := by decide +kernel
theorem dX12_cutAll_29 : decode cX12_cutAll 29 = .ok (.iload_n 2, 1) := by decide +kernel
theorem dX12_cutAll_30 : decode cX12_cutAll 30 = .ok (.iaload, 1) := by decide +kernel
theorem dX12_cutAll_31 : decode cX12_cutAll 31 = .ok (.istore_n 3, 1) := by decide +kernel
theorem dX12_cutAll_32 : decode cX12_cutAll 32 = .ok (.iload_n 3, 1) := by decide +kernel
theorem dX12_cutAll_33 : decode cX12_cutAll 33 = .ok (.bipush 10, 2) := by decide +kernel
theorem dX12_cutAll_35 : decode cX12_cutAll 35 = .ok (.if_icmp .eq 9, 3) := by decide +kernel
theorem dX12_cutAll_38 : decode cX12_cutAll 38 = .ok (.iload_n 3, 1) := by decide +kernel
theorem dX12_cutAll_39 : decode cX12_cutAll 39 = .ok (.bipush 32, 2) := by decide +kernel
theorem dX12_cutAll_41 : decode cX12_cutAll 41 = .ok (.if_icmp .ne 9, 3) := by decide +kernel
theorem dX12_cutAll_44 : decode cX12_cutAll 44 = .ok (.iinc 2 1, 3) := by decide +kernel
theorem dX12_cutAll_47 : decode cX12_cutAll 47 = .ok (.goto (-30), 3) := by decide +kernel
theorem dX12_cutAll_50 : decode cX12_cutAll 50 = .ok (.iload_n 2, 1) := by decide +kernel
theorem dX12_cutAll_51 : decode cX12_cutAll 51 = .ok (.istore 4, 2) := by decide +kernel
theorem dX12_cutAll_53 : decode cX12_cutAll 53 = .ok (.lconst 0, 1) := by decide +kernel
theorem dX12_cutAll_54 : decode cX12_cutAll 54 = .ok (.lstore 5, 2) := by decide +kernel
theorem dX12_cutAll_56 : decode cX12_cutAll 56 = .ok (.aload_n 0, 1) := by decide +kernel
theorem dX12_cutAll_57 : decode cX12_cutAll 57 = .ok (.getfield 27, 3) := by decide +kernel
theorem dX12_cutAll_60 : decode cX12_cutAll 60 = .ok (.iload_n 1, 1) := by decide +kernel
theorem dX12_cutAll_61 : decode cX12_cutAll 61 = .ok (.iload_n 2, 1) := by decide +kernel
theorem dX12_cutAll_62 : decode cX12_cutAll 62 = .ok (.iastore, 1) := by decide +kernel
theorem dX12_cutAll_63 : decode cX12_cutAll 63 = .ok (.iload_n 3, 1) := by decide +kernel
theorem dX12_cutAll_64 : decode cX12_cutAll 64 = .ok (.invokestatic 122, 3) := by decide +kernel
theorem dX12_cutAll_67 : decode cX12_cutAll 67 = .ok (.ifCond .eq 85, 3) := by decide +kernel
theorem dX12_cutAll_70 : decode cX12_cutAll 70 = .ok (.iload_n 2, 1) := by decide +kernel
theorem dX12_cutAll_71 : decode cX12_cutAll 71 = .ok (.aload_n 0, 1) := by decide +kernel
theorem dX12_cutAll_72 : decode cX12_cutAll 72 = .ok (.getfield 126, 3) := by decide +kernel
theorem dX12_cutAll_75 : decode cX12_cutAll 75 = .ok (.if_icmp .ge 54, 3) := by decide +kernel
theorem dX12_cutAll_78 : decode cX12_cutAll 78 = .ok (.aload_n 0, 1) := by decide +kernel
theorem dX12_cutAll_79 : decode cX12_cutAll 79 = .ok (.getfield 14, 3) := by decide +kernel
theorem dX12_cutAll_82 : decode cX12_cutAll 82 = .ok (.iload_n 2, 1) := by decide +kernel
theorem dX12_cutAll_83 : decode cX12_cutAll 83 = .ok (.iaload, 1) := by decide +kernel
theorem dX12_cutAll_84 : decode cX12_cutAll 84 = .ok (.invokestatic 122, 3) := by decide +kernel
theorem dX12_cutAll_87 : decode cX12_cutAll 87 = .ok (.ifCond .eq 42, 3) := by decide +kernel
theorem dX12_cutAll_90 : decode cX12_cutAll 90 = .ok (.iload_n 2, 1) := by decide +kernel
theorem dX12_cutAll_91 : decode cX12_cutAll 91 = .ok (.iload 4, 2) := by decide +kernel
theorem dX12_cutAll_93 : decode cX12_cutAll 93 = .ok (.isub, 1) := by decide +kernel
theorem dX12_cutAll_94 : decode cX12_cutAll 94 = .ok (.bipush 8, 2) := by decide +kernel
theorem dX12_cutAll_96 : decode cX12_cutAll 96 = .ok (.if_icmp .ge 23, 3) := by decide +kernel
theorem dX12_cutAll_99 : decode cX12_cutAll 99 = .ok (.ldc2_w 129, 3) := by decide +kernel
theorem dX12_cutAll_102 : decode cX12_cutAll 102 = .ok (.lload 5, 2) := by decide +kernel
theorem dX12_cutAll_104 : decode cX12_cutAll 104 = .ok (.lmul, 1) := by decide +kernel
theorem dX12_cutAll_105 : decode cX12_cutAll 105 = .ok (.aload_n 0, 1) := by decide +kernel
theorem dX12_cutAll_106 : decode cX12_cutAll 106 = .ok (.getfield 14, 3) := by decide +kernel
theorem dX12_cutAll_109 : decode cX12_cutAll 109 = .ok (.iload_n 2, 1) := by decide +kernel
theorem dX12_cutAll_110 : decode cX12_cutAll 110 = .ok (.iaload, 1) := by decide +kernel
theorem dX12_cutAll_111 : decode cX12_cutAll 111 = .ok (.invokestatic 131, 3) := by decide +kernel
theorem dX12_cutAll_114 : decode cX12_cutAll 114 = .ok (.i2l, 1) := by decide +kernel
theorem dX12_cutAll_115 : decode cX12_cutAll 115 = .ok (.ladd, 1) := by decide +kernel
theorem dX12_cutAll_116 : decode cX12_cutAll 116 = .ok (.goto 5, 3) := by decide +kernel
theorem dX12_cutAll_119 : decode cX12_cutAll 119 = .ok (.lload 5, 2) := by decide +kernel
theorem dX12_cutAll_121 : decode cX12_cutAll 121 = .ok (.lstore 5, 2) := by decide +kernel
theorem dX12_cutAll_123 : decode cX12_cutAll 123 = .ok (.iinc 2 1, 3) := by decide +kernel
theorem dX12_cutAll_126 : decode cX12_cutAll 126 = .ok (.goto (-56), 3) := by decide +kernel
theorem dX12_cutAll_129 : decode cX12_cutAll 129 = .ok (.aload_n 0, 1) := by decide +kernel
theorem dX12_cutAll_130 : decode cX12_cutAll 130 = .ok (.getfield 24, 3) := by decide +kernel
theorem dX12_cutAll_133 : decode cX12_cutAll 133 = .ok (.iload_n 1, 1) := by decide +kernel
theorem dX12_cutAll_134 : decode cX12_cutAll 134 = .ok (.iload_n 2, 1) := by decide +kernel
theorem dX12_cutAll_135 : decode cX12_cutAll 135 = .ok (.iload 4, 2) := by decide +kernel
theorem dX12_cutAll_137 : decode cX12_cutAll 137 = .ok (.isub, 1) := by decide +kernel
theorem dX12_cutAll_138 : decode cX12_cutAll 138 = .ok (.bipush 8, 2) := by decide +kernel
theorem dX12_cutAll_140 : decode cX12_cutAll 140 = .ok (.if_icmp .le 7, 3) := by decide +kernel
theorem dX12_cutAll_143 : decode cX12_cutAll 143 = .ok (.iconst 4, 1) := by decide +kernel
theorem dX12_cutAll_144 : decode cX12_cutAll 144 = .ok (.goto 4, 3) := by decide +kernel
theorem dX12_cutAll_147 : decode cX12_cutAll 147 = .ok (.iconst 1, 1) := by decide +kernel
theorem dX12_cutAll_148 : decode cX12_cutAll 148 = .ok (.iastore, 1) := by decide +kernel
theorem dX12_cutAll_149 : decode cX12_cutAll 149 = .ok (.goto 116, 3) := by decide +kernel
theorem dX12_cutAll_152 : decode cX12_cutAll 152 = .ok (.iload_n 3, 1) := by decide +kernel
theorem dX12_cutAll_153 : decode cX12_cutAll 153 = .ok (.invokestatic 135, 3) := by decide +kernel
theorem dX12_cutAll_156 : decode cX12_cutAll 156 = .ok (.ifCond .eq 84, 3) := by decide +kernel
theorem dX12_cutAll_159 : decode cX12_cutAll 159 = .ok (.iload_n 2, 1) := by decide +kernel
theorem dX12_cutAll_160 : decode cX12_cutAll 160 = .ok (.aload_n 0, 1) := by decide +kernel
theorem dX12_cutAll_161 : decode cX12_cutAll 161 = .ok (.getfield 126, 3) := by decide +kernel
theorem dX12_cutAll_164 : decode cX12_cutAll 164 = .ok (.if_icmp .ge 54, 3) := by decide +kernel
theorem dX12_cutAll_167 : decode cX12_cutAll 167 = .ok (.aload_n 0, 1) := by decide +kernel
theorem dX12_cutAll_168 : decode cX12_cutAll 168 = .ok (.getfield 14, 3) := by decide +kernel
theorem dX12_cutAll_171 : decode cX12_cutAll 171 = .ok (.iload_n 2, 1) := by decide +kernel
theorem dX12_cutAll_172 : decode cX12_cutAll 172 = .ok (.iaload, 1) := by decide +kernel
theorem dX12_cutAll_173 : decode cX12_cutAll 173 = .ok (.invokestatic 135, 3) := by decide +kernel
theorem dX12_cutAll_176 : decode cX12_cutAll 176 = .ok (.ifCond .eq 42, 3) := by decide +kernel
theorem dX12_cutAll_179 : decode cX12_cutAll 179 = .ok (.iload_n 2, 1) := by decide +kernel
theorem dX12_cutAll_180 : decode cX12_cutAll 180 = .ok (.iload 4, 2) := by decide +kernel
theorem dX12_cutAll_182 : decode cX12_cutAll 182 = .ok (.isub, 1) := by decide +kernel
theorem dX12_cutAll_183 : decode cX12_cutAll 183 = .ok (.iconst 4, 1) := by decide +kernel
theorem dX12_cutAll_184 : decode cX12_cutAll 184 = .ok (.if_icmp .ge 24, 3) := by decide +kernel
theorem dX12_cutAll_187 : decode cX12_cutAll 187 = .ok (.ldc2_w 138, 3) := by decide +kernel
theorem dX12_cutAll_190 : decode cX12_cutAll 190 = .ok (.lload 5, 2) := by decide +kernel
theorem dX12_cutAll_192 : decode cX12_cutAll 192 = .ok (.lmul, 1) := by decide +kernel
theorem dX12_cutAll_193 : decode cX12_cutAll 193 = .ok (.aload_n 0, 1) := by decide +kernel
theorem dX12_cutAll_194 : decode cX12_cutAll 194 = .ok (.getfield 14, 3) := by decide +kernel
theorem dX12_cutAll_197 : decode cX12_cutAll 197 = .ok (.iload_n 2, 1) := by decide +kernel
theorem dX12_cutAll_198 : decode cX12_cutAll 198 = .ok (.iaload, 1) := by decide +kernel
theorem dX12_cutAll_199 : decode cX12_cutAll 199 = .ok (.i2l, 1) := by decide +kernel
theorem dX12_cutAll_200 : decode cX12_cutAll 200 = .ok (.ladd, 1) := by decide +kernel
theorem dX12_cutAll_201 : decode cX12_cutAll 201 = .ok (.ldc2_w 140, 3) := by decide +kernel
theorem dX12_cutAll_204 : decode cX12_cutAll 204 = .ok (.lsub, 1) := by decide +kernel
theorem dX12_cutAll_205 : decode cX12_cutAll 205 = .ok (.goto 5, 3) := by decide +kernel
theorem dX12_cutAll_208 : decode cX12_cutAll 208 = .ok (.lload 5, 2) := by decide +kernel
theorem dX12_cutAll_210 : decode cX12_cutAll 210 = .ok (.lstore 5, 2) := by decide +kernel
theorem dX12_cutAll_212 : decode cX12_cutAll 212 = .ok (.iinc 2 1, 3) := by decide +kernel
theorem dX12_cutAll_215 : decode cX12_cutAll 215 = .ok (.goto (-56), 3) := by decide +kernel
theorem dX12_cutAll_218 : decode cX12_cutAll 218 = .ok (.aload_n 0, 1) := by decide +kernel
theorem dX12_cutAll_219 : decode cX12_cutAll 219 = .ok (.getfield 24, 3) := by decide +kernel
theorem dX12_cutAll_222 : decode cX12_cutAll 222 = .ok (.iload_n 1, 1) := by decide +kernel
theorem dX12_cutAll_223 : decode cX12_cutAll 223 = .ok (.iload_n 2, 1) := by decide +kernel
theorem dX12_cutAll_224 : decode cX12_cutAll 224 = .ok (.iload 4, 2) := by decide +kernel
theorem dX12_cutAll_226 : decode cX12_cutAll 226 = .ok (.isub, 1) := by decide +kernel
theorem dX12_cutAll_227 : decode cX12_cutAll 227 = .ok (.iconst 4, 1) := by decide +kernel
theorem dX12_cutAll_228 : decode cX12_cutAll 228 = .ok (.if_icmp .le 7, 3) := by decide +kernel
theorem dX12_cutAll_231 : decode cX12_cutAll 231 = .ok (.iconst 4, 1) := by decide +kernel
theorem dX12_cutAll_232 : decode cX12_cutAll 232 = .ok (.goto 4, 3) := by decide +kernel
theorem dX12_cutAll_235 : decode cX12_cutAll 235 = .ok (.iconst 2, 1) := by decide +kernel
theorem dX12_cutAll_236 : decode cX12_cutAll 236 = .ok (.iastore, 1) := by decide +kernel
theorem dX12_cutAll_237 : decode cX12_cutAll 237 = .ok (.goto 28, 3) := by decide +kernel
theorem dX12_cutAll_240 : decode cX12_cutAll 240 = .ok (.iload_n 3, 1) := by decide +kernel
theorem dX12_cutAll_241 : decode cX12_cutAll 241 = .ok (.i2l, 1) := by decide +kernel
theorem dX12_cutAll_242 : decode cX12_cutAll 242 = .ok (.lstore 5, 2) := by decide +kernel
theorem dX12_cutAll_244 : decode cX12_cutAll 244 = .ok (.aload_n 0, 1) := by decide +kernel
theorem dX12_cutAll_245 : decode cX12_cutAll 245 = .ok (.getfield 24, 3) := by decide +kernel
theorem dX12_cutAll_248 : decode cX12_cutAll 248 = .ok (.iload_n 1, 1) := by decide +kernel
theorem dX12_cutAll_249 : decode cX12_cutAll 249 = .ok (.iload_n 3, 1) := by decide +kernel
theorem dX12_cutAll_250 : decode cX12_cutAll 250 = .ok (.invokestatic 142, 3) := by decide +kernel
theorem dX12_cutAll_253 : decode cX12_cutAll 253 = .ok (.ifCond .eq 7, 3) := by decide +kernel
theorem dX12_cutAll_256 : decode cX12_cutAll 256 = .ok (.iconst 3, 1) := by decide +kernel
theorem dX12_cutAll_257 : decode cX12_cutAll 257 = .ok (.goto 4, 3) := by decide +kernel
theorem dX12_cutAll_260 : decode cX12_cutAll 260 = .ok (.iconst 4, 1) := by decide +kernel
theorem dX12_cutAll_261 : decode cX12_cutAll 261 = .ok (.iastore, 1) := by decide +kernel
theorem dX12_cutAll_262 : decode cX12_cutAll 262 = .ok (.iinc 2 1, 3) := by decide +kernel
theorem dX12_cutAll_265 : decode cX12_cutAll 265 = .ok (.aload_n 0, 1) := by decide +kernel
theorem dX12_cutAll_266 : decode cX12_cutAll 266 = .ok (.getfield 30, 3) := by decide +kernel
theorem dX12_cutAll_269 : decode cX12_cutAll 269 = .ok (.iload_n 1, 1) := by decide +kernel
theorem dX12_cutAll_270 : decode cX12_cutAll 270 = .ok (.lload 5, 2) := by decide +kernel
theorem dX12_cutAll_272 : decode cX12_cutAll 272 = .ok (.lastore, 1) := by decide +kernel
theorem dX12_cutAll_273 : decode cX12_cutAll 273 = .ok (.iinc 1 1, 3) := by decide +kernel
theorem dX12_cutAll_276 : decode cX12_cutAll 276 = .ok (.goto (-259), 3) := by decide +kernel
theorem dX12_cutAll_279 : decode cX12_cutAll 279 = .ok (.aload_n 0, 1) := by decide +kernel
theorem dX12_cutAll_280 : decode cX12_cutAll 280 = .ok (.getfield 24, 3) := by decide +kernel
theorem dX12_cutAll_283 : decode cX12_cutAll 283 = .ok (.iload_n 1, 1) := by decide +kernel
theorem dX12_cutAll_284 : decode cX12_cutAll 284 = .ok (.iconst 0, 1) := by decide +kernel
theorem dX12_cutAll_285 : decode cX12_cutAll 285 = .ok (.iastore, 1) := by decide +kernel
theorem dX12_cutAll_286 : decode cX12_cutAll 286 = .ok (.aload_n 0, 1) := by decide +kernel
theorem dX12_cutAll_287 : decode cX12_cutAll 287 = .ok (.getfield 27, 3) := by decide +kernel
theorem dX12_cutAll_290 : decode cX12_cutAll 290 = .ok (.iload_n 1, 1) := by decide +kernel
theorem dX12_cutAll_291 : decode cX12_cutAll 291 = .ok (.aload_n 0, 1) := by decide +kernel
theorem dX12_cutAll_292 : decode cX12_cutAll 292 = .ok (.getfield 126, 3) := by decide +kernel
theorem dX12_cutAll_295 : decode cX12_cutAll 295 = .ok (.iastore, 1) := by decide +kernel
theorem dX12_cutAll_296 : decode cX12_cutAll 296 = .ok (.aload_n 0, 1) := by decide +kernel
theorem dX12_cutAll_297 : decode cX12_cutAll 297 = .ok (.iconst 0, 1) := by decide +kernel
theorem dX12_cutAll_298 : decode cX12_cutAll 298 = .ok (.putfield 145, 3) := by decide +kernel
theorem dX12_cutAll_301 : decode cX12_cutAll 301 = .ok (.aload_n 0, 1) := by decide +kernel
theorem dX12_cutAll_302 : decode cX12_cutAll 302 = .ok (.iconst 0, 1) := by decide +kernel
theorem dX12_cutAll_303 : decode cX12_cutAll 303 = .ok (.putfield 148, 3) := by decide +kernel
theorem dX12_cutAll_306 : decode cX12_cutAll 306 = .ok (.return_, 1) := by decide +kernel
abbrev tX12_cutAll (k : Nat) : MT := (RX12, cX12_cutAll, 7, k, none)
def lX12_cutAll_1 : SX := (sLoop (cAnd (cB rlt (iLoc 2) (iGet 12 3 (rLoc 0))) (cZ zne (iCallS mX12_isLetter (aI (iALd (rGet 12 1 (rLoc 0)) (iLoc 2)) aNil)))) (sSeq (sSetL 5 (lCond (cB rlt (iB gT2 (· - ·) (iLoc 2) (iLoc 4)) (iK 8)) (lB gT2 (· + ·) (lB gT2 (· * ·) (lK 37) (lLoc 5)) (lOfI (iCallS mX12_rank (aI (iALd (rGet 12 1 (rLoc 0)) (iLoc 2)) aNil)))) (lLoc 5))) (sInc 2 1)) sSkip)
def lX12_cutAll_2 : SX := (sLoop (cAnd (cB rlt (iLoc 2) (iGet 12 3 (rLoc 0))) (cZ zne (iCallS mX12_isDigit (aI (iALd (rGet 12 1 (rLoc 0)) (iLoc 2)) aNil)))) (sSeq (sSetL 5 (lCond (cB rlt (iB gT2 (· - ·) (iLoc 2) (iLoc 4)) (iK 4)) (lB gT2 (· - ·) (lB gT2 (· + ·) (lB gT2 (· * ·) (lK 10) (lLoc 5)) (lOfI (iALd (rGet 12 1 (rLoc 0)) (iLoc 2)))) (lK 48)) (lLoc 5))) (sInc 2 1)) sSkip)
def lX12_cutAll_3 : SX := (sLoop (cB rlt (iLoc 2) (iGet 12 3 (rLoc 0))) (sSeq (sSetI 3 (iALd (rGet 12 1 (rLoc 0)) (iLoc 2))) (sSeq (sIf (cOr (cB req (iLoc 3) (iK 10)) (cB req (iLoc 3) (iK 32))) (sSeq (sInc 2 1) sCont) sSkip) (sSeq (sSetI 4 (iLoc 2)) (sSeq (sSetL 5 (lK 0)) (sSeq (sASt 0 narI (rGet 12 5 (rLoc 0)) (iLoc 1) (iLoc 2)) (sSeq (sIf (cZ zne (iCallS mX12_isLetter (aI (iLoc 3) aNil))) (sSeq lX12_cutAll_1 (sASt 0 narI (rGet 12 4 (rLoc 0)) (iLoc 1) (iCond (cB rgt (iB gT2 (· - ·) (iLoc 2) (iLoc 4)) (iK 8)) (iK 4) (iK 1)))) (sIf (cZ zne (iCallS mX12_isDigit (aI (iLoc 3) aNil))) (sSeq lX12_cutAll_2 (sASt 0 narI (rGet 12 4 (rLoc 0)) (iLoc 1) (iCond (cB rgt (iB gT2 (· - ·) (iLoc 2) (iLoc 4)) (iK 4)) (iK 4) (iK 2)))) (sSeq (sSetL 5 (lOfI (iLoc 3))) (sSeq (sASt 0 narI (rGet 12 4 (rLoc 0)) (iLoc 1) (iCond (cZ zne (iCallS mX12_isSignOf (aI (iLoc 3) aNil))) (iK 3) (iK 4))) (sInc 2 1))))) (sSeq (sAStL (rGet 12 6 (rLoc 0)) (iLoc 1) (lLoc 5)) (sInc 1 1)))))))) (sForget 3))
theorem olX12_cutAll_1 (g : GT) {pcB pcC : Nat} : Sok g (tX12_cutAll 2) 70 129 pcB pcC (lX12_cutAll_1) := (Sok.loop (pc := 70) (pc1 := 90) (pc2 := 70) (pcN := 129) (Cok.and (pc1 := 78) (Cok.cmp (pc1 := 71) (pc2 := 75) (pcT := 78) (pcF := 129) (EokI.iload_n (q := 2) dX12_cutAll_70) (EokI.getf (pc1 := 72) (j := 3) (ci := 12) (T := TX12) (N := 27) (EokR.aload_n (q := 0) dX12_cutAll_71) rfl wsX12_in (by decide) flX12_126 dX12_cutAll_72) (JI.ltF (tgt := 129) dX12_cutAll_75 (by decide))) (Cok.zero (pc1 := 87) (pcT := 90) (pcF := 129) (EokI.iCallS (pc1 := 84) (Aok.aI (pc1 := 84) (EokI.iALd (pc1 := 82) (pc2 := 83) (EokR.getf (pc1 := 79) (j := 1) (ci := 12) (T := TX12) (N := 27) (EokR.aload_n (q := 0) dX12_cutAll_78) rfl wsX12_in (by decide) flX12_14 dX12_cutAll_79) (EokI.iload_n (q := 2) dX12_cutAll_82) dX12_cutAll_83) Aok.nil) (kX12_isLetter g) ykX12_isLetter skX12_122 (by decide) (by decide) dX12_cutAll_84) (JZ.neF (tgt := 129) dX12_cutAll_87 (by decide)))) (by decide) (Sok.seq (pc1 := 123) (Sok.setL (i := 5) (pc1 := 121) (EokL.cond' (pc1 := 99) (pc2 := 119) (Cok.cmp (pc1 := 94) (pc2 := 96) (pcT := 99) (pcF := 119) (EokI.bin (pc1 := 91) (pc2 := 93) (EokI.iload_n (q := 2) dX12_cutAll_90) (EokI.iload (i := 4) dX12_cutAll_91) (OPI.isub dX12_cutAll_93)) (EokI.bipush (v := 8) dX12_cutAll_94 (by decide)) (JI.ltF (tgt := 119) dX12_cutAll_96 (by decide))) (EokL.goto (pc1 := 116) (pc2 := 121) (EokL.bin (pc1 := 105) (pc2 := 115) (EokL.bin (pc1 := 102) (pc2 := 104) (EokL.ldc2 (v := 37) ckX12_129 dX12_cutAll_99) (EokL.lload (i := 5) dX12_cutAll_102) (OPL.lmul dX12_cutAll_104)) (EokL.i2l (pc1 := 114) (EokI.iCallS (pc1 := 111) (Aok.aI (pc1 := 111) (EokI.iALd (pc1 := 109) (pc2 := 110) (EokR.getf (pc1 := 106) (j := 1) (ci := 12) (T := TX12) (N := 27) (EokR.aload_n (q := 0) dX12_cutAll_105) rfl wsX12_in (by decide) flX12_14 dX12_cutAll_106) (EokI.iload_n (q := 2) dX12_cutAll_109) dX12_cutAll_110) Aok.nil) (kX12_rank g) ykX12_rank skX12_131 (by decide) (by decide) dX12_cutAll_111) dX12_cutAll_114) (OPL.ladd dX12_cutAll_115)) dX12_cutAll_116 (by decide)) (EokL.lload (i := 5) dX12_cutAll_119)) (by decide) dX12_cutAll_121 (show 6 < 7 by decide)) (Sok.goto (pc1 := 126) (pcN := 70) (Sok.iinc (i := 2) (v := 1) dX12_cutAll_123 (show 2 < 7 by decide) (by decide)) dX12_cutAll_126 (by decide))) Sok.skip)
theorem olX12_cutAll_2 (g : GT) {pcB pcC : Nat} : Sok g (tX12_cutAll 2) 159 218 pcB pcC (lX12_cutAll_2) := (Sok.loop (pc := 159) (pc1 := 179) (pc2 := 159) (pcN := 218) (Cok.and (pc1 := 167) (Cok.cmp (pc1 := 160) (pc2 := 164) (pcT := 167) (pcF := 218) (EokI.iload_n (q := 2) dX12_cutAll_159) (EokI.getf (pc1 := 161) (j := 3) (ci := 12) (T := TX12) (N := 27) (EokR.aload_n (q := 0) dX12_cutAll_160) rfl wsX12_in (by decide) flX12_126 dX12_cutAll_161) (JI.ltF (tgt := 218) dX12_cutAll_164 (by decide))) (Cok.zero (pc1 := 176) (pcT := 179) (pcF := 218) (EokI.iCallS (pc1 := 173) (Aok.aI (pc1 := 173) (EokI.iALd (pc1 := 171) (pc2 := 172) (EokR.getf (pc1 := 168) (j := 1) (ci := 12) (T := TX12) (N := 27) (EokR.aload_n (q := 0) dX12_cutAll_167) rfl wsX12_in (by decide) flX12_14 dX12_cutAll_168) (EokI.iload_n (q := 2) dX12_cutAll_171) dX12_cutAll_172) Aok.nil) (kX12_isDigit g) ykX12_isDigit skX12_135 (by decide) (by decide) dX12_cutAll_173) (JZ.neF (tgt := 218) dX12_cutAll_176 (by decide)))) (by decide) (Sok.seq (pc1 := 212) (Sok.setL (i := 5) (pc1 := 210) (EokL.cond' (pc1 := 187) (pc2 := 208) (Cok.cmp (pc1 := 183) (pc2 := 184) (pcT := 187) (pcF := 208) (EokI.bin (pc1 := 180) (pc2 := 182) (EokI.iload_n (q := 2) dX12_cutAll_179) (EokI.iload (i := 4) dX12_cutAll_180) (OPI.isub dX12_cutAll_182)) (EokI.iconst (v := 4) dX12_cutAll_183 (by decide)) (JI.ltF (tgt := 208) dX12_cutAll_184 (by decide))) (EokL.goto (pc1 := 205) (pc2 := 210) (EokL.bin (pc1 := 201) (pc2 := 204) (EokL.bin (pc1 := 193) (pc2 := 200) (EokL.bin (pc1 := 190) (pc2 := 192) (EokL.ldc2 (v := 10) ckX12_138 dX12_cutAll_187) (EokL.lload (i := 5) dX12_cutAll_190) (OPL.lmul dX12_cutAll_192)) (EokL.i2l (pc1 := 199) (EokI.iALd (pc1 := 197) (pc2 := 198) (EokR.getf (pc1 := 194) (j := 1) (ci := 12) (T := TX12) (N := 27) (EokR.aload_n (q := 0) dX12_cutAll_193) rfl wsX12_in (by decide) flX12_14 dX12_cutAll_194) (EokI.iload_n (q := 2) dX12_cutAll_197) dX12_cutAll_198) dX12_cutAll_199) (OPL.ladd dX12_cutAll_200)) (EokL.ldc2 (v := 48) ckX12_140 dX12_cutAll_201) (OPL.lsub dX12_cutAll_204)) dX12_cutAll_205 (by decide)) (EokL.lload (i := 5) dX12_cutAll_208)) (by decide) dX12_cutAll_210 (show 6 < 7 by decide)) (Sok.goto (pc1 := 215) (pcN := 159) (Sok.iinc (i := 2) (v := 1) dX12_cutAll_212 (show 2 < 7 by decide) (by decide)) dX12_cutAll_215 (by decide))) Sok.skip)
theorem olX12_cutAll_3 (g : GT) {pcB pcC : Nat} : Sok g (tX12_cutAll 2) 17 279 pcB pcC (lX12_cutAll_3) := (Sok.loop (pc := 17) (pc1 := 25) (pc2 := 17) (pcN := 279) (Cok.cmp (pc1 := 18) (pc2 := 22) (pcT := 25) (pcF := 279) (EokI.iload_n (q := 2) dX12_cutAll_17) (EokI.getf (pc1 := 19) (j := 3) (ci := 12) (T := TX12) (N := 27) (EokR.aload_n (q := 0) dX12_cutAll_18) rfl wsX12_in (by decide) flX12_126 dX12_cutAll_19) (JI.ltF (tgt := 279) dX12_cutAll_22 (by decide))) (by decide) (Sok.seq (pc1 := 32) (Sok.setI_n (q := 3) (pc1 := 31) (EokI.iALd (pc1 := 29) (pc2 := 30) (EokR.getf (pc1 := 26) (j := 1) (ci := 12) (T := TX12) (N := 27) (EokR.aload_n (q := 0) dX12_cutAll_25) rfl wsX12_in (by decide) flX12_14 dX12_cutAll_26) (EokI.iload_n (q := 2) dX12_cutAll_29) dX12_cutAll_30) (by decide) dX12_cutAll_31 (show 3 < 7 by decide)) (Sok.seq (pc1 := 50) (Sok.ite (pc1 := 44) (pc2 := 50) (Cok.or (pc1 := 38) (Cok.cmp (pc1 := 33) (pc2 := 35) (pcT := 44) (pcF := 38) (EokI.iload_n (q := 3) dX12_cutAll_32) (EokI.bipush (v := 10) dX12_cutAll_33 (by decide)) (JI.eqT (tgt := 44) dX12_cutAll_35 (by decide))) (Cok.cmp (pc1 := 39) (pc2 := 41) (pcT := 44) (pcF := 50) (EokI.iload_n (q := 3) dX12_cutAll_38) (EokI.bipush (v := 32) dX12_cutAll_39 (by decide)) (JI.eqF (tgt := 50) dX12_cutAll_41 (by decide)))) (by decide) (Sok.seqC (Sok.goto (pc1 := 47) (pcN := 17) (Sok.iinc (i := 2) (v := 1) dX12_cutAll_44 (show 2 < 7 by decide) (by decide)) dX12_cutAll_47 (by decide))) (Sok.skip (pc := 50))) (Sok.seq (pc1 := 53) (Sok.setI (i := 4) (pc1 := 51) (EokI.iload_n (q := 2) dX12_cutAll_50) (by decide) dX12_cutAll_51 (show 4 < 7 by decide)) (Sok.seq (pc1 := 56) (Sok.setL (i := 5) (pc1 := 54) (EokL.lconst (v := 0) dX12_cutAll_53 (by decide)) (by decide) dX12_cutAll_54 (show 6 < 7 by decide)) (Sok.seq (pc1 := 63) (Sok.iASt (pc1 := 60) (pc2 := 61) (pc3 := 62) (EokR.getf (pc1 := 57) (j := 5) (ci := 12) (T := TX12) (N := 27) (EokR.aload_n (q := 0) dX12_cutAll_56) rfl wsX12_in (by decide) flX12_27 dX12_cutAll_57) (EokI.iload_n (q := 1) dX12_cutAll_60) (EokI.iload_n (q := 2) dX12_cutAll_61) (by decide) dX12_cutAll_62) (Sok.seq (pc1 := 265) (Sok.ite (pc1 := 70) (pc2 := 152) (Cok.zero (pc1 := 67) (pcT := 70) (pcF := 152) (EokI.iCallS (pc1 := 64) (Aok.aI (pc1 := 64) (EokI.iload_n (q := 3) dX12_cutAll_63) Aok.nil) (kX12_isLetter g) ykX12_isLetter skX12_122 (by decide) (by decide) dX12_cutAll_64) (JZ.neF (tgt := 152) dX12_cutAll_67 (by decide))) (by decide) (Sok.seq (pc1 := 129) (olX12_cutAll_1 g ) (Sok.goto (pc1 := 149) (pcN := 265) (Sok.iASt (pc1 := 133) (pc2 := 134) (pc3 := 148) (EokR.getf (pc1 := 130) (j := 4) (ci := 12) (T := TX12) (N := 27) (EokR.aload_n (q := 0) dX12_cutAll_129) rfl wsX12_in (by decide) flX12_24 dX12_cutAll_130) (EokI.iload_n (q := 1) dX12_cutAll_133) (EokI.cond' (pc1 := 143) (pc2 := 147) (Cok.cmp (pc1 := 138) (pc2 := 140) (pcT := 143) (pcF := 147) (EokI.bin (pc1 := 135) (pc2 := 137) (EokI.iload_n (q := 2) dX12_cutAll_134) (EokI.iload (i := 4) dX12_cutAll_135) (OPI.isub dX12_cutAll_137)) (EokI.bipush (v := 8) dX12_cutAll_138 (by decide)) (JI.gtF (tgt := 147) dX12_cutAll_140 (by decide))) (EokI.goto (pc1 := 144) (pc2 := 148) (EokI.iconst (v := 4) dX12_cutAll_143 (by decide)) dX12_cutAll_144 (by decide)) (EokI.iconst (v := 1) dX12_cutAll_147 (by decide))) (by decide) dX12_cutAll_148) dX12_cutAll_149 (by decide))) (Sok.ite (pc1 := 159) (pc2 := 240) (Cok.zero (pc1 := 156) (pcT := 159) (pcF := 240) (EokI.iCallS (pc1 := 153) (Aok.aI (pc1 := 153) (EokI.iload_n (q := 3) dX12_cutAll_152) Aok.nil) (kX12_isDigit g) ykX12_isDigit skX12_135 (by decide) (by decide) dX12_cutAll_153) (JZ.neF (tgt := 240) dX12_cutAll_156 (by decide))) (by decide) (Sok.seq (pc1 := 218) (olX12_cutAll_2 g ) (Sok.goto (pc1 := 237) (pcN := 265) (Sok.iASt (pc1 := 222) (pc2 := 223) (pc3 := 236) (EokR.getf (pc1 := 219) (j := 4) (ci := 12) (T := TX12) (N := 27) (EokR.aload_n (q := 0) dX12_cutAll_218) rfl wsX12_in (by decide) flX12_24 dX12_cutAll_219) (EokI.iload_n (q := 1) dX12_cutAll_222) (EokI.cond' (pc1 := 231) (pc2 := 235) (Cok.cmp (pc1 := 227) (pc2 := 228) (pcT := 231) (pcF := 235) (EokI.bin (pc1 := 224) (pc2 := 226) (EokI.iload_n (q := 2) dX12_cutAll_223) (EokI.iload (i := 4) dX12_cutAll_224) (OPI.isub dX12_cutAll_226)) (EokI.iconst (v := 4) dX12_cutAll_227 (by decide)) (JI.gtF (tgt := 235) dX12_cutAll_228 (by decide))) (EokI.goto (pc1 := 232) (pc2 := 236) (EokI.iconst (v := 4) dX12_cutAll_231 (by decide)) dX12_cutAll_232 (by decide)) (EokI.iconst (v := 2) dX12_cutAll_235 (by decide))) (by decide) dX12_cutAll_236) dX12_cutAll_237 (by decide))) (Sok.seq (pc1 := 244) (Sok.setL (i := 5) (pc1 := 242) (EokL.i2l (pc1 := 241) (EokI.iload_n (q := 3) dX12_cutAll_240) dX12_cutAll_241) (by decide) dX12_cutAll_242 (show 6 < 7 by decide)) (Sok.seq (pc1 := 262) (Sok.iASt (pc1 := 248) (pc2 := 249) (pc3 := 261) (EokR.getf (pc1 := 245) (j := 4) (ci := 12) (T := TX12) (N := 27) (EokR.aload_n (q := 0) dX12_cutAll_244) rfl wsX12_in (by decide) flX12_24 dX12_cutAll_245) (EokI.iload_n (q := 1) dX12_cutAll_248) (EokI.cond' (pc1 := 256) (pc2 := 260) (Cok.zero (pc1 := 253) (pcT := 256) (pcF := 260) (EokI.iCallS (pc1 := 250) (Aok.aI (pc1 := 250) (EokI.iload_n (q := 3) dX12_cutAll_249) Aok.nil) (kX12_isSignOf g) ykX12_isSignOf skX12_142 (by decide) (by decide) dX12_cutAll_250) (JZ.neF (tgt := 260) dX12_cutAll_253 (by decide))) (EokI.goto (pc1 := 257) (pc2 := 261) (EokI.iconst (v := 3) dX12_cutAll_256 (by decide)) dX12_cutAll_257 (by decide)) (EokI.iconst (v := 4) dX12_cutAll_260 (by decide))) (by decide) dX12_cutAll_261) (Sok.iinc (i := 2) (v := 1) dX12_cutAll_262 (show 2 < 7 by decide) (by decide)))))) (Sok.seq (pc1 := 273) (Sok.lASt (pc1 := 269) (pc2 := 270) (pc3 := 272) (EokR.getf (pc1 := 266) (j := 6) (ci := 12) (T := TX12) (N := 27) (EokR.aload_n (q := 0) dX12_cutAll_265) rfl wsX12_in (by decide) flX12_30 dX12_cutAll_266) (EokI.iload_n (q := 1) dX12_cutAll_269) (EokL.lload (i := 5) dX12_cutAll_270) (by decide) dX12_cutAll_272) (Sok.goto (pc1 := 276) (pcN := 17) (Sok.iinc (i := 1) (v := 1) dX12_cutAll_273 (show 1 < 7 by decide) (by decide)) dX12_cutAll_276 (by decide))))))))) Sok.forget)
def mX12_cutAll : MX := bodyOf 7 (sSeq (sSeq (sPutI 12 3 .int (rLoc 0) (iGet 12 2 (rLoc 0))) (sSeq (sPutI 12 2 .int (rLoc 0) (iK 0)) (sSeq (sSetI 1 (iK 0)) (sSeq (sSetI 2 (iK 0)) (sSeq lX12_cutAll_3 (sSeq (sASt 0 narI (rGet 12 4 (rLoc 0)) (iLoc 1) (iK 0)) (sSeq (sASt 0 narI (rGet 12 5 (rLoc 0)) (iLoc 1) (iGet 12 3 (rLoc 0))) (sSeq (sPutI 12 7 .int (rLoc 0) (iK 0)) (sPutI 12 8 .int (rLoc 0) (iK 0)))))))))) sRetV)
theorem kX12_cutAll (g : GT) : MK g 2 yX12_cutAll cX12_cutAll 7 none mX12_cutAll := MK.of (pcN := 99999) (pcB := 0) (pcC := 0) rfl (Sok.seq (pc1 := 306) (Sok.seq (pc1 := 8) (Sok.putI (ci := 12) (T := TX12) (NN := 27) (tt := tyX12) (j := 3) (pc1 := 1) (pc2 := 5) (ty := .int) (EokR.aload_n (q := 0) dX12_cutAll_0) (EokI.getf (pc1 := 2) (j := 2) (ci := 12) (T := TX12) (N := 27) (EokR.aload_n (q := 0) dX12_cutAll_1) rfl wsX12_in (by decide) flX12_11 dX12_cutAll_2) (by decide) rfl wsX12_in tyX12_ok nmX12 (by decide) flX12_126 rfl rfl dX12_cutAll_5) (Sok.seq (pc1 := 13) (Sok.putI (ci := 12) (T := TX12) (NN := 27) (tt := tyX12) (j := 2) (pc1 := 9) (pc2 := 10) (ty := .int) (EokR.aload_n (q := 0) dX12_cutAll_8) (EokI.iconst (v := 0) dX12_cutAll_9 (by decide)) (by decide) rfl wsX12_in tyX12_ok nmX12 (by decide) flX12_11 rfl rfl dX12_cutAll_10) (Sok.seq (pc1 := 15) (Sok.setI_n (q := 1) (pc1 := 14) (EokI.iconst (v := 0) dX12_cutAll_13 (by decide)) (by decide) dX12_cutAll_14 (show 1 < 7 by decide)) (Sok.seq (pc1 := 17) (Sok.setI_n (q := 2) (pc1 := 16) (EokI.iconst (v := 0) dX12_cutAll_15 (by decide)) (by decide) dX12_cutAll_16 (show 2 < 7 by decide)) (Sok.seq (pc1 := 279) (olX12_cutAll_3 g ) (Sok.seq (pc1 := 286) (Sok.iASt (pc1 := 283) (pc2 := 284) (pc3 := 285) (EokR.getf (pc1 := 280) (j := 4) (ci := 12) (T := TX12) (N := 27) (EokR.aload_n (q := 0) dX12_cutAll_279) rfl wsX12_in (by decide) flX12_24 dX12_cutAll_280) (EokI.iload_n (q := 1) dX12_cutAll_283) (EokI.iconst (v := 0) dX12_cutAll_284 (by decide)) (by decide) dX12_cutAll_285) (Sok.seq (pc1 := 296) (Sok.iASt (pc1 := 290) (pc2 := 291) (pc3 := 295) (EokR.getf (pc1 := 287) (j := 5) (ci := 12) (T := TX12) (N := 27) (EokR.aload_n (q := 0) dX12_cutAll_286) rfl wsX12_in (by decide) flX12_27 dX12_cutAll_287) (EokI.iload_n (q := 1) dX12_cutAll_290) (EokI.getf (pc1 := 292) (j := 3) (ci := 12) (T := TX12) (N := 27) (EokR.aload_n (q := 0) dX12_cutAll_291) rfl wsX12_in (by decide) flX12_126 dX12_cutAll_292) (by decide) dX12_cutAll_295) (Sok.seq (pc1 := 301) (Sok.putI (ci := 12) (T := TX12) (NN := 27) (tt := tyX12) (j := 7) (pc1 := 297) (pc2 := 298) (ty := .int) (EokR.aload_n (q := 0) dX12_cutAll_296) (EokI.iconst (v := 0) dX12_cutAll_297 (by decide)) (by decide) rfl wsX12_in tyX12_ok nmX12 (by decide) flX12_145 rfl rfl dX12_cutAll_298) (Sok.putI (ci := 12) (T := TX12) (NN := 27) (tt := tyX12) (j := 8) (pc1 := 302) (pc2 := 303) (ty := .int) (EokR.aload_n (q := 0) dX12_cutAll_301) (EokI.iconst (v := 0) dX12_cutAll_302 (by decide)) (by decide) rfl wsX12_in tyX12_ok nmX12 (by decide) flX12_148 rfl rfl dX12_cutAll_303))))))))) (Sok.retV dX12_cutAll_306 rfl))
/-! PassHutsModel.wrong(I)V -/
theorem dX12_wrong_0 : decode cX12_wrong 0 = .ok (.aload_n 0, 1) := by decide +kernel
theorem dX12_wrong_1 : decode cX12_wrong 1 = .ok (.getfield 148, 3) := by decide +kernel
theorem dX12_wrong_4 : decode cX12_wrong 4 = .ok (.ifCond .ne 21, 3) := by decide +kernel
theorem dX12_wrong_7 : decode cX12_wrong 7 = .ok (.aload_n 0, 1) := by decide +kernel
theorem dX12_wrong_8 : decode cX12_wrong 8 = .ok (.iload_n 1, 1) := by decide +kernel
theorem dX12_wrong_9 : decode cX12_wrong 9 = .ok (.bipush 16, 2) := by decide +kernel
theorem dX12_wrong_11 : decode cX12_wrong 11 = .ok (.aload_n 0, 1) := by decide +kernel
theorem dX12_wrong_12 : decode cX12_wrong 12 = .ok (.getfield 27, 3) := by decide +kernel
theorem dX12_wrong_15 : decode cX12_wrong 15 = .ok (.aload_n 0, 1) := by decide +kernel
theorem dX12_wrong_16 : decode cX12_wrong 16 = .ok (.getfield 145, 3) := by decide +kernel
theorem dX12_wrong_19 : decode cX12_wrong 19 = .ok (.iaload, 1) := by decide +kernel
theorem dX12_wrong_20 : decode cX12_wrong 20 = .ok (.imul, 1) := by decide +kernel
theorem dX12_wrong_21 : decode cX12_wrong 21 = .ok (.iadd, 1) := by decide +kernel
theorem dX12_wrong_22 : decode cX12_wrong 22 = .ok (.putfield 148, 3) := by decide +kernel
theorem dX12_wrong_25 : decode cX12_wrong 25 = .ok (.return_, 1) := by decide +kernel
abbrev tX12_wrong (k : Nat) : MT := (RX12, cX12_wrong, 2, k, none)
def mX12_wrong : MX := bodyOf 2 (sSeq (sIf (cZ zeq (iGet 12 8 (rLoc 0))) (sPutI 12 8 .int (rLoc 0) (iB gT2 (· + ·) (iLoc 1) (iB gT2 (· * ·) (iK 16) (iALd (rGet 12 5 (rLoc 0)) (iGet 12 7 (rLoc 0)))))) sSkip) sRetV)
theorem kX12_wrong (g : GT) : MK g 0 yX12_wrong cX12_wrong 2 none mX12_wrong := MK.of (pcN := 99999) (pcB := 0) (pcC := 0) rfl (Sok.seq (pc1 := 25) (Sok.ite (pc1 := 7) (pc2 := 25) (Cok.zero (pc1 := 4) (pcT := 7) (pcF := 25) (EokI.getf (pc1 := 1) (j := 8) (ci := 12) (T := TX12) (N := 27) (EokR.aload_n (q := 0) dX12_wrong_0) rfl wsX12_in (by decide) flX12_148 dX12_wrong_1) (JZ.eqF (tgt := 25) dX12_wrong_4 (by decide))) (by decide) (Sok.putI (ci := 12) (T := TX12) (NN := 27) (tt := tyX12) (j := 8) (pc1 := 8) (pc2 := 22) (ty := .int) (EokR.aload_n (q := 0) dX12_wrong_7) (EokI.bin (pc1 := 9) (pc2 := 21) (EokI.iload_n (q := 1) dX12_wrong_8) (EokI.bin (pc1 := 11) (pc2 := 20) (EokI.bipush (v := 16) dX12_wrong_9 (by decide)) (EokI.iALd (pc1 := 15) (pc2 := 19) (EokR.getf (pc1 := 12) (j := 5) (ci := 12) (T := TX12) (N := 27) (EokR.aload_n (q := 0) dX12_wrong_11) rfl wsX12_in (by decide) flX12_27 dX12_wrong_12) (EokI.getf (pc1 := 16) (j := 7) (ci := 12) (T := TX12) (N := 27) (EokR.aload_n (q := 0) dX12_wrong_15) rfl wsX12_in (by decide) flX12_145 dX12_wrong_16) dX12_wrong_19) (OPI.imul dX12_wrong_20)) (OPI.iadd dX12_wrong_21)) (by decide) rfl wsX12_in tyX12_ok nmX12 (by decide) flX12_148 rfl rfl dX12_wrong_22) (Sok.skip (pc := 25))) (Sok.retV dX12_wrong_25 rfl))
/-! PassHutsModel.isSign(I)Z -/
theorem dX12_isSign_0 : decode cX12_isSign 0 = .ok (.aload_n 0, 1) := by decide +kernel
theorem dX12_isSign_1 : decode cX12_isSign 1 = .ok (.getfield 148, 3) := by decide +kernel
theorem dX12_isSign_4 : decode cX12_isSign 4 = .ok (.ifCond .ne 35, 3) := by decide +kernel
theorem dX12_isSign_7 : decode cX12_isSign 7 = .ok (.aload_n 0, 1) := by decide +kernel
theorem dX12_isSign_8 : decode cX12_isSign 8 = .ok (.getfield 24, 3) := by decide +kernel
theorem dX12_isSign_11 : decode cX12_isSign 11 = .ok (.aload_n 0, 1) := by decide +kernel
theorem dX12_isSign_12 : decode cX12_isSign 12 = .ok (.getfield 145, 3) := by decide +kernel
theorem dX12_isSign_15 : decode cX12_isSign 15 = .ok (.iaload, 1) := by decide +kernel
theorem dX12_isSign_16 : decode cX12_isSign 16 = .ok (.iconst 3, 1) := by decide +kernel
theorem dX12_isSign_17 : decode cX12_isSign 17 = .ok (.if_icmp .ne 22, 3) := by decide +kernel
theorem dX12_isSign_20 : decode cX12_isSign 20 = .ok (.aload_n 0, 1) := by decide +kernel
theorem dX12_isSign_21 : decode cX12_isSign 21 = .ok (.getfield 30, 3) := by decide +kernel
theorem dX12_isSign_24 : decode cX12_isSign 24 = .ok (.aload_n 0, 1) := by decide +kernel
theorem dX12_isSign_25 : decode cX12_isSign 25 = .ok (.getfield 145, 3) := by decide +kernel
theorem dX12_isSign_28 : decode cX12_isSign 28 = .ok (.laload, 1) := by decide +kernel
theorem dX12_isSign_29 : decode cX12_isSign 29 = .ok (.iload_n 1, 1) := by decide +kernel
theorem dX12_isSign_30 : decode cX12_isSign 30 = .ok (.i2l, 1) := by decide +kernel
theorem dX12_isSign_31 : decode cX12_isSign 31 = .ok (.lcmp, 1) := by decide +kernel
theorem dX12_isSign_32 : decode cX12_isSign 32 = .ok (.ifCond .ne 7, 3) := by decide +kernel
theorem dX12_isSign_35 : decode cX12_isSign 35 = .ok (.iconst 1, 1) := by decide +kernel
theorem dX12_isSign_36 : decode cX12_isSign 36 = .ok (.goto 4, 3) := by decide +kernel
theorem dX12_isSign_39 : decode cX12_isSign 39 = .ok (.iconst 0, 1) := by decide +kernel
theorem dX12_isSign_40 : decode cX12_isSign 40 = .ok (.ireturn, 1) := by decide +kernel
abbrev tX12_isSign (k : Nat) : MT := (RX12, cX12_isSign, 2, k, (some .boolean))
def mX12_isSign : MX := bodyOf 2 (sRetZ (iBool (cAnd (cAnd (cZ zeq (iGet 12 8 (rLoc 0))) (cB req (iALd (rGet 12 4 (rLoc 0)) (iGet 12 7 (rLoc 0))) (iK 3))) (cL leq (lALd (rGet 12 6 (rLoc 0)) (iGet 12 7 (rLoc 0))) (lOfI (iLoc 1))))))
theorem kX12_isSign (g : GT) : MK g 0 yX12_isSign cX12_isSign 2 (some .boolean) mX12_isSign := MK.of (pcN := 99999) (pcB := 0) (pcC := 0) rfl (Sok.retZ (pc1 := 40) (EokI.cond' (pc1 := 35) (pc2 := 39) (Cok.and (pc1 := 20) (Cok.and (pc1 := 7) (Cok.zero (pc1 := 4) (pcT := 7) (pcF := 39) (EokI.getf (pc1 := 1) (j := 8) (ci := 12) (T := TX12) (N := 27) (EokR.aload_n (q := 0) dX12_isSign_0) rfl wsX12_in (by decide) flX12_148 dX12_isSign_1) (JZ.eqF (tgt := 39) dX12_isSign_4 (by decide))) (Cok.cmp (pc1 := 16) (pc2 := 17) (pcT := 20) (pcF := 39) (EokI.iALd (pc1 := 11) (pc2 := 15) (EokR.getf (pc1 := 8) (j := 4) (ci := 12) (T := TX12) (N := 27) (EokR.aload_n (q := 0) dX12_isSign_7) rfl wsX12_in (by decide) flX12_24 dX12_isSign_8) (EokI.getf (pc1 := 12) (j := 7) (ci := 12) (T := TX12) (N := 27) (EokR.aload_n (q := 0) dX12_isSign_11) rfl wsX12_in (by decide) flX12_145 dX12_isSign_12) dX12_isSign_15) (EokI.iconst (v := 3) dX12_isSign_16 (by decide)) (JI.eqF (tgt := 39) dX12_isSign_17 (by decide)))) (Cok.lcmp (pc1 := 29) (pc2 := 31) (pcT := 35) (pcF := 39) (EokL.lALd (pc1 := 24) (pc2 := 28) (EokR.getf (pc1 := 21) (j := 6) (ci := 12) (T := TX12) (N := 27) (EokR.aload_n (q := 0) dX12_isSign_20) rfl wsX12_in (by decide) flX12_30 dX12_isSign_21) (EokI.getf (pc1 := 25) (j := 7) (ci := 12) (T := TX12) (N := 27) (EokR.aload_n (q := 0) dX12_isSign_24) rfl wsX12_in (by decide) flX12_145 dX12_isSign_25) dX12_isSign_28) (EokL.i2l (pc1 := 30) (EokI.iload_n (q := 1) dX12_isSign_29) dX12_isSign_30) (JL.eq dX12_isSign_31 (JZ.eqF (tgt := 39) dX12_isSign_32 (by decide))))) (EokI.goto (pc1 := 36) (pc2 := 40) (EokI.iconst (v := 1) dX12_isSign_35 (by decide)) dX12_isSign_36 (by decide)) (EokI.iconst (v := 0) dX12_isSign_39 (by decide))) (by decide) dX12_isSign_40 rfl)
/-! PassHutsModel.isWord(I)Z -/
theorem dX12_isWord_0 : decode cX12_isWord 0 = .ok (.aload_n 0, 1) := by decide +kernel
theorem dX12_isWord_1 : decode cX12_isWord 1 = .ok (.getfield 148, 3) := by decide +kernel
theorem dX12_isWord_4 : decode cX12_isWord 4 = .ok (.ifCond .ne 39, 3) := by decide +kernel
theorem dX12_isWord_7 : decode cX12_isWord 7 = .ok (.aload_n 0, 1) := by decide +kernel
theorem dX12_isWord_8 : decode cX12_isWord 8 = .ok (.getfield 24, 3) := by decide +kernel
theorem dX12_isWord_11 : decode cX12_isWord 11 = .ok (.aload_n 0, 1) := by decide +kernel
theorem dX12_isWord_12 : decode cX12_isWord 12 = .ok (.getfield 145, 3) := by decide +kernel
theorem dX12_isWord_15 : decode cX12_isWord 15 = .ok (.iaload, 1) := by decide +kernel
theorem dX12_isWord_16 : decode cX12_isWord 16 = .ok (.iconst 1, 1) := by decide +kernel
theorem dX12_isWord_17 : decode cX12_isWord 17 = .ok (.if_icmp .ne 26, 3) := by decide +kernel
theorem dX12_isWord_20 : decode cX12_isWord 20 = .ok (.aload_n 0, 1) := by decide +kernel
theorem dX12_isWord_21 : decode cX12_isWord 21 = .ok (.getfield 30, 3) := by decide +kernel
theorem dX12_isWord_24 : decode cX12_isWord 24 = .ok (.aload_n 0, 1) := by decide +kernel
theorem dX12_isWord_25 : decode cX12_isWord 25 = .ok (.getfield 145, 3) := by decide +kernel
theorem dX12_isWord_28 : decode cX12_isWord 28 = .ok (.laload, 1) := by decide +kernel
theorem dX12_isWord_29 : decode cX12_isWord 29 = .ok (.aload_n 0, 1) := by decide +kernel
theorem dX12_isWord_30 : decode cX12_isWord 30 = .ok (.getfield 72, 3) := by decide +kernel
theorem dX12_isWord_33 : decode cX12_isWord 33 = .ok (.iload_n 1, 1) := by decide +kernel
theorem dX12_isWord_34 : decode cX12_isWord 34 = .ok (.laload, 1) := by decide +kernel
theorem dX12_isWord_35 : decode cX12_isWord 35 = .ok (.lcmp, 1) := by decide +kernel
theorem dX12_isWord_36 : decode cX12_isWord 36 = .ok (.ifCond .ne 7, 3) := by decide +kernel
theorem dX12_isWord_39 : decode cX12_isWord 39 = .ok (.iconst 1, 1) := by decide +kernel
theorem dX12_isWord_40 : decode cX12_isWord 40 = .ok (.goto 4, 3) := by decide +kernel
theorem dX12_isWord_43 : decode cX12_isWord 43 = .ok (.iconst 0, 1) := by decide +kernel
theorem dX12_isWord_44 : decode cX12_isWord 44 = .ok (.ireturn, 1) := by decide +kernel
abbrev tX12_isWord (k : Nat) : MT := (RX12, cX12_isWord, 2, k, (some .boolean))
def mX12_isWord : MX := bodyOf 2 (sRetZ (iBool (cAnd (cAnd (cZ zeq (iGet 12 8 (rLoc 0))) (cB req (iALd (rGet 12 4 (rLoc 0)) (iGet 12 7 (rLoc 0))) (iK 1))) (cL leq (lALd (rGet 12 6 (rLoc 0)) (iGet 12 7 (rLoc 0))) (lALd (rGet 12 9 (rLoc 0)) (iLoc 1))))))
theorem kX12_isWord (g : GT) : MK g 0 yX12_isWord cX12_isWord 2 (some .boolean) mX12_isWord := MK.of (pcN := 99999) (pcB := 0) (pcC := 0) rfl (Sok.retZ (pc1 := 44) (EokI.cond' (pc1 := 39) (pc2 := 43) (Cok.and (pc1 := 20) (Cok.and (pc1 := 7) (Cok.zero (pc1 := 4) (pcT := 7) (pcF := 43) (EokI.getf (pc1 := 1) (j := 8) (ci := 12) (T := TX12) (N := 27) (EokR.aload_n (q := 0) dX12_isWord_0) rfl wsX12_in (by decide) flX12_148 dX12_isWord_1) (JZ.eqF (tgt := 43) dX12_isWord_4 (by decide))) (Cok.cmp (pc1 := 16) (pc2 := 17) (pcT := 20) (pcF := 43) (EokI.iALd (pc1 := 11) (pc2 := 15) (EokR.getf (pc1 := 8) (j := 4) (ci := 12) (T := TX12) (N := 27) (EokR.aload_n (q := 0) dX12_isWord_7) rfl wsX12_in (by decide) flX12_24 dX12_isWord_8) (EokI.getf (pc1 := 12) (j := 7) (ci := 12) (T := TX12) (N := 27) (EokR.aload_n (q := 0) dX12_isWord_11) rfl wsX12_in (by decide) flX12_145 dX12_isWord_12) dX12_isWord_15) (EokI.iconst (v := 1) dX12_isWord_16 (by decide)) (JI.eqF (tgt := 43) dX12_isWord_17 (by decide)))) (Cok.lcmp (pc1 := 29) (pc2 := 35) (pcT := 39) (pcF := 43) (EokL.lALd (pc1 := 24) (pc2 := 28) (EokR.getf (pc1 := 21) (j := 6) (ci := 12) (T := TX12) (N := 27) (EokR.aload_n (q := 0) dX12_isWord_20) rfl wsX12_in (by decide) flX12_30 dX12_isWord_21) (EokI.getf (pc1 := 25) (j := 7) (ci := 12) (T := TX12) (N := 27) (EokR.aload_n (q := 0) dX12_isWord_24) rfl wsX12_in (by decide) flX12_145 dX12_isWord_25) dX12_isWord_28) (EokL.lALd (pc1 := 33) (pc2 := 34) (EokR.getf (pc1 := 30) (j := 9) (ci := 12) (T := TX12) (N := 27) (EokR.aload_n (q := 0) dX12_isWord_29) rfl wsX12_in (by decide) flX12_72 dX12_isWord_30) (EokI.iload_n (q := 1) dX12_isWord_33) dX12_isWord_34) (JL.eq dX12_isWord_35 (JZ.eqF (tgt := 43) dX12_isWord_36 (by decide))))) (EokI.goto (pc1 := 40) (pc2 := 44) (EokI.iconst (v := 1) dX12_isWord_39 (by decide)) dX12_isWord_40 (by decide)) (EokI.iconst (v := 0) dX12_isWord_43 (by decide))) (by decide) dX12_isWord_44 rfl)
/-! PassHutsModel.takeSign(I)V -/
theorem dX12_takeSign_0 : decode cX12_takeSign 0 = .ok (.aload_n 0, 1) := by decide +kernel
theorem dX12_takeSign_1 : decode cX12_takeSign 1 = .ok (.iload_n 1, 1) := by decide +kernel
theorem dX12_takeSign_2 : decode cX12_takeSign 2 = .ok (.invokevirtual 151, 3) := by decide +kernel
theorem dX12_takeSign_5 : decode cX12_takeSign 5 = .ok (.ifCond .eq 16, 3) := by decide +kernel
theorem dX12_takeSign_8 : decode cX12_takeSign 8 = .ok (.aload_n 0, 1) := by decide +kernel
theorem dX12_takeSign_9 : decode cX12_takeSign 9 = .ok (.dup, 1) := by decide +kernel
theorem dX12_takeSign_10 : decode cX12_takeSign 10 = .ok (.getfield 145, 3) := by decide +kernel
theorem dX12_takeSign_13 : decode cX12_takeSign 13 = .ok (.iconst 1, 1) := by decide +kernel
theorem dX12_takeSign_14 : decode cX12_takeSign 14 = .ok (.iadd, 1) := by decide +kernel
theorem dX12_takeSign_15 : decode cX12_takeSign 15 = .ok (.putfield 145, 3) := by decide +kernel
theorem dX12_takeSign_18 : decode cX12_takeSign 18 = .ok (.goto 8, 3) := by decide +kernel
theorem dX12_takeSign_21 : decode cX12_takeSign 21 = .ok (.aload_n 0, 1) := by decide +kernel
theorem dX12_takeSign_22 : decode cX12_takeSign 22 = .ok (.iconst 1, 1) := by decide +kernel
theorem dX12_takeSign_23 : decode cX12_takeSign 23 = .ok (.invokevirtual 154, 3) := by decide +kernel
theorem dX12_takeSign_26 : decode cX12_takeSign 26 = .ok (.return_, 1) := by decide +kernel
abbrev tX12_takeSign (k : Nat) : MT := (RX12, cX12_takeSign, 2, k, none)
def mX12_takeSign : MX := bodyOf 2 (sSeq (sIf (cZ zne (iCallV 12 mX12_isSign (aR (rLoc 0) (aI (iLoc 1) aNil)))) (sUpd 12 7 gT2 (· + ·) (rLoc 0) (iK 1)) (sCallV 12 mX12_wrong (aR (rLoc 0) (aI (iK 1) aNil)))) sRetV)
theorem kX12_takeSign (g : GT) : MK g 1 yX12_takeSign cX12_takeSign 2 none mX12_takeSign := MK.of (pcN := 99999) (pcB := 0) (pcC := 0) rfl (Sok.seq (pc1 := 26) (Sok.ite (pc1 := 8) (pc2 := 21) (Cok.zero (pc1 := 5) (pcT := 8) (pcF := 21) (EokI.iCallV (pc1 := 2) (Aok.aR (pc1 := 1) (EokR.aload_n (q := 0) dX12_takeSign_0) (Aok.aI (pc1 := 2) (EokI.iload_n (q := 1) dX12_takeSign_1) Aok.nil)) (kX12_isSign g) rfl ykX12_isSign vkX12_151 (by decide) (by decide) dX12_takeSign_2) (JZ.neF (tgt := 21) dX12_takeSign_5 (by decide))) (by decide) (Sok.goto (pc1 := 18) (pcN := 26) (Sok.upd (ci := 12) (T := TX12) (NN := 27) (tt := tyX12) (j := 7) (pc1 := 9) (pc2 := 14) (EokR.aload_n (q := 0) dX12_takeSign_8) dX12_takeSign_9 dX12_takeSign_10 (EokI.iconst (v := 1) dX12_takeSign_13 (by decide)) (OPI.iadd dX12_takeSign_14) (by decide) rfl wsX12_in tyX12_ok nmX12 (by decide) flX12_145 rfl rfl dX12_takeSign_15) dX12_takeSign_18 (by decide)) (Sok.sCallV (pc1 := 23) (Aok.aR (pc1 := 22) (EokR.aload_n (q := 0) dX12_takeSign_21) (Aok.aI (pc1 := 23) (EokI.iconst (v := 1) dX12_takeSign_22 (by decide)) Aok.nil)) (by decide) (kX12_wrong g) rfl ykX12_wrong vkX12_154 (by decide) (by decide) dX12_takeSign_23)) (Sok.retV dX12_takeSign_26 rfl))
/-! PassHutsModel.hasSign(I)Z -/
theorem dX12_hasSign_0 : decode cX12_hasSign 0 = .ok (.aload_n 0, 1) := by decide +kernel
theorem dX12_hasSign_1 : decode cX12_hasSign 1 = .ok (.iload_n 1, 1) := by decide +kernel
theorem dX12_hasSign_2 : decode cX12_hasSign 2 = .ok (.invokevirtual 151, 3) := by decide +kernel
theorem dX12_hasSign_5 : decode cX12_hasSign 5 = .ok (.istore_n 2, 1) := by decide +kernel
theorem dX12_hasSign_6 : decode cX12_hasSign 6 = .ok (.aload_n 0, 1) := by decide +kernel
theorem dX12_hasSign_7 : decode cX12_hasSign 7 = .ok (.dup, 1) := by decide +kernel
theorem dX12_hasSign_8 : decode cX12_hasSign 8 = .ok (.getfield 145, 3) := by decide +kernel
theorem dX12_hasSign_11 : decode cX12_hasSign 11 = .ok (.iload_n 2, 1) := by decide +kernel
theorem dX12_hasSign_12 : decode cX12_hasSign 12 = .ok (.ifCond .eq 7, 3) := by decide +kernel
theorem dX12_hasSign_15 : decode cX12_hasSign 15 = .ok (.iconst 1, 1) := by decide +kernel
theorem dX12_hasSign_16 : decode cX12_hasSign 16 = .ok (.goto 4, 3) := by decide +kernel
theorem dX12_hasSign_19 : decode cX12_hasSign 19 = .ok (.iconst 0, 1) := by decide +kernel
theorem dX12_hasSign_20 : decode cX12_hasSign 20 = .ok (.iadd, 1) := by decide +kernel
theorem dX12_hasSign_21 : decode cX12_hasSign 21 = .ok (.putfield 145, 3) := by decide +kernel
theorem dX12_hasSign_24 : decode cX12_hasSign 24 = .ok (.iload_n 2, 1) := by decide +kernel
theorem dX12_hasSign_25 : decode cX12_hasSign 25 = .ok (.ireturn, 1) := by decide +kernel
abbrev tX12_hasSign (k : Nat) : MT := (RX12, cX12_hasSign, 3, k, (some .boolean))
def mX12_hasSign : MX := bodyOf 3 (sSeq (sSetI 2 (iCallV 12 mX12_isSign (aR (rLoc 0) (aI (iLoc 1) aNil)))) (sSeq (sUpd 12 7 gT2 (· + ·) (rLoc 0) (iCond (cZ zne (iLoc 2)) (iK 1) (iK 0))) (sRetZ (iLoc 2))))
theorem kX12_hasSign (g : GT) : MK g 1 yX12_hasSign cX12_hasSign 3 (some .boolean) mX12_hasSign := MK.of (pcN := 99999) (pcB := 0) (pcC := 0) rfl (Sok.seq (pc1 := 6) (Sok.setI_n (q := 2) (pc1 := 5) (EokI.iCallV (pc1 := 2) (Aok.aR (pc1 := 1) (EokR.aload_n (q := 0) dX12_hasSign_0) (Aok.aI (pc1 := 2) (EokI.iload_n (q := 1) dX12_hasSign_1) Aok.nil)) (kX12_isSign g) rfl ykX12_isSign vkX12_151 (by decide) (by decide) dX12_hasSign_2) (by decide) dX12_hasSign_5 (show 2 < 3 by decide)) (Sok.seq (pc1 := 24) (Sok.upd (ci := 12) (T := TX12) (NN := 27) (tt := tyX12) (j := 7) (pc1 := 7) (pc2 := 20) (EokR.aload_n (q := 0) dX12_hasSign_6) dX12_hasSign_7 dX12_hasSign_8 (EokI.cond' (pc1 := 15) (pc2 := 19) (Cok.zero (pc1 := 12) (pcT := 15) (pcF := 19) (EokI.iload_n (q := 2) dX12_hasSign_11) (JZ.neF (tgt := 19) dX12_hasSign_12 (by decide))) (EokI.goto (pc1 := 16) (pc2 := 20) (EokI.iconst (v := 1) dX12_hasSign_15 (by decide)) dX12_hasSign_16 (by decide)) (EokI.iconst (v := 0) dX12_hasSign_19 (by decide))) (OPI.iadd dX12_hasSign_20) (by decide) rfl wsX12_in tyX12_ok nmX12 (by decide) flX12_145 rfl rfl dX12_hasSign_21) (Sok.retZ (pc1 := 25) (EokI.iload_n (q := 2) dX12_hasSign_24) (by decide) dX12_hasSign_25 rfl)))
/-! PassHutsModel.hasWord(I)Z -/
theorem dX12_hasWord_0 : decode cX12_hasWord 0 = .ok (.aload_n 0, 1) := by decide +kernel
theorem dX12_hasWord_1 : decode cX12_hasWord 1 = .ok (.iload_n 1, 1) := by decide +kernel
theorem dX12_hasWord_2 : decode cX12_hasWord 2 = .ok (.invokevirtual 157, 3) := by decide +kernel
theorem dX12_hasWord_5 : decode cX12_hasWord 5 = .ok (.istore_n 2, 1) := by decide +kernel
theorem dX12_hasWord_6 : decode cX12_hasWord 6 = .ok (.aload_n 0, 1) := by decide +kernel
theorem dX12_hasWord_7 : decode cX12_hasWord 7 = .ok (.dup, 1) := by decide +kernel
theorem dX12_hasWord_8 : decode cX12_hasWord 8 = .ok (.getfield 145, 3) := by decide +kernel
theorem dX12_hasWord_11 : decode cX12_hasWord 11 = .ok (.iload_n 2, 1) := by decide +kernel
theorem dX12_hasWord_12 : decode cX12_hasWord 12 = .ok (.ifCond .eq 7, 3) := by decide +kernel
theorem dX12_hasWord_15 : decode cX12_hasWord 15 = .ok (.iconst 1, 1) := by decide +kernel
theorem dX12_hasWord_16 : decode cX12_hasWord 16 = .ok (.goto 4, 3) := by decide +kernel
theorem dX12_hasWord_19 : decode cX12_hasWord 19 = .ok (.iconst 0, 1) := by decide +kernel
theorem dX12_hasWord_20 : decode cX12_hasWord 20 = .ok (.iadd, 1) := by decide +kernel
theorem dX12_hasWord_21 : decode cX12_hasWord 21 = .ok (.putfield 145, 3) := by decide +kernel
theorem dX12_hasWord_24 : decode cX12_hasWord 24 = .ok (.iload_n 2, 1) := by decide +kernel
theorem dX12_hasWord_25 : decode cX12_hasWord 25 = .ok (.ireturn, 1) := by decide +kernel
abbrev tX12_hasWord (k : Nat) : MT := (RX12, cX12_hasWord, 3, k, (some .boolean))
def mX12_hasWord : MX := bodyOf 3 (sSeq (sSetI 2 (iCallV 12 mX12_isWord (aR (rLoc 0) (aI (iLoc 1) aNil)))) (sSeq (sUpd 12 7 gT2 (· + ·) (rLoc 0) (iCond (cZ zne (iLoc 2)) (iK 1) (iK 0))) (sRetZ (iLoc 2))))
theorem kX12_hasWord (g : GT) : MK g 1 yX12_hasWord cX12_hasWord 3 (some .boolean) mX12_hasWord := MK.of (pcN := 99999) (pcB := 0) (pcC := 0) rfl (Sok.seq (pc1 := 6) (Sok.setI_n (q := 2) (pc1 := 5) (EokI.iCallV (pc1 := 2) (Aok.aR (pc1 := 1) (EokR.aload_n (q := 0) dX12_hasWord_0) (Aok.aI (pc1 := 2) (EokI.iload_n (q := 1) dX12_hasWord_1) Aok.nil)) (kX12_isWord g) rfl ykX12_isWord vkX12_157 (by decide) (by decide) dX12_hasWord_2) (by decide) dX12_hasWord_5 (show 2 < 3 by decide)) (Sok.seq (pc1 := 24) (Sok.upd (ci := 12) (T := TX12) (NN := 27) (tt := tyX12) (j := 7) (pc1 := 7) (pc2 := 20) (EokR.aload_n (q := 0) dX12_hasWord_6) dX12_hasWord_7 dX12_hasWord_8 (EokI.cond' (pc1 := 15) (pc2 := 19) (Cok.zero (pc1 := 12) (pcT := 15) (pcF := 19) (EokI.iload_n (q := 2) dX12_hasWord_11) (JZ.neF (tgt := 19) dX12_hasWord_12 (by decide))) (EokI.goto (pc1 := 16) (pc2 := 20) (EokI.iconst (v := 1) dX12_hasWord_15 (by decide)) dX12_hasWord_16 (by decide)) (EokI.iconst (v := 0) dX12_hasWord_19 (by decide))) (OPI.iadd dX12_hasWord_20) (by decide) rfl wsX12_in tyX12_ok nmX12 (by decide) flX12_145 rfl rfl dX12_hasWord_21) (Sok.retZ (pc1 := 25) (EokI.iload_n (q := 2) dX12_hasWord_24) (by decide) dX12_hasWord_25 rfl)))
/-! PassHutsModel.takeWord(I)V -/
theorem dX12_takeWord_0 : decode cX12_takeWord 0 = .ok (.aload_n 0, 1) := by decide +kernel
theorem dX12_takeWord_1 : decode cX12_takeWord 1 = .ok (.iload_n 1, 1) := by decide +kernel
theorem dX12_takeWord_2 : decode cX12_takeWord 2 = .ok (.invokevirtual 160, 3) := by decide +kernel
theorem dX12_takeWord_5 : decode cX12_takeWord 5 = .ok (.ifCond .ne 8, 3) := by decide +kernel
theorem dX12_takeWord_8 : decode cX12_takeWord 8 = .ok (.aload_n 0, 1) := by decide +kernel
theorem dX12_takeWord_9 : decode cX12_takeWord 9 = .ok (.iconst 1, 1) := by decide +kernel
theorem dX12_takeWord_10 : decode cX12_takeWord 10 = .ok (.invokevirtual 154, 3) := by decide +kernel
theorem dX12_takeWord_13 : decode cX12_takeWord 13 = .ok (.return_, 1) := by decide +kernel
abbrev tX12_takeWord (k : Nat) : MT := (RX12, cX12_takeWord, 2, k, none)
def mX12_takeWord : MX := bodyOf 2 (sSeq (sIf (cNot (cZ zne (iCallV 12 mX12_hasWord (aR (rLoc 0) (aI (iLoc 1) aNil))))) (sCallV 12 mX12_wrong (aR (rLoc 0) (aI (iK 1) aNil))) sSkip) sRetV)
theorem kX12_takeWord (g : GT) : MK g 2 yX12_takeWord cX12_takeWord 2 none mX12_takeWord := MK.of (pcN := 99999) (pcB := 0) (pcC := 0) rfl (Sok.seq (pc1 := 13) (Sok.ite (pc1 := 8) (pc2 := 13) (Cok.not (Cok.zero (pc1 := 5) (pcT := 13) (pcF := 8) (EokI.iCallV (pc1 := 2) (Aok.aR (pc1 := 1) (EokR.aload_n (q := 0) dX12_takeWord_0) (Aok.aI (pc1 := 2) (EokI.iload_n (q := 1) dX12_takeWord_1) Aok.nil)) (kX12_hasWord g) rfl ykX12_hasWord vkX12_160 (by decide) (by decide) dX12_takeWord_2) (JZ.neT (tgt := 13) dX12_takeWord_5 (by decide)))) (by decide) (Sok.sCallV (pc1 := 10) (Aok.aR (pc1 := 9) (EokR.aload_n (q := 0) dX12_takeWord_8) (Aok.aI (pc1 := 10) (EokI.iconst (v := 1) dX12_takeWord_9 (by decide)) Aok.nil)) (by decide) (kX12_wrong g) rfl ykX12_wrong vkX12_154 (by decide) (by decide) dX12_takeWord_10) (Sok.skip (pc := 13))) (Sok.retV dX12_takeWord_13 rfl))
/-! PassHutsModel.within(III)Z -/
theorem dX12_within_0 : decode cX12_within 0 = .ok (.iload_n 0, 1) := by decide +kernel
theorem dX12_within_1 : decode cX12_within 1 = .ok (.iload_n 1, 1) := by decide +kernel
theorem dX12_within_2 : decode cX12_within 2 = .ok (.if_icmp .lt 12, 3) := by decide +kernel
theorem dX12_within_5 : decode cX12_within 5 = .ok (.iload_n 0, 1) := by decide +kernel
theorem dX12_within_6 : decode cX12_within 6 = .ok (.iload_n 2, 1) := by decide +kernel
theorem dX12_within_7 : decode cX12_within 7 = .ok (.if_icmp .gt 7, 3) := by decide +kernel
theorem dX12_within_10 : decode cX12_within 10 = .ok (.iconst 1, 1) := by decide +kernel
theorem dX12_within_11 : decode cX12_within 11 = .ok (.goto 4, 3) := by decide +kernel
theorem dX12_within_14 : decode cX12_within 14 = .ok (.iconst 0, 1) := by decide +kernel
theorem dX12_within_15 : decode cX12_within 15 = .ok (.ireturn, 1) := by decide +kernel
abbrev tX12_within (k : Nat) : MT := (RX12, cX12_within, 3, k, (some .boolean))
def mX12_within : MX := bodyOf 3 (sRetZ (iBool (cAnd (cB rge (iLoc 0) (iLoc 1)) (cB rle (iLoc 0) (iLoc 2)))))
theorem kX12_within (g : GT) : MK g 0 yX12_within cX12_within 3 (some .boolean) mX12_within := MK.of (pcN := 99999) (pcB := 0) (pcC := 0) rfl (Sok.retZ (pc1 := 15) (EokI.cond' (pc1 := 10) (pc2 := 14) (Cok.and (pc1 := 5) (Cok.cmp (pc1 := 1) (pc2 := 2) (pcT := 5) (pcF := 14) (EokI.iload_n (q := 0) dX12_within_0) (EokI.iload_n (q := 1) dX12_within_1) (JI.geF (tgt := 14) dX12_within_2 (by decide))) (Cok.cmp (pc1 := 6) (pc2 := 7) (pcT := 10) (pcF := 14) (EokI.iload_n (q := 0) dX12_within_5) (EokI.iload_n (q := 2) dX12_within_6) (JI.leF (tgt := 14) dX12_within_7 (by decide)))) (EokI.goto (pc1 := 11) (pc2 := 15) (EokI.iconst (v := 1) dX12_within_10 (by decide)) dX12_within_11 (by decide)) (EokI.iconst (v := 0) dX12_within_14 (by decide))) (by decide) dX12_within_15 rfl)
/-! PassHutsModel.standsAsAlways(I)V -/
theorem dX12_standsAsAlways_0 : decode cX12_standsAsAlways 0 = .ok (.iconst 0, 1) := by decide +kernel
theorem dX12_standsAsAlways_1 : decode cX12_standsAsAlways 1 = .ok (.istore_n 2, 1) := by decide +kernel
theorem dX12_standsAsAlways_2 : decode cX12_standsAsAlways 2 = .ok (.iload_n 2, 1) := by decide +kernel
theorem dX12_standsAsAlways_3 : decode cX12_standsAsAlways 3 = .ok (.bipush 40, 2) := by decide +kernel
theorem dX12_standsAsAlways_5 : decode cX12_standsAsAlways 5 = .ok (.if_icmp .ge 18, 3) := by decide +kernel
theorem dX12_standsAsAlways_8 : decode cX12_standsAsAlways 8 = .ok (.aload_n 0, 1) := by decide +kernel
theorem dX12_standsAsAlways_9 : decode cX12_standsAsAlways 9 = .ok (.getfield 75, 3) := by decide +kernel
theorem dX12_standsAsAlways_12 : decode cX12_standsAsAlways 12 = .ok (.iload_n 1, 1) := by decide +kernel
theorem dX12_standsAsAlways_13 : decode cX12_standsAsAlways 13 = .ok (.iload_n 2, 1) := by decide +kernel
theorem dX12_standsAsAlways_14 : decode cX12_standsAsAlways 14 = .ok (.iadd, 1) := by decide +kernel
theorem dX12_standsAsAlways_15 : decode cX12_standsAsAlways 15 = .ok (.iconst 0, 1) := by decide +kernel
theorem dX12_standsAsAlways_16 : decode cX12_standsAsAlways 16 = .ok (.iastore, 1) := by decide +kernel
theorem dX12_standsAsAlways_17 : decode cX12_standsAsAlways 17 = .ok (.iinc 2 1, 3) := by decide +kernel
theorem dX12_standsAsAlways_20 : decode cX12_standsAsAlways 20 = .ok (.goto (-18), 3) := by decide +kernel
theorem dX12_standsAsAlways_23 : decode cX12_standsAsAlways 23 = .ok (.aload_n 0, 1) := by decide +kernel
theorem dX12_standsAsAlways_24 : decode cX12_standsAsAlways 24 = .ok (.getfield 75, 3) := by decide +kernel
theorem dX12_standsAsAlways_27 : decode cX12_standsAsAlways 27 = .ok (.iload_n 1, 1) := by decide +kernel
theorem dX12_standsAsAlways_28 : decode cX12_standsAsAlways 28 = .ok (.iconst 2, 1) := by decide +kernel
theorem dX12_standsAsAlways_29 : decode cX12_standsAsAlways 29 = .ok (.iadd, 1) := by decide +kernel
theorem dX12_standsAsAlways_30 : decode cX12_standsAsAlways 30 = .ok (.iconst (-1), 1) := by decide +kernel
theorem dX12_standsAsAlways_31 : decode cX12_standsAsAlways 31 = .ok (.iastore, 1) := by decide +kernel
theorem dX12_standsAsAlways_32 : decode cX12_standsAsAlways 32 = .ok (.return_, 1) := by decide +kernel
abbrev tX12_standsAsAlways (k : Nat) : MT := (RX12, cX12_standsAsAlways, 3, k, none)
def lX12_standsAsAlways_1 : SX := (sLoop (cB rlt (iLoc 2) (iK 40)) (sASt 0 narI (rGet 12 10 (rLoc 0)) (iB gT2 (· + ·) (iLoc 1) (iLoc 2)) (iK 0)) (sInc 2 1))
theorem olX12_standsAsAlways_1 (g : GT) {pcB pcC : Nat} : Sok g (tX12_standsAsAlways 0) 2 23 pcB pcC (lX12_standsAsAlways_1) := (Sok.loop (pc := 2) (pc1 := 8) (pc2 := 17) (pcN := 23) (Cok.cmp (pc1 := 3) (pc2 := 5) (pcT := 8) (pcF := 23) (EokI.iload_n (q := 2) dX12_standsAsAlways_2) (EokI.bipush (v := 40) dX12_standsAsAlways_3 (by decide)) (JI.ltF (tgt := 23) dX12_standsAsAlways_5 (by decide))) (by decide) (Sok.iASt (pc1 := 12) (pc2 := 15) (pc3 := 16) (EokR.getf (pc1 := 9) (j := 10) (ci := 12) (T := TX12) (N := 27) (EokR.aload_n (q := 0) dX12_standsAsAlways_8) rfl wsX12_in (by decide) flX12_75 dX12_standsAsAlways_9) (EokI.bin (pc1 := 13) (pc2 := 14) (EokI.iload_n (q := 1) dX12_standsAsAlways_12) (EokI.iload_n (q := 2) dX12_standsAsAlways_13) (OPI.iadd dX12_standsAsAlways_14)) (EokI.iconst (v := 0) dX12_standsAsAlways_15 (by decide)) (by decide) dX12_standsAsAlways_16) (Sok.goto (pc1 := 20) (pcN := 2) (Sok.iinc (i := 2) (v := 1) dX12_standsAsAlways_17 (show 2 < 3 by decide) (by decide)) dX12_standsAsAlways_20 (by decide)))
def mX12_standsAsAlways : MX := bodyOf 3 (sSeq (sSeq (sSeq (sSeq (sSetI 2 (iK 0)) lX12_standsAsAlways_1) (sForget 2)) (sASt 0 narI (rGet 12 10 (rLoc 0)) (iB gT2 (· + ·) (iLoc 1) (iK 2)) (iK (-1)))) sRetV)
theorem kX12_standsAsAlways (g : GT) : MK g 0 yX12_standsAsAlways cX12_standsAsAlways 3 none mX12_standsAsAlways := MK.of (pcN := 99999) (pcB := 0) (pcC := 0) rfl (Sok.seq (pc1 := 32) (Sok.seq (pc1 := 23) (Sok.seq (pc1 := 23) (Sok.seq (pc1 := 2) (Sok.setI_n (q := 2) (pc1 := 1) (EokI.iconst (v := 0) dX12_standsAsAlways_0 (by decide)) (by decide) dX12_standsAsAlways_1 (show 2 < 3 by decide)) (olX12_standsAsAlways_1 g )) (Sok.forget (pc := 23))) (Sok.iASt (pc1 := 27) (pc2 := 30) (pc3 := 31) (EokR.getf (pc1 := 24) (j := 10) (ci := 12) (T := TX12) (N := 27) (EokR.aload_n (q := 0) dX12_standsAsAlways_23) rfl wsX12_in (by decide) flX12_75 dX12_standsAsAlways_24) (EokI.bin (pc1 := 28) (pc2 := 29) (EokI.iload_n (q := 1) dX12_standsAsAlways_27) (EokI.iconst (v := 2) dX12_standsAsAlways_28 (by decide)) (OPI.iadd dX12_standsAsAlways_29)) (EokI.iconst (v := (-1)) dX12_standsAsAlways_30 (by decide)) (by decide) dX12_standsAsAlways_31)) (Sok.retV dX12_standsAsAlways_32 rfl))
/-! PassHutsModel.takeNumber(II)I -/
theorem dX12_takeNumber_0 : decode cX12_takeNumber 0 = .ok (.aload_n 0, 1) := by decide +kernel
theorem dX12_takeNumber_1 : decode cX12_takeNumber 1 = .ok (.getfield 148, 3) := by decide +kernel
theorem dX12_takeNumber_4 : decode cX12_takeNumber 4 = .ok (.ifCond .ne 24, 3) := by decide +kernel
theorem dX12_takeNumber_7 : decode cX12_takeNumber 7 = .ok (.aload_n 0, 1) := by decide +kernel
theorem dX12_takeNumber_8 : decode cX12_takeNumber 8 = .ok (.getfield 24, 3) := by decide +kernel
theorem dX12_takeNumber_11 : decode cX12_takeNumber 11 = .ok (.aload_n 0, 1) := by decide +kernel
theorem dX12_takeNumber_12 : decode cX12_takeNumber 12 = .ok (.getfield 145, 3) := by decide +kernel
theorem dX12_takeNumber_15 : decode cX12_takeNumber 15 = .ok (.iaload, 1) := by decide +kernel
theorem dX12_takeNumber_16 : decode cX12_takeNumber 16 = .ok (.iconst 2, 1) := by decide +kernel
theorem dX12_takeNumber_17 : decode cX12_takeNumber 17 = .ok (.if_icmp .eq 11, 3) := by decide +kernel
theorem dX12_takeNumber_20 : decode cX12_takeNumber 20 = .ok (.aload_n 0, 1) := by decide +kernel
theorem dX12_takeNumber_21 : decode cX12_takeNumber 21 = .ok (.iconst 1, 1) := by decide +kernel
theorem dX12_takeNumber_22 : decode cX12_takeNumber 22 = .ok (.invokevirtual 154, 3) := by decide +kernel
theorem dX12_takeNumber_25 : decode cX12_takeNumber 25 = .ok (.goto 45, 3) := by decide +kernel
theorem dX12_takeNumber_28 : decode cX12_takeNumber 28 = .ok (.aload_n 0, 1) := by decide +kernel
theorem dX12_takeNumber_29 : decode cX12_takeNumber 29 = .ok (.getfield 148, 3) := by decide +kernel
theorem dX12_takeNumber_32 : decode cX12_takeNumber 32 = .ok (.ifCond .ne 38, 3) := by decide +kernel
theorem dX12_takeNumber_35 : decode cX12_takeNumber 35 = .ok (.aload_n 0, 1) := by decide +kernel
theorem dX12_takeNumber_36 : decode cX12_takeNumber 36 = .ok (.getfield 30, 3) := by decide +kernel
theorem dX12_takeNumber_39 : decode cX12_takeNumber 39 = .ok (.aload_n 0, 1) := by decide +kernel
theorem dX12_takeNumber_40 : decode cX12_takeNumber 40 = .ok (.getfield 145, 3) := by decide +kernel
theorem dX12_takeNumber_43 : decode cX12_takeNumber 43 = .ok (.laload, 1) := by decide +kernel
theorem dX12_takeNumber_44 : decode cX12_takeNumber 44 = .ok (.iload_n 1, 1) := by decide +kernel
theorem dX12_takeNumber_45 : decode cX12_takeNumber 45 = .ok (.i2l, 1) := by decide +kernel
theorem dX12_takeNumber_46 : decode cX12_takeNumber 46 = .ok (.lcmp, 1) := by decide +kernel
theorem dX12_takeNumber_47 : decode cX12_takeNumber 47 = .ok (.ifCond .lt 18, 3) := by decide +kernel
theorem dX12_takeNumber_50 : decode cX12_takeNumber 50 = .ok (.aload_n 0, 1) := by decide +kernel
theorem dX12_takeNumber_51 : decode cX12_takeNumber 51 = .ok (.getfield 30, 3) := by decide +kernel
theorem dX12_takeNumber_54 : decode cX12_takeNumber 54 = .ok (.aload_n 0, 1) := by decide +kernel
theorem dX12_takeNumber_55 : decode cX12_takeNumber 55 = .ok (.getfield 145, 3) := by decide +kernel
theorem dX12_takeNumber_58 : decode cX12_takeNumber 58 = .ok (.laload, 1) := by decide +kernel
theorem dX12_takeNumber_59 : decode cX12_takeNumber 59 = .ok (.iload_n 2, 1) := by decide +kernel
theorem dX12_takeNumber_60 : decode cX12_takeNumber 60 = .ok (.i2l, 1) := by decide +kernel
theorem dX12_takeNumber_61 : decode cX12_takeNumber 61 = .ok (.lcmp, 1) := by decide +kernel
theorem dX12_takeNumber_62 : decode cX12_takeNumber 62 = .ok (.ifCond .le 8, 3) := by decide +kernel
theorem dX12_takeNumber_65 : decode cX12_takeNumber 65 = .ok (.aload_n 0, 1) := by decide +kernel
theorem dX12_takeNumber_66 : decode cX12_takeNumber 66 = .ok (.iconst 4, 1) := by decide +kernel
theorem dX12_takeNumber_67 : decode cX12_takeNumber 67 = .ok (.invokevirtual 154, 3) := by decide +kernel
theorem dX12_takeNumber_70 : decode cX12_takeNumber 70 = .ok (.aload_n 0, 1) := by decide +kernel
theorem dX12_takeNumber_71 : decode cX12_takeNumber 71 = .ok (.getfield 148, 3) := by decide +kernel
theorem dX12_takeNumber_74 : decode cX12_takeNumber 74 = .ok (.ifCond .le 5, 3) := by decide +kernel
theorem dX12_takeNumber_77 : decode cX12_takeNumber 77 = .ok (.iconst 0, 1) := by decide +kernel
theorem dX12_takeNumber_78 : decode cX12_takeNumber 78 = .ok (.ireturn, 1) := by decide +kernel
theorem dX12_takeNumber_79 : decode cX12_takeNumber 79 = .ok (.aload_n 0, 1) := by decide +kernel
theorem dX12_takeNumber_80 : decode cX12_takeNumber 80 = .ok (.dup, 1) := by decide +kernel
theorem dX12_takeNumber_81 : decode cX12_takeNumber 81 = .ok (.getfield 145, 3) := by decide +kernel
theorem dX12_takeNumber_84 : decode cX12_takeNumber 84 = .ok (.iconst 1, 1) := by decide +kernel
theorem dX12_takeNumber_85 : decode cX12_takeNumber 85 = .ok (.iadd, 1) := by decide +kernel
theorem dX12_takeNumber_86 : decode cX12_takeNumber 86 = .ok (.putfield 145, 3) := by decide +kernel
theorem dX12_takeNumber_89 : decode cX12_takeNumber 89 = .ok (.aload_n 0, 1) := by decide +kernel
theorem dX12_takeNumber_90 : decode cX12_takeNumber 90 = .ok (.getfield 30, 3) := by decide +kernel
theorem dX12_takeNumber_93 : decode cX12_takeNumber 93 = .ok (.aload_n 0, 1) := by decide +kernel
theorem dX12_takeNumber_94 : decode cX12_takeNumber 94 = .ok (.getfield 145, 3) := by decide +kernel
theorem dX12_takeNumber_97 : decode cX12_takeNumber 97 = .ok (.iconst 1, 1) := by decide +kernel
theorem dX12_takeNumber_98 : decode cX12_takeNumber 98 = .ok (.isub, 1) := by decide +kernel
theorem dX12_takeNumber_99 : decode cX12_takeNumber 99 = .ok (.laload, 1) := by decide +kernel
theorem dX12_takeNumber_100 : decode cX12_takeNumber 100 = .ok (.l2i, 1) := by decide +kernel
theorem dX12_takeNumber_101 : decode cX12_takeNumber 101 = .ok (.ireturn, 1) := by decide +kernel
abbrev tX12_takeNumber (k : Nat) : MT := (RX12, cX12_takeNumber, 3, k, (some .int))
def mX12_takeNumber : MX := bodyOf 3 (sSeq (sIf (cAnd (cZ zeq (iGet 12 8 (rLoc 0))) (cB rne (iALd (rGet 12 4 (rLoc 0)) (iGet 12 7 (rLoc 0))) (iK 2))) (sCallV 12 mX12_wrong (aR (rLoc 0) (aI (iK 1) aNil))) (sIf (cAnd (cZ zeq (iGet 12 8 (rLoc 0))) (cOr (cL llt (lALd (rGet 12 6 (rLoc 0)) (iGet 12 7 (rLoc 0))) (lOfI (iLoc 1))) (cL lgt (lALd (rGet 12 6 (rLoc 0)) (iGet 12 7 (rLoc 0))) (lOfI (iLoc 2))))) (sCallV 12 mX12_wrong (aR (rLoc 0) (aI (iK 4) aNil))) sSkip)) (sSeq (sIf (cZ zgt (iGet 12 8 (rLoc 0))) (sRetI (iK 0)) sSkip) (sSeq (sUpd 12 7 gT2 (· + ·) (rLoc 0) (iK 1)) (sRetI (iOfL (lALd (rGet 12 6 (rLoc 0)) (iB gT2 (· - ·) (iGet 12 7 (rLoc 0)) (iK 1))))))))
theorem kX12_takeNumber (g : GT) : MK g 1 yX12_takeNumber cX12_takeNumber 3 (some .int) mX12_takeNumber := MK.of (pcN := 99999) (pcB := 0) (pcC := 0) rfl (Sok.seq (pc1 := 70) (Sok.ite (pc1 := 20) (pc2 := 28) (Cok.and (pc1 := 7) (Cok.zero (pc1 := 4) (pcT := 7) (pcF := 28) (EokI.getf (pc1 := 1) (j := 8) (ci := 12) (T := TX12) (N := 27) (EokR.aload_n (q := 0) dX12_takeNumber_0) rfl wsX12_in (by decide) flX12_148 dX12_takeNumber_1) (JZ.eqF (tgt := 28) dX12_takeNumber_4 (by decide))) (Cok.cmp (pc1 := 16) (pc2 := 17) (pcT := 20) (pcF := 28) (EokI.iALd (pc1 := 11) (pc2 := 15) (EokR.getf (pc1 := 8) (j := 4) (ci := 12) (T := TX12) (N := 27) (EokR.aload_n (q := 0) dX12_takeNumber_7) rfl wsX12_in (by decide) flX12_24 dX12_takeNumber_8) (EokI.getf (pc1 := 12) (j := 7) (ci := 12) (T := TX12) (N := 27) (EokR.aload_n (q := 0) dX12_takeNumber_11) rfl wsX12_in (by decide) flX12_145 dX12_takeNumber_12) dX12_takeNumber_15) (EokI.iconst (v := 2) dX12_takeNumber_16 (by decide)) (JI.neF (tgt := 28) dX12_takeNumber_17 (by decide)))) (by decide) (Sok.goto (pc1 := 25) (pcN := 70) (Sok.sCallV (pc1 := 22) (Aok.aR (pc1 := 21) (EokR.aload_n (q := 0) dX12_takeNumber_20) (Aok.aI (pc1 := 22) (EokI.iconst (v := 1) dX12_takeNumber_21 (by decide)) Aok.nil)) (by decide) (kX12_wrong g) rfl ykX12_wrong vkX12_154 (by decide) (by decide) dX12_takeNumber_22) dX12_takeNumber_25 (by decide)) (Sok.ite (pc1 := 65) (pc2 := 70) (Cok.and (pc1 := 35) (Cok.zero (pc1 := 32) (pcT := 35) (pcF := 70) (EokI.getf (pc1 := 29) (j := 8) (ci := 12) (T := TX12) (N := 27) (EokR.aload_n (q := 0) dX12_takeNumber_28) rfl wsX12_in (by decide) flX12_148 dX12_takeNumber_29) (JZ.eqF (tgt := 70) dX12_takeNumber_32 (by decide))) (Cok.or (pc1 := 50) (Cok.lcmp (pc1 := 44) (pc2 := 46) (pcT := 65) (pcF := 50) (EokL.lALd (pc1 := 39) (pc2 := 43) (EokR.getf (pc1 := 36) (j := 6) (ci := 12) (T := TX12) (N := 27) (EokR.aload_n (q := 0) dX12_takeNumber_35) rfl wsX12_in (by decide) flX12_30 dX12_takeNumber_36) (EokI.getf (pc1 := 40) (j := 7) (ci := 12) (T := TX12) (N := 27) (EokR.aload_n (q := 0) dX12_takeNumber_39) rfl wsX12_in (by decide) flX12_145 dX12_takeNumber_40) dX12_takeNumber_43) (EokL.i2l (pc1 := 45) (EokI.iload_n (q := 1) dX12_takeNumber_44) dX12_takeNumber_45) (JL.lt dX12_takeNumber_46 (JZ.ltT (tgt := 65) dX12_takeNumber_47 (by decide)))) (Cok.lcmp (pc1 := 59) (pc2 := 61) (pcT := 65) (pcF := 70) (EokL.lALd (pc1 := 54) (pc2 := 58) (EokR.getf (pc1 := 51) (j := 6) (ci := 12) (T := TX12) (N := 27) (EokR.aload_n (q := 0) dX12_takeNumber_50) rfl wsX12_in (by decide) flX12_30 dX12_takeNumber_51) (EokI.getf (pc1 := 55) (j := 7) (ci := 12) (T := TX12) (N := 27) (EokR.aload_n (q := 0) dX12_takeNumber_54) rfl wsX12_in (by decide) flX12_145 dX12_takeNumber_55) dX12_takeNumber_58) (EokL.i2l (pc1 := 60) (EokI.iload_n (q := 2) dX12_takeNumber_59) dX12_takeNumber_60) (JL.gt dX12_takeNumber_61 (JZ.gtF (tgt := 70) dX12_takeNumber_62 (by decide)))))) (by decide) (Sok.sCallV (pc1 := 67) (Aok.aR (pc1 := 66) (EokR.aload_n (q := 0) dX12_takeNumber_65) (Aok.aI (pc1 := 67) (EokI.iconst (v := 4) dX12_takeNumber_66 (by decide)) Aok.nil)) (by decide) (kX12_wrong g) rfl ykX12_wrong vkX12_154 (by decide) (by decide) dX12_takeNumber_67) (Sok.skip (pc := 70)))) (Sok.seq (pc1 := 79) (Sok.ite (pc1 := 77) (pc2 := 79) (Cok.zero (pc1 := 74) (pcT := 77) (pcF := 79) (EokI.getf (pc1 := 71) (j := 8) (ci := 12) (T := TX12) (N := 27) (EokR.aload_n (q := 0) dX12_takeNumber_70) rfl wsX12_in (by decide) flX12_148 dX12_takeNumber_71) (JZ.gtF (tgt := 79) dX12_takeNumber_74 (by decide))) (by decide) (Sok.retI (pc1 := 78) (EokI.iconst (v := 0) dX12_takeNumber_77 (by decide)) (by decide) dX12_takeNumber_78 rfl) (Sok.skip (pc := 79))) (Sok.seq (pc1 := 89) (Sok.upd (ci := 12) (T := TX12) (NN := 27) (tt := tyX12) (j := 7) (pc1 := 80) (pc2 := 85) (EokR.aload_n (q := 0) dX12_takeNumber_79) dX12_takeNumber_80 dX12_takeNumber_81 (EokI.iconst (v := 1) dX12_takeNumber_84 (by decide)) (OPI.iadd dX12_takeNumber_85) (by decide) rfl wsX12_in tyX12_ok nmX12 (by decide) flX12_145 rfl rfl dX12_takeNumber_86) (Sok.retI (pc1 := 101) (EokI.l2i (pc1 := 100) (EokL.lALd (pc1 := 93) (pc2 := 99) (EokR.getf (pc1 := 90) (j := 6) (ci := 12) (T := TX12) (N := 27) (EokR.aload_n (q := 0) dX12_takeNumber_89) rfl wsX12_in (by decide) flX12_30 dX12_takeNumber_90) (EokI.bin (pc1 := 97) (pc2 := 98) (EokI.getf (pc1 := 94) (j := 7) (ci := 12) (T := TX12) (N := 27) (EokR.aload_n (q := 0) dX12_takeNumber_93) rfl wsX12_in (by decide) flX12_145 dX12_takeNumber_94) (EokI.iconst (v := 1) dX12_takeNumber_97 (by decide)) (OPI.isub dX12_takeNumber_98)) dX12_takeNumber_99) dX12_takeNumber_100) (by decide) dX12_takeNumber_101 rfl))))
/-! PassHutsModel.takeAfter(III)I -/
theorem dX12_takeAfter_0 : decode cX12_takeAfter 0 = .ok (.aload_n 0, 1) := by decide +kernel
theorem dX12_takeAfter_1 : decode cX12_takeAfter 1 = .ok (.iload_n 1, 1) := by decide +kernel
theorem dX12_takeAfter_2 : decode cX12_takeAfter 2 = .ok (.invokevirtual 163, 3) := by decide +kernel
theorem dX12_takeAfter_5 : decode cX12_takeAfter 5 = .ok (.aload_n 0, 1) := by decide +kernel
theorem dX12_takeAfter_6 : decode cX12_takeAfter 6 = .ok (.iload_n 2, 1) := by decide +kernel
theorem dX12_takeAfter_7 : decode cX12_takeAfter 7 = .ok (.iload_n 3, 1) := by decide +kernel
theorem dX12_takeAfter_8 : decode cX12_takeAfter 8 = .ok (.invokevirtual 166, 3) := by decide +kernel
theorem dX12_takeAfter_11 : decode cX12_takeAfter 11 = .ok (.ireturn, 1) := by decide +kernel
abbrev tX12_takeAfter (k : Nat) : MT := (RX12, cX12_takeAfter, 4, k, (some .int))
def mX12_takeAfter : MX := bodyOf 4 (sSeq (sCallV 12 mX12_takeWord (aR (rLoc 0) (aI (iLoc 1) aNil))) (sRetI (iCallV 12 mX12_takeNumber (aR (rLoc 0) (aI (iLoc 2) (aI (iLoc 3) aNil))))))
theorem kX12_takeAfter (g : GT) : MK g 3 yX12_takeAfter cX12_takeAfter 4 (some .int) mX12_takeAfter := MK.of (pcN := 99999) (pcB := 0) (pcC := 0) rfl (Sok.seq (pc1 := 5) (Sok.sCallV (pc1 := 2) (Aok.aR (pc1 := 1) (EokR.aload_n (q := 0) dX12_takeAfter_0) (Aok.aI (pc1 := 2) (EokI.iload_n (q := 1) dX12_takeAfter_1) Aok.nil)) (by decide) (kX12_takeWord g) rfl ykX12_takeWord vkX12_163 (by decide) (by decide) dX12_takeAfter_2) (Sok.retI (pc1 := 11) (EokI.iCallV (pc1 := 8) (Aok.aR (pc1 := 6) (EokR.aload_n (q := 0) dX12_takeAfter_5) (Aok.aI (pc1 := 7) (EokI.iload_n (q := 2) dX12_takeAfter_6) (Aok.aI (pc1 := 8) (EokI.iload_n (q := 3) dX12_takeAfter_7) Aok.nil))) (kX12_takeNumber g) rfl ykX12_takeNumber vkX12_166 (by decide) (by decide) dX12_takeAfter_8) (by decide) dX12_takeAfter_11 rfl))
/-! PassHutsModel.wordHere(II)I -/
theorem dX12_wordHere_0 : decode cX12_wordHere 0 = .ok (.iconst (-1), 1) := by decide +kernel
theorem dX12_wordHere_1 : decode cX12_wordHere 1 = .ok (.istore_n 3, 1) := by decide +kernel
theorem dX12_wordHere_2 : decode cX12_wordHere 2 = .ok (.iconst 0, 1) := by decide +kernel
theorem dX12_wordHere_3 : decode cX12_wordHere 3 = .ok (.istore 4, 2) := by decide +kernel
theorem dX12_wordHere_5 : decode cX12_wordHere 5 = .ok (.iload 4, 2) := by decide +kernel
theorem dX12_wordHere_7 : decode cX12_wordHere 7 = .ok (.iload_n 2, 1) := by decide +kernel
theorem dX12_wordHere_8 : decode cX12_wordHere 8 = .ok (.if_icmp .ge 27, 3) := by decide +kernel
theorem dX12_wordHere_11 : decode cX12_wordHere 11 = .ok (.aload_n 0, 1) := by decide +kernel
theorem dX12_wordHere_12 : decode cX12_wordHere 12 = .ok (.iload_n 1, 1) := by decide +kernel
theorem dX12_wordHere_13 : decode cX12_wordHere 13 = .ok (.iload 4, 2) := by decide +kernel
theorem dX12_wordHere_15 : decode cX12_wordHere 15 = .ok (.iadd, 1) := by decide +kernel
theorem dX12_wordHere_16 : decode cX12_wordHere 16 = .ok (.invokevirtual 157, 3) := by decide +kernel
theorem dX12_wordHere_19 : decode cX12_wordHere 19 = .ok (.ifCond .eq 8, 3) := by decide +kernel
theorem dX12_wordHere_22 : decode cX12_wordHere 22 = .ok (.iload 4, 2) := by decide +kernel
theorem dX12_wordHere_24 : decode cX12_wordHere 24 = .ok (.goto 4, 3) := by decide +kernel
theorem dX12_wordHere_27 : decode cX12_wordHere 27 = .ok (.iload_n 3, 1) := by decide +kernel
theorem dX12_wordHere_28 : decode cX12_wordHere 28 = .ok (.istore_n 3, 1) := by decide +kernel
theorem dX12_wordHere_29 : decode cX12_wordHere 29 = .ok (.iinc 4 1, 3) := by decide +kernel
theorem dX12_wordHere_32 : decode cX12_wordHere 32 = .ok (.goto (-27), 3) := by decide +kernel
theorem dX12_wordHere_35 : decode cX12_wordHere 35 = .ok (.iload_n 3, 1) := by decide +kernel
theorem dX12_wordHere_36 : decode cX12_wordHere 36 = .ok (.ireturn, 1) := by decide +kernel
abbrev tX12_wordHere (k : Nat) : MT := (RX12, cX12_wordHere, 5, k, (some .int))
def lX12_wordHere_1 : SX := (sLoop (cB rlt (iLoc 4) (iLoc 2)) (sSetI 3 (iCond (cZ zne (iCallV 12 mX12_isWord (aR (rLoc 0) (aI (iB gT2 (· + ·) (iLoc 1) (iLoc 4)) aNil)))) (iLoc 4) (iLoc 3))) (sInc 4 1))
theorem olX12_wordHere_1 (g : GT) {pcB pcC : Nat} : Sok g (tX12_wordHere 1) 5 35 pcB pcC (lX12_wordHere_1) := (Sok.loop (pc := 5) (pc1 := 11) (pc2 := 29) (pcN := 35) (Cok.cmp (pc1 := 7) (pc2 := 8) (pcT := 11) (pcF := 35) (EokI.iload (i := 4) dX12_wordHere_5) (EokI.iload_n (q := 2) dX12_wordHere_7) (JI.ltF (tgt := 35) dX12_wordHere_8 (by decide))) (by decide) (Sok.setI_n (q := 3) (pc1 := 28) (EokI.cond' (pc1 := 22) (pc2 := 27) (Cok.zero (pc1 := 19) (pcT := 22) (pcF := 27) (EokI.iCallV (pc1 := 16) (Aok.aR (pc1 := 12) (EokR.aload_n (q := 0) dX12_wordHere_11) (Aok.aI (pc1 := 16) (EokI.bin (pc1 := 13) (pc2 := 15) (EokI.iload_n (q := 1) dX12_wordHere_12) (EokI.iload (i := 4) dX12_wordHere_13) (OPI.iadd dX12_wordHere_15)) Aok.nil)) (kX12_isWord g) rfl ykX12_isWord vkX12_157 (by decide) (by decide) dX12_wordHere_16) (JZ.neF (tgt := 27) dX12_wordHere_19 (by decide))) (EokI.goto (pc1 := 24) (pc2 := 28) (EokI.iload (i := 4) dX12_wordHere_22) dX12_wordHere_24 (by decide)) (EokI.iload_n (q := 3) dX12_wordHere_27)) (by decide) dX12_wordHere_28 (show 3 < 5 by decide)) (Sok.goto (pc1 := 32) (pcN := 5) (Sok.iinc (i := 4) (v := 1) dX12_wordHere_29 (show 4 < 5 by decide) (by decide)) dX12_wordHere_32 (by decide)))
def mX12_wordHere : MX := bodyOf 5 (sSeq (sSetI 3 (iK (-1))) (sSeq (sSeq (sSeq (sSetI 4 (iK 0)) lX12_wordHere_1) (sForget 4)) (sRetI (iLoc 3))))
theorem kX12_wordHere (g : GT) : MK g 1 yX12_wordHere cX12_wordHere 5 (some .int) mX12_wordHere := MK.of (pcN := 99999) (pcB := 0) (pcC := 0) rfl (Sok.seq (pc1 := 2) (Sok.setI_n (q := 3) (pc1 := 1) (EokI.iconst (v := (-1)) dX12_wordHere_0 (by decide)) (by decide) dX12_wordHere_1 (show 3 < 5 by decide)) (Sok.seq (pc1 := 35) (Sok.seq (pc1 := 35) (Sok.seq (pc1 := 5) (Sok.setI (i := 4) (pc1 := 3) (EokI.iconst (v := 0) dX12_wordHere_2 (by decide)) (by decide) dX12_wordHere_3 (show 4 < 5 by decide)) (olX12_wordHere_1 g )) (Sok.forget (pc := 35))) (Sok.retI (pc1 := 36) (EokI.iload_n (q := 3) dX12_wordHere_35) (by decide) dX12_wordHere_36 rfl)))
/-! PassHutsModel.takeOne(II)I -/
theorem dX12_takeOne_0 : decode cX12_takeOne 0 = .ok (.aload_n 0, 1) := by decide +kernel
theorem dX12_takeOne_1 : decode cX12_takeOne 1 = .ok (.getfield 148, 3) := by decide +kernel
theorem dX12_takeOne_4 : decode cX12_takeOne 4 = .ok (.ifCond .le 7, 3) := by decide +kernel
theorem dX12_takeOne_7 : decode cX12_takeOne 7 = .ok (.iconst (-1), 1) := by decide +kernel
theorem dX12_takeOne_8 : decode cX12_takeOne 8 = .ok (.goto 9, 3) := by decide +kernel
theorem dX12_takeOne_11 : decode cX12_takeOne 11 = .ok (.aload_n 0, 1) := by decide +kernel
theorem dX12_takeOne_12 : decode cX12_takeOne 12 = .ok (.iload_n 1, 1) := by decide +kernel
theorem dX12_takeOne_13 : decode cX12_takeOne 13 = .ok (.iload_n 2, 1) := by decide +kernel
theorem dX12_takeOne_14 : decode cX12_takeOne 14 = .ok (.invokevirtual 170, 3) := by decide +kernel
theorem dX12_takeOne_17 : decode cX12_takeOne 17 = .ok (.istore_n 3, 1) := by decide +kernel
theorem dX12_takeOne_18 : decode cX12_takeOne 18 = .ok (.aload_n 0, 1) := by decide +kernel
theorem dX12_takeOne_19 : decode cX12_takeOne 19 = .ok (.getfield 148, 3) := by decide +kernel
theorem dX12_takeOne_22 : decode cX12_takeOne 22 = .ok (.ifCond .ne 12, 3) := by decide +kernel
theorem dX12_takeOne_25 : decode cX12_takeOne 25 = .ok (.iload_n 3, 1) := by decide +kernel
theorem dX12_takeOne_26 : decode cX12_takeOne 26 = .ok (.ifCond .ge 8, 3) := by decide +kernel
theorem dX12_takeOne_29 : decode cX12_takeOne 29 = .ok (.aload_n 0, 1) := by decide +kernel
theorem dX12_takeOne_30 : decode cX12_takeOne 30 = .ok (.iconst 1, 1) := by decide +kernel
theorem dX12_takeOne_31 : decode cX12_takeOne 31 = .ok (.invokevirtual 154, 3) := by decide +kernel
theorem dX12_takeOne_34 : decode cX12_takeOne 34 = .ok (.aload_n 0, 1) := by decide +kernel
theorem dX12_takeOne_35 : decode cX12_takeOne 35 = .ok (.dup, 1) := by decide +kernel
theorem dX12_takeOne_36 : decode cX12_takeOne 36 = .ok (.getfield 145, 3) := by decide +kernel
theorem dX12_takeOne_39 : decode cX12_takeOne 39 = .ok (.aload_n 0, 1) := by decide +kernel
theorem dX12_takeOne_40 : decode cX12_takeOne 40 = .ok (.getfield 148, 3) := by decide +kernel
theorem dX12_takeOne_43 : decode cX12_takeOne 43 = .ok (.ifCond .le 7, 3) := by decide +kernel
theorem dX12_takeOne_46 : decode cX12_takeOne 46 = .ok (.iconst 0, 1) := by decide +kernel
theorem dX12_takeOne_47 : decode cX12_takeOne 47 = .ok (.goto 4, 3) := by decide +kernel
theorem dX12_takeOne_50 : decode cX12_takeOne 50 = .ok (.iconst 1, 1) := by decide +kernel
theorem dX12_takeOne_51 : decode cX12_takeOne 51 = .ok (.iadd, 1) := by decide +kernel
theorem dX12_takeOne_52 : decode cX12_takeOne 52 = .ok (.putfield 145, 3) := by decide +kernel
theorem dX12_takeOne_55 : decode cX12_takeOne 55 = .ok (.aload_n 0, 1) := by decide +kernel
theorem dX12_takeOne_56 : decode cX12_takeOne 56 = .ok (.getfield 148, 3) := by decide +kernel
theorem dX12_takeOne_59 : decode cX12_takeOne 59 = .ok (.ifCond .le 7, 3) := by decide +kernel
theorem dX12_takeOne_62 : decode cX12_takeOne 62 = .ok (.iconst 0, 1) := by decide +kernel
theorem dX12_takeOne_63 : decode cX12_takeOne 63 = .ok (.goto 4, 3) := by decide +kernel
theorem dX12_takeOne_66 : decode cX12_takeOne 66 = .ok (.iload_n 3, 1) := by decide +kernel
theorem dX12_takeOne_67 : decode cX12_takeOne 67 = .ok (.ireturn, 1) := by decide +kernel
abbrev tX12_takeOne (k : Nat) : MT := (RX12, cX12_takeOne, 4, k, (some .int))
def mX12_takeOne : MX := bodyOf 4 (sSeq (sSetI 3 (iCond (cZ zgt (iGet 12 8 (rLoc 0))) (iK (-1)) (iCallV 12 mX12_wordHere (aR (rLoc 0) (aI (iLoc 1) (aI (iLoc 2) aNil)))))) (sSeq (sIf (cAnd (cZ zeq (iGet 12 8 (rLoc 0))) (cZ zlt (iLoc 3))) (sCallV 12 mX12_wrong (aR (rLoc 0) (aI (iK 1) aNil))) sSkip) (sSeq (sUpd 12 7 gT2 (· + ·) (rLoc 0) (iCond (cZ zgt (iGet 12 8 (rLoc 0))) (iK 0) (iK 1))) (sRetI (iCond (cZ zgt (iGet 12 8 (rLoc 0))) (iK 0) (iLoc 3))))))
theorem kX12_takeOne (g : GT) : MK g 2 yX12_takeOne cX12_takeOne 4 (some .int) mX12_takeOne := MK.of (pcN := 99999) (pcB := 0) (pcC := 0) rfl (Sok.seq (pc1 := 18) (Sok.setI_n (q := 3) (pc1 := 17) (EokI.cond' (pc1 := 7) (pc2 := 11) (Cok.zero (pc1 := 4) (pcT := 7) (pcF := 11) (EokI.getf (pc1 := 1) (j := 8) (ci := 12) (T := TX12) (N := 27) (EokR.aload_n (q := 0) dX12_takeOne_0) rfl wsX12_in (by decide) flX12_148 dX12_takeOne_1) (JZ.gtF (tgt := 11) dX12_takeOne_4 (by decide))) (EokI.goto (pc1 := 8) (pc2 := 17) (EokI.iconst (v := (-1)) dX12_takeOne_7 (by decide)) dX12_takeOne_8 (by decide)) (EokI.iCallV (pc1 := 14) (Aok.aR (pc1 := 12) (EokR.aload_n (q := 0) dX12_takeOne_11) (Aok.aI (pc1 := 13) (EokI.iload_n (q := 1) dX12_takeOne_12) (Aok.aI (pc1 := 14) (EokI.iload_n (q := 2) dX12_takeOne_13) Aok.nil))) (kX12_wordHere g) rfl ykX12_wordHere vkX12_170 (by decide) (by decide) dX12_takeOne_14)) (by decide) dX12_takeOne_17 (show 3 < 4 by decide)) (Sok.seq (pc1 := 34) (Sok.ite (pc1 := 29) (pc2 := 34) (Cok.and (pc1 := 25) (Cok.zero (pc1 := 22) (pcT := 25) (pcF := 34) (EokI.getf (pc1 := 19) (j := 8) (ci := 12) (T := TX12) (N := 27) (EokR.aload_n (q := 0) dX12_takeOne_18) rfl wsX12_in (by decide) flX12_148 dX12_takeOne_19) (JZ.eqF (tgt := 34) dX12_takeOne_22 (by decide))) (Cok.zero (pc1 := 26) (pcT := 29) (pcF := 34) (EokI.iload_n (q := 3) dX12_takeOne_25) (JZ.ltF (tgt := 34) dX12_takeOne_26 (by decide)))) (by decide) (Sok.sCallV (pc1 := 31) (Aok.aR (pc1 := 30) (EokR.aload_n (q := 0) dX12_takeOne_29) (Aok.aI (pc1 := 31) (EokI.iconst (v := 1) dX12_takeOne_30 (by decide)) Aok.nil)) (by decide) (kX12_wrong g) rfl ykX12_wrong vkX12_154 (by decide) (by decide) dX12_takeOne_31) (Sok.skip (pc := 34))) (Sok.seq (pc1 := 55) (Sok.upd (ci := 12) (T := TX12) (NN := 27) (tt := tyX12) (j := 7) (pc1 := 35) (pc2 := 51) (EokR.aload_n (q := 0) dX12_takeOne_34) dX12_takeOne_35 dX12_takeOne_36 (EokI.cond' (pc1 := 46) (pc2 := 50) (Cok.zero (pc1 := 43) (pcT := 46) (pcF := 50) (EokI.getf (pc1 := 40) (j := 8) (ci := 12) (T := TX12) (N := 27) (EokR.aload_n (q := 0) dX12_takeOne_39) rfl wsX12_in (by decide) flX12_148 dX12_takeOne_40) (JZ.gtF (tgt := 50) dX12_takeOne_43 (by decide))) (EokI.goto (pc1 := 47) (pc2 := 51) (EokI.iconst (v := 0) dX12_takeOne_46 (by decide)) dX12_takeOne_47 (by decide)) (EokI.iconst (v := 1) dX12_takeOne_50 (by decide))) (OPI.iadd dX12_takeOne_51) (by decide) rfl wsX12_in tyX12_ok nmX12 (by decide) flX12_145 rfl rfl dX12_takeOne_52) (Sok.retI (pc1 := 67) (EokI.cond' (pc1 := 62) (pc2 := 66) (Cok.zero (pc1 := 59) (pcT := 62) (pcF := 66) (EokI.getf (pc1 := 56) (j := 8) (ci := 12) (T := TX12) (N := 27) (EokR.aload_n (q := 0) dX12_takeOne_55) rfl wsX12_in (by decide) flX12_148 dX12_takeOne_56) (JZ.gtF (tgt := 66) dX12_takeOne_59 (by decide))) (EokI.goto (pc1 := 63) (pc2 := 67) (EokI.iconst (v := 0) dX12_takeOne_62 (by decide)) dX12_takeOne_63 (by decide)) (EokI.iload_n (q := 3) dX12_takeOne_66)) (by decide) dX12_takeOne_67 rfl))))
/-! PassHutsModel.isName()Z -/
theorem dX12_isName_0 : decode cX12_isName 0 = .ok (.aload_n 0, 1) := by decide +kernel
theorem dX12_isName_1 : decode cX12_isName 1 = .ok (.getfield 148, 3) := by decide +kernel
theorem dX12_isName_4 : decode cX12_isName 4 = .ok (.ifCond .ne 30, 3) := by decide +kernel
theorem dX12_isName_7 : decode cX12_isName 7 = .ok (.aload_n 0, 1) := by decide +kernel
theorem dX12_isName_8 : decode cX12_isName 8 = .ok (.getfield 24, 3) := by decide +kernel
theorem dX12_isName_11 : decode cX12_isName 11 = .ok (.aload_n 0, 1) := by decide +kernel
theorem dX12_isName_12 : decode cX12_isName 12 = .ok (.getfield 145, 3) := by decide +kernel
theorem dX12_isName_15 : decode cX12_isName 15 = .ok (.iaload, 1) := by decide +kernel
theorem dX12_isName_16 : decode cX12_isName 16 = .ok (.iconst 1, 1) := by decide +kernel
theorem dX12_isName_17 : decode cX12_isName 17 = .ok (.if_icmp .ne 17, 3) := by decide +kernel
theorem dX12_isName_20 : decode cX12_isName 20 = .ok (.aload_n 0, 1) := by decide +kernel
theorem dX12_isName_21 : decode cX12_isName 21 = .ok (.iconst 0, 1) := by decide +kernel
theorem dX12_isName_22 : decode cX12_isName 22 = .ok (.bipush 15, 2) := by decide +kernel
theorem dX12_isName_24 : decode cX12_isName 24 = .ok (.invokevirtual 170, 3) := by decide +kernel
theorem dX12_isName_27 : decode cX12_isName 27 = .ok (.ifCond .ge 7, 3) := by decide +kernel
theorem dX12_isName_30 : decode cX12_isName 30 = .ok (.iconst 1, 1) := by decide +kernel
theorem dX12_isName_31 : decode cX12_isName 31 = .ok (.goto 4, 3) := by decide +kernel
theorem dX12_isName_34 : decode cX12_isName 34 = .ok (.iconst 0, 1) := by decide +kernel
theorem dX12_isName_35 : decode cX12_isName 35 = .ok (.ireturn, 1) := by decide +kernel
abbrev tX12_isName (k : Nat) : MT := (RX12, cX12_isName, 1, k, (some .boolean))
def mX12_isName : MX := bodyOf 1 (sRetZ (iBool (cAnd (cAnd (cZ zeq (iGet 12 8 (rLoc 0))) (cB req (iALd (rGet 12 4 (rLoc 0)) (iGet 12 7 (rLoc 0))) (iK 1))) (cZ zlt (iCallV 12 mX12_wordHere (aR (rLoc 0) (aI (iK 0) (aI (iK 15) aNil))))))))
theorem kX12_isName (g : GT) : MK g 2 yX12_isName cX12_isName 1 (some .boolean) mX12_isName := MK.of (pcN := 99999) (pcB := 0) (pcC := 0) rfl (Sok.retZ (pc1 := 35) (EokI.cond' (pc1 := 30) (pc2 := 34) (Cok.and (pc1 := 20) (Cok.and (pc1 := 7) (Cok.zero (pc1 := 4) (pcT := 7) (pcF := 34) (EokI.getf (pc1 := 1) (j := 8) (ci := 12) (T := TX12) (N := 27) (EokR.aload_n (q := 0) dX12_isName_0) rfl wsX12_in (by decide) flX12_148 dX12_isName_1) (JZ.eqF (tgt := 34) dX12_isName_4 (by decide))) (Cok.cmp (pc1 := 16) (pc2 := 17) (pcT := 20) (pcF := 34) (EokI.iALd (pc1 := 11) (pc2 := 15) (EokR.getf (pc1 := 8) (j := 4) (ci := 12) (T := TX12) (N := 27) (EokR.aload_n (q := 0) dX12_isName_7) rfl wsX12_in (by decide) flX12_24 dX12_isName_8) (EokI.getf (pc1 := 12) (j := 7) (ci := 12) (T := TX12) (N := 27) (EokR.aload_n (q := 0) dX12_isName_11) rfl wsX12_in (by decide) flX12_145 dX12_isName_12) dX12_isName_15) (EokI.iconst (v := 1) dX12_isName_16 (by decide)) (JI.eqF (tgt := 34) dX12_isName_17 (by decide)))) (Cok.zero (pc1 := 27) (pcT := 30) (pcF := 34) (EokI.iCallV (pc1 := 24) (Aok.aR (pc1 := 21) (EokR.aload_n (q := 0) dX12_isName_20) (Aok.aI (pc1 := 22) (EokI.iconst (v := 0) dX12_isName_21 (by decide)) (Aok.aI (pc1 := 24) (EokI.bipush (v := 15) dX12_isName_22 (by decide)) Aok.nil))) (kX12_wordHere g) rfl ykX12_wordHere vkX12_170 (by decide) (by decide) dX12_isName_24) (JZ.ltF (tgt := 34) dX12_isName_27 (by decide)))) (EokI.goto (pc1 := 31) (pc2 := 35) (EokI.iconst (v := 1) dX12_isName_30 (by decide)) dX12_isName_31 (by decide)) (EokI.iconst (v := 0) dX12_isName_34 (by decide))) (by decide) dX12_isName_35 rfl)
/-! PassHutsModel.nameAt(II)I -/
theorem dX12_nameAt_0 : decode cX12_nameAt 0 = .ok (.iconst (-1), 1) := by decide +kernel
theorem dX12_nameAt_1 : decode cX12_nameAt 1 = .ok (.istore_n 3, 1) := by decide +kernel
theorem dX12_nameAt_2 : decode cX12_nameAt 2 = .ok (.iconst 0, 1) := by decide +kernel
theorem dX12_nameAt_3 : decode cX12_nameAt 3 = .ok (.istore 4, 2) := by decide +kernel
theorem dX12_nameAt_5 : decode cX12_nameAt 5 = .ok (.iload 4, 2) := by decide +kernel
theorem dX12_nameAt_7 : decode cX12_nameAt 7 = .ok (.iload_n 2, 1) := by decide +kernel
theorem dX12_nameAt_8 : decode cX12_nameAt 8 = .ok (.if_icmp .ge 38, 3) := by decide +kernel
theorem dX12_nameAt_11 : decode cX12_nameAt 11 = .ok (.aload_n 0, 1) := by decide +kernel
theorem dX12_nameAt_12 : decode cX12_nameAt 12 = .ok (.getfield 81, 3) := by decide +kernel
theorem dX12_nameAt_15 : decode cX12_nameAt 15 = .ok (.iload_n 1, 1) := by decide +kernel
theorem dX12_nameAt_16 : decode cX12_nameAt 16 = .ok (.iload 4, 2) := by decide +kernel
theorem dX12_nameAt_18 : decode cX12_nameAt 18 = .ok (.iadd, 1) := by decide +kernel
theorem dX12_nameAt_19 : decode cX12_nameAt 19 = .ok (.laload, 1) := by decide +kernel
theorem dX12_nameAt_20 : decode cX12_nameAt 20 = .ok (.aload_n 0, 1) := by decide +kernel
theorem dX12_nameAt_21 : decode cX12_nameAt 21 = .ok (.getfield 30, 3) := by decide +kernel
theorem dX12_nameAt_24 : decode cX12_nameAt 24 = .ok (.aload_n 0, 1) := by decide +kernel
theorem dX12_nameAt_25 : decode cX12_nameAt 25 = .ok (.getfield 145, 3) := by decide +kernel
theorem dX12_nameAt_28 : decode cX12_nameAt 28 = .ok (.laload, 1) := by decide +kernel
theorem dX12_nameAt_29 : decode cX12_nameAt 29 = .ok (.lcmp, 1) := by decide +kernel
theorem dX12_nameAt_30 : decode cX12_nameAt 30 = .ok (.ifCond .ne 8, 3) := by decide +kernel
theorem dX12_nameAt_33 : decode cX12_nameAt 33 = .ok (.iload 4, 2) := by decide +kernel
theorem dX12_nameAt_35 : decode cX12_nameAt 35 = .ok (.goto 4, 3) := by decide +kernel
theorem dX12_nameAt_38 : decode cX12_nameAt 38 = .ok (.iload_n 3, 1) := by decide +kernel
theorem dX12_nameAt_39 : decode cX12_nameAt 39 = .ok (.istore_n 3, 1) := by decide +kernel
theorem dX12_nameAt_40 : decode cX12_nameAt 40 = .ok (.iinc 4 1, 3) := by decide +kernel
theorem dX12_nameAt_43 : decode cX12_nameAt 43 = .ok (.goto (-38), 3) := by decide +kernel
theorem dX12_nameAt_46 : decode cX12_nameAt 46 = .ok (.iload_n 3, 1) := by decide +kernel
theorem dX12_nameAt_47 : decode cX12_nameAt 47 = .ok (.ireturn, 1) := by decide +kernel
abbrev tX12_nameAt (k : Nat) : MT := (RX12, cX12_nameAt, 5, k, (some .int))
def lX12_nameAt_1 : SX := (sLoop (cB rlt (iLoc 4) (iLoc 2)) (sSetI 3 (iCond (cL leq (lALd (rGet 12 13 (rLoc 0)) (iB gT2 (· + ·) (iLoc 1) (iLoc 4))) (lALd (rGet 12 6 (rLoc 0)) (iGet 12 7 (rLoc 0)))) (iLoc 4) (iLoc 3))) (sInc 4 1))
theorem olX12_nameAt_1 (g : GT) {pcB pcC : Nat} : Sok g (tX12_nameAt 0) 5 46 pcB pcC (lX12_nameAt_1) := (Sok.loop (pc := 5) (pc1 := 11) (pc2 := 40) (pcN := 46) (Cok.cmp (pc1 := 7) (pc2 := 8) (pcT := 11) (pcF := 46) (EokI.iload (i := 4) dX12_nameAt_5) (EokI.iload_n (q := 2) dX12_nameAt_7) (JI.ltF (tgt := 46) dX12_nameAt_8 (by decide))) (by decide) (Sok.setI_n (q := 3) (pc1 := 39) (EokI.cond' (pc1 := 33) (pc2 := 38) (Cok.lcmp (pc1 := 20) (pc2 := 29) (pcT := 33) (pcF := 38) (EokL.lALd (pc1 := 15) (pc2 := 19) (EokR.getf (pc1 := 12) (j := 13) (ci := 12) (T := TX12) (N := 27) (EokR.aload_n (q := 0) dX12_nameAt_11) rfl wsX12_in (by decide) flX12_81 dX12_nameAt_12) (EokI.bin (pc1 := 16) (pc2 := 18) (EokI.iload_n (q := 1) dX12_nameAt_15) (EokI.iload (i := 4) dX12_nameAt_16) (OPI.iadd dX12_nameAt_18)) dX12_nameAt_19) (EokL.lALd (pc1 := 24) (pc2 := 28) (EokR.getf (pc1 := 21) (j := 6) (ci := 12) (T := TX12) (N := 27) (EokR.aload_n (q := 0) dX12_nameAt_20) rfl wsX12_in (by decide) flX12_30 dX12_nameAt_21) (EokI.getf (pc1 := 25) (j := 7) (ci := 12) (T := TX12) (N := 27) (EokR.aload_n (q := 0) dX12_nameAt_24) rfl wsX12_in (by decide) flX12_145 dX12_nameAt_25) dX12_nameAt_28) (JL.eq dX12_nameAt_29 (JZ.eqF (tgt := 38) dX12_nameAt_30 (by decide)))) (EokI.goto (pc1 := 35) (pc2 := 39) (EokI.iload (i := 4) dX12_nameAt_33) dX12_nameAt_35 (by decide)) (EokI.iload_n (q := 3) dX12_nameAt_38)) (by decide) dX12_nameAt_39 (show 3 < 5 by decide)) (Sok.goto (pc1 := 43) (pcN := 5) (Sok.iinc (i := 4) (v := 1) dX12_nameAt_40 (show 4 < 5 by decide) (by decide)) dX12_nameAt_43 (by decide)))
def mX12_nameAt : MX := bodyOf 5 (sSeq (sSetI 3 (iK (-1))) (sSeq (sSeq (sSeq (sSetI 4 (iK 0)) lX12_nameAt_1) (sForget 4)) (sRetI (iLoc 3))))
theorem kX12_nameAt (g : GT) : MK g 0 yX12_nameAt cX12_nameAt 5 (some .int) mX12_nameAt := MK.of (pcN := 99999) (pcB := 0) (pcC := 0) rfl (Sok.seq (pc1 := 2) (Sok.setI_n (q := 3) (pc1 := 1) (EokI.iconst (v := (-1)) dX12_nameAt_0 (by decide)) (by decide) dX12_nameAt_1 (show 3 < 5 by decide)) (Sok.seq (pc1 := 46) (Sok.seq (pc1 := 46) (Sok.seq (pc1 := 5) (Sok.setI (i := 4) (pc1 := 3) (EokI.iconst (v := 0) dX12_nameAt_2 (by decide)) (by decide) dX12_nameAt_3 (show 4 < 5 by decide)) (olX12_nameAt_1 g )) (Sok.forget (pc := 46))) (Sok.retI (pc1 := 47) (EokI.iload_n (q := 3) dX12_nameAt_46) (by decide) dX12_nameAt_47 rfl)))
/-! PassHutsModel.takeTold(III)I -/
theorem dX12_takeTold_0 : decode cX12_takeTold 0 = .ok (.aload_n 0, 1) := by decide +kernel
theorem dX12_takeTold_1 : decode cX12_takeTold 1 = .ok (.getfield 148, 3) := by decide +kernel
theorem dX12_takeTold_4 : decode cX12_takeTold 4 = .ok (.ifCond .ne 15, 3) := by decide +kernel
theorem dX12_takeTold_7 : decode cX12_takeTold 7 = .ok (.aload_n 0, 1) := by decide +kernel
theorem dX12_takeTold_8 : decode cX12_takeTold 8 = .ok (.invokevirtual 173, 3) := by decide +kernel
theorem dX12_takeTold_11 : decode cX12_takeTold 11 = .ok (.ifCond .ne 8, 3) := by decide +kernel
theorem dX12_takeTold_14 : decode cX12_takeTold 14 = .ok (.aload_n 0, 1) := by decide +kernel
theorem dX12_takeTold_15 : decode cX12_takeTold 15 = .ok (.iconst 1, 1) := by decide +kernel
theorem dX12_takeTold_16 : decode cX12_takeTold 16 = .ok (.invokevirtual 154, 3) := by decide +kernel
theorem dX12_takeTold_19 : decode cX12_takeTold 19 = .ok (.aload_n 0, 1) := by decide +kernel
theorem dX12_takeTold_20 : decode cX12_takeTold 20 = .ok (.getfield 148, 3) := by decide +kernel
theorem dX12_takeTold_23 : decode cX12_takeTold 23 = .ok (.ifCond .le 7, 3) := by decide +kernel
theorem dX12_takeTold_26 : decode cX12_takeTold 26 = .ok (.iconst (-1), 1) := by decide +kernel
theorem dX12_takeTold_27 : decode cX12_takeTold 27 = .ok (.goto 9, 3) := by decide +kernel
theorem dX12_takeTold_30 : decode cX12_takeTold 30 = .ok (.aload_n 0, 1) := by decide +kernel
theorem dX12_takeTold_31 : decode cX12_takeTold 31 = .ok (.iload_n 1, 1) := by decide +kernel
theorem dX12_takeTold_32 : decode cX12_takeTold 32 = .ok (.iload_n 2, 1) := by decide +kernel
theorem dX12_takeTold_33 : decode cX12_takeTold 33 = .ok (.invokevirtual 177, 3) := by decide +kernel
theorem dX12_takeTold_36 : decode cX12_takeTold 36 = .ok (.istore 4, 2) := by decide +kernel
theorem dX12_takeTold_38 : decode cX12_takeTold 38 = .ok (.aload_n 0, 1) := by decide +kernel
theorem dX12_takeTold_39 : decode cX12_takeTold 39 = .ok (.getfield 148, 3) := by decide +kernel
theorem dX12_takeTold_42 : decode cX12_takeTold 42 = .ok (.ifCond .ne 16, 3) := by decide +kernel
theorem dX12_takeTold_45 : decode cX12_takeTold 45 = .ok (.iload 4, 2) := by decide +kernel
theorem dX12_takeTold_47 : decode cX12_takeTold 47 = .ok (.ifCond .ge 11, 3) := by decide +kernel
theorem dX12_takeTold_50 : decode cX12_takeTold 50 = .ok (.aload_n 0, 1) := by decide +kernel
theorem dX12_takeTold_51 : decode cX12_takeTold 51 = .ok (.iconst 2, 1) := by decide +kernel
theorem dX12_takeTold_52 : decode cX12_takeTold 52 = .ok (.invokevirtual 154, 3) := by decide +kernel
theorem dX12_takeTold_55 : decode cX12_takeTold 55 = .ok (.goto 25, 3) := by decide +kernel
theorem dX12_takeTold_58 : decode cX12_takeTold 58 = .ok (.aload_n 0, 1) := by decide +kernel
theorem dX12_takeTold_59 : decode cX12_takeTold 59 = .ok (.getfield 148, 3) := by decide +kernel
theorem dX12_takeTold_62 : decode cX12_takeTold 62 = .ok (.ifCond .ne 18, 3) := by decide +kernel
theorem dX12_takeTold_65 : decode cX12_takeTold 65 = .ok (.iload_n 3, 1) := by decide +kernel
theorem dX12_takeTold_66 : decode cX12_takeTold 66 = .ok (.iload 4, 2) := by decide +kernel
theorem dX12_takeTold_68 : decode cX12_takeTold 68 = .ok (.ishr, 1) := by decide +kernel
theorem dX12_takeTold_69 : decode cX12_takeTold 69 = .ok (.iconst 1, 1) := by decide +kernel
theorem dX12_takeTold_70 : decode cX12_takeTold 70 = .ok (.iand, 1) := by decide +kernel
theorem dX12_takeTold_71 : decode cX12_takeTold 71 = .ok (.iconst 1, 1) := by decide +kernel
theorem dX12_takeTold_72 : decode cX12_takeTold 72 = .ok (.if_icmp .ne 8, 3) := by decide +kernel
theorem dX12_takeTold_75 : decode cX12_takeTold 75 = .ok (.aload_n 0, 1) := by decide +kernel
theorem dX12_takeTold_76 : decode cX12_takeTold 76 = .ok (.iconst 3, 1) := by decide +kernel
theorem dX12_takeTold_77 : decode cX12_takeTold 77 = .ok (.invokevirtual 154, 3) := by decide +kernel
theorem dX12_takeTold_80 : decode cX12_takeTold 80 = .ok (.aload_n 0, 1) := by decide +kernel
theorem dX12_takeTold_81 : decode cX12_takeTold 81 = .ok (.dup, 1) := by decide +kernel
theorem dX12_takeTold_82 : decode cX12_takeTold 82 = .ok (.getfield 145, 3) := by decide +kernel
theorem dX12_takeTold_85 : decode cX12_takeTold 85 = .ok (.aload_n 0, 1) := by decide +kernel
theorem dX12_takeTold_86 : decode cX12_takeTold 86 = .ok (.getfield 148, 3) := by decide +kernel
theorem dX12_takeTold_89 : decode cX12_takeTold 89 = .ok (.ifCond .le 7, 3) := by decide +kernel
theorem dX12_takeTold_92 : decode cX12_takeTold 92 = .ok (.iconst 0, 1) := by decide +kernel
theorem dX12_takeTold_93 : decode cX12_takeTold 93 = .ok (.goto 4, 3) := by decide +kernel
theorem dX12_takeTold_96 : decode cX12_takeTold 96 = .ok (.iconst 1, 1) := by decide +kernel
theorem dX12_takeTold_97 : decode cX12_takeTold 97 = .ok (.iadd, 1) := by decide +kernel
theorem dX12_takeTold_98 : decode cX12_takeTold 98 = .ok (.putfield 145, 3) := by decide +kernel
theorem dX12_takeTold_101 : decode cX12_takeTold 101 = .ok (.aload_n 0, 1) := by decide +kernel
theorem dX12_takeTold_102 : decode cX12_takeTold 102 = .ok (.getfield 148, 3) := by decide +kernel
theorem dX12_takeTold_105 : decode cX12_takeTold 105 = .ok (.ifCond .le 7, 3) := by decide +kernel
theorem dX12_takeTold_108 : decode cX12_takeTold 108 = .ok (.iconst 0, 1) := by decide +kernel
theorem dX12_takeTold_109 : decode cX12_takeTold 109 = .ok (.goto 5, 3) := by decide +kernel
theorem dX12_takeTold_112 : decode cX12_takeTold 112 = .ok (.iload 4, 2) := by decide +kernel
theorem dX12_takeTold_114 : decode cX12_takeTold 114 = .ok (.ireturn, 1) := by decide +kernel
abbrev tX12_takeTold (k : Nat) : MT := (RX12, cX12_takeTold, 5, k, (some .int))
def mX12_takeTold : MX := bodyOf 5 (sSeq (sIf (cAnd (cZ zeq (iGet 12 8 (rLoc 0))) (cNot (cZ zne (iCallV 12 mX12_isName (aR (rLoc 0) aNil))))) (sCallV 12 mX12_wrong (aR (rLoc 0) (aI (iK 1) aNil))) sSkip) (sSeq (sSetI 4 (iCond (cZ zgt (iGet 12 8 (rLoc 0))) (iK (-1)) (iCallV 12 mX12_nameAt (aR (rLoc 0) (aI (iLoc 1) (aI (iLoc 2) aNil)))))) (sSeq (sIf (cAnd (cZ zeq (iGet 12 8 (rLoc 0))) (cZ zlt (iLoc 4))) (sCallV 12 mX12_wrong (aR (rLoc 0) (aI (iK 2) aNil))) (sIf (cAnd (cZ zeq (iGet 12 8 (rLoc 0))) (cB req (iB gT2 (· &&& ·) (iB gT2 jshr (iLoc 3) (iLoc 4)) (iK 1)) (iK 1))) (sCallV 12 mX12_wrong (aR (rLoc 0) (aI (iK 3) aNil))) sSkip)) (sSeq (sUpd 12 7 gT2 (· + ·) (rLoc 0) (iCond (cZ zgt (iGet 12 8 (rLoc 0))) (iK 0) (iK 1))) (sRetI (iCond (cZ zgt (iGet 12 8 (rLoc 0))) (iK 0) (iLoc 4)))))))
theorem kX12_takeTold (g : GT) : MK g 3 yX12_takeTold cX12_takeTold 5 (some .int) mX12_takeTold := MK.of (pcN := 99999) (pcB := 0) (pcC := 0) rfl (Sok.seq (pc1 := 19) (Sok.ite (pc1 := 14) (pc2 := 19) (Cok.and (pc1 := 7) (Cok.zero (pc1 := 4) (pcT := 7) (pcF := 19) (EokI.getf (pc1 := 1) (j := 8) (ci := 12) (T := TX12) (N := 27) (EokR.aload_n (q := 0) dX12_takeTold_0) rfl wsX12_in (by decide) flX12_148 dX12_takeTold_1) (JZ.eqF (tgt := 19) dX12_takeTold_4 (by decide))) (Cok.not (Cok.zero (pc1 := 11) (pcT := 19) (pcF := 14) (EokI.iCallV (pc1 := 8) (Aok.aR (pc1 := 8) (EokR.aload_n (q := 0) dX12_takeTold_7) Aok.nil) (kX12_isName g) rfl ykX12_isName vkX12_173 (by decide) (by decide) dX12_takeTold_8) (JZ.neT (tgt := 19) dX12_takeTold_11 (by decide))))) (by decide) (Sok.sCallV (pc1 := 16) (Aok.aR (pc1 := 15) (EokR.aload_n (q := 0) dX12_takeTold_14) (Aok.aI (pc1 := 16) (EokI.iconst (v := 1) dX12_takeTold_15 (by decide)) Aok.nil)) (by decide) (kX12_wrong g) rfl ykX12_wrong vkX12_154 (by decide) (by decide) dX12_takeTold_16) (Sok.skip (pc := 19))) (Sok.seq (pc1 := 38) (Sok.setI (i := 4) (pc1 := 36) (EokI.cond' (pc1 := 26) (pc2 := 30) (Cok.zero (pc1 := 23) (pcT := 26) (pcF := 30) (EokI.getf (pc1 := 20) (j := 8) (ci := 12) (T := TX12) (N := 27) (EokR.aload_n (q := 0) dX12_takeTold_19) rfl wsX12_in (by decide) flX12_148 dX12_takeTold_20) (JZ.gtF (tgt := 30) dX12_takeTold_23 (by decide))) (EokI.goto (pc1 := 27) (pc2 := 36) (EokI.iconst (v := (-1)) dX12_takeTold_26 (by decide)) dX12_takeTold_27 (by decide)) (EokI.iCallV (pc1 := 33) (Aok.aR (pc1 := 31) (EokR.aload_n (q := 0) dX12_takeTold_30) (Aok.aI (pc1 := 32) (EokI.iload_n (q := 1) dX12_takeTold_31) (Aok.aI (pc1 := 33) (EokI.iload_n (q := 2) dX12_takeTold_32) Aok.nil))) (kX12_nameAt g) rfl ykX12_nameAt vkX12_177 (by decide) (by decide) dX12_takeTold_33)) (by decide) dX12_takeTold_36 (show 4 < 5 by decide)) (Sok.seq (pc1 := 80) (Sok.ite (pc1 := 50) (pc2 := 58) (Cok.and (pc1 := 45) (Cok.zero (pc1 := 42) (pcT := 45) (pcF := 58) (EokI.getf (pc1 := 39) (j := 8) (ci := 12) (T := TX12) (N := 27) (EokR.aload_n (q := 0) dX12_takeTold_38) rfl wsX12_in (by decide) flX12_148 dX12_takeTold_39) (JZ.eqF (tgt := 58) dX12_takeTold_42 (by decide))) (Cok.zero (pc1 := 47) (pcT := 50) (pcF := 58) (EokI.iload (i := 4) dX12_takeTold_45) (JZ.ltF (tgt := 58) dX12_takeTold_47 (by decide)))) (by decide) (Sok.goto (pc1 := 55) (pcN := 80) (Sok.sCallV (pc1 := 52) (Aok.aR (pc1 := 51) (EokR.aload_n (q := 0) dX12_takeTold_50) (Aok.aI (pc1 := 52) (EokI.iconst (v := 2) dX12_takeTold_51 (by decide)) Aok.nil)) (by decide) (kX12_wrong g) rfl ykX12_wrong vkX12_154 (by decide) (by decide) dX12_takeTold_52) dX12_takeTold_55 (by decide)) (Sok.ite (pc1 := 75) (pc2 := 80) (Cok.and (pc1 := 65) (Cok.zero (pc1 := 62) (pcT := 65) (pcF := 80) (EokI.getf (pc1 := 59) (j := 8) (ci := 12) (T := TX12) (N := 27) (EokR.aload_n (q := 0) dX12_takeTold_58) rfl wsX12_in (by decide) flX12_148 dX12_takeTold_59) (JZ.eqF (tgt := 80) dX12_takeTold_62 (by decide))) (Cok.cmp (pc1 := 71) (pc2 := 72) (pcT := 75) (pcF := 80) (EokI.bin (pc1 := 69) (pc2 := 70) (EokI.bin (pc1 := 66) (pc2 := 68) (EokI.iload_n (q := 3) dX12_takeTold_65) (EokI.iload (i := 4) dX12_takeTold_66) (OPI.ishr dX12_takeTold_68)) (EokI.iconst (v := 1) dX12_takeTold_69 (by decide)) (OPI.iand dX12_takeTold_70)) (EokI.iconst (v := 1) dX12_takeTold_71 (by decide)) (JI.eqF (tgt := 80) dX12_takeTold_72 (by decide)))) (by decide) (Sok.sCallV (pc1 := 77) (Aok.aR (pc1 := 76) (EokR.aload_n (q := 0) dX12_takeTold_75) (Aok.aI (pc1 := 77) (EokI.iconst (v := 3) dX12_takeTold_76 (by decide)) Aok.nil)) (by decide) (kX12_wrong g) rfl ykX12_wrong vkX12_154 (by decide) (by decide) dX12_takeTold_77) (Sok.skip (pc := 80)))) (Sok.seq (pc1 := 101) (Sok.upd (ci := 12) (T := TX12) (NN := 27) (tt := tyX12) (j := 7) (pc1 := 81) (pc2 := 97) (EokR.aload_n (q := 0) dX12_takeTold_80) dX12_takeTold_81 dX12_takeTold_82 (EokI.cond' (pc1 := 92) (pc2 := 96) (Cok.zero (pc1 := 89) (pcT := 92) (pcF := 96) (EokI.getf (pc1 := 86) (j := 8) (ci := 12) (T := TX12) (N := 27) (EokR.aload_n (q := 0) dX12_takeTold_85) rfl wsX12_in (by decide) flX12_148 dX12_takeTold_86) (JZ.gtF (tgt := 96) dX12_takeTold_89 (by decide))) (EokI.goto (pc1 := 93) (pc2 := 97) (EokI.iconst (v := 0) dX12_takeTold_92 (by decide)) dX12_takeTold_93 (by decide)) (EokI.iconst (v := 1) dX12_takeTold_96 (by decide))) (OPI.iadd dX12_takeTold_97) (by decide) rfl wsX12_in tyX12_ok nmX12 (by decide) flX12_145 rfl rfl dX12_takeTold_98) (Sok.retI (pc1 := 114) (EokI.cond' (pc1 := 108) (pc2 := 112) (Cok.zero (pc1 := 105) (pcT := 108) (pcF := 112) (EokI.getf (pc1 := 102) (j := 8) (ci := 12) (T := TX12) (N := 27) (EokR.aload_n (q := 0) dX12_takeTold_101) rfl wsX12_in (by decide) flX12_148 dX12_takeTold_102) (JZ.gtF (tgt := 112) dX12_takeTold_105 (by decide))) (EokI.goto (pc1 := 109) (pc2 := 114) (EokI.iconst (v := 0) dX12_takeTold_108 (by decide)) dX12_takeTold_109 (by decide)) (EokI.iload (i := 4) dX12_takeTold_112)) (by decide) dX12_takeTold_114 rfl)))))
/-! PassHutsModel.readHut()V -/
theorem dX12_readHut_0 : decode cX12_readHut 0 = .ok (.aload_n 0, 1) := by decide +kernel
theorem dX12_readHut_1 : decode cX12_readHut 1 = .ok (.getfield 75, 3) := by decide +kernel
theorem dX12_readHut_4 : decode cX12_readHut 4 = .ok (.bipush 40, 2) := by decide +kernel
theorem dX12_readHut_6 : decode cX12_readHut 6 = .ok (.iaload, 1) := by decide +kernel
theorem dX12_readHut_7 : decode cX12_readHut 7 = .ok (.istore_n 1, 1) := by decide +kernel
theorem dX12_readHut_8 : decode cX12_readHut 8 = .ok (.iload_n 1, 1) := by decide +kernel
theorem dX12_readHut_9 : decode cX12_readHut 9 = .ok (.iconst 5, 1) := by decide +kernel
theorem dX12_readHut_10 : decode cX12_readHut 10 = .ok (.if_icmp .ne 9, 3) := by decide +kernel
theorem dX12_readHut_13 : decode cX12_readHut 13 = .ok (.aload_n 0, 1) := by decide +kernel
theorem dX12_readHut_14 : decode cX12_readHut 14 = .ok (.iconst 5, 1) := by decide +kernel
theorem dX12_readHut_15 : decode cX12_readHut 15 = .ok (.invokevirtual 154, 3) := by decide +kernel
theorem dX12_readHut_18 : decode cX12_readHut 18 = .ok (.return_, 1) := by decide +kernel
theorem dX12_readHut_19 : decode cX12_readHut 19 = .ok (.aload_n 0, 1) := by decide +kernel
theorem dX12_readHut_20 : decode cX12_readHut 20 = .ok (.dup, 1) := by decide +kernel
theorem dX12_readHut_21 : decode cX12_readHut 21 = .ok (.getfield 145, 3) := by decide +kernel
theorem dX12_readHut_24 : decode cX12_readHut 24 = .ok (.iconst 1, 1) := by decide +kernel
theorem dX12_readHut_25 : decode cX12_readHut 25 = .ok (.iadd, 1) := by decide +kernel
theorem dX12_readHut_26 : decode cX12_readHut 26 = .ok (.putfield 145, 3) := by decide +kernel
theorem dX12_readHut_29 : decode cX12_readHut 29 = .ok (.aload_n 0, 1) := by decide +kernel
theorem dX12_readHut_30 : decode cX12_readHut 30 = .ok (.invokevirtual 173, 3) := by decide +kernel
theorem dX12_readHut_33 : decode cX12_readHut 33 = .ok (.ifCond .ne 11, 3) := by decide +kernel
theorem dX12_readHut_36 : decode cX12_readHut 36 = .ok (.aload_n 0, 1) := by decide +kernel
theorem dX12_readHut_37 : decode cX12_readHut 37 = .ok (.iconst 1, 1) := by decide +kernel
theorem dX12_readHut_38 : decode cX12_readHut 38 = .ok (.invokevirtual 154, 3) := by decide +kernel
theorem dX12_readHut_41 : decode cX12_readHut 41 = .ok (.goto 17, 3) := by decide +kernel
theorem dX12_readHut_44 : decode cX12_readHut 44 = .ok (.aload_n 0, 1) := by decide +kernel
theorem dX12_readHut_45 : decode cX12_readHut 45 = .ok (.iconst 5, 1) := by decide +kernel
theorem dX12_readHut_46 : decode cX12_readHut 46 = .ok (.iload_n 1, 1) := by decide +kernel
theorem dX12_readHut_47 : decode cX12_readHut 47 = .ok (.invokevirtual 177, 3) := by decide +kernel
theorem dX12_readHut_50 : decode cX12_readHut 50 = .ok (.ifCond .lt 8, 3) := by decide +kernel
theorem dX12_readHut_53 : decode cX12_readHut 53 = .ok (.aload_n 0, 1) := by decide +kernel
theorem dX12_readHut_54 : decode cX12_readHut 54 = .ok (.iconst 3, 1) := by decide +kernel
theorem dX12_readHut_55 : decode cX12_readHut 55 = .ok (.invokevirtual 154, 3) := by decide +kernel
theorem dX12_readHut_58 : decode cX12_readHut 58 = .ok (.aload_n 0, 1) := by decide +kernel
theorem dX12_readHut_59 : decode cX12_readHut 59 = .ok (.getfield 148, 3) := by decide +kernel
theorem dX12_readHut_62 : decode cX12_readHut 62 = .ok (.ifCond .le 4, 3) := by decide +kernel
theorem dX12_readHut_65 : decode cX12_readHut 65 = .ok (.return_, 1) := by decide +kernel
theorem dX12_readHut_66 : decode cX12_readHut 66 = .ok (.aload_n 0, 1) := by decide +kernel
theorem dX12_readHut_67 : decode cX12_readHut 67 = .ok (.getfield 81, 3) := by decide +kernel
theorem dX12_readHut_70 : decode cX12_readHut 70 = .ok (.iconst 5, 1) := by decide +kernel
theorem dX12_readHut_71 : decode cX12_readHut 71 = .ok (.iload_n 1, 1) := by decide +kernel
theorem dX12_readHut_72 : decode cX12_readHut 72 = .ok (.iadd, 1) := by decide +kernel
theorem dX12_readHut_73 : decode cX12_readHut 73 = .ok (.aload_n 0, 1) := by decide +kernel
theorem dX12_readHut_74 : decode cX12_readHut 74 = .ok (.getfield 30, 3) := by decide +kernel
theorem dX12_readHut_77 : decode cX12_readHut 77 = .ok (.aload_n 0, 1) := by decide +kernel
theorem dX12_readHut_78 : decode cX12_readHut 78 = .ok (.getfield 145, 3) := by decide +kernel
theorem dX12_readHut_81 : decode cX12_readHut 81 = .ok (.laload, 1) := by decide +kernel
theorem dX12_readHut_82 : decode cX12_readHut 82 = .ok (.lastore, 1) := by decide +kernel
theorem dX12_readHut_83 : decode cX12_readHut 83 = .ok (.aload_n 0, 1) := by decide +kernel
theorem dX12_readHut_84 : decode cX12_readHut 84 = .ok (.dup, 1) := by decide +kernel
theorem dX12_readHut_85 : decode cX12_readHut 85 = .ok (.getfield 145, 3) := by decide +kernel
theorem dX12_readHut_88 : decode cX12_readHut 88 = .ok (.iconst 1, 1) := by decide +kernel
theorem dX12_readHut_89 : decode cX12_readHut 89 = .ok (.iadd, 1) := by decide +kernel
theorem dX12_readHut_90 : decode cX12_readHut 90 = .ok (.putfield 145, 3) := by decide +kernel
theorem dX12_readHut_93 : decode cX12_readHut 93 = .ok (.aload_n 0, 1) := by decide +kernel
theorem dX12_readHut_94 : decode cX12_readHut 94 = .ok (.bipush 8, 2) := by decide +kernel
theorem dX12_readHut_96 : decode cX12_readHut 96 = .ok (.iconst 4, 1) := by decide +kernel
theorem dX12_readHut_97 : decode cX12_readHut 97 = .ok (.invokevirtual 198, 3) := by decide +kernel
theorem dX12_readHut_100 : decode cX12_readHut 100 = .ok (.istore_n 2, 1) := by decide +kernel
theorem dX12_readHut_101 : decode cX12_readHut 101 = .ok (.bipush 12, 2) := by decide +kernel
theorem dX12_readHut_103 : decode cX12_readHut 103 = .ok (.istore_n 3, 1) := by decide +kernel
theorem dX12_readHut_104 : decode cX12_readHut 104 = .ok (.iconst 0, 1) := by decide +kernel
theorem dX12_readHut_105 : decode cX12_readHut 105 = .ok (.istore 4, 2) := by decide +kernel
theorem dX12_readHut_107 : decode cX12_readHut 107 = .ok (.iload 4, 2) := by decide +kernel
theorem dX12_readHut_109 : decode cX12_readHut 109 = .ok (.iload_n 1, 1) := by decide +kernel
theorem dX12_readHut_110 : decode cX12_readHut 110 = .ok (.if_icmp .ge 26, 3) := by decide +kernel
theorem dX12_readHut_113 : decode cX12_readHut 113 = .ok (.iload_n 3, 1) := by decide +kernel
theorem dX12_readHut_114 : decode cX12_readHut 114 = .ok (.aload_n 0, 1) := by decide +kernel
theorem dX12_readHut_115 : decode cX12_readHut 115 = .ok (.getfield 75, 3) := by decide +kernel
theorem dX12_readHut_118 : decode cX12_readHut 118 = .ok (.bipush 43, 2) := by decide +kernel
theorem dX12_readHut_120 : decode cX12_readHut 120 = .ok (.iconst 2, 1) := by decide +kernel
theorem dX12_readHut_121 : decode cX12_readHut 121 = .ok (.iload 4, 2) := by decide +kernel
theorem dX12_readHut_123 : decode cX12_readHut 123 = .ok (.imul, 1) := by decide +kernel
theorem dX12_readHut_124 : decode cX12_readHut 124 = .ok (.iadd, 1) := by decide +kernel
theorem dX12_readHut_125 : decode cX12_readHut 125 = .ok (.iconst 1, 1) := by decide +kernel
theorem dX12_readHut_126 : decode cX12_readHut 126 = .ok (.iadd, 1) := by decide +kernel
theorem dX12_readHut_127 : decode cX12_readHut 127 = .ok (.iaload, 1) := by decide +kernel
theorem dX12_readHut_128 : decode cX12_readHut 128 = .ok (.isub, 1) := by decide +kernel
theorem dX12_readHut_129 : decode cX12_readHut 129 = .ok (.istore_n 3, 1) := by decide +kernel
theorem dX12_readHut_130 : decode cX12_readHut 130 = .ok (.iinc 4 1, 3) := by decide +kernel
theorem dX12_readHut_133 : decode cX12_readHut 133 = .ok (.goto (-26), 3) := by decide +kernel
theorem dX12_readHut_136 : decode cX12_readHut 136 = .ok (.aload_n 0, 1) := by decide +kernel
theorem dX12_readHut_137 : decode cX12_readHut 137 = .ok (.iconst 1, 1) := by decide +kernel
theorem dX12_readHut_138 : decode cX12_readHut 138 = .ok (.iconst 0, 1) := by decide +kernel
theorem dX12_readHut_139 : decode cX12_readHut 139 = .ok (.iload_n 2, 1) := by decide +kernel
theorem dX12_readHut_140 : decode cX12_readHut 140 = .ok (.iconst 3, 1) := by decide +kernel
theorem dX12_readHut_141 : decode cX12_readHut 141 = .ok (.if_icmp .ne 12, 3) := by decide +kernel
theorem dX12_readHut_144 : decode cX12_readHut 144 = .ok (.iload_n 3, 1) := by decide +kernel
theorem dX12_readHut_145 : decode cX12_readHut 145 = .ok (.iconst 3, 1) := by decide +kernel
theorem dX12_readHut_146 : decode cX12_readHut 146 = .ok (.if_icmp .le 7, 3) := by decide +kernel
theorem dX12_readHut_149 : decode cX12_readHut 149 = .ok (.iconst 3, 1) := by decide +kernel
theorem dX12_readHut_150 : decode cX12_readHut 150 = .ok (.goto 4, 3) := by decide +kernel
theorem dX12_readHut_153 : decode cX12_readHut 153 = .ok (.iload_n 3, 1) := by decide +kernel
theorem dX12_readHut_154 : decode cX12_readHut 154 = .ok (.invokevirtual 201, 3) := by decide +kernel
theorem dX12_readHut_157 : decode cX12_readHut 157 = .ok (.istore 4, 2) := by decide +kernel
theorem dX12_readHut_159 : decode cX12_readHut 159 = .ok (.aload_n 0, 1) := by decide +kernel
theorem dX12_readHut_160 : decode cX12_readHut 160 = .ok (.getfield 148, 3) := by decide +kernel
theorem dX12_readHut_163 : decode cX12_readHut 163 = .ok (.ifCond .ne 41, 3) := by decide +kernel
theorem dX12_readHut_166 : decode cX12_readHut 166 = .ok (.aload_n 0, 1) := by decide +kernel
theorem dX12_readHut_167 : decode cX12_readHut 167 = .ok (.getfield 75, 3) := by decide +kernel
theorem dX12_readHut_170 : decode cX12_readHut 170 = .ok (.bipush 43, 2) := by decide +kernel
theorem dX12_readHut_172 : decode cX12_readHut 172 = .ok (.iconst 2, 1) := by decide +kernel
theorem dX12_readHut_173 : decode cX12_readHut 173 = .ok (.iload_n 1, 1) := by decide +kernel
theorem dX12_readHut_174 : decode cX12_readHut 174 = .ok (.imul, 1) := by decide +kernel
theorem dX12_readHut_175 : decode cX12_readHut 175 = .ok (.iadd, 1) := by decide +kernel
theorem dX12_readHut_176 : decode cX12_readHut 176 = .ok (.iload_n 2, 1) := by decide +kernel
theorem dX12_readHut_177 : decode cX12_readHut 177 = .ok (.iastore, 1) := by decide +kernel
theorem dX12_readHut_178 : decode cX12_readHut 178 = .ok (.aload_n 0, 1) := by decide +kernel
theorem dX12_readHut_179 : decode cX12_readHut 179 = .ok (.getfield 75, 3) := by decide +kernel
theorem dX12_readHut_182 : decode cX12_readHut 182 = .ok (.bipush 43, 2) := by decide +kernel
theorem dX12_readHut_184 : decode cX12_readHut 184 = .ok (.iconst 2, 1) := by decide +kernel
theorem dX12_readHut_185 : decode cX12_readHut 185 = .ok (.iload_n 1, 1) := by decide +kernel
theorem dX12_readHut_186 : decode cX12_readHut 186 = .ok (.imul, 1) := by decide +kernel
theorem dX12_readHut_187 : decode cX12_readHut 187 = .ok (.iadd, 1) := by decide +kernel
theorem dX12_readHut_188 : decode cX12_readHut 188 = .ok (.iconst 1, 1) := by decide +kernel
theorem dX12_readHut_189 : decode cX12_readHut 189 = .ok (.iadd, 1) := by decide +kernel
theorem dX12_readHut_190 : decode cX12_readHut 190 = .ok (.iload 4, 2) := by decide +kernel
theorem dX12_readHut_192 : decode cX12_readHut 192 = .ok (.iastore, 1) := by decide +kernel
theorem dX12_readHut_193 : decode cX12_readHut 193 = .ok (.aload_n 0, 1) := by decide +kernel
theorem dX12_readHut_194 : decode cX12_readHut 194 = .ok (.getfield 75, 3) := by decide +kernel
theorem dX12_readHut_197 : decode cX12_readHut 197 = .ok (.bipush 40, 2) := by decide +kernel
theorem dX12_readHut_199 : decode cX12_readHut 199 = .ok (.dup2, 1) := by decide +kernel
theorem dX12_readHut_200 : decode cX12_readHut 200 = .ok (.iaload, 1) := by decide +kernel
theorem dX12_readHut_201 : decode cX12_readHut 201 = .ok (.iconst 1, 1) := by decide +kernel
theorem dX12_readHut_202 : decode cX12_readHut 202 = .ok (.iadd, 1) := by decide +kernel
theorem dX12_readHut_203 : decode cX12_readHut 203 = .ok (.iastore, 1) := by decide +kernel
theorem dX12_readHut_204 : decode cX12_readHut 204 = .ok (.return_, 1) := by decide +kernel
abbrev tX12_readHut (k : Nat) : MT := (RX12, cX12_readHut, 5, k, none)
def lX12_readHut_1 : SX := (sLoop (cB rlt (iLoc 4) (iLoc 1)) (sSetI 3 (iB gT2 (· - ·) (iLoc 3) (iALd (rGet 12 10 (rLoc 0)) (iB gT2 (· + ·) (iB gT2 (· + ·) (iK 43) (iB gT2 (· * ·) (iK 2) (iLoc 4))) (iK 1))))) (sInc 4 1))
theorem olX12_readHut_1 (g : GT) {pcB pcC : Nat} : Sok g (tX12_readHut 4) 107 136 pcB pcC (lX12_readHut_1) := (Sok.loop (pc := 107) (pc1 := 113) (pc2 := 130) (pcN := 136) (Cok.cmp (pc1 := 109) (pc2 := 110) (pcT := 113) (pcF := 136) (EokI.iload (i := 4) dX12_readHut_107) (EokI.iload_n (q := 1) dX12_readHut_109) (JI.ltF (tgt := 136) dX12_readHut_110 (by decide))) (by decide) (Sok.setI_n (q := 3) (pc1 := 129) (EokI.bin (pc1 := 114) (pc2 := 128) (EokI.iload_n (q := 3) dX12_readHut_113) (EokI.iALd (pc1 := 118) (pc2 := 127) (EokR.getf (pc1 := 115) (j := 10) (ci := 12) (T := TX12) (N := 27) (EokR.aload_n (q := 0) dX12_readHut_114) rfl wsX12_in (by decide) flX12_75 dX12_readHut_115) (EokI.bin (pc1 := 125) (pc2 := 126) (EokI.bin (pc1 := 120) (pc2 := 124) (EokI.bipush (v := 43) dX12_readHut_118 (by decide)) (EokI.bin (pc1 := 121) (pc2 := 123) (EokI.iconst (v := 2) dX12_readHut_120 (by decide)) (EokI.iload (i := 4) dX12_readHut_121) (OPI.imul dX12_readHut_123)) (OPI.iadd dX12_readHut_124)) (EokI.iconst (v := 1) dX12_readHut_125 (by decide)) (OPI.iadd dX12_readHut_126)) dX12_readHut_127) (OPI.isub dX12_readHut_128)) (by decide) dX12_readHut_129 (show 3 < 5 by decide)) (Sok.goto (pc1 := 133) (pcN := 107) (Sok.iinc (i := 4) (v := 1) dX12_readHut_130 (show 4 < 5 by decide) (by decide)) dX12_readHut_133 (by decide)))
def mX12_readHut : MX := bodyOf 5 (sSeq (sSeq (sSetI 1 (iALd (rGet 12 10 (rLoc 0)) (iK 40))) (sSeq (sIf (cB req (iLoc 1) (iK 5)) (sSeq (sCallV 12 mX12_wrong (aR (rLoc 0) (aI (iK 5) aNil))) sRetV) sSkip) (sSeq (sUpd 12 7 gT2 (· + ·) (rLoc 0) (iK 1)) (sSeq (sIf (cNot (cZ zne (iCallV 12 mX12_isName (aR (rLoc 0) aNil)))) (sCallV 12 mX12_wrong (aR (rLoc 0) (aI (iK 1) aNil))) (sIf (cZ zge (iCallV 12 mX12_nameAt (aR (rLoc 0) (aI (iK 5) (aI (iLoc 1) aNil))))) (sCallV 12 mX12_wrong (aR (rLoc 0) (aI (iK 3) aNil))) sSkip)) (sSeq (sIf (cZ zgt (iGet 12 8 (rLoc 0))) sRetV sSkip) (sSeq (sAStL (rGet 12 13 (rLoc 0)) (iB gT2 (· + ·) (iK 5) (iLoc 1)) (lALd (rGet 12 6 (rLoc 0)) (iGet 12 7 (rLoc 0)))) (sSeq (sUpd 12 7 gT2 (· + ·) (rLoc 0) (iK 1)) (sSeq (sSetI 2 (iCallV 12 mX12_takeOne (aR (rLoc 0) (aI (iK 8) (aI (iK 4) aNil))))) (sSeq (sSetI 3 (iK 12)) (sSeq (sSeq (sSeq (sSetI 4 (iK 0)) lX12_readHut_1) (sForget 4)) (sSeq (sSetI 4 (iCallV 12 mX12_takeAfter (aR (rLoc 0) (aI (iK 1) (aI (iK 0) (aI (iCond (cAnd (cB req (iLoc 2) (iK 3)) (cB rgt (iLoc 3) (iK 3))) (iK 3) (iLoc 3)) aNil)))))) (sIf (cZ zeq (iGet 12 8 (rLoc 0))) (sSeq (sASt 0 narI (rGet 12 10 (rLoc 0)) (iB gT2 (· + ·) (iK 43) (iB gT2 (· * ·) (iK 2) (iLoc 1))) (iLoc 2)) (sSeq (sASt 0 narI (rGet 12 10 (rLoc 0)) (iB gT2 (· + ·) (iB gT2 (· + ·) (iK 43) (iB gT2 (· * ·) (iK 2) (iLoc 1))) (iK 1)) (iLoc 4)) (sAUpd gT2 (· + ·) (rGet 12 10 (rLoc 0)) (iK 40) (iK 1)))) sSkip)))))))))))) sRetV)
theorem kX12_readHut (g : GT) : MK g 4 yX12_readHut cX12_readHut 5 none mX12_readHut := MK.of (pcN := 99999) (pcB := 0) (pcC := 0) rfl (Sok.seq (pc1 := 204) (Sok.seq (pc1 := 8) (Sok.setI_n (q := 1) (pc1 := 7) (EokI.iALd (pc1 := 4) (pc2 := 6) (EokR.getf (pc1 := 1) (j := 10) (ci := 12) (T := TX12) (N := 27) (EokR.aload_n (q := 0) dX12_readHut_0) rfl wsX12_in (by decide) flX12_75 dX12_readHut_1) (EokI.bipush (v := 40) dX12_readHut_4 (by decide)) dX12_readHut_6) (by decide) dX12_readHut_7 (show 1 < 5 by decide)) (Sok.seq (pc1 := 19) (Sok.ite (pc1 := 13) (pc2 := 19) (Cok.cmp (pc1 := 9) (pc2 := 10) (pcT := 13) (pcF := 19) (EokI.iload_n (q := 1) dX12_readHut_8) (EokI.iconst (v := 5) dX12_readHut_9 (by decide)) (JI.eqF (tgt := 19) dX12_readHut_10 (by decide))) (by decide) (Sok.seq (pc1 := 18) (Sok.sCallV (pc1 := 15) (Aok.aR (pc1 := 14) (EokR.aload_n (q := 0) dX12_readHut_13) (Aok.aI (pc1 := 15) (EokI.iconst (v := 5) dX12_readHut_14 (by decide)) Aok.nil)) (by decide) (kX12_wrong g) rfl ykX12_wrong vkX12_154 (by decide) (by decide) dX12_readHut_15) (Sok.retV dX12_readHut_18 rfl)) (Sok.skip (pc := 19))) (Sok.seq (pc1 := 29) (Sok.upd (ci := 12) (T := TX12) (NN := 27) (tt := tyX12) (j := 7) (pc1 := 20) (pc2 := 25) (EokR.aload_n (q := 0) dX12_readHut_19) dX12_readHut_20 dX12_readHut_21 (EokI.iconst (v := 1) dX12_readHut_24 (by decide)) (OPI.iadd dX12_readHut_25) (by decide) rfl wsX12_in tyX12_ok nmX12 (by decide) flX12_145 rfl rfl dX12_readHut_26) (Sok.seq (pc1 := 58) (Sok.ite (pc1 := 36) (pc2 := 44) (Cok.not (Cok.zero (pc1 := 33) (pcT := 44) (pcF := 36) (EokI.iCallV (pc1 := 30) (Aok.aR (pc1 := 30) (EokR.aload_n (q := 0) dX12_readHut_29) Aok.nil) (kX12_isName g) rfl ykX12_isName vkX12_173 (by decide) (by decide) dX12_readHut_30) (JZ.neT (tgt := 44) dX12_readHut_33 (by decide)))) (by decide) (Sok.goto (pc1 := 41) (pcN := 58) (Sok.sCallV (pc1 := 38) (Aok.aR (pc1 := 37) (EokR.aload_n (q := 0) dX12_readHut_36) (Aok.aI (pc1 := 38) (EokI.iconst (v := 1) dX12_readHut_37 (by decide)) Aok.nil)) (by decide) (kX12_wrong g) rfl ykX12_wrong vkX12_154 (by decide) (by decide) dX12_readHut_38) dX12_readHut_41 (by decide)) (Sok.ite (pc1 := 53) (pc2 := 58) (Cok.zero (pc1 := 50) (pcT := 53) (pcF := 58) (EokI.iCallV (pc1 := 47) (Aok.aR (pc1 := 45) (EokR.aload_n (q := 0) dX12_readHut_44) (Aok.aI (pc1 := 46) (EokI.iconst (v := 5) dX12_readHut_45 (by decide)) (Aok.aI (pc1 := 47) (EokI.iload_n (q := 1) dX12_readHut_46) Aok.nil))) (kX12_nameAt g) rfl ykX12_nameAt vkX12_177 (by decide) (by decide) dX12_readHut_47) (JZ.geF (tgt := 58) dX12_readHut_50 (by decide))) (by decide) (Sok.sCallV (pc1 := 55) (Aok.aR (pc1 := 54) (EokR.aload_n (q := 0) dX12_readHut_53) (Aok.aI (pc1 := 55) (EokI.iconst (v := 3) dX12_readHut_54 (by decide)) Aok.nil)) (by decide) (kX12_wrong g) rfl ykX12_wrong vkX12_154 (by decide) (by decide) dX12_readHut_55) (Sok.skip (pc := 58)))) (Sok.seq (pc1 := 66) (Sok.ite (pc1 := 65) (pc2 := 66) (Cok.zero (pc1 := 62) (pcT := 65) (pcF := 66) (EokI.getf (pc1 := 59) (j := 8) (ci := 12) (T := TX12) (N := 27) (EokR.aload_n (q := 0) dX12_readHut_58) rfl wsX12_in (by decide) flX12_148 dX12_readHut_59) (JZ.gtF (tgt := 66) dX12_readHut_62 (by decide))) (by decide) (Sok.retV dX12_readHut_65 rfl) (Sok.skip (pc := 66))) (Sok.seq (pc1 := 83) (Sok.lASt (pc1 := 70) (pc2 := 73) (pc3 := 82) (EokR.getf (pc1 := 67) (j := 13) (ci := 12) (T := TX12) (N := 27) (EokR.aload_n (q := 0) dX12_readHut_66) rfl wsX12_in (by decide) flX12_81 dX12_readHut_67) (EokI.bin (pc1 := 71) (pc2 := 72) (EokI.iconst (v := 5) dX12_readHut_70 (by decide)) (EokI.iload_n (q := 1) dX12_readHut_71) (OPI.iadd dX12_readHut_72)) (EokL.lALd (pc1 := 77) (pc2 := 81) (EokR.getf (pc1 := 74) (j := 6) (ci := 12) (T := TX12) (N := 27) (EokR.aload_n (q := 0) dX12_readHut_73) rfl wsX12_in (by decide) flX12_30 dX12_readHut_74) (EokI.getf (pc1 := 78) (j := 7) (ci := 12) (T := TX12) (N := 27) (EokR.aload_n (q := 0) dX12_readHut_77) rfl wsX12_in (by decide) flX12_145 dX12_readHut_78) dX12_readHut_81) (by decide) dX12_readHut_82) (Sok.seq (pc1 := 93) (Sok.upd (ci := 12) (T := TX12) (NN := 27) (tt := tyX12) (j := 7) (pc1 := 84) (pc2 := 89) (EokR.aload_n (q := 0) dX12_readHut_83) dX12_readHut_84 dX12_readHut_85 (EokI.iconst (v := 1) dX12_readHut_88 (by decide)) (OPI.iadd dX12_readHut_89) (by decide) rfl wsX12_in tyX12_ok nmX12 (by decide) flX12_145 rfl rfl dX12_readHut_90) (Sok.seq (pc1 := 101) (Sok.setI_n (q := 2) (pc1 := 100) (EokI.iCallV (pc1 := 97) (Aok.aR (pc1 := 94) (EokR.aload_n (q := 0) dX12_readHut_93) (Aok.aI (pc1 := 96) (EokI.bipush (v := 8) dX12_readHut_94 (by decide)) (Aok.aI (pc1 := 97) (EokI.iconst (v := 4) dX12_readHut_96 (by decide)) Aok.nil))) (kX12_takeOne g) rfl ykX12_takeOne vkX12_198 (by decide) (by decide) dX12_readHut_97) (by decide) dX12_readHut_100 (show 2 < 5 by decide)) (Sok.seq (pc1 := 104) (Sok.setI_n (q := 3) (pc1 := 103) (EokI.bipush (v := 12) dX12_readHut_101 (by decide)) (by decide) dX12_readHut_103 (show 3 < 5 by decide)) (Sok.seq (pc1 := 136) (Sok.seq (pc1 := 136) (Sok.seq (pc1 := 107) (Sok.setI (i := 4) (pc1 := 105) (EokI.iconst (v := 0) dX12_readHut_104 (by decide)) (by decide) dX12_readHut_105 (show 4 < 5 by decide)) (olX12_readHut_1 g )) (Sok.forget (pc := 136))) (Sok.seq (pc1 := 159) (Sok.setI (i := 4) (pc1 := 157) (EokI.iCallV (pc1 := 154) (Aok.aR (pc1 := 137) (EokR.aload_n (q := 0) dX12_readHut_136) (Aok.aI (pc1 := 138) (EokI.iconst (v := 1) dX12_readHut_137 (by decide)) (Aok.aI (pc1 := 139) (EokI.iconst (v := 0) dX12_readHut_138 (by decide)) (Aok.aI (pc1 := 154) (EokI.cond' (pc1 := 149) (pc2 := 153) (Cok.and (pc1 := 144) (Cok.cmp (pc1 := 140) (pc2 := 141) (pcT := 144) (pcF := 153) (EokI.iload_n (q := 2) dX12_readHut_139) (EokI.iconst (v := 3) dX12_readHut_140 (by decide)) (JI.eqF (tgt := 153) dX12_readHut_141 (by decide))) (Cok.cmp (pc1 := 145) (pc2 := 146) (pcT := 149) (pcF := 153) (EokI.iload_n (q := 3) dX12_readHut_144) (EokI.iconst (v := 3) dX12_readHut_145 (by decide)) (JI.gtF (tgt := 153) dX12_readHut_146 (by decide)))) (EokI.goto (pc1 := 150) (pc2 := 154) (EokI.iconst (v := 3) dX12_readHut_149 (by decide)) dX12_readHut_150 (by decide)) (EokI.iload_n (q := 3) dX12_readHut_153)) Aok.nil)))) (kX12_takeAfter g) rfl ykX12_takeAfter vkX12_201 (by decide) (by decide) dX12_readHut_154) (by decide) dX12_readHut_157 (show 4 < 5 by decide)) (Sok.ite (pc1 := 166) (pc2 := 204) (Cok.zero (pc1 := 163) (pcT := 166) (pcF := 204) (EokI.getf (pc1 := 160) (j := 8) (ci := 12) (T := TX12) (N := 27) (EokR.aload_n (q := 0) dX12_readHut_159) rfl wsX12_in (by decide) flX12_148 dX12_readHut_160) (JZ.eqF (tgt := 204) dX12_readHut_163 (by decide))) (by decide) (Sok.seq (pc1 := 178) (Sok.iASt (pc1 := 170) (pc2 := 176) (pc3 := 177) (EokR.getf (pc1 := 167) (j := 10) (ci := 12) (T := TX12) (N := 27) (EokR.aload_n (q := 0) dX12_readHut_166) rfl wsX12_in (by decide) flX12_75 dX12_readHut_167) (EokI.bin (pc1 := 172) (pc2 := 175) (EokI.bipush (v := 43) dX12_readHut_170 (by decide)) (EokI.bin (pc1 := 173) (pc2 := 174) (EokI.iconst (v := 2) dX12_readHut_172 (by decide)) (EokI.iload_n (q := 1) dX12_readHut_173) (OPI.imul dX12_readHut_174)) (OPI.iadd dX12_readHut_175)) (EokI.iload_n (q := 2) dX12_readHut_176) (by decide) dX12_readHut_177) (Sok.seq (pc1 := 193) (Sok.iASt (pc1 := 182) (pc2 := 190) (pc3 := 192) (EokR.getf (pc1 := 179) (j := 10) (ci := 12) (T := TX12) (N := 27) (EokR.aload_n (q := 0) dX12_readHut_178) rfl wsX12_in (by decide) flX12_75 dX12_readHut_179) (EokI.bin (pc1 := 188) (pc2 := 189) (EokI.bin (pc1 := 184) (pc2 := 187) (EokI.bipush (v := 43) dX12_readHut_182 (by decide)) (EokI.bin (pc1 := 185) (pc2 := 186) (EokI.iconst (v := 2) dX12_readHut_184 (by decide)) (EokI.iload_n (q := 1) dX12_readHut_185) (OPI.imul dX12_readHut_186)) (OPI.iadd dX12_readHut_187)) (EokI.iconst (v := 1) dX12_readHut_188 (by decide)) (OPI.iadd dX12_readHut_189)) (EokI.iload (i := 4) dX12_readHut_190) (by decide) dX12_readHut_192) (Sok.aupd (pc1 := 197) (pc2 := 199) (pc3 := 202) (EokR.getf (pc1 := 194) (j := 10) (ci := 12) (T := TX12) (N := 27) (EokR.aload_n (q := 0) dX12_readHut_193) rfl wsX12_in (by decide) flX12_75 dX12_readHut_194) (EokI.bipush (v := 40) dX12_readHut_197 (by decide)) dX12_readHut_199 dX12_readHut_200 (EokI.iconst (v := 1) dX12_readHut_201 (by decide)) (OPI.iadd dX12_readHut_202) (by decide) dX12_readHut_203))) (Sok.skip (pc := 204)))))))))))))) (Sok.retV dX12_readHut_204 rfl))
/-! PassHutsModel.readPath()V -/
theorem dX12_readPath_0 : decode cX12_readPath 0 = .ok (.aload_n 0, 1) := by decide +kernel
theorem dX12_readPath_1 : decode cX12_readPath 1 = .ok (.dup, 1) := by decide +kernel
theorem dX12_readPath_2 : decode cX12_readPath 2 = .ok (.getfield 145, 3) := by decide +kernel
theorem dX12_readPath_5 : decode cX12_readPath 5 = .ok (.iconst 1, 1) := by decide +kernel
theorem dX12_readPath_6 : decode cX12_readPath 6 = .ok (.iadd, 1) := by decide +kernel
theorem dX12_readPath_7 : decode cX12_readPath 7 = .ok (.putfield 145, 3) := by decide +kernel
theorem dX12_readPath_10 : decode cX12_readPath 10 = .ok (.aload_n 0, 1) := by decide +kernel
theorem dX12_readPath_11 : decode cX12_readPath 11 = .ok (.getfield 75, 3) := by decide +kernel
theorem dX12_readPath_14 : decode cX12_readPath 14 = .ok (.bipush 40, 2) := by decide +kernel
theorem dX12_readPath_16 : decode cX12_readPath 16 = .ok (.iaload, 1) := by decide +kernel
theorem dX12_readPath_17 : decode cX12_readPath 17 = .ok (.istore_n 1, 1) := by decide +kernel
theorem dX12_readPath_18 : decode cX12_readPath 18 = .ok (.aload_n 0, 1) := by decide +kernel
theorem dX12_readPath_19 : decode cX12_readPath 19 = .ok (.iconst 5, 1) := by decide +kernel
theorem dX12_readPath_20 : decode cX12_readPath 20 = .ok (.iload_n 1, 1) := by decide +kernel
theorem dX12_readPath_21 : decode cX12_readPath 21 = .ok (.iconst 0, 1) := by decide +kernel
theorem dX12_readPath_22 : decode cX12_readPath 22 = .ok (.invokevirtual 205, 3) := by decide +kernel
theorem dX12_readPath_25 : decode cX12_readPath 25 = .ok (.istore_n 2, 1) := by decide +kernel
theorem dX12_readPath_26 : decode cX12_readPath 26 = .ok (.iconst 1, 1) := by decide +kernel
theorem dX12_readPath_27 : decode cX12_readPath 27 = .ok (.iload_n 2, 1) := by decide +kernel
theorem dX12_readPath_28 : decode cX12_readPath 28 = .ok (.ishl, 1) := by decide +kernel
theorem dX12_readPath_29 : decode cX12_readPath 29 = .ok (.istore_n 3, 1) := by decide +kernel
theorem dX12_readPath_30 : decode cX12_readPath 30 = .ok (.iconst 0, 1) := by decide +kernel
theorem dX12_readPath_31 : decode cX12_readPath 31 = .ok (.istore 4, 2) := by decide +kernel
theorem dX12_readPath_33 : decode cX12_readPath 33 = .ok (.iload 4, 2) := by decide +kernel
theorem dX12_readPath_35 : decode cX12_readPath 35 = .ok (.iload_n 1, 1) := by decide +kernel
theorem dX12_readPath_36 : decode cX12_readPath 36 = .ok (.if_icmp .ge 37, 3) := by decide +kernel
theorem dX12_readPath_39 : decode cX12_readPath 39 = .ok (.iload_n 3, 1) := by decide +kernel
theorem dX12_readPath_40 : decode cX12_readPath 40 = .ok (.aload_n 0, 1) := by decide +kernel
theorem dX12_readPath_41 : decode cX12_readPath 41 = .ok (.getfield 75, 3) := by decide +kernel
theorem dX12_readPath_44 : decode cX12_readPath 44 = .ok (.bipush 53, 2) := by decide +kernel
theorem dX12_readPath_46 : decode cX12_readPath 46 = .ok (.iconst 5, 1) := by decide +kernel
theorem dX12_readPath_47 : decode cX12_readPath 47 = .ok (.iload_n 2, 1) := by decide +kernel
theorem dX12_readPath_48 : decode cX12_readPath 48 = .ok (.imul, 1) := by decide +kernel
theorem dX12_readPath_49 : decode cX12_readPath 49 = .ok (.iadd, 1) := by decide +kernel
theorem dX12_readPath_50 : decode cX12_readPath 50 = .ok (.iload 4, 2) := by decide +kernel
theorem dX12_readPath_52 : decode cX12_readPath 52 = .ok (.iadd, 1) := by decide +kernel
theorem dX12_readPath_53 : decode cX12_readPath 53 = .ok (.iaload, 1) := by decide +kernel
theorem dX12_readPath_54 : decode cX12_readPath 54 = .ok (.ifCond .le 10, 3) := by decide +kernel
theorem dX12_readPath_57 : decode cX12_readPath 57 = .ok (.iconst 1, 1) := by decide +kernel
theorem dX12_readPath_58 : decode cX12_readPath 58 = .ok (.iload 4, 2) := by decide +kernel
theorem dX12_readPath_60 : decode cX12_readPath 60 = .ok (.ishl, 1) := by decide +kernel
theorem dX12_readPath_61 : decode cX12_readPath 61 = .ok (.goto 4, 3) := by decide +kernel
theorem dX12_readPath_64 : decode cX12_readPath 64 = .ok (.iconst 0, 1) := by decide +kernel
theorem dX12_readPath_65 : decode cX12_readPath 65 = .ok (.ior, 1) := by decide +kernel
theorem dX12_readPath_66 : decode cX12_readPath 66 = .ok (.istore_n 3, 1) := by decide +kernel
theorem dX12_readPath_67 : decode cX12_readPath 67 = .ok (.iinc 4 1, 3) := by decide +kernel
theorem dX12_readPath_70 : decode cX12_readPath 70 = .ok (.goto (-37), 3) := by decide +kernel
theorem dX12_readPath_73 : decode cX12_readPath 73 = .ok (.aload_n 0, 1) := by decide +kernel
theorem dX12_readPath_74 : decode cX12_readPath 74 = .ok (.iconst 5, 1) := by decide +kernel
theorem dX12_readPath_75 : decode cX12_readPath 75 = .ok (.iload_n 1, 1) := by decide +kernel
theorem dX12_readPath_76 : decode cX12_readPath 76 = .ok (.iload_n 3, 1) := by decide +kernel
theorem dX12_readPath_77 : decode cX12_readPath 77 = .ok (.invokevirtual 205, 3) := by decide +kernel
theorem dX12_readPath_80 : decode cX12_readPath 80 = .ok (.istore 4, 2) := by decide +kernel
theorem dX12_readPath_82 : decode cX12_readPath 82 = .ok (.aload_n 0, 1) := by decide +kernel
theorem dX12_readPath_83 : decode cX12_readPath 83 = .ok (.iconst 3, 1) := by decide +kernel
theorem dX12_readPath_84 : decode cX12_readPath 84 = .ok (.iconst 2, 1) := by decide +kernel
theorem dX12_readPath_85 : decode cX12_readPath 85 = .ok (.iconst 4, 1) := by decide +kernel
theorem dX12_readPath_86 : decode cX12_readPath 86 = .ok (.invokevirtual 201, 3) := by decide +kernel
theorem dX12_readPath_89 : decode cX12_readPath 89 = .ok (.istore 5, 2) := by decide +kernel
theorem dX12_readPath_91 : decode cX12_readPath 91 = .ok (.aload_n 0, 1) := by decide +kernel
theorem dX12_readPath_92 : decode cX12_readPath 92 = .ok (.getfield 148, 3) := by decide +kernel
theorem dX12_readPath_95 : decode cX12_readPath 95 = .ok (.ifCond .ne 46, 3) := by decide +kernel
theorem dX12_readPath_98 : decode cX12_readPath 98 = .ok (.aload_n 0, 1) := by decide +kernel
theorem dX12_readPath_99 : decode cX12_readPath 99 = .ok (.getfield 75, 3) := by decide +kernel
theorem dX12_readPath_102 : decode cX12_readPath 102 = .ok (.bipush 53, 2) := by decide +kernel
theorem dX12_readPath_104 : decode cX12_readPath 104 = .ok (.iconst 5, 1) := by decide +kernel
theorem dX12_readPath_105 : decode cX12_readPath 105 = .ok (.iload_n 2, 1) := by decide +kernel
theorem dX12_readPath_106 : decode cX12_readPath 106 = .ok (.imul, 1) := by decide +kernel
theorem dX12_readPath_107 : decode cX12_readPath 107 = .ok (.iadd, 1) := by decide +kernel
theorem dX12_readPath_108 : decode cX12_readPath 108 = .ok (.iload 4, 2) := by decide +kernel
theorem dX12_readPath_110 : decode cX12_readPath 110 = .ok (.iadd, 1) := by decide +kernel
theorem dX12_readPath_111 : decode cX12_readPath 111 = .ok (.iload 5, 2) := by decide +kernel
theorem dX12_readPath_113 : decode cX12_readPath 113 = .ok (.iastore, 1) := by decide +kernel
theorem dX12_readPath_114 : decode cX12_readPath 114 = .ok (.aload_n 0, 1) := by decide +kernel
theorem dX12_readPath_115 : decode cX12_readPath 115 = .ok (.getfield 75, 3) := by decide +kernel
theorem dX12_readPath_118 : decode cX12_readPath 118 = .ok (.bipush 53, 2) := by decide +kernel
theorem dX12_readPath_120 : decode cX12_readPath 120 = .ok (.iconst 5, 1) := by decide +kernel
theorem dX12_readPath_121 : decode cX12_readPath 121 = .ok (.iload 4, 2) := by decide +kernel
theorem dX12_readPath_123 : decode cX12_readPath 123 = .ok (.imul, 1) := by decide +kernel
theorem dX12_readPath_124 : decode cX12_readPath 124 = .ok (.iadd, 1) := by decide +kernel
theorem dX12_readPath_125 : decode cX12_readPath 125 = .ok (.iload_n 2, 1) := by decide +kernel
theorem dX12_readPath_126 : decode cX12_readPath 126 = .ok (.iadd, 1) := by decide +kernel
theorem dX12_readPath_127 : decode cX12_readPath 127 = .ok (.iload 5, 2) := by decide +kernel
theorem dX12_readPath_129 : decode cX12_readPath 129 = .ok (.iastore, 1) := by decide +kernel
theorem dX12_readPath_130 : decode cX12_readPath 130 = .ok (.aload_n 0, 1) := by decide +kernel
theorem dX12_readPath_131 : decode cX12_readPath 131 = .ok (.getfield 75, 3) := by decide +kernel
theorem dX12_readPath_134 : decode cX12_readPath 134 = .ok (.bipush 41, 2) := by decide +kernel
theorem dX12_readPath_136 : decode cX12_readPath 136 = .ok (.dup2, 1) := by decide +kernel
theorem dX12_readPath_137 : decode cX12_readPath 137 = .ok (.iaload, 1) := by decide +kernel
theorem dX12_readPath_138 : decode cX12_readPath 138 = .ok (.iconst 1, 1) := by decide +kernel
theorem dX12_readPath_139 : decode cX12_readPath 139 = .ok (.iadd, 1) := by decide +kernel
theorem dX12_readPath_140 : decode cX12_readPath 140 = .ok (.iastore, 1) := by decide +kernel
theorem dX12_readPath_141 : decode cX12_readPath 141 = .ok (.return_, 1) := by decide +kernel
abbrev tX12_readPath (k : Nat) : MT := (RX12, cX12_readPath, 6, k, none)
def lX12_readPath_1 : SX := (sLoop (cB rlt (iLoc 4) (iLoc 1)) (sSetI 3 (iB gT2 (· ||| ·) (iLoc 3) (iCond (cZ zgt (iALd (rGet 12 10 (rLoc 0)) (iB gT2 (· + ·) (iB gT2 (· + ·) (iK 53) (iB gT2 (· * ·) (iK 5) (iLoc 2))) (iLoc 4)))) (iB gT2 jshl (iK 1) (iLoc 4)) (iK 0)))) (sInc 4 1))
theorem olX12_readPath_1 (g : GT) {pcB pcC : Nat} : Sok g (tX12_readPath 4) 33 73 pcB pcC (lX12_readPath_1) := (Sok.loop (pc := 33) (pc1 := 39) (pc2 := 67) (pcN := 73) (Cok.cmp (pc1 := 35) (pc2 := 36) (pcT := 39) (pcF := 73) (EokI.iload (i := 4) dX12_readPath_33) (EokI.iload_n (q := 1) dX12_readPath_35) (JI.ltF (tgt := 73) dX12_readPath_36 (by decide))) (by decide) (Sok.setI_n (q := 3) (pc1 := 66) (EokI.bin (pc1 := 40) (pc2 := 65) (EokI.iload_n (q := 3) dX12_readPath_39) (EokI.cond' (pc1 := 57) (pc2 := 64) (Cok.zero (pc1 := 54) (pcT := 57) (pcF := 64) (EokI.iALd (pc1 := 44) (pc2 := 53) (EokR.getf (pc1 := 41) (j := 10) (ci := 12) (T := TX12) (N := 27) (EokR.aload_n (q := 0) dX12_readPath_40) rfl wsX12_in (by decide) flX12_75 dX12_readPath_41) (EokI.bin (pc1 := 50) (pc2 := 52) (EokI.bin (pc1 := 46) (pc2 := 49) (EokI.bipush (v := 53) dX12_readPath_44 (by decide)) (EokI.bin (pc1 := 47) (pc2 := 48) (EokI.iconst (v := 5) dX12_readPath_46 (by decide)) (EokI.iload_n (q := 2) dX12_readPath_47) (OPI.imul dX12_readPath_48)) (OPI.iadd dX12_readPath_49)) (EokI.iload (i := 4) dX12_readPath_50) (OPI.iadd dX12_readPath_52)) dX12_readPath_53) (JZ.gtF (tgt := 64) dX12_readPath_54 (by decide))) (EokI.goto (pc1 := 61) (pc2 := 65) (EokI.bin (pc1 := 58) (pc2 := 60) (EokI.iconst (v := 1) dX12_readPath_57 (by decide)) (EokI.iload (i := 4) dX12_readPath_58) (OPI.ishl dX12_readPath_60)) dX12_readPath_61 (by decide)) (EokI.iconst (v := 0) dX12_readPath_64 (by decide))) (OPI.ior dX12_readPath_65)) (by decide) dX12_readPath_66 (show 3 < 6 by decide)) (Sok.goto (pc1 := 70) (pcN := 33) (Sok.iinc (i := 4) (v := 1) dX12_readPath_67 (show 4 < 6 by decide) (by decide)) dX12_readPath_70 (by decide)))
def mX12_readPath : MX := bodyOf 6 (sSeq (sSeq (sUpd 12 7 gT2 (· + ·) (rLoc 0) (iK 1)) (sSeq (sSetI 1 (iALd (rGet 12 10 (rLoc 0)) (iK 40))) (sSeq (sSetI 2 (iCallV 12 mX12_takeTold (aR (rLoc 0) (aI (iK 5) (aI (iLoc 1) (aI (iK 0) aNil)))))) (sSeq (sSetI 3 (iB gT2 jshl (iK 1) (iLoc 2))) (sSeq (sSeq (sSeq (sSetI 4 (iK 0)) lX12_readPath_1) (sForget 4)) (sSeq (sSetI 4 (iCallV 12 mX12_takeTold (aR (rLoc 0) (aI (iK 5) (aI (iLoc 1) (aI (iLoc 3) aNil)))))) (sSeq (sSetI 5 (iCallV 12 mX12_takeAfter (aR (rLoc 0) (aI (iK 3) (aI (iK 2) (aI (iK 4) aNil)))))) (sIf (cZ zeq (iGet 12 8 (rLoc 0))) (sSeq (sASt 0 narI (rGet 12 10 (rLoc 0)) (iB gT2 (· + ·) (iB gT2 (· + ·) (iK 53) (iB gT2 (· * ·) (iK 5) (iLoc 2))) (iLoc 4)) (iLoc 5)) (sSeq (sASt 0 narI (rGet 12 10 (rLoc 0)) (iB gT2 (· + ·) (iB gT2 (· + ·) (iK 53) (iB gT2 (· * ·) (iK 5) (iLoc 4))) (iLoc 2)) (iLoc 5)) (sAUpd gT2 (· + ·) (rGet 12 10 (rLoc 0)) (iK 41) (iK 1)))) sSkip)))))))) sRetV)
theorem kX12_readPath (g : GT) : MK g 4 yX12_readPath cX12_readPath 6 none mX12_readPath := MK.of (pcN := 99999) (pcB := 0) (pcC := 0) rfl (Sok.seq (pc1 := 141) (Sok.seq (pc1 := 10) (Sok.upd (ci := 12) (T := TX12) (NN := 27) (tt := tyX12) (j := 7) (pc1 := 1) (pc2 := 6) (EokR.aload_n (q := 0) dX12_readPath_0) dX12_readPath_1 dX12_readPath_2 (EokI.iconst (v := 1) dX12_readPath_5 (by decide)) (OPI.iadd dX12_readPath_6) (by decide) rfl wsX12_in tyX12_ok nmX12 (by decide) flX12_145 rfl rfl dX12_readPath_7) (Sok.seq (pc1 := 18) (Sok.setI_n (q := 1) (pc1 := 17) (EokI.iALd (pc1 := 14) (pc2 := 16) (EokR.getf (pc1 := 11) (j := 10) (ci := 12) (T := TX12) (N := 27) (EokR.aload_n (q := 0) dX12_readPath_10) rfl wsX12_in (by decide) flX12_75 dX12_readPath_11) (EokI.bipush (v := 40) dX12_readPath_14 (by decide)) dX12_readPath_16) (by decide) dX12_readPath_17 (show 1 < 6 by decide)) (Sok.seq (pc1 := 26) (Sok.setI_n (q := 2) (pc1 := 25) (EokI.iCallV (pc1 := 22) (Aok.aR (pc1 := 19) (EokR.aload_n (q := 0) dX12_readPath_18) (Aok.aI (pc1 := 20) (EokI.iconst (v := 5) dX12_readPath_19 (by decide)) (Aok.aI (pc1 := 21) (EokI.iload_n (q := 1) dX12_readPath_20) (Aok.aI (pc1 := 22) (EokI.iconst (v := 0) dX12_readPath_21 (by decide)) Aok.nil)))) (kX12_takeTold g) rfl ykX12_takeTold vkX12_205 (by decide) (by decide) dX12_readPath_22) (by decide) dX12_readPath_25 (show 2 < 6 by decide)) (Sok.seq (pc1 := 30) (Sok.setI_n (q := 3) (pc1 := 29) (EokI.bin (pc1 := 27) (pc2 := 28) (EokI.iconst (v := 1) dX12_readPath_26 (by decide)) (EokI.iload_n (q := 2) dX12_readPath_27) (OPI.ishl dX12_readPath_28)) (by decide) dX12_readPath_29 (show 3 < 6 by decide)) (Sok.seq (pc1 := 73) (Sok.seq (pc1 := 73) (Sok.seq (pc1 := 33) (Sok.setI (i := 4) (pc1 := 31) (EokI.iconst (v := 0) dX12_readPath_30 (by decide)) (by decide) dX12_readPath_31 (show 4 < 6 by decide)) (olX12_readPath_1 g )) (Sok.forget (pc := 73))) (Sok.seq (pc1 := 82) (Sok.setI (i := 4) (pc1 := 80) (EokI.iCallV (pc1 := 77) (Aok.aR (pc1 := 74) (EokR.aload_n (q := 0) dX12_readPath_73) (Aok.aI (pc1 := 75) (EokI.iconst (v := 5) dX12_readPath_74 (by decide)) (Aok.aI (pc1 := 76) (EokI.iload_n (q := 1) dX12_readPath_75) (Aok.aI (pc1 := 77) (EokI.iload_n (q := 3) dX12_readPath_76) Aok.nil)))) (kX12_takeTold g) rfl ykX12_takeTold vkX12_205 (by decide) (by decide) dX12_readPath_77) (by decide) dX12_readPath_80 (show 4 < 6 by decide)) (Sok.seq (pc1 := 91) (Sok.setI (i := 5) (pc1 := 89) (EokI.iCallV (pc1 := 86) (Aok.aR (pc1 := 83) (EokR.aload_n (q := 0) dX12_readPath_82) (Aok.aI (pc1 := 84) (EokI.iconst (v := 3) dX12_readPath_83 (by decide)) (Aok.aI (pc1 := 85) (EokI.iconst (v := 2) dX12_readPath_84 (by decide)) (Aok.aI (pc1 := 86) (EokI.iconst (v := 4) dX12_readPath_85 (by decide)) Aok.nil)))) (kX12_takeAfter g) rfl ykX12_takeAfter vkX12_201 (by decide) (by decide) dX12_readPath_86) (by decide) dX12_readPath_89 (show 5 < 6 by decide)) (Sok.ite (pc1 := 98) (pc2 := 141) (Cok.zero (pc1 := 95) (pcT := 98) (pcF := 141) (EokI.getf (pc1 := 92) (j := 8) (ci := 12) (T := TX12) (N := 27) (EokR.aload_n (q := 0) dX12_readPath_91) rfl wsX12_in (by decide) flX12_148 dX12_readPath_92) (JZ.eqF (tgt := 141) dX12_readPath_95 (by decide))) (by decide) (Sok.seq (pc1 := 114) (Sok.iASt (pc1 := 102) (pc2 := 111) (pc3 := 113) (EokR.getf (pc1 := 99) (j := 10) (ci := 12) (T := TX12) (N := 27) (EokR.aload_n (q := 0) dX12_readPath_98) rfl wsX12_in (by decide) flX12_75 dX12_readPath_99) (EokI.bin (pc1 := 108) (pc2 := 110) (EokI.bin (pc1 := 104) (pc2 := 107) (EokI.bipush (v := 53) dX12_readPath_102 (by decide)) (EokI.bin (pc1 := 105) (pc2 := 106) (EokI.iconst (v := 5) dX12_readPath_104 (by decide)) (EokI.iload_n (q := 2) dX12_readPath_105) (OPI.imul dX12_readPath_106)) (OPI.iadd dX12_readPath_107)) (EokI.iload (i := 4) dX12_readPath_108) (OPI.iadd dX12_readPath_110)) (EokI.iload (i := 5) dX12_readPath_111) (by decide) dX12_readPath_113) (Sok.seq (pc1 := 130) (Sok.iASt (pc1 := 118) (pc2 := 127) (pc3 := 129) (EokR.getf (pc1 := 115) (j := 10) (ci := 12) (T := TX12) (N := 27) (EokR.aload_n (q := 0) dX12_readPath_114) rfl wsX12_in (by decide) flX12_75 dX12_readPath_115) (EokI.bin (pc1 := 125) (pc2 := 126) (EokI.bin (pc1 := 120) (pc2 := 124) (EokI.bipush (v := 53) dX12_readPath_118 (by decide)) (EokI.bin (pc1 := 121) (pc2 := 123) (EokI.iconst (v := 5) dX12_readPath_120 (by decide)) (EokI.iload (i := 4) dX12_readPath_121) (OPI.imul dX12_readPath_123)) (OPI.iadd dX12_readPath_124)) (EokI.iload_n (q := 2) dX12_readPath_125) (OPI.iadd dX12_readPath_126)) (EokI.iload (i := 5) dX12_readPath_127) (by decide) dX12_readPath_129) (Sok.aupd (pc1 := 134) (pc2 := 136) (pc3 := 139) (EokR.getf (pc1 := 131) (j := 10) (ci := 12) (T := TX12) (N := 27) (EokR.aload_n (q := 0) dX12_readPath_130) rfl wsX12_in (by decide) flX12_75 dX12_readPath_131) (EokI.bipush (v := 41) dX12_readPath_134 (by decide)) dX12_readPath_136 dX12_readPath_137 (EokI.iconst (v := 1) dX12_readPath_138 (by decide)) (OPI.iadd dX12_readPath_139) (by decide) dX12_readPath_140))) (Sok.skip (pc := 141)))))))))) (Sok.retV dX12_readPath_141 rfl))
/-! PassHutsModel.emit(II)V -/
theorem dX12_emit_0 : decode cX12_emit 0 = .ok (.aload_n 0, 1) := by decide +kernel
theorem dX12_emit_1 : decode cX12_emit 1 = .ok (.getfield 78, 3) := by decide +kernel
theorem dX12_emit_4 : decode cX12_emit 4 = .ok (.sipush 1100, 3) := by decide +kernel
theorem dX12_emit_7 : decode cX12_emit 7 = .ok (.aload_n 0, 1) := by decide +kernel
theorem dX12_emit_8 : decode cX12_emit 8 = .ok (.getfield 183, 3) := by decide +kernel
theorem dX12_emit_11 : decode cX12_emit 11 = .ok (.iadd, 1) := by decide +kernel
theorem dX12_emit_12 : decode cX12_emit 12 = .ok (.iload_n 1, 1) := by decide +kernel
theorem dX12_emit_13 : decode cX12_emit 13 = .ok (.bipush 16, 2) := by decide +kernel
theorem dX12_emit_15 : decode cX12_emit 15 = .ok (.iload_n 2, 1) := by decide +kernel
theorem dX12_emit_16 : decode cX12_emit 16 = .ok (.imul, 1) := by decide +kernel
theorem dX12_emit_17 : decode cX12_emit 17 = .ok (.iadd, 1) := by decide +kernel
theorem dX12_emit_18 : decode cX12_emit 18 = .ok (.iastore, 1) := by decide +kernel
theorem dX12_emit_19 : decode cX12_emit 19 = .ok (.aload_n 0, 1) := by decide +kernel
theorem dX12_emit_20 : decode cX12_emit 20 = .ok (.dup, 1) := by decide +kernel
theorem dX12_emit_21 : decode cX12_emit 21 = .ok (.getfield 183, 3) := by decide +kernel
theorem dX12_emit_24 : decode cX12_emit 24 = .ok (.iconst 1, 1) := by decide +kernel
theorem dX12_emit_25 : decode cX12_emit 25 = .ok (.iadd, 1) := by decide +kernel
theorem dX12_emit_26 : decode cX12_emit 26 = .ok (.putfield 183, 3) := by decide +kernel
theorem dX12_emit_29 : decode cX12_emit 29 = .ok (.return_, 1) := by decide +kernel
abbrev tX12_emit (k : Nat) : MT := (RX12, cX12_emit, 3, k, none)
def mX12_emit : MX := bodyOf 3 (sSeq (sSeq (sASt 0 narI (rGet 12 11 (rLoc 0)) (iB gT2 (· + ·) (iK 1100) (iGet 12 12 (rLoc 0))) (iB gT2 (· + ·) (iLoc 1) (iB gT2 (· * ·) (iK 16) (iLoc 2)))) (sUpd 12 12 gT2 (· + ·) (rLoc 0) (iK 1))) sRetV)
theorem kX12_emit (g : GT) : MK g 0 yX12_emit cX12_emit 3 none mX12_emit := MK.of (pcN := 99999) (pcB := 0) (pcC := 0) rfl (Sok.seq (pc1 := 29) (Sok.seq (pc1 := 19) (Sok.iASt (pc1 := 4) (pc2 := 12) (pc3 := 18) (EokR.getf (pc1 := 1) (j := 11) (ci := 12) (T := TX12) (N := 27) (EokR.aload_n (q := 0) dX12_emit_0) rfl wsX12_in (by decide) flX12_78 dX12_emit_1) (EokI.bin (pc1 := 7) (pc2 := 11) (EokI.sipush (v := 1100) dX12_emit_4 (by decide)) (EokI.getf (pc1 := 8) (j := 12) (ci := 12) (T := TX12) (N := 27) (EokR.aload_n (q := 0) dX12_emit_7) rfl wsX12_in (by decide) flX12_183 dX12_emit_8) (OPI.iadd dX12_emit_11)) (EokI.bin (pc1 := 13) (pc2 := 17) (EokI.iload_n (q := 1) dX12_emit_12) (EokI.bin (pc1 := 15) (pc2 := 16) (EokI.bipush (v := 16) dX12_emit_13 (by decide)) (EokI.iload_n (q := 2) dX12_emit_15) (OPI.imul dX12_emit_16)) (OPI.iadd dX12_emit_17)) (by decide) dX12_emit_18) (Sok.upd (ci := 12) (T := TX12) (NN := 27) (tt := tyX12) (j := 12) (pc1 := 20) (pc2 := 25) (EokR.aload_n (q := 0) dX12_emit_19) dX12_emit_20 dX12_emit_21 (EokI.iconst (v := 1) dX12_emit_24 (by decide)) (OPI.iadd dX12_emit_25) (by decide) rfl wsX12_in tyX12_ok nmX12 (by decide) flX12_183 rfl rfl dX12_emit_26)) (Sok.retV dX12_emit_29 rfl))
/-! PassHutsModel.products(I)V -/
theorem dX12_products_0 : decode cX12_products 0 = .ok (.aload_n 0, 1) := by decide +kernel
theorem dX12_products_1 : decode cX12_products 1 = .ok (.iload_n 1, 1) := by decide +kernel
theorem dX12_products_2 : decode cX12_products 2 = .ok (.invokevirtual 230, 3) := by decide +kernel
theorem dX12_products_5 : decode cX12_products 5 = .ok (.aload_n 0, 1) := by decide +kernel
theorem dX12_products_6 : decode cX12_products 6 = .ok (.bipush 42, 2) := by decide +kernel
theorem dX12_products_8 : decode cX12_products 8 = .ok (.invokevirtual 225, 3) := by decide +kernel
theorem dX12_products_11 : decode cX12_products 11 = .ok (.ifCond .eq 18, 3) := by decide +kernel
theorem dX12_products_14 : decode cX12_products 14 = .ok (.aload_n 0, 1) := by decide +kernel
theorem dX12_products_15 : decode cX12_products 15 = .ok (.iload_n 1, 1) := by decide +kernel
theorem dX12_products_16 : decode cX12_products 16 = .ok (.invokevirtual 230, 3) := by decide +kernel
theorem dX12_products_19 : decode cX12_products 19 = .ok (.aload_n 0, 1) := by decide +kernel
theorem dX12_products_20 : decode cX12_products 20 = .ok (.bipush 6, 2) := by decide +kernel
theorem dX12_products_22 : decode cX12_products 22 = .ok (.iconst 0, 1) := by decide +kernel
theorem dX12_products_23 : decode cX12_products 23 = .ok (.invokevirtual 211, 3) := by decide +kernel
theorem dX12_products_26 : decode cX12_products 26 = .ok (.goto (-21), 3) := by decide +kernel
theorem dX12_products_29 : decode cX12_products 29 = .ok (.return_, 1) := by decide +kernel
abbrev tX12_products (k : Nat) : MT := (RX12, cX12_products, 2, k, none)
def lX12_products_1 (P : MX) : SX := (sLoop (cZ zne (iCallV 12 mX12_hasSign (aR (rLoc 0) (aI (iK 42) aNil)))) (sSeq (sCallV 12 P (aR (rLoc 0) (aI (iLoc 1) aNil))) (sCallV 12 mX12_emit (aR (rLoc 0) (aI (iK 6) (aI (iK 0) aNil))))) sSkip)
theorem olX12_products_1 (g : GT) (kp : Nat) (P : MX) (hkp : 20 ≤ kp) (hP : MK g kp yX12_takePart cX12_takePart 4 none P) {pcB pcC : Nat} : Sok g (tX12_products (kp + 1)) 5 29 pcB pcC (lX12_products_1 P) := (Sok.loop (pc := 5) (pc1 := 14) (pc2 := 5) (pcN := 29) (Cok.zero (pc1 := 11) (pcT := 14) (pcF := 29) (EokI.iCallV (pc1 := 8) (Aok.aR (pc1 := 6) (EokR.aload_n (q := 0) dX12_products_5) (Aok.aI (pc1 := 8) (EokI.bipush (v := 42) dX12_products_6 (by decide)) Aok.nil)) (kX12_hasSign g) rfl ykX12_hasSign vkX12_225 (show _ ≤ kp + 1 by omega) (by decide) dX12_products_8) (JZ.neF (tgt := 29) dX12_products_11 (by decide))) (by decide) (Sok.seq (pc1 := 19) (Sok.sCallV (pc1 := 16) (Aok.aR (pc1 := 15) (EokR.aload_n (q := 0) dX12_products_14) (Aok.aI (pc1 := 16) (EokI.iload_n (q := 1) dX12_products_15) Aok.nil)) (by decide) hP rfl ykX12_takePart vkX12_230 (show _ ≤ kp + 1 by omega) (by decide) dX12_products_16) (Sok.goto (pc1 := 26) (pcN := 5) (Sok.sCallV (pc1 := 23) (Aok.aR (pc1 := 20) (EokR.aload_n (q := 0) dX12_products_19) (Aok.aI (pc1 := 22) (EokI.bipush (v := 6) dX12_products_20 (by decide)) (Aok.aI (pc1 := 23) (EokI.iconst (v := 0) dX12_products_22 (by decide)) Aok.nil))) (by decide) (kX12_emit g) rfl ykX12_emit vkX12_211 (show _ ≤ kp + 1 by omega) (by decide) dX12_products_23) dX12_products_26 (by decide))) Sok.skip)
def mX12_products (P : MX) : MX := bodyOf 2 (sSeq (sSeq (sCallV 12 P (aR (rLoc 0) (aI (iLoc 1) aNil))) (lX12_products_1 P)) sRetV)
theorem kX12_products (g : GT) (kp : Nat) (P : MX) (hkp : 20 ≤ kp) (hP : MK g kp yX12_takePart cX12_takePart 4 none P) : MK g (kp + 1) yX12_products cX12_products 2 none (mX12_products P) := MK.of (pcN := 99999) (pcB := 0) (pcC := 0) rfl (Sok.seq (pc1 := 29) (Sok.seq (pc1 := 5) (Sok.sCallV (pc1 := 2) (Aok.aR (pc1 := 1) (EokR.aload_n (q := 0) dX12_products_0) (Aok.aI (pc1 := 2) (EokI.iload_n (q := 1) dX12_products_1) Aok.nil)) (by decide) hP rfl ykX12_takePart vkX12_230 (show _ ≤ kp + 1 by omega) (by decide) dX12_products_2) (olX12_products_1 g kp P hkp hP)) (Sok.retV dX12_products_29 rfl))
/-! PassHutsModel.sums(I)V -/
theorem dX12_sums_0 : decode cX12_sums 0 = .ok (.aload_n 0, 1) := by decide +kernel
theorem dX12_sums_1 : decode cX12_sums 1 = .ok (.iload_n 1, 1) := by decide +kernel
theorem dX12_sums_2 : decode cX12_sums 2 = .ok (.invokevirtual 228, 3) := by decide +kernel
theorem dX12_sums_5 : decode cX12_sums 5 = .ok (.aload_n 0, 1) := by decide +kernel
theorem dX12_sums_6 : decode cX12_sums 6 = .ok (.bipush 43, 2) := by decide +kernel
theorem dX12_sums_8 : decode cX12_sums 8 = .ok (.invokevirtual 151, 3) := by decide +kernel
theorem dX12_sums_11 : decode cX12_sums 11 = .ok (.ifCond .ne 12, 3) := by decide +kernel
theorem dX12_sums_14 : decode cX12_sums 14 = .ok (.aload_n 0, 1) := by decide +kernel
theorem dX12_sums_15 : decode cX12_sums 15 = .ok (.bipush 45, 2) := by decide +kernel
theorem dX12_sums_17 : decode cX12_sums 17 = .ok (.invokevirtual 151, 3) := by decide +kernel
theorem dX12_sums_20 : decode cX12_sums 20 = .ok (.ifCond .eq 42, 3) := by decide +kernel
theorem dX12_sums_23 : decode cX12_sums 23 = .ok (.aload_n 0, 1) := by decide +kernel
theorem dX12_sums_24 : decode cX12_sums 24 = .ok (.bipush 43, 2) := by decide +kernel
theorem dX12_sums_26 : decode cX12_sums 26 = .ok (.invokevirtual 151, 3) := by decide +kernel
theorem dX12_sums_29 : decode cX12_sums 29 = .ok (.istore_n 2, 1) := by decide +kernel
theorem dX12_sums_30 : decode cX12_sums 30 = .ok (.aload_n 0, 1) := by decide +kernel
theorem dX12_sums_31 : decode cX12_sums 31 = .ok (.dup, 1) := by decide +kernel
theorem dX12_sums_32 : decode cX12_sums 32 = .ok (.getfield 145, 3) := by decide +kernel
theorem dX12_sums_35 : decode cX12_sums 35 = .ok (.iconst 1, 1) := by decide +kernel
theorem dX12_sums_36 : decode cX12_sums 36 = .ok (.iadd, 1) := by decide +kernel
theorem dX12_sums_37 : decode cX12_sums 37 = .ok (.putfield 145, 3) := by decide +kernel
theorem dX12_sums_40 : decode cX12_sums 40 = .ok (.aload_n 0, 1) := by decide +kernel
theorem dX12_sums_41 : decode cX12_sums 41 = .ok (.iload_n 1, 1) := by decide +kernel
theorem dX12_sums_42 : decode cX12_sums 42 = .ok (.invokevirtual 228, 3) := by decide +kernel
theorem dX12_sums_45 : decode cX12_sums 45 = .ok (.aload_n 0, 1) := by decide +kernel
theorem dX12_sums_46 : decode cX12_sums 46 = .ok (.iload_n 2, 1) := by decide +kernel
theorem dX12_sums_47 : decode cX12_sums 47 = .ok (.ifCond .eq 7, 3) := by decide +kernel
theorem dX12_sums_50 : decode cX12_sums 50 = .ok (.iconst 4, 1) := by decide +kernel
theorem dX12_sums_51 : decode cX12_sums 51 = .ok (.goto 4, 3) := by decide +kernel
theorem dX12_sums_54 : decode cX12_sums 54 = .ok (.iconst 5, 1) := by decide +kernel
theorem dX12_sums_55 : decode cX12_sums 55 = .ok (.iconst 0, 1) := by decide +kernel
theorem dX12_sums_56 : decode cX12_sums 56 = .ok (.invokevirtual 211, 3) := by decide +kernel
theorem dX12_sums_59 : decode cX12_sums 59 = .ok (.goto (-54), 3) := by decide +kernel
theorem dX12_sums_62 : decode cX12_sums 62 = .ok (.return_, 1) := by decide +kernel
abbrev tX12_sums (k : Nat) : MT := (RX12, cX12_sums, 3, k, none)
def lX12_sums_1 (P : MX) : SX := (sLoop (cOr (cZ zne (iCallV 12 mX12_isSign (aR (rLoc 0) (aI (iK 43) aNil)))) (cZ zne (iCallV 12 mX12_isSign (aR (rLoc 0) (aI (iK 45) aNil))))) (sSeq (sSetI 2 (iCallV 12 mX12_isSign (aR (rLoc 0) (aI (iK 43) aNil)))) (sSeq (sUpd 12 7 gT2 (· + ·) (rLoc 0) (iK 1)) (sSeq (sCallV 12 (mX12_products P) (aR (rLoc 0) (aI (iLoc 1) aNil))) (sCallV 12 mX12_emit (aR (rLoc 0) (aI (iCond (cZ zne (iLoc 2)) (iK 4) (iK 5)) (aI (iK 0) aNil))))))) (sForget 2))
theorem olX12_sums_1 (g : GT) (kp : Nat) (P : MX) (hkp : 20 ≤ kp) (hP : MK g kp yX12_takePart cX12_takePart 4 none P) {pcB pcC : Nat} : Sok g (tX12_sums (kp + 2)) 5 62 pcB pcC (lX12_sums_1 P) := (Sok.loop (pc := 5) (pc1 := 23) (pc2 := 5) (pcN := 62) (Cok.or (pc1 := 14) (Cok.zero (pc1 := 11) (pcT := 23) (pcF := 14) (EokI.iCallV (pc1 := 8) (Aok.aR (pc1 := 6) (EokR.aload_n (q := 0) dX12_sums_5) (Aok.aI (pc1 := 8) (EokI.bipush (v := 43) dX12_sums_6 (by decide)) Aok.nil)) (kX12_isSign g) rfl ykX12_isSign vkX12_151 (show _ ≤ kp + 2 by omega) (by decide) dX12_sums_8) (JZ.neT (tgt := 23) dX12_sums_11 (by decide))) (Cok.zero (pc1 := 20) (pcT := 23) (pcF := 62) (EokI.iCallV (pc1 := 17) (Aok.aR (pc1 := 15) (EokR.aload_n (q := 0) dX12_sums_14) (Aok.aI (pc1 := 17) (EokI.bipush (v := 45) dX12_sums_15 (by decide)) Aok.nil)) (kX12_isSign g) rfl ykX12_isSign vkX12_151 (show _ ≤ kp + 2 by omega) (by decide) dX12_sums_17) (JZ.neF (tgt := 62) dX12_sums_20 (by decide)))) (by decide) (Sok.seq (pc1 := 30) (Sok.setI_n (q := 2) (pc1 := 29) (EokI.iCallV (pc1 := 26) (Aok.aR (pc1 := 24) (EokR.aload_n (q := 0) dX12_sums_23) (Aok.aI (pc1 := 26) (EokI.bipush (v := 43) dX12_sums_24 (by decide)) Aok.nil)) (kX12_isSign g) rfl ykX12_isSign vkX12_151 (show _ ≤ kp + 2 by omega) (by decide) dX12_sums_26) (by decide) dX12_sums_29 (show 2 < 3 by decide)) (Sok.seq (pc1 := 40) (Sok.upd (ci := 12) (T := TX12) (NN := 27) (tt := tyX12) (j := 7) (pc1 := 31) (pc2 := 36) (EokR.aload_n (q := 0) dX12_sums_30) dX12_sums_31 dX12_sums_32 (EokI.iconst (v := 1) dX12_sums_35 (by decide)) (OPI.iadd dX12_sums_36) (by decide) rfl wsX12_in tyX12_ok nmX12 (by decide) flX12_145 rfl rfl dX12_sums_37) (Sok.seq (pc1 := 45) (Sok.sCallV (pc1 := 42) (Aok.aR (pc1 := 41) (EokR.aload_n (q := 0) dX12_sums_40) (Aok.aI (pc1 := 42) (EokI.iload_n (q := 1) dX12_sums_41) Aok.nil)) (by decide) (kX12_products g kp P hkp hP) rfl ykX12_products vkX12_228 (show _ ≤ kp + 2 by omega) (by decide) dX12_sums_42) (Sok.goto (pc1 := 59) (pcN := 5) (Sok.sCallV (pc1 := 56) (Aok.aR (pc1 := 46) (EokR.aload_n (q := 0) dX12_sums_45) (Aok.aI (pc1 := 55) (EokI.cond' (pc1 := 50) (pc2 := 54) (Cok.zero (pc1 := 47) (pcT := 50) (pcF := 54) (EokI.iload_n (q := 2) dX12_sums_46) (JZ.neF (tgt := 54) dX12_sums_47 (by decide))) (EokI.goto (pc1 := 51) (pc2 := 55) (EokI.iconst (v := 4) dX12_sums_50 (by decide)) dX12_sums_51 (by decide)) (EokI.iconst (v := 5) dX12_sums_54 (by decide))) (Aok.aI (pc1 := 56) (EokI.iconst (v := 0) dX12_sums_55 (by decide)) Aok.nil))) (by decide) (kX12_emit g) rfl ykX12_emit vkX12_211 (show _ ≤ kp + 2 by omega) (by decide) dX12_sums_56) dX12_sums_59 (by decide))))) Sok.forget)
def mX12_sums (P : MX) : MX := bodyOf 3 (sSeq (sSeq (sCallV 12 (mX12_products P) (aR (rLoc 0) (aI (iLoc 1) aNil))) (lX12_sums_1 P)) sRetV)
theorem kX12_sums (g : GT) (kp : Nat) (P : MX) (hkp : 20 ≤ kp) (hP : MK g kp yX12_takePart cX12_takePart 4 none P) : MK g (kp + 2) yX12_sums cX12_sums 3 none (mX12_sums P) := MK.of (pcN := 99999) (pcB := 0) (pcC := 0) rfl (Sok.seq (pc1 := 62) (Sok.seq (pc1 := 5) (Sok.sCallV (pc1 := 2) (Aok.aR (pc1 := 1) (EokR.aload_n (q := 0) dX12_sums_0) (Aok.aI (pc1 := 2) (EokI.iload_n (q := 1) dX12_sums_1) Aok.nil)) (by decide) (kX12_products g kp P hkp hP) rfl ykX12_products vkX12_228 (show _ ≤ kp + 2 by omega) (by decide) dX12_sums_2) (olX12_sums_1 g kp P hkp hP)) (Sok.retV dX12_sums_62 rfl))
/-! PassHutsModel.test(I)V -/
theorem dX12_test_0 : decode cX12_test 0 = .ok (.aload_n 0, 1) := by decide +kernel
theorem dX12_test_1 : decode cX12_test 1 = .ok (.iload_n 1, 1) := by decide +kernel
theorem dX12_test_2 : decode cX12_test 2 = .ok (.invokevirtual 222, 3) := by decide +kernel
theorem dX12_test_5 : decode cX12_test 5 = .ok (.aload_n 0, 1) := by decide +kernel
theorem dX12_test_6 : decode cX12_test 6 = .ok (.bipush 60, 2) := by decide +kernel
theorem dX12_test_8 : decode cX12_test 8 = .ok (.invokevirtual 151, 3) := by decide +kernel
theorem dX12_test_11 : decode cX12_test 11 = .ok (.istore_n 2, 1) := by decide +kernel
theorem dX12_test_12 : decode cX12_test 12 = .ok (.aload_n 0, 1) := by decide +kernel
theorem dX12_test_13 : decode cX12_test 13 = .ok (.bipush 60, 2) := by decide +kernel
theorem dX12_test_15 : decode cX12_test 15 = .ok (.invokevirtual 225, 3) := by decide +kernel
theorem dX12_test_18 : decode cX12_test 18 = .ok (.ifCond .ne 12, 3) := by decide +kernel
theorem dX12_test_21 : decode cX12_test 21 = .ok (.aload_n 0, 1) := by decide +kernel
theorem dX12_test_22 : decode cX12_test 22 = .ok (.bipush 61, 2) := by decide +kernel
theorem dX12_test_24 : decode cX12_test 24 = .ok (.invokevirtual 225, 3) := by decide +kernel
theorem dX12_test_27 : decode cX12_test 27 = .ok (.ifCond .eq 24, 3) := by decide +kernel
theorem dX12_test_30 : decode cX12_test 30 = .ok (.aload_n 0, 1) := by decide +kernel
theorem dX12_test_31 : decode cX12_test 31 = .ok (.iload_n 1, 1) := by decide +kernel
theorem dX12_test_32 : decode cX12_test 32 = .ok (.invokevirtual 222, 3) := by decide +kernel
theorem dX12_test_35 : decode cX12_test 35 = .ok (.aload_n 0, 1) := by decide +kernel
theorem dX12_test_36 : decode cX12_test 36 = .ok (.iload_n 2, 1) := by decide +kernel
theorem dX12_test_37 : decode cX12_test 37 = .ok (.ifCond .eq 8, 3) := by decide +kernel
theorem dX12_test_40 : decode cX12_test 40 = .ok (.bipush 7, 2) := by decide +kernel
theorem dX12_test_42 : decode cX12_test 42 = .ok (.goto 5, 3) := by decide +kernel
theorem dX12_test_45 : decode cX12_test 45 = .ok (.bipush 8, 2) := by decide +kernel
theorem dX12_test_47 : decode cX12_test 47 = .ok (.iconst 0, 1) := by decide +kernel
theorem dX12_test_48 : decode cX12_test 48 = .ok (.invokevirtual 211, 3) := by decide +kernel
theorem dX12_test_51 : decode cX12_test 51 = .ok (.return_, 1) := by decide +kernel
abbrev tX12_test (k : Nat) : MT := (RX12, cX12_test, 3, k, none)
def mX12_test (P : MX) : MX := bodyOf 3 (sSeq (sSeq (sCallV 12 (mX12_sums P) (aR (rLoc 0) (aI (iLoc 1) aNil))) (sSeq (sSetI 2 (iCallV 12 mX12_isSign (aR (rLoc 0) (aI (iK 60) aNil)))) (sIf (cOr (cZ zne (iCallV 12 mX12_hasSign (aR (rLoc 0) (aI (iK 60) aNil)))) (cZ zne (iCallV 12 mX12_hasSign (aR (rLoc 0) (aI (iK 61) aNil))))) (sSeq (sCallV 12 (mX12_sums P) (aR (rLoc 0) (aI (iLoc 1) aNil))) (sCallV 12 mX12_emit (aR (rLoc 0) (aI (iCond (cZ zne (iLoc 2)) (iK 7) (iK 8)) (aI (iK 0) aNil))))) sSkip))) sRetV)
theorem kX12_test (g : GT) (kp : Nat) (P : MX) (hkp : 20 ≤ kp) (hP : MK g kp yX12_takePart cX12_takePart 4 none P) : MK g (kp + 3) yX12_test cX12_test 3 none (mX12_test P) := MK.of (pcN := 99999) (pcB := 0) (pcC := 0) rfl (Sok.seq (pc1 := 51) (Sok.seq (pc1 := 5) (Sok.sCallV (pc1 := 2) (Aok.aR (pc1 := 1) (EokR.aload_n (q := 0) dX12_test_0) (Aok.aI (pc1 := 2) (EokI.iload_n (q := 1) dX12_test_1) Aok.nil)) (by decide) (kX12_sums g kp P hkp hP) rfl ykX12_sums vkX12_222 (show _ ≤ kp + 3 by omega) (by decide) dX12_test_2) (Sok.seq (pc1 := 12) (Sok.setI_n (q := 2) (pc1 := 11) (EokI.iCallV (pc1 := 8) (Aok.aR (pc1 := 6) (EokR.aload_n (q := 0) dX12_test_5) (Aok.aI (pc1 := 8) (EokI.bipush (v := 60) dX12_test_6 (by decide)) Aok.nil)) (kX12_isSign g) rfl ykX12_isSign vkX12_151 (show _ ≤ kp + 3 by omega) (by decide) dX12_test_8) (by decide) dX12_test_11 (show 2 < 3 by decide)) (Sok.ite (pc1 := 30) (pc2 := 51) (Cok.or (pc1 := 21) (Cok.zero (pc1 := 18) (pcT := 30) (pcF := 21) (EokI.iCallV (pc1 := 15) (Aok.aR (pc1 := 13) (EokR.aload_n (q := 0) dX12_test_12) (Aok.aI (pc1 := 15) (EokI.bipush (v := 60) dX12_test_13 (by decide)) Aok.nil)) (kX12_hasSign g) rfl ykX12_hasSign vkX12_225 (show _ ≤ kp + 3 by omega) (by decide) dX12_test_15) (JZ.neT (tgt := 30) dX12_test_18 (by decide))) (Cok.zero (pc1 := 27) (pcT := 30) (pcF := 51) (EokI.iCallV (pc1 := 24) (Aok.aR (pc1 := 22) (EokR.aload_n (q := 0) dX12_test_21) (Aok.aI (pc1 := 24) (EokI.bipush (v := 61) dX12_test_22 (by decide)) Aok.nil)) (kX12_hasSign g) rfl ykX12_hasSign vkX12_225 (show _ ≤ kp + 3 by omega) (by decide) dX12_test_24) (JZ.neF (tgt := 51) dX12_test_27 (by decide)))) (by decide) (Sok.seq (pc1 := 35) (Sok.sCallV (pc1 := 32) (Aok.aR (pc1 := 31) (EokR.aload_n (q := 0) dX12_test_30) (Aok.aI (pc1 := 32) (EokI.iload_n (q := 1) dX12_test_31) Aok.nil)) (by decide) (kX12_sums g kp P hkp hP) rfl ykX12_sums vkX12_222 (show _ ≤ kp + 3 by omega) (by decide) dX12_test_32) (Sok.sCallV (pc1 := 48) (Aok.aR (pc1 := 36) (EokR.aload_n (q := 0) dX12_test_35) (Aok.aI (pc1 := 47) (EokI.cond' (pc1 := 40) (pc2 := 45) (Cok.zero (pc1 := 37) (pcT := 40) (pcF := 45) (EokI.iload_n (q := 2) dX12_test_36) (JZ.neF (tgt := 45) dX12_test_37 (by decide))) (EokI.goto (pc1 := 42) (pc2 := 47) (EokI.bipush (v := 7) dX12_test_40 (by decide)) dX12_test_42 (by decide)) (EokI.bipush (v := 8) dX12_test_45 (by decide))) (Aok.aI (pc1 := 48) (EokI.iconst (v := 0) dX12_test_47 (by decide)) Aok.nil))) (by decide) (kX12_emit g) rfl ykX12_emit vkX12_211 (show _ ≤ kp + 3 by omega) (by decide) dX12_test_48)) (Sok.skip (pc := 51))))) (Sok.retV dX12_test_51 rfl))
/-! PassHutsModel.whole(I)V -/
theorem dX12_whole_0 : decode cX12_whole 0 = .ok (.aload_n 0, 1) := by decide +kernel
theorem dX12_whole_1 : decode cX12_whole 1 = .ok (.iload_n 1, 1) := by decide +kernel
theorem dX12_whole_2 : decode cX12_whole 2 = .ok (.invokevirtual 219, 3) := by decide +kernel
theorem dX12_whole_5 : decode cX12_whole 5 = .ok (.aload_n 0, 1) := by decide +kernel
theorem dX12_whole_6 : decode cX12_whole 6 = .ok (.bipush 13, 2) := by decide +kernel
theorem dX12_whole_8 : decode cX12_whole 8 = .ok (.invokevirtual 157, 3) := by decide +kernel
theorem dX12_whole_11 : decode cX12_whole 11 = .ok (.ifCond .ne 12, 3) := by decide +kernel
theorem dX12_whole_14 : decode cX12_whole 14 = .ok (.aload_n 0, 1) := by decide +kernel
theorem dX12_whole_15 : decode cX12_whole 15 = .ok (.bipush 14, 2) := by decide +kernel
theorem dX12_whole_17 : decode cX12_whole 17 = .ok (.invokevirtual 157, 3) := by decide +kernel
theorem dX12_whole_20 : decode cX12_whole 20 = .ok (.ifCond .eq 44, 3) := by decide +kernel
theorem dX12_whole_23 : decode cX12_whole 23 = .ok (.aload_n 0, 1) := by decide +kernel
theorem dX12_whole_24 : decode cX12_whole 24 = .ok (.bipush 13, 2) := by decide +kernel
theorem dX12_whole_26 : decode cX12_whole 26 = .ok (.invokevirtual 157, 3) := by decide +kernel
theorem dX12_whole_29 : decode cX12_whole 29 = .ok (.istore_n 2, 1) := by decide +kernel
theorem dX12_whole_30 : decode cX12_whole 30 = .ok (.aload_n 0, 1) := by decide +kernel
theorem dX12_whole_31 : decode cX12_whole 31 = .ok (.dup, 1) := by decide +kernel
theorem dX12_whole_32 : decode cX12_whole 32 = .ok (.getfield 145, 3) := by decide +kernel
theorem dX12_whole_35 : decode cX12_whole 35 = .ok (.iconst 1, 1) := by decide +kernel
theorem dX12_whole_36 : decode cX12_whole 36 = .ok (.iadd, 1) := by decide +kernel
theorem dX12_whole_37 : decode cX12_whole 37 = .ok (.putfield 145, 3) := by decide +kernel
theorem dX12_whole_40 : decode cX12_whole 40 = .ok (.aload_n 0, 1) := by decide +kernel
theorem dX12_whole_41 : decode cX12_whole 41 = .ok (.iload_n 1, 1) := by decide +kernel
theorem dX12_whole_42 : decode cX12_whole 42 = .ok (.invokevirtual 219, 3) := by decide +kernel
theorem dX12_whole_45 : decode cX12_whole 45 = .ok (.aload_n 0, 1) := by decide +kernel
theorem dX12_whole_46 : decode cX12_whole 46 = .ok (.iload_n 2, 1) := by decide +kernel
theorem dX12_whole_47 : decode cX12_whole 47 = .ok (.ifCond .eq 8, 3) := by decide +kernel
theorem dX12_whole_50 : decode cX12_whole 50 = .ok (.bipush 9, 2) := by decide +kernel
theorem dX12_whole_52 : decode cX12_whole 52 = .ok (.goto 5, 3) := by decide +kernel
theorem dX12_whole_55 : decode cX12_whole 55 = .ok (.bipush 10, 2) := by decide +kernel
theorem dX12_whole_57 : decode cX12_whole 57 = .ok (.iconst 0, 1) := by decide +kernel
theorem dX12_whole_58 : decode cX12_whole 58 = .ok (.invokevirtual 211, 3) := by decide +kernel
theorem dX12_whole_61 : decode cX12_whole 61 = .ok (.goto (-56), 3) := by decide +kernel
theorem dX12_whole_64 : decode cX12_whole 64 = .ok (.return_, 1) := by decide +kernel
abbrev tX12_whole (k : Nat) : MT := (RX12, cX12_whole, 3, k, none)
def lX12_whole_1 (P : MX) : SX := (sLoop (cOr (cZ zne (iCallV 12 mX12_isWord (aR (rLoc 0) (aI (iK 13) aNil)))) (cZ zne (iCallV 12 mX12_isWord (aR (rLoc 0) (aI (iK 14) aNil))))) (sSeq (sSetI 2 (iCallV 12 mX12_isWord (aR (rLoc 0) (aI (iK 13) aNil)))) (sSeq (sUpd 12 7 gT2 (· + ·) (rLoc 0) (iK 1)) (sSeq (sCallV 12 (mX12_test P) (aR (rLoc 0) (aI (iLoc 1) aNil))) (sCallV 12 mX12_emit (aR (rLoc 0) (aI (iCond (cZ zne (iLoc 2)) (iK 9) (iK 10)) (aI (iK 0) aNil))))))) (sForget 2))
theorem olX12_whole_1 (g : GT) (kp : Nat) (P : MX) (hkp : 20 ≤ kp) (hP : MK g kp yX12_takePart cX12_takePart 4 none P) {pcB pcC : Nat} : Sok g (tX12_whole (kp + 4)) 5 64 pcB pcC (lX12_whole_1 P) := (Sok.loop (pc := 5) (pc1 := 23) (pc2 := 5) (pcN := 64) (Cok.or (pc1 := 14) (Cok.zero (pc1 := 11) (pcT := 23) (pcF := 14) (EokI.iCallV (pc1 := 8) (Aok.aR (pc1 := 6) (EokR.aload_n (q := 0) dX12_whole_5) (Aok.aI (pc1 := 8) (EokI.bipush (v := 13) dX12_whole_6 (by decide)) Aok.nil)) (kX12_isWord g) rfl ykX12_isWord vkX12_157 (show _ ≤ kp + 4 by omega) (by decide) dX12_whole_8) (JZ.neT (tgt := 23) dX12_whole_11 (by decide))) (Cok.zero (pc1 := 20) (pcT := 23) (pcF := 64) (EokI.iCallV (pc1 := 17) (Aok.aR (pc1 := 15) (EokR.aload_n (q := 0) dX12_whole_14) (Aok.aI (pc1 := 17) (EokI.bipush (v := 14) dX12_whole_15 (by decide)) Aok.nil)) (kX12_isWord g) rfl ykX12_isWord vkX12_157 (show _ ≤ kp + 4 by omega) (by decide) dX12_whole_17) (JZ.neF (tgt := 64) dX12_whole_20 (by decide)))) (by decide) (Sok.seq (pc1 := 30) (Sok.setI_n (q := 2) (pc1 := 29) (EokI.iCallV (pc1 := 26) (Aok.aR (pc1 := 24) (EokR.aload_n (q := 0) dX12_whole_23) (Aok.aI (pc1 := 26) (EokI.bipush (v := 13) dX12_whole_24 (by decide)) Aok.nil)) (kX12_isWord g) rfl ykX12_isWord vkX12_157 (show _ ≤ kp + 4 by omega) (by decide) dX12_whole_26) (by decide) dX12_whole_29 (show 2 < 3 by decide)) (Sok.seq (pc1 := 40) (Sok.upd (ci := 12) (T := TX12) (NN := 27) (tt := tyX12) (j := 7) (pc1 := 31) (pc2 := 36) (EokR.aload_n (q := 0) dX12_whole_30) dX12_whole_31 dX12_whole_32 (EokI.iconst (v := 1) dX12_whole_35 (by decide)) (OPI.iadd dX12_whole_36) (by decide) rfl wsX12_in tyX12_ok nmX12 (by decide) flX12_145 rfl rfl dX12_whole_37) (Sok.seq (pc1 := 45) (Sok.sCallV (pc1 := 42) (Aok.aR (pc1 := 41) (EokR.aload_n (q := 0) dX12_whole_40) (Aok.aI (pc1 := 42) (EokI.iload_n (q := 1) dX12_whole_41) Aok.nil)) (by decide) (kX12_test g kp P hkp hP) rfl ykX12_test vkX12_219 (show _ ≤ kp + 4 by omega) (by decide) dX12_whole_42) (Sok.goto (pc1 := 61) (pcN := 5) (Sok.sCallV (pc1 := 58) (Aok.aR (pc1 := 46) (EokR.aload_n (q := 0) dX12_whole_45) (Aok.aI (pc1 := 57) (EokI.cond' (pc1 := 50) (pc2 := 55) (Cok.zero (pc1 := 47) (pcT := 50) (pcF := 55) (EokI.iload_n (q := 2) dX12_whole_46) (JZ.neF (tgt := 55) dX12_whole_47 (by decide))) (EokI.goto (pc1 := 52) (pc2 := 57) (EokI.bipush (v := 9) dX12_whole_50 (by decide)) dX12_whole_52 (by decide)) (EokI.bipush (v := 10) dX12_whole_55 (by decide))) (Aok.aI (pc1 := 58) (EokI.iconst (v := 0) dX12_whole_57 (by decide)) Aok.nil))) (by decide) (kX12_emit g) rfl ykX12_emit vkX12_211 (show _ ≤ kp + 4 by omega) (by decide) dX12_whole_58) dX12_whole_61 (by decide))))) Sok.forget)
def mX12_whole (P : MX) : MX := bodyOf 3 (sSeq (sSeq (sCallV 12 (mX12_test P) (aR (rLoc 0) (aI (iLoc 1) aNil))) (lX12_whole_1 P)) sRetV)
theorem kX12_whole (g : GT) (kp : Nat) (P : MX) (hkp : 20 ≤ kp) (hP : MK g kp yX12_takePart cX12_takePart 4 none P) : MK g (kp + 4) yX12_whole cX12_whole 3 none (mX12_whole P) := MK.of (pcN := 99999) (pcB := 0) (pcC := 0) rfl (Sok.seq (pc1 := 64) (Sok.seq (pc1 := 5) (Sok.sCallV (pc1 := 2) (Aok.aR (pc1 := 1) (EokR.aload_n (q := 0) dX12_whole_0) (Aok.aI (pc1 := 2) (EokI.iload_n (q := 1) dX12_whole_1) Aok.nil)) (by decide) (kX12_test g kp P hkp hP) rfl ykX12_test vkX12_219 (show _ ≤ kp + 4 by omega) (by decide) dX12_whole_2) (olX12_whole_1 g kp P hkp hP)) (Sok.retV dX12_whole_64 rfl))
/-! PassHutsModel.takePart(I)V -/
theorem dX12_takePart_0 : decode cX12_takePart 0 = .ok (.aload_n 0, 1) := by decide +kernel
theorem dX12_takePart_1 : decode cX12_takePart 1 = .ok (.getfield 148, 3) := by decide +kernel
theorem dX12_takePart_4 : decode cX12_takePart 4 = .ok (.ifCond .le 4, 3) := by decide +kernel
theorem dX12_takePart_7 : decode cX12_takePart 7 = .ok (.return_, 1) := by decide +kernel
theorem dX12_takePart_8 : decode cX12_takePart 8 = .ok (.aload_n 0, 1) := by decide +kernel
theorem dX12_takePart_9 : decode cX12_takePart 9 = .ok (.getfield 24, 3) := by decide +kernel
theorem dX12_takePart_12 : decode cX12_takePart 12 = .ok (.aload_n 0, 1) := by decide +kernel
theorem dX12_takePart_13 : decode cX12_takePart 13 = .ok (.getfield 145, 3) := by decide +kernel
theorem dX12_takePart_16 : decode cX12_takePart 16 = .ok (.iaload, 1) := by decide +kernel
theorem dX12_takePart_17 : decode cX12_takePart 17 = .ok (.iconst 2, 1) := by decide +kernel
theorem dX12_takePart_18 : decode cX12_takePart 18 = .ok (.if_icmp .ne 7, 3) := by decide +kernel
theorem dX12_takePart_21 : decode cX12_takePart 21 = .ok (.iconst 1, 1) := by decide +kernel
theorem dX12_takePart_22 : decode cX12_takePart 22 = .ok (.goto 4, 3) := by decide +kernel
theorem dX12_takePart_25 : decode cX12_takePart 25 = .ok (.iconst 0, 1) := by decide +kernel
theorem dX12_takePart_26 : decode cX12_takePart 26 = .ok (.istore_n 2, 1) := by decide +kernel
theorem dX12_takePart_27 : decode cX12_takePart 27 = .ok (.aload_n 0, 1) := by decide +kernel
theorem dX12_takePart_28 : decode cX12_takePart 28 = .ok (.bipush 15, 2) := by decide +kernel
theorem dX12_takePart_30 : decode cX12_takePart 30 = .ok (.iconst 4, 1) := by decide +kernel
theorem dX12_takePart_31 : decode cX12_takePart 31 = .ok (.invokevirtual 170, 3) := by decide +kernel
theorem dX12_takePart_34 : decode cX12_takePart 34 = .ok (.istore_n 3, 1) := by decide +kernel
theorem dX12_takePart_35 : decode cX12_takePart 35 = .ok (.iload_n 3, 1) := by decide +kernel
theorem dX12_takePart_36 : decode cX12_takePart 36 = .ok (.ifCond .ge 33, 3) := by decide +kernel
theorem dX12_takePart_39 : decode cX12_takePart 39 = .ok (.iload_n 2, 1) := by decide +kernel
theorem dX12_takePart_40 : decode cX12_takePart 40 = .ok (.ifCond .ne 29, 3) := by decide +kernel
theorem dX12_takePart_43 : decode cX12_takePart 43 = .ok (.aload_n 0, 1) := by decide +kernel
theorem dX12_takePart_44 : decode cX12_takePart 44 = .ok (.bipush 40, 2) := by decide +kernel
theorem dX12_takePart_46 : decode cX12_takePart 46 = .ok (.invokevirtual 151, 3) := by decide +kernel
theorem dX12_takePart_49 : decode cX12_takePart 49 = .ok (.ifCond .ne 20, 3) := by decide +kernel
theorem dX12_takePart_52 : decode cX12_takePart 52 = .ok (.aload_n 0, 1) := by decide +kernel
theorem dX12_takePart_53 : decode cX12_takePart 53 = .ok (.bipush 12, 2) := by decide +kernel
theorem dX12_takePart_55 : decode cX12_takePart 55 = .ok (.invokevirtual 157, 3) := by decide +kernel
theorem dX12_takePart_58 : decode cX12_takePart 58 = .ok (.ifCond .ne 11, 3) := by decide +kernel
theorem dX12_takePart_61 : decode cX12_takePart 61 = .ok (.aload_n 0, 1) := by decide +kernel
theorem dX12_takePart_62 : decode cX12_takePart 62 = .ok (.iconst 1, 1) := by decide +kernel
theorem dX12_takePart_63 : decode cX12_takePart 63 = .ok (.invokevirtual 154, 3) := by decide +kernel
theorem dX12_takePart_66 : decode cX12_takePart 66 = .ok (.goto 13, 3) := by decide +kernel
theorem dX12_takePart_69 : decode cX12_takePart 69 = .ok (.iload_n 1, 1) := by decide +kernel
theorem dX12_takePart_70 : decode cX12_takePart 70 = .ok (.iconst 5, 1) := by decide +kernel
theorem dX12_takePart_71 : decode cX12_takePart 71 = .ok (.if_icmp .ne 8, 3) := by decide +kernel
theorem dX12_takePart_74 : decode cX12_takePart 74 = .ok (.aload_n 0, 1) := by decide +kernel
theorem dX12_takePart_75 : decode cX12_takePart 75 = .ok (.iconst 5, 1) := by decide +kernel
theorem dX12_takePart_76 : decode cX12_takePart 76 = .ok (.invokevirtual 154, 3) := by decide +kernel
theorem dX12_takePart_79 : decode cX12_takePart 79 = .ok (.aload_n 0, 1) := by decide +kernel
theorem dX12_takePart_80 : decode cX12_takePart 80 = .ok (.getfield 148, 3) := by decide +kernel
theorem dX12_takePart_83 : decode cX12_takePart 83 = .ok (.ifCond .le 4, 3) := by decide +kernel
theorem dX12_takePart_86 : decode cX12_takePart 86 = .ok (.return_, 1) := by decide +kernel
theorem dX12_takePart_87 : decode cX12_takePart 87 = .ok (.aload_n 0, 1) := by decide +kernel
theorem dX12_takePart_88 : decode cX12_takePart 88 = .ok (.bipush 12, 2) := by decide +kernel
theorem dX12_takePart_90 : decode cX12_takePart 90 = .ok (.invokevirtual 160, 3) := by decide +kernel
theorem dX12_takePart_93 : decode cX12_takePart 93 = .ok (.ifCond .eq 19, 3) := by decide +kernel
theorem dX12_takePart_96 : decode cX12_takePart 96 = .ok (.aload_n 0, 1) := by decide +kernel
theorem dX12_takePart_97 : decode cX12_takePart 97 = .ok (.iload_n 1, 1) := by decide +kernel
theorem dX12_takePart_98 : decode cX12_takePart 98 = .ok (.iconst 1, 1) := by decide +kernel
theorem dX12_takePart_99 : decode cX12_takePart 99 = .ok (.iadd, 1) := by decide +kernel
theorem dX12_takePart_100 : decode cX12_takePart 100 = .ok (.invokevirtual 230, 3) := by decide +kernel
theorem dX12_takePart_103 : decode cX12_takePart 103 = .ok (.aload_n 0, 1) := by decide +kernel
theorem dX12_takePart_104 : decode cX12_takePart 104 = .ok (.iconst 3, 1) := by decide +kernel
theorem dX12_takePart_105 : decode cX12_takePart 105 = .ok (.iconst 0, 1) := by decide +kernel
theorem dX12_takePart_106 : decode cX12_takePart 106 = .ok (.invokevirtual 211, 3) := by decide +kernel
theorem dX12_takePart_109 : decode cX12_takePart 109 = .ok (.goto 69, 3) := by decide +kernel
theorem dX12_takePart_112 : decode cX12_takePart 112 = .ok (.aload_n 0, 1) := by decide +kernel
theorem dX12_takePart_113 : decode cX12_takePart 113 = .ok (.bipush 40, 2) := by decide +kernel
theorem dX12_takePart_115 : decode cX12_takePart 115 = .ok (.invokevirtual 225, 3) := by decide +kernel
theorem dX12_takePart_118 : decode cX12_takePart 118 = .ok (.ifCond .eq 19, 3) := by decide +kernel
theorem dX12_takePart_121 : decode cX12_takePart 121 = .ok (.aload_n 0, 1) := by decide +kernel
theorem dX12_takePart_122 : decode cX12_takePart 122 = .ok (.iload_n 1, 1) := by decide +kernel
theorem dX12_takePart_123 : decode cX12_takePart 123 = .ok (.iconst 1, 1) := by decide +kernel
theorem dX12_takePart_124 : decode cX12_takePart 124 = .ok (.iadd, 1) := by decide +kernel
theorem dX12_takePart_125 : decode cX12_takePart 125 = .ok (.invokevirtual 208, 3) := by decide +kernel
theorem dX12_takePart_128 : decode cX12_takePart 128 = .ok (.aload_n 0, 1) := by decide +kernel
theorem dX12_takePart_129 : decode cX12_takePart 129 = .ok (.bipush 41, 2) := by decide +kernel
theorem dX12_takePart_131 : decode cX12_takePart 131 = .ok (.invokevirtual 195, 3) := by decide +kernel
theorem dX12_takePart_134 : decode cX12_takePart 134 = .ok (.goto 44, 3) := by decide +kernel
theorem dX12_takePart_137 : decode cX12_takePart 137 = .ok (.aload_n 0, 1) := by decide +kernel
theorem dX12_takePart_138 : decode cX12_takePart 138 = .ok (.iload_n 2, 1) := by decide +kernel
theorem dX12_takePart_139 : decode cX12_takePart 139 = .ok (.ifCond .eq 7, 3) := by decide +kernel
theorem dX12_takePart_142 : decode cX12_takePart 142 = .ok (.iconst 1, 1) := by decide +kernel
theorem dX12_takePart_143 : decode cX12_takePart 143 = .ok (.goto 4, 3) := by decide +kernel
theorem dX12_takePart_146 : decode cX12_takePart 146 = .ok (.iconst 2, 1) := by decide +kernel
theorem dX12_takePart_147 : decode cX12_takePart 147 = .ok (.iload_n 2, 1) := by decide +kernel
theorem dX12_takePart_148 : decode cX12_takePart 148 = .ok (.ifCond .eq 16, 3) := by decide +kernel
theorem dX12_takePart_151 : decode cX12_takePart 151 = .ok (.aload_n 0, 1) := by decide +kernel
theorem dX12_takePart_152 : decode cX12_takePart 152 = .ok (.getfield 30, 3) := by decide +kernel
theorem dX12_takePart_155 : decode cX12_takePart 155 = .ok (.aload_n 0, 1) := by decide +kernel
theorem dX12_takePart_156 : decode cX12_takePart 156 = .ok (.getfield 145, 3) := by decide +kernel
theorem dX12_takePart_159 : decode cX12_takePart 159 = .ok (.laload, 1) := by decide +kernel
theorem dX12_takePart_160 : decode cX12_takePart 160 = .ok (.l2i, 1) := by decide +kernel
theorem dX12_takePart_161 : decode cX12_takePart 161 = .ok (.goto 4, 3) := by decide +kernel
theorem dX12_takePart_164 : decode cX12_takePart 164 = .ok (.iload_n 3, 1) := by decide +kernel
theorem dX12_takePart_165 : decode cX12_takePart 165 = .ok (.invokevirtual 211, 3) := by decide +kernel
theorem dX12_takePart_168 : decode cX12_takePart 168 = .ok (.aload_n 0, 1) := by decide +kernel
theorem dX12_takePart_169 : decode cX12_takePart 169 = .ok (.dup, 1) := by decide +kernel
theorem dX12_takePart_170 : decode cX12_takePart 170 = .ok (.getfield 145, 3) := by decide +kernel
theorem dX12_takePart_173 : decode cX12_takePart 173 = .ok (.iconst 1, 1) := by decide +kernel
theorem dX12_takePart_174 : decode cX12_takePart 174 = .ok (.iadd, 1) := by decide +kernel
theorem dX12_takePart_175 : decode cX12_takePart 175 = .ok (.putfield 145, 3) := by decide +kernel
theorem dX12_takePart_178 : decode cX12_takePart 178 = .ok (.return_, 1) := by decide +kernel
abbrev tX12_takePart (k : Nat) : MT := (RX12, cX12_takePart, 4, k, none)
def bX12_takePart (P : MX) : SX := (sSeq (sSeq (sIf (cZ zgt (iGet 12 8 (rLoc 0))) sRetV sSkip) (sSeq (sSetI 2 (iBool (cB req (iALd (rGet 12 4 (rLoc 0)) (iGet 12 7 (rLoc 0))) (iK 2)))) (sSeq (sSetI 3 (iCallV 12 mX12_wordHere (aR (rLoc 0) (aI (iK 15) (aI (iK 4) aNil))))) (sSeq (sIf (cAnd (cAnd (cAnd (cZ zlt (iLoc 3)) (cNot (cZ zne (iLoc 2)))) (cNot (cZ zne (iCallV 12 mX12_isSign (aR (rLoc 0) (aI (iK 40) aNil)))))) (cNot (cZ zne (iCallV 12 mX12_isWord (aR (rLoc 0) (aI (iK 12) aNil)))))) (sCallV 12 mX12_wrong (aR (rLoc 0) (aI (iK 1) aNil))) (sIf (cB req (iLoc 1) (iK 5)) (sCallV 12 mX12_wrong (aR (rLoc 0) (aI (iK 5) aNil))) sSkip)) (sSeq (sIf (cZ zgt (iGet 12 8 (rLoc 0))) sRetV sSkip) (sIf (cZ zne (iCallV 12 mX12_hasWord (aR (rLoc 0) (aI (iK 12) aNil)))) (sSeq (sCallV 12 P (aR (rLoc 0) (aI (iB gT2 (· + ·) (iLoc 1) (iK 1)) aNil))) (sCallV 12 mX12_emit (aR (rLoc 0) (aI (iK 3) (aI (iK 0) aNil))))) (sIf (cZ zne (iCallV 12 mX12_hasSign (aR (rLoc 0) (aI (iK 40) aNil)))) (sSeq (sCallV 12 (mX12_whole P) (aR (rLoc 0) (aI (iB gT2 (· + ·) (iLoc 1) (iK 1)) aNil))) (sCallV 12 mX12_takeSign (aR (rLoc 0) (aI (iK 41) aNil)))) (sSeq (sCallV 12 mX12_emit (aR (rLoc 0) (aI (iCond (cZ zne (iLoc 2)) (iK 1) (iK 2)) (aI (iCond (cZ zne (iLoc 2)) (iOfL (lALd (rGet 12 6 (rLoc 0)) (iGet 12 7 (rLoc 0)))) (iLoc 3)) aNil)))) (sUpd 12 7 gT2 (· + ·) (rLoc 0) (iK 1)))))))))) sRetV)
theorem kbX12_takePart (g : GT) (kp : Nat) (P : MX) (hkp : 20 ≤ kp) (hP : MK g kp yX12_takePart cX12_takePart 4 none P) : MK g (kp + 5) yX12_takePart cX12_takePart 4 none (bodyOf 4 (bX12_takePart P)) := MK.of (pcN := 99999) (pcB := 0) (pcC := 0) rfl (Sok.seq (pc1 := 178) (Sok.seq (pc1 := 8) (Sok.ite (pc1 := 7) (pc2 := 8) (Cok.zero (pc1 := 4) (pcT := 7) (pcF := 8) (EokI.getf (pc1 := 1) (j := 8) (ci := 12) (T := TX12) (N := 27) (EokR.aload_n (q := 0) dX12_takePart_0) rfl wsX12_in (by decide) flX12_148 dX12_takePart_1) (JZ.gtF (tgt := 8) dX12_takePart_4 (by decide))) (by decide) (Sok.retV dX12_takePart_7 rfl) (Sok.skip (pc := 8))) (Sok.seq (pc1 := 27) (Sok.setI_n (q := 2) (pc1 := 26) (EokI.cond' (pc1 := 21) (pc2 := 25) (Cok.cmp (pc1 := 17) (pc2 := 18) (pcT := 21) (pcF := 25) (EokI.iALd (pc1 := 12) (pc2 := 16) (EokR.getf (pc1 := 9) (j := 4) (ci := 12) (T := TX12) (N := 27) (EokR.aload_n (q := 0) dX12_takePart_8) rfl wsX12_in (by decide) flX12_24 dX12_takePart_9) (EokI.getf (pc1 := 13) (j := 7) (ci := 12) (T := TX12) (N := 27) (EokR.aload_n (q := 0) dX12_takePart_12) rfl wsX12_in (by decide) flX12_145 dX12_takePart_13) dX12_takePart_16) (EokI.iconst (v := 2) dX12_takePart_17 (by decide)) (JI.eqF (tgt := 25) dX12_takePart_18 (by decide))) (EokI.goto (pc1 := 22) (pc2 := 26) (EokI.iconst (v := 1) dX12_takePart_21 (by decide)) dX12_takePart_22 (by decide)) (EokI.iconst (v := 0) dX12_takePart_25 (by decide))) (by decide) dX12_takePart_26 (show 2 < 4 by decide)) (Sok.seq (pc1 := 35) (Sok.setI_n (q := 3) (pc1 := 34) (EokI.iCallV (pc1 := 31) (Aok.aR (pc1 := 28) (EokR.aload_n (q := 0) dX12_takePart_27) (Aok.aI (pc1 := 30) (EokI.bipush (v := 15) dX12_takePart_28 (by decide)) (Aok.aI (pc1 := 31) (EokI.iconst (v := 4) dX12_takePart_30 (by decide)) Aok.nil))) (kX12_wordHere g) rfl ykX12_wordHere vkX12_170 (show _ ≤ kp + 5 by omega) (by decide) dX12_takePart_31) (by decide) dX12_takePart_34 (show 3 < 4 by decide)) (Sok.seq (pc1 := 79) (Sok.ite (pc1 := 61) (pc2 := 69) (Cok.and (pc1 := 52) (Cok.and (pc1 := 43) (Cok.and (pc1 := 39) (Cok.zero (pc1 := 36) (pcT := 39) (pcF := 69) (EokI.iload_n (q := 3) dX12_takePart_35) (JZ.ltF (tgt := 69) dX12_takePart_36 (by decide))) (Cok.not (Cok.zero (pc1 := 40) (pcT := 69) (pcF := 43) (EokI.iload_n (q := 2) dX12_takePart_39) (JZ.neT (tgt := 69) dX12_takePart_40 (by decide))))) (Cok.not (Cok.zero (pc1 := 49) (pcT := 69) (pcF := 52) (EokI.iCallV (pc1 := 46) (Aok.aR (pc1 := 44) (EokR.aload_n (q := 0) dX12_takePart_43) (Aok.aI (pc1 := 46) (EokI.bipush (v := 40) dX12_takePart_44 (by decide)) Aok.nil)) (kX12_isSign g) rfl ykX12_isSign vkX12_151 (show _ ≤ kp + 5 by omega) (by decide) dX12_takePart_46) (JZ.neT (tgt := 69) dX12_takePart_49 (by decide))))) (Cok.not (Cok.zero (pc1 := 58) (pcT := 69) (pcF := 61) (EokI.iCallV (pc1 := 55) (Aok.aR (pc1 := 53) (EokR.aload_n (q := 0) dX12_takePart_52) (Aok.aI (pc1 := 55) (EokI.bipush (v := 12) dX12_takePart_53 (by decide)) Aok.nil)) (kX12_isWord g) rfl ykX12_isWord vkX12_157 (show _ ≤ kp + 5 by omega) (by decide) dX12_takePart_55) (JZ.neT (tgt := 69) dX12_takePart_58 (by decide))))) (by decide) (Sok.goto (pc1 := 66) (pcN := 79) (Sok.sCallV (pc1 := 63) (Aok.aR (pc1 := 62) (EokR.aload_n (q := 0) dX12_takePart_61) (Aok.aI (pc1 := 63) (EokI.iconst (v := 1) dX12_takePart_62 (by decide)) Aok.nil)) (by decide) (kX12_wrong g) rfl ykX12_wrong vkX12_154 (show _ ≤ kp + 5 by omega) (by decide) dX12_takePart_63) dX12_takePart_66 (by decide)) (Sok.ite (pc1 := 74) (pc2 := 79) (Cok.cmp (pc1 := 70) (pc2 := 71) (pcT := 74) (pcF := 79) (EokI.iload_n (q := 1) dX12_takePart_69) (EokI.iconst (v := 5) dX12_takePart_70 (by decide)) (JI.eqF (tgt := 79) dX12_takePart_71 (by decide))) (by decide) (Sok.sCallV (pc1 := 76) (Aok.aR (pc1 := 75) (EokR.aload_n (q := 0) dX12_takePart_74) (Aok.aI (pc1 := 76) (EokI.iconst (v := 5) dX12_takePart_75 (by decide)) Aok.nil)) (by decide) (kX12_wrong g) rfl ykX12_wrong vkX12_154 (show _ ≤ kp + 5 by omega) (by decide) dX12_takePart_76) (Sok.skip (pc := 79)))) (Sok.seq (pc1 := 87) (Sok.ite (pc1 := 86) (pc2 := 87) (Cok.zero (pc1 := 83) (pcT := 86) (pcF := 87) (EokI.getf (pc1 := 80) (j := 8) (ci := 12) (T := TX12) (N := 27) (EokR.aload_n (q := 0) dX12_takePart_79) rfl wsX12_in (by decide) flX12_148 dX12_takePart_80) (JZ.gtF (tgt := 87) dX12_takePart_83 (by decide))) (by decide) (Sok.retV dX12_takePart_86 rfl) (Sok.skip (pc := 87))) (Sok.ite (pc1 := 96) (pc2 := 112) (Cok.zero (pc1 := 93) (pcT := 96) (pcF := 112) (EokI.iCallV (pc1 := 90) (Aok.aR (pc1 := 88) (EokR.aload_n (q := 0) dX12_takePart_87) (Aok.aI (pc1 := 90) (EokI.bipush (v := 12) dX12_takePart_88 (by decide)) Aok.nil)) (kX12_hasWord g) rfl ykX12_hasWord vkX12_160 (show _ ≤ kp + 5 by omega) (by decide) dX12_takePart_90) (JZ.neF (tgt := 112) dX12_takePart_93 (by decide))) (by decide) (Sok.seq (pc1 := 103) (Sok.sCallV (pc1 := 100) (Aok.aR (pc1 := 97) (EokR.aload_n (q := 0) dX12_takePart_96) (Aok.aI (pc1 := 100) (EokI.bin (pc1 := 98) (pc2 := 99) (EokI.iload_n (q := 1) dX12_takePart_97) (EokI.iconst (v := 1) dX12_takePart_98 (by decide)) (OPI.iadd dX12_takePart_99)) Aok.nil)) (by decide) hP rfl ykX12_takePart vkX12_230 (show _ ≤ kp + 5 by omega) (by decide) dX12_takePart_100) (Sok.goto (pc1 := 109) (pcN := 178) (Sok.sCallV (pc1 := 106) (Aok.aR (pc1 := 104) (EokR.aload_n (q := 0) dX12_takePart_103) (Aok.aI (pc1 := 105) (EokI.iconst (v := 3) dX12_takePart_104 (by decide)) (Aok.aI (pc1 := 106) (EokI.iconst (v := 0) dX12_takePart_105 (by decide)) Aok.nil))) (by decide) (kX12_emit g) rfl ykX12_emit vkX12_211 (show _ ≤ kp + 5 by omega) (by decide) dX12_takePart_106) dX12_takePart_109 (by decide))) (Sok.ite (pc1 := 121) (pc2 := 137) (Cok.zero (pc1 := 118) (pcT := 121) (pcF := 137) (EokI.iCallV (pc1 := 115) (Aok.aR (pc1 := 113) (EokR.aload_n (q := 0) dX12_takePart_112) (Aok.aI (pc1 := 115) (EokI.bipush (v := 40) dX12_takePart_113 (by decide)) Aok.nil)) (kX12_hasSign g) rfl ykX12_hasSign vkX12_225 (show _ ≤ kp + 5 by omega) (by decide) dX12_takePart_115) (JZ.neF (tgt := 137) dX12_takePart_118 (by decide))) (by decide) (Sok.seq (pc1 := 128) (Sok.sCallV (pc1 := 125) (Aok.aR (pc1 := 122) (EokR.aload_n (q := 0) dX12_takePart_121) (Aok.aI (pc1 := 125) (EokI.bin (pc1 := 123) (pc2 := 124) (EokI.iload_n (q := 1) dX12_takePart_122) (EokI.iconst (v := 1) dX12_takePart_123 (by decide)) (OPI.iadd dX12_takePart_124)) Aok.nil)) (by decide) (kX12_whole g kp P hkp hP) rfl ykX12_whole vkX12_208 (show _ ≤ kp + 5 by omega) (by decide) dX12_takePart_125) (Sok.goto (pc1 := 134) (pcN := 178) (Sok.sCallV (pc1 := 131) (Aok.aR (pc1 := 129) (EokR.aload_n (q := 0) dX12_takePart_128) (Aok.aI (pc1 := 131) (EokI.bipush (v := 41) dX12_takePart_129 (by decide)) Aok.nil)) (by decide) (kX12_takeSign g) rfl ykX12_takeSign vkX12_195 (show _ ≤ kp + 5 by omega) (by decide) dX12_takePart_131) dX12_takePart_134 (by decide))) (Sok.seq (pc1 := 168) (Sok.sCallV (pc1 := 165) (Aok.aR (pc1 := 138) (EokR.aload_n (q := 0) dX12_takePart_137) (Aok.aI (pc1 := 147) (EokI.cond' (pc1 := 142) (pc2 := 146) (Cok.zero (pc1 := 139) (pcT := 142) (pcF := 146) (EokI.iload_n (q := 2) dX12_takePart_138) (JZ.neF (tgt := 146) dX12_takePart_139 (by decide))) (EokI.goto (pc1 := 143) (pc2 := 147) (EokI.iconst (v := 1) dX12_takePart_142 (by decide)) dX12_takePart_143 (by decide)) (EokI.iconst (v := 2) dX12_takePart_146 (by decide))) (Aok.aI (pc1 := 165) (EokI.cond' (pc1 := 151) (pc2 := 164) (Cok.zero (pc1 := 148) (pcT := 151) (pcF := 164) (EokI.iload_n (q := 2) dX12_takePart_147) (JZ.neF (tgt := 164) dX12_takePart_148 (by decide))) (EokI.goto (pc1 := 161) (pc2 := 165) (EokI.l2i (pc1 := 160) (EokL.lALd (pc1 := 155) (pc2 := 159) (EokR.getf (pc1 := 152) (j := 6) (ci := 12) (T := TX12) (N := 27) (EokR.aload_n (q := 0) dX12_takePart_151) rfl wsX12_in (by decide) flX12_30 dX12_takePart_152) (EokI.getf (pc1 := 156) (j := 7) (ci := 12) (T := TX12) (N := 27) (EokR.aload_n (q := 0) dX12_takePart_155) rfl wsX12_in (by decide) flX12_145 dX12_takePart_156) dX12_takePart_159) dX12_takePart_160) dX12_takePart_161 (by decide)) (EokI.iload_n (q := 3) dX12_takePart_164)) Aok.nil))) (by decide) (kX12_emit g) rfl ykX12_emit vkX12_211 (show _ ≤ kp + 5 by omega) (by decide) dX12_takePart_165) (Sok.upd (ci := 12) (T := TX12) (NN := 27) (tt := tyX12) (j := 7) (pc1 := 169) (pc2 := 174) (EokR.aload_n (q := 0) dX12_takePart_168) dX12_takePart_169 dX12_takePart_170 (EokI.iconst (v := 1) dX12_takePart_173 (by decide)) (OPI.iadd dX12_takePart_174) (by decide) rfl wsX12_in tyX12_ok nmX12 (by decide) flX12_145 rfl rfl dX12_takePart_175))))))))) (Sok.retV dX12_takePart_178 rfl))
def mX12_takePart : Nat → MX
  | 0 => fun _ _ _ => False
  | d + 1 => bodyOf 4 (bX12_takePart (mX12_takePart d))
theorem kX12_takePart (g : GT) : ∀ d : Nat, MK g (20 + 5 * d) yX12_takePart cX12_takePart 4 none (mX12_takePart d)
  | 0 => fun _ _ _ _ hF => hF.elim
  | d + 1 => kbX12_takePart g (20 + 5 * d) _ (by omega) (kX12_takePart g d)
/-! PassHutsModel.readBars()V -/
theorem dX12_readBars_0 : decode cX12_readBars 0 = .ok (.aload_n 0, 1) := by decide +kernel
theorem dX12_readBars_1 : decode cX12_readBars 1 = .ok (.iconst 4, 1) := by decide +kernel
theorem dX12_readBars_2 : decode cX12_readBars 2 = .ok (.invokevirtual 157, 3) := by decide +kernel
theorem dX12_readBars_5 : decode cX12_readBars 5 = .ok (.ifCond .ne 11, 3) := by decide +kernel
theorem dX12_readBars_8 : decode cX12_readBars 8 = .ok (.aload_n 0, 1) := by decide +kernel
theorem dX12_readBars_9 : decode cX12_readBars 9 = .ok (.iconst 1, 1) := by decide +kernel
theorem dX12_readBars_10 : decode cX12_readBars 10 = .ok (.invokevirtual 154, 3) := by decide +kernel
theorem dX12_readBars_13 : decode cX12_readBars 13 = .ok (.goto 18, 3) := by decide +kernel
theorem dX12_readBars_16 : decode cX12_readBars 16 = .ok (.aload_n 0, 1) := by decide +kernel
theorem dX12_readBars_17 : decode cX12_readBars 17 = .ok (.getfield 75, 3) := by decide +kernel
theorem dX12_readBars_20 : decode cX12_readBars 20 = .ok (.bipush 42, 2) := by decide +kernel
theorem dX12_readBars_22 : decode cX12_readBars 22 = .ok (.iaload, 1) := by decide +kernel
theorem dX12_readBars_23 : decode cX12_readBars 23 = .ok (.ifCond .lt 8, 3) := by decide +kernel
theorem dX12_readBars_26 : decode cX12_readBars 26 = .ok (.aload_n 0, 1) := by decide +kernel
theorem dX12_readBars_27 : decode cX12_readBars 27 = .ok (.iconst 3, 1) := by decide +kernel
theorem dX12_readBars_28 : decode cX12_readBars 28 = .ok (.invokevirtual 154, 3) := by decide +kernel
theorem dX12_readBars_31 : decode cX12_readBars 31 = .ok (.aload_n 0, 1) := by decide +kernel
theorem dX12_readBars_32 : decode cX12_readBars 32 = .ok (.getfield 148, 3) := by decide +kernel
theorem dX12_readBars_35 : decode cX12_readBars 35 = .ok (.ifCond .le 4, 3) := by decide +kernel
theorem dX12_readBars_38 : decode cX12_readBars 38 = .ok (.return_, 1) := by decide +kernel
theorem dX12_readBars_39 : decode cX12_readBars 39 = .ok (.aload_n 0, 1) := by decide +kernel
theorem dX12_readBars_40 : decode cX12_readBars 40 = .ok (.dup, 1) := by decide +kernel
theorem dX12_readBars_41 : decode cX12_readBars 41 = .ok (.getfield 145, 3) := by decide +kernel
theorem dX12_readBars_44 : decode cX12_readBars 44 = .ok (.iconst 1, 1) := by decide +kernel
theorem dX12_readBars_45 : decode cX12_readBars 45 = .ok (.iadd, 1) := by decide +kernel
theorem dX12_readBars_46 : decode cX12_readBars 46 = .ok (.putfield 145, 3) := by decide +kernel
theorem dX12_readBars_49 : decode cX12_readBars 49 = .ok (.aload_n 0, 1) := by decide +kernel
theorem dX12_readBars_50 : decode cX12_readBars 50 = .ok (.getfield 75, 3) := by decide +kernel
theorem dX12_readBars_53 : decode cX12_readBars 53 = .ok (.bipush 42, 2) := by decide +kernel
theorem dX12_readBars_55 : decode cX12_readBars 55 = .ok (.aload_n 0, 1) := by decide +kernel
theorem dX12_readBars_56 : decode cX12_readBars 56 = .ok (.getfield 183, 3) := by decide +kernel
theorem dX12_readBars_59 : decode cX12_readBars 59 = .ok (.iastore, 1) := by decide +kernel
theorem dX12_readBars_60 : decode cX12_readBars 60 = .ok (.aload_n 0, 1) := by decide +kernel
theorem dX12_readBars_61 : decode cX12_readBars 61 = .ok (.iconst 0, 1) := by decide +kernel
theorem dX12_readBars_62 : decode cX12_readBars 62 = .ok (.invokevirtual 208, 3) := by decide +kernel
theorem dX12_readBars_65 : decode cX12_readBars 65 = .ok (.aload_n 0, 1) := by decide +kernel
theorem dX12_readBars_66 : decode cX12_readBars 66 = .ok (.iconst 0, 1) := by decide +kernel
theorem dX12_readBars_67 : decode cX12_readBars 67 = .ok (.iconst 0, 1) := by decide +kernel
theorem dX12_readBars_68 : decode cX12_readBars 68 = .ok (.invokevirtual 211, 3) := by decide +kernel
theorem dX12_readBars_71 : decode cX12_readBars 71 = .ok (.return_, 1) := by decide +kernel
abbrev tX12_readBars (k : Nat) : MT := (RX12, cX12_readBars, 1, k, none)
def mX12_readBars : MX := bodyOf 1 (sSeq (sSeq (sIf (cNot (cZ zne (iCallV 12 mX12_isWord (aR (rLoc 0) (aI (iK 4) aNil))))) (sCallV 12 mX12_wrong (aR (rLoc 0) (aI (iK 1) aNil))) (sIf (cZ zge (iALd (rGet 12 10 (rLoc 0)) (iK 42))) (sCallV 12 mX12_wrong (aR (rLoc 0) (aI (iK 3) aNil))) sSkip)) (sSeq (sIf (cZ zgt (iGet 12 8 (rLoc 0))) sRetV sSkip) (sSeq (sUpd 12 7 gT2 (· + ·) (rLoc 0) (iK 1)) (sSeq (sASt 0 narI (rGet 12 10 (rLoc 0)) (iK 42) (iGet 12 12 (rLoc 0))) (sSeq (sCallV 12 (mX12_whole (mX12_takePart 7)) (aR (rLoc 0) (aI (iK 0) aNil))) (sCallV 12 mX12_emit (aR (rLoc 0) (aI (iK 0) (aI (iK 0) aNil))))))))) sRetV)
theorem kX12_readBars (g : GT) : MK g 60 yX12_readBars cX12_readBars 1 none mX12_readBars := MK.of (pcN := 99999) (pcB := 0) (pcC := 0) rfl (Sok.seq (pc1 := 71) (Sok.seq (pc1 := 31) (Sok.ite (pc1 := 8) (pc2 := 16) (Cok.not (Cok.zero (pc1 := 5) (pcT := 16) (pcF := 8) (EokI.iCallV (pc1 := 2) (Aok.aR (pc1 := 1) (EokR.aload_n (q := 0) dX12_readBars_0) (Aok.aI (pc1 := 2) (EokI.iconst (v := 4) dX12_readBars_1 (by decide)) Aok.nil)) (kX12_isWord g) rfl ykX12_isWord vkX12_157 (by decide) (by decide) dX12_readBars_2) (JZ.neT (tgt := 16) dX12_readBars_5 (by decide)))) (by decide) (Sok.goto (pc1 := 13) (pcN := 31) (Sok.sCallV (pc1 := 10) (Aok.aR (pc1 := 9) (EokR.aload_n (q := 0) dX12_readBars_8) (Aok.aI (pc1 := 10) (EokI.iconst (v := 1) dX12_readBars_9 (by decide)) Aok.nil)) (by decide) (kX12_wrong g) rfl ykX12_wrong vkX12_154 (by decide) (by decide) dX12_readBars_10) dX12_readBars_13 (by decide)) (Sok.ite (pc1 := 26) (pc2 := 31) (Cok.zero (pc1 := 23) (pcT := 26) (pcF := 31) (EokI.iALd (pc1 := 20) (pc2 := 22) (EokR.getf (pc1 := 17) (j := 10) (ci := 12) (T := TX12) (N := 27) (EokR.aload_n (q := 0) dX12_readBars_16) rfl wsX12_in (by decide) flX12_75 dX12_readBars_17) (EokI.bipush (v := 42) dX12_readBars_20 (by decide)) dX12_readBars_22) (JZ.geF (tgt := 31) dX12_readBars_23 (by decide))) (by decide) (Sok.sCallV (pc1 := 28) (Aok.aR (pc1 := 27) (EokR.aload_n (q := 0) dX12_readBars_26) (Aok.aI (pc1 := 28) (EokI.iconst (v := 3) dX12_readBars_27 (by decide)) Aok.nil)) (by decide) (kX12_wrong g) rfl ykX12_wrong vkX12_154 (by decide) (by decide) dX12_readBars_28) (Sok.skip (pc := 31)))) (Sok.seq (pc1 := 39) (Sok.ite (pc1 := 38) (pc2 := 39) (Cok.zero (pc1 := 35) (pcT := 38) (pcF := 39) (EokI.getf (pc1 := 32) (j := 8) (ci := 12) (T := TX12) (N := 27) (EokR.aload_n (q := 0) dX12_readBars_31) rfl wsX12_in (by decide) flX12_148 dX12_readBars_32) (JZ.gtF (tgt := 39) dX12_readBars_35 (by decide))) (by decide) (Sok.retV dX12_readBars_38 rfl) (Sok.skip (pc := 39))) (Sok.seq (pc1 := 49) (Sok.upd (ci := 12) (T := TX12) (NN := 27) (tt := tyX12) (j := 7) (pc1 := 40) (pc2 := 45) (EokR.aload_n (q := 0) dX12_readBars_39) dX12_readBars_40 dX12_readBars_41 (EokI.iconst (v := 1) dX12_readBars_44 (by decide)) (OPI.iadd dX12_readBars_45) (by decide) rfl wsX12_in tyX12_ok nmX12 (by decide) flX12_145 rfl rfl dX12_readBars_46) (Sok.seq (pc1 := 60) (Sok.iASt (pc1 := 53) (pc2 := 55) (pc3 := 59) (EokR.getf (pc1 := 50) (j := 10) (ci := 12) (T := TX12) (N := 27) (EokR.aload_n (q := 0) dX12_readBars_49) rfl wsX12_in (by decide) flX12_75 dX12_readBars_50) (EokI.bipush (v := 42) dX12_readBars_53 (by decide)) (EokI.getf (pc1 := 56) (j := 12) (ci := 12) (T := TX12) (N := 27) (EokR.aload_n (q := 0) dX12_readBars_55) rfl wsX12_in (by decide) flX12_183 dX12_readBars_56) (by decide) dX12_readBars_59) (Sok.seq (pc1 := 65) (Sok.sCallV (pc1 := 62) (Aok.aR (pc1 := 61) (EokR.aload_n (q := 0) dX12_readBars_60) (Aok.aI (pc1 := 62) (EokI.iconst (v := 0) dX12_readBars_61 (by decide)) Aok.nil)) (by decide) (kX12_whole g 55 (mX12_takePart 7) (by decide) (kX12_takePart g 7)) rfl ykX12_whole vkX12_208 (by decide) (by decide) dX12_readBars_62) (Sok.sCallV (pc1 := 68) (Aok.aR (pc1 := 66) (EokR.aload_n (q := 0) dX12_readBars_65) (Aok.aI (pc1 := 67) (EokI.iconst (v := 0) dX12_readBars_66 (by decide)) (Aok.aI (pc1 := 68) (EokI.iconst (v := 0) dX12_readBars_67 (by decide)) Aok.nil))) (by decide) (kX12_emit g) rfl ykX12_emit vkX12_211 (by decide) (by decide) dX12_readBars_68)))))) (Sok.retV dX12_readBars_71 rfl))
/-! PassHutsModel.laysTold()V -/
theorem dX12_laysTold_0 : decode cX12_laysTold 0 = .ok (.iconst 0, 1) := by decide +kernel
theorem dX12_laysTold_1 : decode cX12_laysTold 1 = .ok (.istore_n 1, 1) := by decide +kernel
theorem dX12_laysTold_2 : decode cX12_laysTold 2 = .ok (.iload_n 1, 1) := by decide +kernel
theorem dX12_laysTold_3 : decode cX12_laysTold 3 = .ok (.iconst 5, 1) := by decide +kernel
theorem dX12_laysTold_4 : decode cX12_laysTold 4 = .ok (.if_icmp .ge 33, 3) := by decide +kernel
theorem dX12_laysTold_7 : decode cX12_laysTold 7 = .ok (.aload_n 0, 1) := by decide +kernel
theorem dX12_laysTold_8 : decode cX12_laysTold 8 = .ok (.getfield 100, 3) := by decide +kernel
theorem dX12_laysTold_11 : decode cX12_laysTold 11 = .ok (.iload_n 1, 1) := by decide +kernel
theorem dX12_laysTold_12 : decode cX12_laysTold 12 = .ok (.iload_n 1, 1) := by decide +kernel
theorem dX12_laysTold_13 : decode cX12_laysTold 13 = .ok (.aload_n 0, 1) := by decide +kernel
theorem dX12_laysTold_14 : decode cX12_laysTold 14 = .ok (.invokevirtual 215, 3) := by decide +kernel
theorem dX12_laysTold_17 : decode cX12_laysTold 17 = .ok (.if_icmp .ge 12, 3) := by decide +kernel
theorem dX12_laysTold_20 : decode cX12_laysTold 20 = .ok (.aload_n 0, 1) := by decide +kernel
theorem dX12_laysTold_21 : decode cX12_laysTold 21 = .ok (.iload_n 1, 1) := by decide +kernel
theorem dX12_laysTold_22 : decode cX12_laysTold 22 = .ok (.iconst 1, 1) := by decide +kernel
theorem dX12_laysTold_23 : decode cX12_laysTold 23 = .ok (.invokevirtual 236, 3) := by decide +kernel
theorem dX12_laysTold_26 : decode cX12_laysTold 26 = .ok (.goto 4, 3) := by decide +kernel
theorem dX12_laysTold_29 : decode cX12_laysTold 29 = .ok (.iconst 0, 1) := by decide +kernel
theorem dX12_laysTold_30 : decode cX12_laysTold 30 = .ok (.iastore, 1) := by decide +kernel
theorem dX12_laysTold_31 : decode cX12_laysTold 31 = .ok (.iinc 1 1, 3) := by decide +kernel
theorem dX12_laysTold_34 : decode cX12_laysTold 34 = .ok (.goto (-32), 3) := by decide +kernel
theorem dX12_laysTold_37 : decode cX12_laysTold 37 = .ok (.return_, 1) := by decide +kernel
abbrev tX12_laysTold (k : Nat) : MT := (RX12, cX12_laysTold, 2, k, none)
def lX12_laysTold_1 : SX := (sLoop (cB rlt (iLoc 1) (iK 5)) (sASt 0 narI (rGet 12 20 (rLoc 0)) (iLoc 1) (iCond (cB rlt (iLoc 1) (iCallV 12 mX12_huts (aR (rLoc 0) aNil))) (iCallV 12 mX12_hutOf (aR (rLoc 0) (aI (iLoc 1) (aI (iK 1) aNil)))) (iK 0))) (sInc 1 1))
theorem olX12_laysTold_1 (g : GT) {pcB pcC : Nat} : Sok g (tX12_laysTold 1) 2 37 pcB pcC (lX12_laysTold_1) := (Sok.loop (pc := 2) (pc1 := 7) (pc2 := 31) (pcN := 37) (Cok.cmp (pc1 := 3) (pc2 := 4) (pcT := 7) (pcF := 37) (EokI.iload_n (q := 1) dX12_laysTold_2) (EokI.iconst (v := 5) dX12_laysTold_3 (by decide)) (JI.ltF (tgt := 37) dX12_laysTold_4 (by decide))) (by decide) (Sok.iASt (pc1 := 11) (pc2 := 12) (pc3 := 30) (EokR.getf (pc1 := 8) (j := 20) (ci := 12) (T := TX12) (N := 27) (EokR.aload_n (q := 0) dX12_laysTold_7) rfl wsX12_in (by decide) flX12_100 dX12_laysTold_8) (EokI.iload_n (q := 1) dX12_laysTold_11) (EokI.cond' (pc1 := 20) (pc2 := 29) (Cok.cmp (pc1 := 13) (pc2 := 17) (pcT := 20) (pcF := 29) (EokI.iload_n (q := 1) dX12_laysTold_12) (EokI.iCallV (pc1 := 14) (Aok.aR (pc1 := 14) (EokR.aload_n (q := 0) dX12_laysTold_13) Aok.nil) (kX12_huts g) rfl ykX12_huts vkX12_215 (by decide) (by decide) dX12_laysTold_14) (JI.ltF (tgt := 29) dX12_laysTold_17 (by decide))) (EokI.goto (pc1 := 26) (pc2 := 30) (EokI.iCallV (pc1 := 23) (Aok.aR (pc1 := 21) (EokR.aload_n (q := 0) dX12_laysTold_20) (Aok.aI (pc1 := 22) (EokI.iload_n (q := 1) dX12_laysTold_21) (Aok.aI (pc1 := 23) (EokI.iconst (v := 1) dX12_laysTold_22 (by decide)) Aok.nil))) (kX12_hutOf g) rfl ykX12_hutOf vkX12_236 (by decide) (by decide) dX12_laysTold_23) dX12_laysTold_26 (by decide)) (EokI.iconst (v := 0) dX12_laysTold_29 (by decide))) (by decide) dX12_laysTold_30) (Sok.goto (pc1 := 34) (pcN := 2) (Sok.iinc (i := 1) (v := 1) dX12_laysTold_31 (show 1 < 2 by decide) (by decide)) dX12_laysTold_34 (by decide)))
def mX12_laysTold : MX := bodyOf 2 (sSeq (sSeq (sSeq (sSetI 1 (iK 0)) lX12_laysTold_1) (sForget 1)) sRetV)
theorem kX12_laysTold (g : GT) : MK g 1 yX12_laysTold cX12_laysTold 2 none mX12_laysTold := MK.of (pcN := 99999) (pcB := 0) (pcC := 0) rfl (Sok.seq (pc1 := 37) (Sok.seq (pc1 := 37) (Sok.seq (pc1 := 2) (Sok.setI_n (q := 1) (pc1 := 1) (EokI.iconst (v := 0) dX12_laysTold_0 (by decide)) (by decide) dX12_laysTold_1 (show 1 < 2 by decide)) (olX12_laysTold_1 g )) (Sok.forget (pc := 37))) (Sok.retV dX12_laysTold_37 rfl))
/-! PassHutsModel.begins()V -/
theorem dX12_begins_0 : decode cX12_begins 0 = .ok (.aload_n 0, 1) := by decide +kernel
theorem dX12_begins_1 : decode cX12_begins 1 = .ok (.invokevirtual 239, 3) := by decide +kernel
theorem dX12_begins_4 : decode cX12_begins 4 = .ok (.iconst 0, 1) := by decide +kernel
theorem dX12_begins_5 : decode cX12_begins 5 = .ok (.istore_n 1, 1) := by decide +kernel
theorem dX12_begins_6 : decode cX12_begins 6 = .ok (.iload_n 1, 1) := by decide +kernel
theorem dX12_begins_7 : decode cX12_begins 7 = .ok (.iconst 5, 1) := by decide +kernel
theorem dX12_begins_8 : decode cX12_begins 8 = .ok (.if_icmp .ge 21, 3) := by decide +kernel
theorem dX12_begins_11 : decode cX12_begins 11 = .ok (.aload_n 0, 1) := by decide +kernel
theorem dX12_begins_12 : decode cX12_begins 12 = .ok (.getfield 93, 3) := by decide +kernel
theorem dX12_begins_15 : decode cX12_begins 15 = .ok (.iload_n 1, 1) := by decide +kernel
theorem dX12_begins_16 : decode cX12_begins 16 = .ok (.aload_n 0, 1) := by decide +kernel
theorem dX12_begins_17 : decode cX12_begins 17 = .ok (.getfield 100, 3) := by decide +kernel
theorem dX12_begins_20 : decode cX12_begins 20 = .ok (.iload_n 1, 1) := by decide +kernel
theorem dX12_begins_21 : decode cX12_begins 21 = .ok (.iaload, 1) := by decide +kernel
theorem dX12_begins_22 : decode cX12_begins 22 = .ok (.iastore, 1) := by decide +kernel
theorem dX12_begins_23 : decode cX12_begins 23 = .ok (.iinc 1 1, 3) := by decide +kernel
theorem dX12_begins_26 : decode cX12_begins 26 = .ok (.goto (-20), 3) := by decide +kernel
theorem dX12_begins_29 : decode cX12_begins 29 = .ok (.aload_n 0, 1) := by decide +kernel
theorem dX12_begins_30 : decode cX12_begins 30 = .ok (.getfield 93, 3) := by decide +kernel
theorem dX12_begins_33 : decode cX12_begins 33 = .ok (.iconst 5, 1) := by decide +kernel
theorem dX12_begins_34 : decode cX12_begins 34 = .ok (.iconst 0, 1) := by decide +kernel
theorem dX12_begins_35 : decode cX12_begins 35 = .ok (.iastore, 1) := by decide +kernel
theorem dX12_begins_36 : decode cX12_begins 36 = .ok (.aload_n 0, 1) := by decide +kernel
theorem dX12_begins_37 : decode cX12_begins 37 = .ok (.getfield 93, 3) := by decide +kernel
theorem dX12_begins_40 : decode cX12_begins 40 = .ok (.bipush 6, 2) := by decide +kernel
theorem dX12_begins_42 : decode cX12_begins 42 = .ok (.iconst 0, 1) := by decide +kernel
theorem dX12_begins_43 : decode cX12_begins 43 = .ok (.iastore, 1) := by decide +kernel
theorem dX12_begins_44 : decode cX12_begins 44 = .ok (.aload_n 0, 1) := by decide +kernel
theorem dX12_begins_45 : decode cX12_begins 45 = .ok (.getfield 84, 3) := by decide +kernel
theorem dX12_begins_48 : decode cX12_begins 48 = .ok (.iconst 0, 1) := by decide +kernel
theorem dX12_begins_49 : decode cX12_begins 49 = .ok (.iconst 0, 1) := by decide +kernel
theorem dX12_begins_50 : decode cX12_begins 50 = .ok (.iastore, 1) := by decide +kernel
theorem dX12_begins_51 : decode cX12_begins 51 = .ok (.aload_n 0, 1) := by decide +kernel
theorem dX12_begins_52 : decode cX12_begins 52 = .ok (.iconst 0, 1) := by decide +kernel
theorem dX12_begins_53 : decode cX12_begins 53 = .ok (.putfield 242, 3) := by decide +kernel
theorem dX12_begins_56 : decode cX12_begins 56 = .ok (.aload_n 0, 1) := by decide +kernel
theorem dX12_begins_57 : decode cX12_begins 57 = .ok (.iconst 0, 1) := by decide +kernel
theorem dX12_begins_58 : decode cX12_begins 58 = .ok (.putfield 245, 3) := by decide +kernel
theorem dX12_begins_61 : decode cX12_begins 61 = .ok (.iconst 0, 1) := by decide +kernel
theorem dX12_begins_62 : decode cX12_begins 62 = .ok (.istore_n 1, 1) := by decide +kernel
theorem dX12_begins_63 : decode cX12_begins 63 = .ok (.iload_n 1, 1) := by decide +kernel
theorem dX12_begins_64 : decode cX12_begins 64 = .ok (.iconst 4, 1) := by decide +kernel
theorem dX12_begins_65 : decode cX12_begins 65 = .ok (.if_icmp .ge 16, 3) := by decide +kernel
theorem dX12_begins_68 : decode cX12_begins 68 = .ok (.aload_n 0, 1) := by decide +kernel
theorem dX12_begins_69 : decode cX12_begins 69 = .ok (.getfield 96, 3) := by decide +kernel
theorem dX12_begins_72 : decode cX12_begins 72 = .ok (.iload_n 1, 1) := by decide +kernel
theorem dX12_begins_73 : decode cX12_begins 73 = .ok (.iconst 0, 1) := by decide +kernel
theorem dX12_begins_74 : decode cX12_begins 74 = .ok (.bastore, 1) := by decide +kernel
theorem dX12_begins_75 : decode cX12_begins 75 = .ok (.iinc 1 1, 3) := by decide +kernel
theorem dX12_begins_78 : decode cX12_begins 78 = .ok (.goto (-15), 3) := by decide +kernel
theorem dX12_begins_81 : decode cX12_begins 81 = .ok (.return_, 1) := by decide +kernel
abbrev tX12_begins (k : Nat) : MT := (RX12, cX12_begins, 2, k, none)
def lX12_begins_1 : SX := (sLoop (cB rlt (iLoc 1) (iK 5)) (sASt 0 narI (rGet 12 17 (rLoc 0)) (iLoc 1) (iALd (rGet 12 20 (rLoc 0)) (iLoc 1))) (sInc 1 1))
def lX12_begins_2 : SX := (sLoop (cB rlt (iLoc 1) (iK 4)) (sASt 3 narZ (rGet 12 19 (rLoc 0)) (iLoc 1) (iK 0)) (sInc 1 1))
theorem olX12_begins_2 (g : GT) {pcB pcC : Nat} : Sok g (tX12_begins 2) 63 81 pcB pcC (lX12_begins_2) := (Sok.loop (pc := 63) (pc1 := 68) (pc2 := 75) (pcN := 81) (Cok.cmp (pc1 := 64) (pc2 := 65) (pcT := 68) (pcF := 81) (EokI.iload_n (q := 1) dX12_begins_63) (EokI.iconst (v := 4) dX12_begins_64 (by decide)) (JI.ltF (tgt := 81) dX12_begins_65 (by decide))) (by decide) (Sok.zASt (pc1 := 72) (pc2 := 73) (pc3 := 74) (EokR.getf (pc1 := 69) (j := 19) (ci := 12) (T := TX12) (N := 27) (EokR.aload_n (q := 0) dX12_begins_68) rfl wsX12_in (by decide) flX12_96 dX12_begins_69) (EokI.iload_n (q := 1) dX12_begins_72) (EokI.iconst (v := 0) dX12_begins_73 (by decide)) (by decide) dX12_begins_74) (Sok.goto (pc1 := 78) (pcN := 63) (Sok.iinc (i := 1) (v := 1) dX12_begins_75 (show 1 < 2 by decide) (by decide)) dX12_begins_78 (by decide)))
theorem olX12_begins_1 (g : GT) {pcB pcC : Nat} : Sok g (tX12_begins 2) 6 29 pcB pcC (lX12_begins_1) := (Sok.loop (pc := 6) (pc1 := 11) (pc2 := 23) (pcN := 29) (Cok.cmp (pc1 := 7) (pc2 := 8) (pcT := 11) (pcF := 29) (EokI.iload_n (q := 1) dX12_begins_6) (EokI.iconst (v := 5) dX12_begins_7 (by decide)) (JI.ltF (tgt := 29) dX12_begins_8 (by decide))) (by decide) (Sok.iASt (pc1 := 15) (pc2 := 16) (pc3 := 22) (EokR.getf (pc1 := 12) (j := 17) (ci := 12) (T := TX12) (N := 27) (EokR.aload_n (q := 0) dX12_begins_11) rfl wsX12_in (by decide) flX12_93 dX12_begins_12) (EokI.iload_n (q := 1) dX12_begins_15) (EokI.iALd (pc1 := 20) (pc2 := 21) (EokR.getf (pc1 := 17) (j := 20) (ci := 12) (T := TX12) (N := 27) (EokR.aload_n (q := 0) dX12_begins_16) rfl wsX12_in (by decide) flX12_100 dX12_begins_17) (EokI.iload_n (q := 1) dX12_begins_20) dX12_begins_21) (by decide) dX12_begins_22) (Sok.goto (pc1 := 26) (pcN := 6) (Sok.iinc (i := 1) (v := 1) dX12_begins_23 (show 1 < 2 by decide) (by decide)) dX12_begins_26 (by decide)))
def mX12_begins : MX := bodyOf 2 (sSeq (sSeq (sCallV 12 mX12_laysTold (aR (rLoc 0) aNil)) (sSeq (sSeq (sSeq (sSetI 1 (iK 0)) lX12_begins_1) (sForget 1)) (sSeq (sASt 0 narI (rGet 12 17 (rLoc 0)) (iK 5) (iK 0)) (sSeq (sASt 0 narI (rGet 12 17 (rLoc 0)) (iK 6) (iK 0)) (sSeq (sASt 0 narI (rGet 12 14 (rLoc 0)) (iK 0) (iK 0)) (sSeq (sPutI 12 18 .int (rLoc 0) (iK 0)) (sSeq (sPutI 12 22 .int (rLoc 0) (iK 0)) (sSeq (sSeq (sSetI 1 (iK 0)) lX12_begins_2) (sForget 1))))))))) sRetV)
theorem kX12_begins (g : GT) : MK g 2 yX12_begins cX12_begins 2 none mX12_begins := MK.of (pcN := 99999) (pcB := 0) (pcC := 0) rfl (Sok.seq (pc1 := 81) (Sok.seq (pc1 := 4) (Sok.sCallV (pc1 := 1) (Aok.aR (pc1 := 1) (EokR.aload_n (q := 0) dX12_begins_0) Aok.nil) (by decide) (kX12_laysTold g) rfl ykX12_laysTold vkX12_239 (by decide) (by decide) dX12_begins_1) (Sok.seq (pc1 := 29) (Sok.seq (pc1 := 29) (Sok.seq (pc1 := 6) (Sok.setI_n (q := 1) (pc1 := 5) (EokI.iconst (v := 0) dX12_begins_4 (by decide)) (by decide) dX12_begins_5 (show 1 < 2 by decide)) (olX12_begins_1 g )) (Sok.forget (pc := 29))) (Sok.seq (pc1 := 36) (Sok.iASt (pc1 := 33) (pc2 := 34) (pc3 := 35) (EokR.getf (pc1 := 30) (j := 17) (ci := 12) (T := TX12) (N := 27) (EokR.aload_n (q := 0) dX12_begins_29) rfl wsX12_in (by decide) flX12_93 dX12_begins_30) (EokI.iconst (v := 5) dX12_begins_33 (by decide)) (EokI.iconst (v := 0) dX12_begins_34 (by decide)) (by decide) dX12_begins_35) (Sok.seq (pc1 := 44) (Sok.iASt (pc1 := 40) (pc2 := 42) (pc3 := 43) (EokR.getf (pc1 := 37) (j := 17) (ci := 12) (T := TX12) (N := 27) (EokR.aload_n (q := 0) dX12_begins_36) rfl wsX12_in (by decide) flX12_93 dX12_begins_37) (EokI.bipush (v := 6) dX12_begins_40 (by decide)) (EokI.iconst (v := 0) dX12_begins_42 (by decide)) (by decide) dX12_begins_43) (Sok.seq (pc1 := 51) (Sok.iASt (pc1 := 48) (pc2 := 49) (pc3 := 50) (EokR.getf (pc1 := 45) (j := 14) (ci := 12) (T := TX12) (N := 27) (EokR.aload_n (q := 0) dX12_begins_44) rfl wsX12_in (by decide) flX12_84 dX12_begins_45) (EokI.iconst (v := 0) dX12_begins_48 (by decide)) (EokI.iconst (v := 0) dX12_begins_49 (by decide)) (by decide) dX12_begins_50) (Sok.seq (pc1 := 56) (Sok.putI (ci := 12) (T := TX12) (NN := 27) (tt := tyX12) (j := 18) (pc1 := 52) (pc2 := 53) (ty := .int) (EokR.aload_n (q := 0) dX12_begins_51) (EokI.iconst (v := 0) dX12_begins_52 (by decide)) (by decide) rfl wsX12_in tyX12_ok nmX12 (by decide) flX12_242 rfl rfl dX12_begins_53) (Sok.seq (pc1 := 61) (Sok.putI (ci := 12) (T := TX12) (NN := 27) (tt := tyX12) (j := 22) (pc1 := 57) (pc2 := 58) (ty := .int) (EokR.aload_n (q := 0) dX12_begins_56) (EokI.iconst (v := 0) dX12_begins_57 (by decide)) (by decide) rfl wsX12_in tyX12_ok nmX12 (by decide) flX12_245 rfl rfl dX12_begins_58) (Sok.seq (pc1 := 81) (Sok.seq (pc1 := 63) (Sok.setI_n (q := 1) (pc1 := 62) (EokI.iconst (v := 0) dX12_begins_61 (by decide)) (by decide) dX12_begins_62 (show 1 < 2 by decide)) (olX12_begins_2 g )) (Sok.forget (pc := 81)))))))))) (Sok.retV dX12_begins_81 rfl))
/-! PassHutsModel.hills()I -/
theorem dX12_hills_0 : decode cX12_hills 0 = .ok (.aload_n 0, 1) := by decide +kernel
theorem dX12_hills_1 : decode cX12_hills 1 = .ok (.iconst 0, 1) := by decide +kernel
theorem dX12_hills_2 : decode cX12_hills 2 = .ok (.putfield 1, 3) := by decide +kernel
theorem dX12_hills_5 : decode cX12_hills 5 = .ok (.aload_n 0, 1) := by decide +kernel
theorem dX12_hills_6 : decode cX12_hills 6 = .ok (.invokevirtual 180, 3) := by decide +kernel
theorem dX12_hills_9 : decode cX12_hills 9 = .ok (.aload_n 0, 1) := by decide +kernel
theorem dX12_hills_10 : decode cX12_hills 10 = .ok (.iconst 0, 1) := by decide +kernel
theorem dX12_hills_11 : decode cX12_hills 11 = .ok (.putfield 183, 3) := by decide +kernel
theorem dX12_hills_14 : decode cX12_hills 14 = .ok (.aload_n 0, 1) := by decide +kernel
theorem dX12_hills_15 : decode cX12_hills 15 = .ok (.bipush 40, 2) := by decide +kernel
theorem dX12_hills_17 : decode cX12_hills 17 = .ok (.invokevirtual 115, 3) := by decide +kernel
theorem dX12_hills_20 : decode cX12_hills 20 = .ok (.aload_n 0, 1) := by decide +kernel
theorem dX12_hills_21 : decode cX12_hills 21 = .ok (.getfield 148, 3) := by decide +kernel
theorem dX12_hills_24 : decode cX12_hills 24 = .ok (.ifCond .ne 58, 3) := by decide +kernel
theorem dX12_hills_27 : decode cX12_hills 27 = .ok (.aload_n 0, 1) := by decide +kernel
theorem dX12_hills_28 : decode cX12_hills 28 = .ok (.getfield 24, 3) := by decide +kernel
theorem dX12_hills_31 : decode cX12_hills 31 = .ok (.aload_n 0, 1) := by decide +kernel
theorem dX12_hills_32 : decode cX12_hills 32 = .ok (.getfield 145, 3) := by decide +kernel
theorem dX12_hills_35 : decode cX12_hills 35 = .ok (.iaload, 1) := by decide +kernel
theorem dX12_hills_36 : decode cX12_hills 36 = .ok (.ifCond .eq 46, 3) := by decide +kernel
theorem dX12_hills_39 : decode cX12_hills 39 = .ok (.aload_n 0, 1) := by decide +kernel
theorem dX12_hills_40 : decode cX12_hills 40 = .ok (.iconst 0, 1) := by decide +kernel
theorem dX12_hills_41 : decode cX12_hills 41 = .ok (.invokevirtual 157, 3) := by decide +kernel
theorem dX12_hills_44 : decode cX12_hills 44 = .ok (.ifCond .eq 10, 3) := by decide +kernel
theorem dX12_hills_47 : decode cX12_hills 47 = .ok (.aload_n 0, 1) := by decide +kernel
theorem dX12_hills_48 : decode cX12_hills 48 = .ok (.invokevirtual 186, 3) := by decide +kernel
theorem dX12_hills_51 : decode cX12_hills 51 = .ok (.goto 22, 3) := by decide +kernel
theorem dX12_hills_54 : decode cX12_hills 54 = .ok (.aload_n 0, 1) := by decide +kernel
theorem dX12_hills_55 : decode cX12_hills 55 = .ok (.iconst 2, 1) := by decide +kernel
theorem dX12_hills_56 : decode cX12_hills 56 = .ok (.invokevirtual 157, 3) := by decide +kernel
theorem dX12_hills_59 : decode cX12_hills 59 = .ok (.ifCond .eq 10, 3) := by decide +kernel
theorem dX12_hills_62 : decode cX12_hills 62 = .ok (.aload_n 0, 1) := by decide +kernel
theorem dX12_hills_63 : decode cX12_hills 63 = .ok (.invokevirtual 189, 3) := by decide +kernel
theorem dX12_hills_66 : decode cX12_hills 66 = .ok (.goto 7, 3) := by decide +kernel
theorem dX12_hills_69 : decode cX12_hills 69 = .ok (.aload_n 0, 1) := by decide +kernel
theorem dX12_hills_70 : decode cX12_hills 70 = .ok (.invokevirtual 192, 3) := by decide +kernel
theorem dX12_hills_73 : decode cX12_hills 73 = .ok (.aload_n 0, 1) := by decide +kernel
theorem dX12_hills_74 : decode cX12_hills 74 = .ok (.bipush 59, 2) := by decide +kernel
theorem dX12_hills_76 : decode cX12_hills 76 = .ok (.invokevirtual 195, 3) := by decide +kernel
theorem dX12_hills_79 : decode cX12_hills 79 = .ok (.goto (-59), 3) := by decide +kernel
theorem dX12_hills_82 : decode cX12_hills 82 = .ok (.aload_n 0, 1) := by decide +kernel
theorem dX12_hills_83 : decode cX12_hills 83 = .ok (.getfield 148, 3) := by decide +kernel
theorem dX12_hills_86 : decode cX12_hills 86 = .ok (.ifCond .le 8, 3) := by decide +kernel
theorem dX12_hills_89 : decode cX12_hills 89 = .ok (.aload_n 0, 1) := by decide +kernel
theorem dX12_hills_90 : decode cX12_hills 90 = .ok (.getfield 148, 3) := by decide +kernel
theorem dX12_hills_93 : decode cX12_hills 93 = .ok (.ireturn, 1) := by decide +kernel
theorem dX12_hills_94 : decode cX12_hills 94 = .ok (.iconst 0, 1) := by decide +kernel
theorem dX12_hills_95 : decode cX12_hills 95 = .ok (.istore_n 1, 1) := by decide +kernel
theorem dX12_hills_96 : decode cX12_hills 96 = .ok (.iload_n 1, 1) := by decide +kernel
theorem dX12_hills_97 : decode cX12_hills 97 = .ok (.bipush 40, 2) := by decide +kernel
theorem dX12_hills_99 : decode cX12_hills 99 = .ok (.if_icmp .ge 24, 3) := by decide +kernel
theorem dX12_hills_102 : decode cX12_hills 102 = .ok (.aload_n 0, 1) := by decide +kernel
theorem dX12_hills_103 : decode cX12_hills 103 = .ok (.getfield 75, 3) := by decide +kernel
theorem dX12_hills_106 : decode cX12_hills 106 = .ok (.iload_n 1, 1) := by decide +kernel
theorem dX12_hills_107 : decode cX12_hills 107 = .ok (.aload_n 0, 1) := by decide +kernel
theorem dX12_hills_108 : decode cX12_hills 108 = .ok (.getfield 75, 3) := by decide +kernel
theorem dX12_hills_111 : decode cX12_hills 111 = .ok (.bipush 40, 2) := by decide +kernel
theorem dX12_hills_113 : decode cX12_hills 113 = .ok (.iload_n 1, 1) := by decide +kernel
theorem dX12_hills_114 : decode cX12_hills 114 = .ok (.iadd, 1) := by decide +kernel
theorem dX12_hills_115 : decode cX12_hills 115 = .ok (.iaload, 1) := by decide +kernel
theorem dX12_hills_116 : decode cX12_hills 116 = .ok (.iastore, 1) := by decide +kernel
theorem dX12_hills_117 : decode cX12_hills 117 = .ok (.iinc 1 1, 3) := by decide +kernel
theorem dX12_hills_120 : decode cX12_hills 120 = .ok (.goto (-24), 3) := by decide +kernel
theorem dX12_hills_123 : decode cX12_hills 123 = .ok (.iconst 0, 1) := by decide +kernel
theorem dX12_hills_124 : decode cX12_hills 124 = .ok (.istore_n 1, 1) := by decide +kernel
theorem dX12_hills_125 : decode cX12_hills 125 = .ok (.iload_n 1, 1) := by decide +kernel
theorem dX12_hills_126 : decode cX12_hills 126 = .ok (.aload_n 0, 1) := by decide +kernel
theorem dX12_hills_127 : decode cX12_hills 127 = .ok (.getfield 183, 3) := by decide +kernel
theorem dX12_hills_130 : decode cX12_hills 130 = .ok (.if_icmp .ge 25, 3) := by decide +kernel
theorem dX12_hills_133 : decode cX12_hills 133 = .ok (.aload_n 0, 1) := by decide +kernel
theorem dX12_hills_134 : decode cX12_hills 134 = .ok (.getfield 78, 3) := by decide +kernel
theorem dX12_hills_137 : decode cX12_hills 137 = .ok (.iload_n 1, 1) := by decide +kernel
theorem dX12_hills_138 : decode cX12_hills 138 = .ok (.aload_n 0, 1) := by decide +kernel
theorem dX12_hills_139 : decode cX12_hills 139 = .ok (.getfield 78, 3) := by decide +kernel
theorem dX12_hills_142 : decode cX12_hills 142 = .ok (.sipush 1100, 3) := by decide +kernel
theorem dX12_hills_145 : decode cX12_hills 145 = .ok (.iload_n 1, 1) := by decide +kernel
theorem dX12_hills_146 : decode cX12_hills 146 = .ok (.iadd, 1) := by decide +kernel
theorem dX12_hills_147 : decode cX12_hills 147 = .ok (.iaload, 1) := by decide +kernel
theorem dX12_hills_148 : decode cX12_hills 148 = .ok (.iastore, 1) := by decide +kernel
theorem dX12_hills_149 : decode cX12_hills 149 = .ok (.iinc 1 1, 3) := by decide +kernel
theorem dX12_hills_152 : decode cX12_hills 152 = .ok (.goto (-27), 3) := by decide +kernel
theorem dX12_hills_155 : decode cX12_hills 155 = .ok (.iconst 0, 1) := by decide +kernel
theorem dX12_hills_156 : decode cX12_hills 156 = .ok (.istore_n 1, 1) := by decide +kernel
theorem dX12_hills_157 : decode cX12_hills 157 = .ok (.iload_n 1, 1) := by decide +kernel
theorem dX12_hills_158 : decode cX12_hills 158 = .ok (.iconst 5, 1) := by decide +kernel
theorem dX12_hills_159 : decode cX12_hills 159 = .ok (.if_icmp .ge 23, 3) := by decide +kernel
theorem dX12_hills_162 : decode cX12_hills 162 = .ok (.aload_n 0, 1) := by decide +kernel
theorem dX12_hills_163 : decode cX12_hills 163 = .ok (.getfield 81, 3) := by decide +kernel
theorem dX12_hills_166 : decode cX12_hills 166 = .ok (.iload_n 1, 1) := by decide +kernel
theorem dX12_hills_167 : decode cX12_hills 167 = .ok (.aload_n 0, 1) := by decide +kernel
theorem dX12_hills_168 : decode cX12_hills 168 = .ok (.getfield 81, 3) := by decide +kernel
theorem dX12_hills_171 : decode cX12_hills 171 = .ok (.iconst 5, 1) := by decide +kernel
theorem dX12_hills_172 : decode cX12_hills 172 = .ok (.iload_n 1, 1) := by decide +kernel
theorem dX12_hills_173 : decode cX12_hills 173 = .ok (.iadd, 1) := by decide +kernel
theorem dX12_hills_174 : decode cX12_hills 174 = .ok (.laload, 1) := by decide +kernel
theorem dX12_hills_175 : decode cX12_hills 175 = .ok (.lastore, 1) := by decide +kernel
theorem dX12_hills_176 : decode cX12_hills 176 = .ok (.iinc 1 1, 3) := by decide +kernel
theorem dX12_hills_179 : decode cX12_hills 179 = .ok (.goto (-22), 3) := by decide +kernel
theorem dX12_hills_182 : decode cX12_hills 182 = .ok (.aload_n 0, 1) := by decide +kernel
theorem dX12_hills_183 : decode cX12_hills 183 = .ok (.invokevirtual 119, 3) := by decide +kernel
theorem dX12_hills_186 : decode cX12_hills 186 = .ok (.iconst 0, 1) := by decide +kernel
theorem dX12_hills_187 : decode cX12_hills 187 = .ok (.ireturn, 1) := by decide +kernel
abbrev tX12_hills (k : Nat) : MT := (RX12, cX12_hills, 2, k, (some .int))
def lX12_hills_1 : SX := (sLoop (cAnd (cZ zeq (iGet 12 8 (rLoc 0))) (cZ zne (iALd (rGet 12 4 (rLoc 0)) (iGet 12 7 (rLoc 0))))) (sSeq (sIf (cZ zne (iCallV 12 mX12_isWord (aR (rLoc 0) (aI (iK 0) aNil)))) (sCallV 12 mX12_readHut (aR (rLoc 0) aNil)) (sIf (cZ zne (iCallV 12 mX12_isWord (aR (rLoc 0) (aI (iK 2) aNil)))) (sCallV 12 mX12_readPath (aR (rLoc 0) aNil)) (sCallV 12 mX12_readBars (aR (rLoc 0) aNil)))) (sCallV 12 mX12_takeSign (aR (rLoc 0) (aI (iK 59) aNil)))) sSkip)
def lX12_hills_2 : SX := (sLoop (cB rlt (iLoc 1) (iK 40)) (sASt 0 narI (rGet 12 10 (rLoc 0)) (iLoc 1) (iALd (rGet 12 10 (rLoc 0)) (iB gT2 (· + ·) (iK 40) (iLoc 1)))) (sInc 1 1))
def lX12_hills_3 : SX := (sLoop (cB rlt (iLoc 1) (iGet 12 12 (rLoc 0))) (sASt 0 narI (rGet 12 11 (rLoc 0)) (iLoc 1) (iALd (rGet 12 11 (rLoc 0)) (iB gT2 (· + ·) (iK 1100) (iLoc 1)))) (sInc 1 1))
def lX12_hills_4 : SX := (sLoop (cB rlt (iLoc 1) (iK 5)) (sAStL (rGet 12 13 (rLoc 0)) (iLoc 1) (lALd (rGet 12 13 (rLoc 0)) (iB gT2 (· + ·) (iK 5) (iLoc 1)))) (sInc 1 1))
theorem olX12_hills_4 (g : GT) {pcB pcC : Nat} : Sok g (tX12_hills 61) 157 182 pcB pcC (lX12_hills_4) := (Sok.loop (pc := 157) (pc1 := 162) (pc2 := 176) (pcN := 182) (Cok.cmp (pc1 := 158) (pc2 := 159) (pcT := 162) (pcF := 182) (EokI.iload_n (q := 1) dX12_hills_157) (EokI.iconst (v := 5) dX12_hills_158 (by decide)) (JI.ltF (tgt := 182) dX12_hills_159 (by decide))) (by decide) (Sok.lASt (pc1 := 166) (pc2 := 167) (pc3 := 175) (EokR.getf (pc1 := 163) (j := 13) (ci := 12) (T := TX12) (N := 27) (EokR.aload_n (q := 0) dX12_hills_162) rfl wsX12_in (by decide) flX12_81 dX12_hills_163) (EokI.iload_n (q := 1) dX12_hills_166) (EokL.lALd (pc1 := 171) (pc2 := 174) (EokR.getf (pc1 := 168) (j := 13) (ci := 12) (T := TX12) (N := 27) (EokR.aload_n (q := 0) dX12_hills_167) rfl wsX12_in (by decide) flX12_81 dX12_hills_168) (EokI.bin (pc1 := 172) (pc2 := 173) (EokI.iconst (v := 5) dX12_hills_171 (by decide)) (EokI.iload_n (q := 1) dX12_hills_172) (OPI.iadd dX12_hills_173)) dX12_hills_174) (by decide) dX12_hills_175) (Sok.goto (pc1 := 179) (pcN := 157) (Sok.iinc (i := 1) (v := 1) dX12_hills_176 (show 1 < 2 by decide) (by decide)) dX12_hills_179 (by decide)))
theorem olX12_hills_3 (g : GT) {pcB pcC : Nat} : Sok g (tX12_hills 61) 125 155 pcB pcC (lX12_hills_3) := (Sok.loop (pc := 125) (pc1 := 133) (pc2 := 149) (pcN := 155) (Cok.cmp (pc1 := 126) (pc2 := 130) (pcT := 133) (pcF := 155) (EokI.iload_n (q := 1) dX12_hills_125) (EokI.getf (pc1 := 127) (j := 12) (ci := 12) (T := TX12) (N := 27) (EokR.aload_n (q := 0) dX12_hills_126) rfl wsX12_in (by decide) flX12_183 dX12_hills_127) (JI.ltF (tgt := 155) dX12_hills_130 (by decide))) (by decide) (Sok.iASt (pc1 := 137) (pc2 := 138) (pc3 := 148) (EokR.getf (pc1 := 134) (j := 11) (ci := 12) (T := TX12) (N := 27) (EokR.aload_n (q := 0) dX12_hills_133) rfl wsX12_in (by decide) flX12_78 dX12_hills_134) (EokI.iload_n (q := 1) dX12_hills_137) (EokI.iALd (pc1 := 142) (pc2 := 147) (EokR.getf (pc1 := 139) (j := 11) (ci := 12) (T := TX12) (N := 27) (EokR.aload_n (q := 0) dX12_hills_138) rfl wsX12_in (by decide) flX12_78 dX12_hills_139) (EokI.bin (pc1 := 145) (pc2 := 146) (EokI.sipush (v := 1100) dX12_hills_142 (by decide)) (EokI.iload_n (q := 1) dX12_hills_145) (OPI.iadd dX12_hills_146)) dX12_hills_147) (by decide) dX12_hills_148) (Sok.goto (pc1 := 152) (pcN := 125) (Sok.iinc (i := 1) (v := 1) dX12_hills_149 (show 1 < 2 by decide) (by decide)) dX12_hills_152 (by decide)))
theorem olX12_hills_2 (g : GT) {pcB pcC : Nat} : Sok g (tX12_hills 61) 96 123 pcB pcC (lX12_hills_2) := (Sok.loop (pc := 96) (pc1 := 102) (pc2 := 117) (pcN := 123) (Cok.cmp (pc1 := 97) (pc2 := 99) (pcT := 102) (pcF := 123) (EokI.iload_n (q := 1) dX12_hills_96) (EokI.bipush (v := 40) dX12_hills_97 (by decide)) (JI.ltF (tgt := 123) dX12_hills_99 (by decide))) (by decide) (Sok.iASt (pc1 := 106) (pc2 := 107) (pc3 := 116) (EokR.getf (pc1 := 103) (j := 10) (ci := 12) (T := TX12) (N := 27) (EokR.aload_n (q := 0) dX12_hills_102) rfl wsX12_in (by decide) flX12_75 dX12_hills_103) (EokI.iload_n (q := 1) dX12_hills_106) (EokI.iALd (pc1 := 111) (pc2 := 115) (EokR.getf (pc1 := 108) (j := 10) (ci := 12) (T := TX12) (N := 27) (EokR.aload_n (q := 0) dX12_hills_107) rfl wsX12_in (by decide) flX12_75 dX12_hills_108) (EokI.bin (pc1 := 113) (pc2 := 114) (EokI.bipush (v := 40) dX12_hills_111 (by decide)) (EokI.iload_n (q := 1) dX12_hills_113) (OPI.iadd dX12_hills_114)) dX12_hills_115) (by decide) dX12_hills_116) (Sok.goto (pc1 := 120) (pcN := 96) (Sok.iinc (i := 1) (v := 1) dX12_hills_117 (show 1 < 2 by decide) (by decide)) dX12_hills_120 (by decide)))
theorem olX12_hills_1 (g : GT) {pcB pcC : Nat} : Sok g (tX12_hills 61) 20 82 pcB pcC (lX12_hills_1) := (Sok.loop (pc := 20) (pc1 := 39) (pc2 := 20) (pcN := 82) (Cok.and (pc1 := 27) (Cok.zero (pc1 := 24) (pcT := 27) (pcF := 82) (EokI.getf (pc1 := 21) (j := 8) (ci := 12) (T := TX12) (N := 27) (EokR.aload_n (q := 0) dX12_hills_20) rfl wsX12_in (by decide) flX12_148 dX12_hills_21) (JZ.eqF (tgt := 82) dX12_hills_24 (by decide))) (Cok.zero (pc1 := 36) (pcT := 39) (pcF := 82) (EokI.iALd (pc1 := 31) (pc2 := 35) (EokR.getf (pc1 := 28) (j := 4) (ci := 12) (T := TX12) (N := 27) (EokR.aload_n (q := 0) dX12_hills_27) rfl wsX12_in (by decide) flX12_24 dX12_hills_28) (EokI.getf (pc1 := 32) (j := 7) (ci := 12) (T := TX12) (N := 27) (EokR.aload_n (q := 0) dX12_hills_31) rfl wsX12_in (by decide) flX12_145 dX12_hills_32) dX12_hills_35) (JZ.neF (tgt := 82) dX12_hills_36 (by decide)))) (by decide) (Sok.seq (pc1 := 73) (Sok.ite (pc1 := 47) (pc2 := 54) (Cok.zero (pc1 := 44) (pcT := 47) (pcF := 54) (EokI.iCallV (pc1 := 41) (Aok.aR (pc1 := 40) (EokR.aload_n (q := 0) dX12_hills_39) (Aok.aI (pc1 := 41) (EokI.iconst (v := 0) dX12_hills_40 (by decide)) Aok.nil)) (kX12_isWord g) rfl ykX12_isWord vkX12_157 (by decide) (by decide) dX12_hills_41) (JZ.neF (tgt := 54) dX12_hills_44 (by decide))) (by decide) (Sok.goto (pc1 := 51) (pcN := 73) (Sok.sCallV (pc1 := 48) (Aok.aR (pc1 := 48) (EokR.aload_n (q := 0) dX12_hills_47) Aok.nil) (by decide) (kX12_readHut g) rfl ykX12_readHut vkX12_186 (by decide) (by decide) dX12_hills_48) dX12_hills_51 (by decide)) (Sok.ite (pc1 := 62) (pc2 := 69) (Cok.zero (pc1 := 59) (pcT := 62) (pcF := 69) (EokI.iCallV (pc1 := 56) (Aok.aR (pc1 := 55) (EokR.aload_n (q := 0) dX12_hills_54) (Aok.aI (pc1 := 56) (EokI.iconst (v := 2) dX12_hills_55 (by decide)) Aok.nil)) (kX12_isWord g) rfl ykX12_isWord vkX12_157 (by decide) (by decide) dX12_hills_56) (JZ.neF (tgt := 69) dX12_hills_59 (by decide))) (by decide) (Sok.goto (pc1 := 66) (pcN := 73) (Sok.sCallV (pc1 := 63) (Aok.aR (pc1 := 63) (EokR.aload_n (q := 0) dX12_hills_62) Aok.nil) (by decide) (kX12_readPath g) rfl ykX12_readPath vkX12_189 (by decide) (by decide) dX12_hills_63) dX12_hills_66 (by decide)) (Sok.sCallV (pc1 := 70) (Aok.aR (pc1 := 70) (EokR.aload_n (q := 0) dX12_hills_69) Aok.nil) (by decide) (kX12_readBars g) rfl ykX12_readBars vkX12_192 (by decide) (by decide) dX12_hills_70))) (Sok.goto (pc1 := 79) (pcN := 20) (Sok.sCallV (pc1 := 76) (Aok.aR (pc1 := 74) (EokR.aload_n (q := 0) dX12_hills_73) (Aok.aI (pc1 := 76) (EokI.bipush (v := 59) dX12_hills_74 (by decide)) Aok.nil)) (by decide) (kX12_takeSign g) rfl ykX12_takeSign vkX12_195 (by decide) (by decide) dX12_hills_76) dX12_hills_79 (by decide))) Sok.skip)
def mX12_hills : MX := bodyOf 2 (sSeq (sPutI 12 0 .int (rLoc 0) (iK 0)) (sSeq (sCallV 12 mX12_cutAll (aR (rLoc 0) aNil)) (sSeq (sPutI 12 12 .int (rLoc 0) (iK 0)) (sSeq (sCallV 12 mX12_standsAsAlways (aR (rLoc 0) (aI (iK 40) aNil))) (sSeq lX12_hills_1 (sSeq (sIf (cZ zgt (iGet 12 8 (rLoc 0))) (sRetI (iGet 12 8 (rLoc 0))) sSkip) (sSeq (sSeq (sSeq (sSetI 1 (iK 0)) lX12_hills_2) (sForget 1)) (sSeq (sSeq (sSeq (sSetI 1 (iK 0)) lX12_hills_3) (sForget 1)) (sSeq (sSeq (sSeq (sSetI 1 (iK 0)) lX12_hills_4) (sForget 1)) (sSeq (sCallV 12 mX12_begins (aR (rLoc 0) aNil)) (sRetI (iK 0))))))))))))
theorem kX12_hills (g : GT) : MK g 61 yX12_hills cX12_hills 2 (some .int) mX12_hills := MK.of (pcN := 99999) (pcB := 0) (pcC := 0) rfl (Sok.seq (pc1 := 5) (Sok.putI (ci := 12) (T := TX12) (NN := 27) (tt := tyX12) (j := 0) (pc1 := 1) (pc2 := 2) (ty := .int) (EokR.aload_n (q := 0) dX12_hills_0) (EokI.iconst (v := 0) dX12_hills_1 (by decide)) (by decide) rfl wsX12_in tyX12_ok nmX12 (by decide) flX12_1 rfl rfl dX12_hills_2) (Sok.seq (pc1 := 9) (Sok.sCallV (pc1 := 6) (Aok.aR (pc1 := 6) (EokR.aload_n (q := 0) dX12_hills_5) Aok.nil) (by decide) (kX12_cutAll g) rfl ykX12_cutAll vkX12_180 (by decide) (by decide) dX12_hills_6) (Sok.seq (pc1 := 14) (Sok.putI (ci := 12) (T := TX12) (NN := 27) (tt := tyX12) (j := 12) (pc1 := 10) (pc2 := 11) (ty := .int) (EokR.aload_n (q := 0) dX12_hills_9) (EokI.iconst (v := 0) dX12_hills_10 (by decide)) (by decide) rfl wsX12_in tyX12_ok nmX12 (by decide) flX12_183 rfl rfl dX12_hills_11) (Sok.seq (pc1 := 20) (Sok.sCallV (pc1 := 17) (Aok.aR (pc1 := 15) (EokR.aload_n (q := 0) dX12_hills_14) (Aok.aI (pc1 := 17) (EokI.bipush (v := 40) dX12_hills_15 (by decide)) Aok.nil)) (by decide) (kX12_standsAsAlways g) rfl ykX12_standsAsAlways vkX12_115 (by decide) (by decide) dX12_hills_17) (Sok.seq (pc1 := 82) (olX12_hills_1 g ) (Sok.seq (pc1 := 94) (Sok.ite (pc1 := 89) (pc2 := 94) (Cok.zero (pc1 := 86) (pcT := 89) (pcF := 94) (EokI.getf (pc1 := 83) (j := 8) (ci := 12) (T := TX12) (N := 27) (EokR.aload_n (q := 0) dX12_hills_82) rfl wsX12_in (by decide) flX12_148 dX12_hills_83) (JZ.gtF (tgt := 94) dX12_hills_86 (by decide))) (by decide) (Sok.retI (pc1 := 93) (EokI.getf (pc1 := 90) (j := 8) (ci := 12) (T := TX12) (N := 27) (EokR.aload_n (q := 0) dX12_hills_89) rfl wsX12_in (by decide) flX12_148 dX12_hills_90) (by decide) dX12_hills_93 rfl) (Sok.skip (pc := 94))) (Sok.seq (pc1 := 123) (Sok.seq (pc1 := 123) (Sok.seq (pc1 := 96) (Sok.setI_n (q := 1) (pc1 := 95) (EokI.iconst (v := 0) dX12_hills_94 (by decide)) (by decide) dX12_hills_95 (show 1 < 2 by decide)) (olX12_hills_2 g )) (Sok.forget (pc := 123))) (Sok.seq (pc1 := 155) (Sok.seq (pc1 := 155) (Sok.seq (pc1 := 125) (Sok.setI_n (q := 1) (pc1 := 124) (EokI.iconst (v := 0) dX12_hills_123 (by decide)) (by decide) dX12_hills_124 (show 1 < 2 by decide)) (olX12_hills_3 g )) (Sok.forget (pc := 155))) (Sok.seq (pc1 := 182) (Sok.seq (pc1 := 182) (Sok.seq (pc1 := 157) (Sok.setI_n (q := 1) (pc1 := 156) (EokI.iconst (v := 0) dX12_hills_155 (by decide)) (by decide) dX12_hills_156 (show 1 < 2 by decide)) (olX12_hills_4 g )) (Sok.forget (pc := 182))) (Sok.seq (pc1 := 186) (Sok.sCallV (pc1 := 183) (Aok.aR (pc1 := 183) (EokR.aload_n (q := 0) dX12_hills_182) Aok.nil) (by decide) (kX12_begins g) rfl ykX12_begins vkX12_119 (by decide) (by decide) dX12_hills_183) (Sok.retI (pc1 := 187) (EokI.iconst (v := 0) dX12_hills_186 (by decide)) (by decide) dX12_hills_187 rfl)))))))))))
/-! PassHutsModel.trip()I -/
theorem dX12_trip_0 : decode cX12_trip 0 = .ok (.aload_n 0, 1) := by decide +kernel
theorem dX12_trip_1 : decode cX12_trip 1 = .ok (.iconst 0, 1) := by decide +kernel
theorem dX12_trip_2 : decode cX12_trip 2 = .ok (.putfield 1, 3) := by decide +kernel
theorem dX12_trip_5 : decode cX12_trip 5 = .ok (.aload_n 0, 1) := by decide +kernel
theorem dX12_trip_6 : decode cX12_trip 6 = .ok (.invokevirtual 180, 3) := by decide +kernel
theorem dX12_trip_9 : decode cX12_trip 9 = .ok (.iconst 0, 1) := by decide +kernel
theorem dX12_trip_10 : decode cX12_trip 10 = .ok (.istore_n 1, 1) := by decide +kernel
theorem dX12_trip_11 : decode cX12_trip 11 = .ok (.aload_n 0, 1) := by decide +kernel
theorem dX12_trip_12 : decode cX12_trip 12 = .ok (.getfield 148, 3) := by decide +kernel
theorem dX12_trip_15 : decode cX12_trip 15 = .ok (.ifCond .ne 137, 3) := by decide +kernel
theorem dX12_trip_18 : decode cX12_trip 18 = .ok (.aload_n 0, 1) := by decide +kernel
theorem dX12_trip_19 : decode cX12_trip 19 = .ok (.getfield 24, 3) := by decide +kernel
theorem dX12_trip_22 : decode cX12_trip 22 = .ok (.aload_n 0, 1) := by decide +kernel
theorem dX12_trip_23 : decode cX12_trip 23 = .ok (.getfield 145, 3) := by decide +kernel
theorem dX12_trip_26 : decode cX12_trip 26 = .ok (.iaload, 1) := by decide +kernel
theorem dX12_trip_27 : decode cX12_trip 27 = .ok (.ifCond .eq 125, 3) := by decide +kernel
theorem dX12_trip_30 : decode cX12_trip 30 = .ok (.aload_n 0, 1) := by decide +kernel
theorem dX12_trip_31 : decode cX12_trip 31 = .ok (.iconst 5, 1) := by decide +kernel
theorem dX12_trip_32 : decode cX12_trip 32 = .ok (.iconst 3, 1) := by decide +kernel
theorem dX12_trip_33 : decode cX12_trip 33 = .ok (.invokevirtual 170, 3) := by decide +kernel
theorem dX12_trip_36 : decode cX12_trip 36 = .ok (.istore_n 2, 1) := by decide +kernel
theorem dX12_trip_37 : decode cX12_trip 37 = .ok (.iload_n 2, 1) := by decide +kernel
theorem dX12_trip_38 : decode cX12_trip 38 = .ok (.ifCond .ge 11, 3) := by decide +kernel
theorem dX12_trip_41 : decode cX12_trip 41 = .ok (.aload_n 0, 1) := by decide +kernel
theorem dX12_trip_42 : decode cX12_trip 42 = .ok (.iconst 1, 1) := by decide +kernel
theorem dX12_trip_43 : decode cX12_trip 43 = .ok (.invokevirtual 154, 3) := by decide +kernel
theorem dX12_trip_46 : decode cX12_trip 46 = .ok (.goto 97, 3) := by decide +kernel
theorem dX12_trip_49 : decode cX12_trip 49 = .ok (.iload_n 1, 1) := by decide +kernel
theorem dX12_trip_50 : decode cX12_trip 50 = .ok (.bipush 40, 2) := by decide +kernel
theorem dX12_trip_52 : decode cX12_trip 52 = .ok (.if_icmp .ne 11, 3) := by decide +kernel
theorem dX12_trip_55 : decode cX12_trip 55 = .ok (.aload_n 0, 1) := by decide +kernel
theorem dX12_trip_56 : decode cX12_trip 56 = .ok (.iconst 5, 1) := by decide +kernel
theorem dX12_trip_57 : decode cX12_trip 57 = .ok (.invokevirtual 154, 3) := by decide +kernel
theorem dX12_trip_60 : decode cX12_trip 60 = .ok (.goto 83, 3) := by decide +kernel
theorem dX12_trip_63 : decode cX12_trip 63 = .ok (.aload_n 0, 1) := by decide +kernel
theorem dX12_trip_64 : decode cX12_trip 64 = .ok (.dup, 1) := by decide +kernel
theorem dX12_trip_65 : decode cX12_trip 65 = .ok (.getfield 145, 3) := by decide +kernel
theorem dX12_trip_68 : decode cX12_trip 68 = .ok (.iconst 1, 1) := by decide +kernel
theorem dX12_trip_69 : decode cX12_trip 69 = .ok (.iadd, 1) := by decide +kernel
theorem dX12_trip_70 : decode cX12_trip 70 = .ok (.putfield 145, 3) := by decide +kernel
theorem dX12_trip_73 : decode cX12_trip 73 = .ok (.bipush 125, 2) := by decide +kernel
theorem dX12_trip_75 : decode cX12_trip 75 = .ok (.iconst 3, 1) := by decide +kernel
theorem dX12_trip_76 : decode cX12_trip 76 = .ok (.iload_n 1, 1) := by decide +kernel
theorem dX12_trip_77 : decode cX12_trip 77 = .ok (.imul, 1) := by decide +kernel
theorem dX12_trip_78 : decode cX12_trip 78 = .ok (.iadd, 1) := by decide +kernel
theorem dX12_trip_79 : decode cX12_trip 79 = .ok (.istore_n 3, 1) := by decide +kernel
theorem dX12_trip_80 : decode cX12_trip 80 = .ok (.aload_n 0, 1) := by decide +kernel
theorem dX12_trip_81 : decode cX12_trip 81 = .ok (.getfield 84, 3) := by decide +kernel
theorem dX12_trip_84 : decode cX12_trip 84 = .ok (.iload_n 3, 1) := by decide +kernel
theorem dX12_trip_85 : decode cX12_trip 85 = .ok (.iload_n 2, 1) := by decide +kernel
theorem dX12_trip_86 : decode cX12_trip 86 = .ok (.iastore, 1) := by decide +kernel
theorem dX12_trip_87 : decode cX12_trip 87 = .ok (.aload_n 0, 1) := by decide +kernel
theorem dX12_trip_88 : decode cX12_trip 88 = .ok (.getfield 84, 3) := by decide +kernel
theorem dX12_trip_91 : decode cX12_trip 91 = .ok (.iload_n 3, 1) := by decide +kernel
theorem dX12_trip_92 : decode cX12_trip 92 = .ok (.iconst 1, 1) := by decide +kernel
theorem dX12_trip_93 : decode cX12_trip 93 = .ok (.iadd, 1) := by decide +kernel
theorem dX12_trip_94 : decode cX12_trip 94 = .ok (.aload_n 0, 1) := by decide +kernel
theorem dX12_trip_95 : decode cX12_trip 95 = .ok (.iconst 0, 1) := by decide +kernel
theorem dX12_trip_96 : decode cX12_trip 96 = .ok (.aload_n 0, 1) := by decide +kernel
theorem dX12_trip_97 : decode cX12_trip 97 = .ok (.invokevirtual 215, 3) := by decide +kernel
theorem dX12_trip_100 : decode cX12_trip 100 = .ok (.iconst 0, 1) := by decide +kernel
theorem dX12_trip_101 : decode cX12_trip 101 = .ok (.invokevirtual 205, 3) := by decide +kernel
theorem dX12_trip_104 : decode cX12_trip 104 = .ok (.iastore, 1) := by decide +kernel
theorem dX12_trip_105 : decode cX12_trip 105 = .ok (.aload_n 0, 1) := by decide +kernel
theorem dX12_trip_106 : decode cX12_trip 106 = .ok (.getfield 84, 3) := by decide +kernel
theorem dX12_trip_109 : decode cX12_trip 109 = .ok (.iload_n 3, 1) := by decide +kernel
theorem dX12_trip_110 : decode cX12_trip 110 = .ok (.iconst 2, 1) := by decide +kernel
theorem dX12_trip_111 : decode cX12_trip 111 = .ok (.iadd, 1) := by decide +kernel
theorem dX12_trip_112 : decode cX12_trip 112 = .ok (.iload_n 2, 1) := by decide +kernel
theorem dX12_trip_113 : decode cX12_trip 113 = .ok (.ifCond .ne 25, 3) := by decide +kernel
theorem dX12_trip_116 : decode cX12_trip 116 = .ok (.aload_n 0, 1) := by decide +kernel
theorem dX12_trip_117 : decode cX12_trip 117 = .ok (.iconst 0, 1) := by decide +kernel
theorem dX12_trip_118 : decode cX12_trip 118 = .ok (.aload_n 0, 1) := by decide +kernel
theorem dX12_trip_119 : decode cX12_trip 119 = .ok (.invokevirtual 215, 3) := by decide +kernel
theorem dX12_trip_122 : decode cX12_trip 122 = .ok (.iconst 1, 1) := by decide +kernel
theorem dX12_trip_123 : decode cX12_trip 123 = .ok (.aload_n 0, 1) := by decide +kernel
theorem dX12_trip_124 : decode cX12_trip 124 = .ok (.getfield 84, 3) := by decide +kernel
theorem dX12_trip_127 : decode cX12_trip 127 = .ok (.iload_n 3, 1) := by decide +kernel
theorem dX12_trip_128 : decode cX12_trip 128 = .ok (.iconst 1, 1) := by decide +kernel
theorem dX12_trip_129 : decode cX12_trip 129 = .ok (.iadd, 1) := by decide +kernel
theorem dX12_trip_130 : decode cX12_trip 130 = .ok (.iaload, 1) := by decide +kernel
theorem dX12_trip_131 : decode cX12_trip 131 = .ok (.ishl, 1) := by decide +kernel
theorem dX12_trip_132 : decode cX12_trip 132 = .ok (.invokevirtual 205, 3) := by decide +kernel
theorem dX12_trip_135 : decode cX12_trip 135 = .ok (.goto 4, 3) := by decide +kernel
theorem dX12_trip_138 : decode cX12_trip 138 = .ok (.iconst 0, 1) := by decide +kernel
theorem dX12_trip_139 : decode cX12_trip 139 = .ok (.iastore, 1) := by decide +kernel
theorem dX12_trip_140 : decode cX12_trip 140 = .ok (.iinc 1 1, 3) := by decide +kernel
theorem dX12_trip_143 : decode cX12_trip 143 = .ok (.aload_n 0, 1) := by decide +kernel
theorem dX12_trip_144 : decode cX12_trip 144 = .ok (.bipush 59, 2) := by decide +kernel
theorem dX12_trip_146 : decode cX12_trip 146 = .ok (.invokevirtual 195, 3) := by decide +kernel
theorem dX12_trip_149 : decode cX12_trip 149 = .ok (.goto (-138), 3) := by decide +kernel
theorem dX12_trip_152 : decode cX12_trip 152 = .ok (.aload_n 0, 1) := by decide +kernel
theorem dX12_trip_153 : decode cX12_trip 153 = .ok (.getfield 148, 3) := by decide +kernel
theorem dX12_trip_156 : decode cX12_trip 156 = .ok (.ifCond .le 8, 3) := by decide +kernel
theorem dX12_trip_159 : decode cX12_trip 159 = .ok (.aload_n 0, 1) := by decide +kernel
theorem dX12_trip_160 : decode cX12_trip 160 = .ok (.getfield 148, 3) := by decide +kernel
theorem dX12_trip_163 : decode cX12_trip 163 = .ok (.ireturn, 1) := by decide +kernel
theorem dX12_trip_164 : decode cX12_trip 164 = .ok (.aload_n 0, 1) := by decide +kernel
theorem dX12_trip_165 : decode cX12_trip 165 = .ok (.getfield 84, 3) := by decide +kernel
theorem dX12_trip_168 : decode cX12_trip 168 = .ok (.iconst 0, 1) := by decide +kernel
theorem dX12_trip_169 : decode cX12_trip 169 = .ok (.iload_n 1, 1) := by decide +kernel
theorem dX12_trip_170 : decode cX12_trip 170 = .ok (.iastore, 1) := by decide +kernel
theorem dX12_trip_171 : decode cX12_trip 171 = .ok (.iconst 0, 1) := by decide +kernel
theorem dX12_trip_172 : decode cX12_trip 172 = .ok (.istore_n 2, 1) := by decide +kernel
theorem dX12_trip_173 : decode cX12_trip 173 = .ok (.iload_n 2, 1) := by decide +kernel
theorem dX12_trip_174 : decode cX12_trip 174 = .ok (.iconst 3, 1) := by decide +kernel
theorem dX12_trip_175 : decode cX12_trip 175 = .ok (.iload_n 1, 1) := by decide +kernel
theorem dX12_trip_176 : decode cX12_trip 176 = .ok (.imul, 1) := by decide +kernel
theorem dX12_trip_177 : decode cX12_trip 177 = .ok (.if_icmp .ge 26, 3) := by decide +kernel
theorem dX12_trip_180 : decode cX12_trip 180 = .ok (.aload_n 0, 1) := by decide +kernel
theorem dX12_trip_181 : decode cX12_trip 181 = .ok (.getfield 84, 3) := by decide +kernel
theorem dX12_trip_184 : decode cX12_trip 184 = .ok (.iconst 1, 1) := by decide +kernel
theorem dX12_trip_185 : decode cX12_trip 185 = .ok (.iload_n 2, 1) := by decide +kernel
theorem dX12_trip_186 : decode cX12_trip 186 = .ok (.iadd, 1) := by decide +kernel
theorem dX12_trip_187 : decode cX12_trip 187 = .ok (.aload_n 0, 1) := by decide +kernel
theorem dX12_trip_188 : decode cX12_trip 188 = .ok (.getfield 84, 3) := by decide +kernel
theorem dX12_trip_191 : decode cX12_trip 191 = .ok (.bipush 125, 2) := by decide +kernel
theorem dX12_trip_193 : decode cX12_trip 193 = .ok (.iload_n 2, 1) := by decide +kernel
theorem dX12_trip_194 : decode cX12_trip 194 = .ok (.iadd, 1) := by decide +kernel
theorem dX12_trip_195 : decode cX12_trip 195 = .ok (.iaload, 1) := by decide +kernel
theorem dX12_trip_196 : decode cX12_trip 196 = .ok (.iastore, 1) := by decide +kernel
theorem dX12_trip_197 : decode cX12_trip 197 = .ok (.iinc 2 1, 3) := by decide +kernel
theorem dX12_trip_200 : decode cX12_trip 200 = .ok (.goto (-27), 3) := by decide +kernel
theorem dX12_trip_203 : decode cX12_trip 203 = .ok (.iconst 0, 1) := by decide +kernel
theorem dX12_trip_204 : decode cX12_trip 204 = .ok (.ireturn, 1) := by decide +kernel
abbrev tX12_trip (k : Nat) : MT := (RX12, cX12_trip, 4, k, (some .int))
def lX12_trip_1 : SX := (sLoop (cAnd (cZ zeq (iGet 12 8 (rLoc 0))) (cZ zne (iALd (rGet 12 4 (rLoc 0)) (iGet 12 7 (rLoc 0))))) (sSeq (sSetI 2 (iCallV 12 mX12_wordHere (aR (rLoc 0) (aI (iK 5) (aI (iK 3) aNil))))) (sSeq (sIf (cZ zlt (iLoc 2)) (sCallV 12 mX12_wrong (aR (rLoc 0) (aI (iK 1) aNil))) (sIf (cB req (iLoc 1) (iK 40)) (sCallV 12 mX12_wrong (aR (rLoc 0) (aI (iK 5) aNil))) (sSeq (sUpd 12 7 gT2 (· + ·) (rLoc 0) (iK 1)) (sSeq (sSetI 3 (iB gT2 (· + ·) (iK 125) (iB gT2 (· * ·) (iK 3) (iLoc 1)))) (sSeq (sASt 0 narI (rGet 12 14 (rLoc 0)) (iLoc 3) (iLoc 2)) (sSeq (sASt 0 narI (rGet 12 14 (rLoc 0)) (iB gT2 (· + ·) (iLoc 3) (iK 1)) (iCallV 12 mX12_takeTold (aR (rLoc 0) (aI (iK 0) (aI (iCallV 12 mX12_huts (aR (rLoc 0) aNil)) (aI (iK 0) aNil)))))) (sSeq (sASt 0 narI (rGet 12 14 (rLoc 0)) (iB gT2 (· + ·) (iLoc 3) (iK 2)) (iCond (cZ zeq (iLoc 2)) (iCallV 12 mX12_takeTold (aR (rLoc 0) (aI (iK 0) (aI (iCallV 12 mX12_huts (aR (rLoc 0) aNil)) (aI (iB gT2 jshl (iK 1) (iALd (rGet 12 14 (rLoc 0)) (iB gT2 (· + ·) (iLoc 3) (iK 1)))) aNil))))) (iK 0))) (sInc 1 1)))))))) (sCallV 12 mX12_takeSign (aR (rLoc 0) (aI (iK 59) aNil))))) (sForget 2))
def lX12_trip_2 : SX := (sLoop (cB rlt (iLoc 2) (iB gT2 (· * ·) (iK 3) (iLoc 1))) (sASt 0 narI (rGet 12 14 (rLoc 0)) (iB gT2 (· + ·) (iK 1) (iLoc 2)) (iALd (rGet 12 14 (rLoc 0)) (iB gT2 (· + ·) (iK 125) (iLoc 2)))) (sInc 2 1))
theorem olX12_trip_2 (g : GT) {pcB pcC : Nat} : Sok g (tX12_trip 4) 173 203 pcB pcC (lX12_trip_2) := (Sok.loop (pc := 173) (pc1 := 180) (pc2 := 197) (pcN := 203) (Cok.cmp (pc1 := 174) (pc2 := 177) (pcT := 180) (pcF := 203) (EokI.iload_n (q := 2) dX12_trip_173) (EokI.bin (pc1 := 175) (pc2 := 176) (EokI.iconst (v := 3) dX12_trip_174 (by decide)) (EokI.iload_n (q := 1) dX12_trip_175) (OPI.imul dX12_trip_176)) (JI.ltF (tgt := 203) dX12_trip_177 (by decide))) (by decide) (Sok.iASt (pc1 := 184) (pc2 := 187) (pc3 := 196) (EokR.getf (pc1 := 181) (j := 14) (ci := 12) (T := TX12) (N := 27) (EokR.aload_n (q := 0) dX12_trip_180) rfl wsX12_in (by decide) flX12_84 dX12_trip_181) (EokI.bin (pc1 := 185) (pc2 := 186) (EokI.iconst (v := 1) dX12_trip_184 (by decide)) (EokI.iload_n (q := 2) dX12_trip_185) (OPI.iadd dX12_trip_186)) (EokI.iALd (pc1 := 191) (pc2 := 195) (EokR.getf (pc1 := 188) (j := 14) (ci := 12) (T := TX12) (N := 27) (EokR.aload_n (q := 0) dX12_trip_187) rfl wsX12_in (by decide) flX12_84 dX12_trip_188) (EokI.bin (pc1 := 193) (pc2 := 194) (EokI.bipush (v := 125) dX12_trip_191 (by decide)) (EokI.iload_n (q := 2) dX12_trip_193) (OPI.iadd dX12_trip_194)) dX12_trip_195) (by decide) dX12_trip_196) (Sok.goto (pc1 := 200) (pcN := 173) (Sok.iinc (i := 2) (v := 1) dX12_trip_197 (show 2 < 4 by decide) (by decide)) dX12_trip_200 (by decide)))
theorem olX12_trip_1 (g : GT) {pcB pcC : Nat} : Sok g (tX12_trip 4) 11 152 pcB pcC (lX12_trip_1) := (Sok.loop (pc := 11) (pc1 := 30) (pc2 := 11) (pcN := 152) (Cok.and (pc1 := 18) (Cok.zero (pc1 := 15) (pcT := 18) (pcF := 152) (EokI.getf (pc1 := 12) (j := 8) (ci := 12) (T := TX12) (N := 27) (EokR.aload_n (q := 0) dX12_trip_11) rfl wsX12_in (by decide) flX12_148 dX12_trip_12) (JZ.eqF (tgt := 152) dX12_trip_15 (by decide))) (Cok.zero (pc1 := 27) (pcT := 30) (pcF := 152) (EokI.iALd (pc1 := 22) (pc2 := 26) (EokR.getf (pc1 := 19) (j := 4) (ci := 12) (T := TX12) (N := 27) (EokR.aload_n (q := 0) dX12_trip_18) rfl wsX12_in (by decide) flX12_24 dX12_trip_19) (EokI.getf (pc1 := 23) (j := 7) (ci := 12) (T := TX12) (N := 27) (EokR.aload_n (q := 0) dX12_trip_22) rfl wsX12_in (by decide) flX12_145 dX12_trip_23) dX12_trip_26) (JZ.neF (tgt := 152) dX12_trip_27 (by decide)))) (by decide) (Sok.seq (pc1 := 37) (Sok.setI_n (q := 2) (pc1 := 36) (EokI.iCallV (pc1 := 33) (Aok.aR (pc1 := 31) (EokR.aload_n (q := 0) dX12_trip_30) (Aok.aI (pc1 := 32) (EokI.iconst (v := 5) dX12_trip_31 (by decide)) (Aok.aI (pc1 := 33) (EokI.iconst (v := 3) dX12_trip_32 (by decide)) Aok.nil))) (kX12_wordHere g) rfl ykX12_wordHere vkX12_170 (by decide) (by decide) dX12_trip_33) (by decide) dX12_trip_36 (show 2 < 4 by decide)) (Sok.seq (pc1 := 143) (Sok.ite (pc1 := 41) (pc2 := 49) (Cok.zero (pc1 := 38) (pcT := 41) (pcF := 49) (EokI.iload_n (q := 2) dX12_trip_37) (JZ.ltF (tgt := 49) dX12_trip_38 (by decide))) (by decide) (Sok.goto (pc1 := 46) (pcN := 143) (Sok.sCallV (pc1 := 43) (Aok.aR (pc1 := 42) (EokR.aload_n (q := 0) dX12_trip_41) (Aok.aI (pc1 := 43) (EokI.iconst (v := 1) dX12_trip_42 (by decide)) Aok.nil)) (by decide) (kX12_wrong g) rfl ykX12_wrong vkX12_154 (by decide) (by decide) dX12_trip_43) dX12_trip_46 (by decide)) (Sok.ite (pc1 := 55) (pc2 := 63) (Cok.cmp (pc1 := 50) (pc2 := 52) (pcT := 55) (pcF := 63) (EokI.iload_n (q := 1) dX12_trip_49) (EokI.bipush (v := 40) dX12_trip_50 (by decide)) (JI.eqF (tgt := 63) dX12_trip_52 (by decide))) (by decide) (Sok.goto (pc1 := 60) (pcN := 143) (Sok.sCallV (pc1 := 57) (Aok.aR (pc1 := 56) (EokR.aload_n (q := 0) dX12_trip_55) (Aok.aI (pc1 := 57) (EokI.iconst (v := 5) dX12_trip_56 (by decide)) Aok.nil)) (by decide) (kX12_wrong g) rfl ykX12_wrong vkX12_154 (by decide) (by decide) dX12_trip_57) dX12_trip_60 (by decide)) (Sok.seq (pc1 := 73) (Sok.upd (ci := 12) (T := TX12) (NN := 27) (tt := tyX12) (j := 7) (pc1 := 64) (pc2 := 69) (EokR.aload_n (q := 0) dX12_trip_63) dX12_trip_64 dX12_trip_65 (EokI.iconst (v := 1) dX12_trip_68 (by decide)) (OPI.iadd dX12_trip_69) (by decide) rfl wsX12_in tyX12_ok nmX12 (by decide) flX12_145 rfl rfl dX12_trip_70) (Sok.seq (pc1 := 80) (Sok.setI_n (q := 3) (pc1 := 79) (EokI.bin (pc1 := 75) (pc2 := 78) (EokI.bipush (v := 125) dX12_trip_73 (by decide)) (EokI.bin (pc1 := 76) (pc2 := 77) (EokI.iconst (v := 3) dX12_trip_75 (by decide)) (EokI.iload_n (q := 1) dX12_trip_76) (OPI.imul dX12_trip_77)) (OPI.iadd dX12_trip_78)) (by decide) dX12_trip_79 (show 3 < 4 by decide)) (Sok.seq (pc1 := 87) (Sok.iASt (pc1 := 84) (pc2 := 85) (pc3 := 86) (EokR.getf (pc1 := 81) (j := 14) (ci := 12) (T := TX12) (N := 27) (EokR.aload_n (q := 0) dX12_trip_80) rfl wsX12_in (by decide) flX12_84 dX12_trip_81) (EokI.iload_n (q := 3) dX12_trip_84) (EokI.iload_n (q := 2) dX12_trip_85) (by decide) dX12_trip_86) (Sok.seq (pc1 := 105) (Sok.iASt (pc1 := 91) (pc2 := 94) (pc3 := 104) (EokR.getf (pc1 := 88) (j := 14) (ci := 12) (T := TX12) (N := 27) (EokR.aload_n (q := 0) dX12_trip_87) rfl wsX12_in (by decide) flX12_84 dX12_trip_88) (EokI.bin (pc1 := 92) (pc2 := 93) (EokI.iload_n (q := 3) dX12_trip_91) (EokI.iconst (v := 1) dX12_trip_92 (by decide)) (OPI.iadd dX12_trip_93)) (EokI.iCallV (pc1 := 101) (Aok.aR (pc1 := 95) (EokR.aload_n (q := 0) dX12_trip_94) (Aok.aI (pc1 := 96) (EokI.iconst (v := 0) dX12_trip_95 (by decide)) (Aok.aI (pc1 := 100) (EokI.iCallV (pc1 := 97) (Aok.aR (pc1 := 97) (EokR.aload_n (q := 0) dX12_trip_96) Aok.nil) (kX12_huts g) rfl ykX12_huts vkX12_215 (by decide) (by decide) dX12_trip_97) (Aok.aI (pc1 := 101) (EokI.iconst (v := 0) dX12_trip_100 (by decide)) Aok.nil)))) (kX12_takeTold g) rfl ykX12_takeTold vkX12_205 (by decide) (by decide) dX12_trip_101) (by decide) dX12_trip_104) (Sok.seq (pc1 := 140) (Sok.iASt (pc1 := 109) (pc2 := 112) (pc3 := 139) (EokR.getf (pc1 := 106) (j := 14) (ci := 12) (T := TX12) (N := 27) (EokR.aload_n (q := 0) dX12_trip_105) rfl wsX12_in (by decide) flX12_84 dX12_trip_106) (EokI.bin (pc1 := 110) (pc2 := 111) (EokI.iload_n (q := 3) dX12_trip_109) (EokI.iconst (v := 2) dX12_trip_110 (by decide)) (OPI.iadd dX12_trip_111)) (EokI.cond' (pc1 := 116) (pc2 := 138) (Cok.zero (pc1 := 113) (pcT := 116) (pcF := 138) (EokI.iload_n (q := 2) dX12_trip_112) (JZ.eqF (tgt := 138) dX12_trip_113 (by decide))) (EokI.goto (pc1 := 135) (pc2 := 139) (EokI.iCallV (pc1 := 132) (Aok.aR (pc1 := 117) (EokR.aload_n (q := 0) dX12_trip_116) (Aok.aI (pc1 := 118) (EokI.iconst (v := 0) dX12_trip_117 (by decide)) (Aok.aI (pc1 := 122) (EokI.iCallV (pc1 := 119) (Aok.aR (pc1 := 119) (EokR.aload_n (q := 0) dX12_trip_118) Aok.nil) (kX12_huts g) rfl ykX12_huts vkX12_215 (by decide) (by decide) dX12_trip_119) (Aok.aI (pc1 := 132) (EokI.bin (pc1 := 123) (pc2 := 131) (EokI.iconst (v := 1) dX12_trip_122 (by decide)) (EokI.iALd (pc1 := 127) (pc2 := 130) (EokR.getf (pc1 := 124) (j := 14) (ci := 12) (T := TX12) (N := 27) (EokR.aload_n (q := 0) dX12_trip_123) rfl wsX12_in (by decide) flX12_84 dX12_trip_124) (EokI.bin (pc1 := 128) (pc2 := 129) (EokI.iload_n (q := 3) dX12_trip_127) (EokI.iconst (v := 1) dX12_trip_128 (by decide)) (OPI.iadd dX12_trip_129)) dX12_trip_130) (OPI.ishl dX12_trip_131)) Aok.nil)))) (kX12_takeTold g) rfl ykX12_takeTold vkX12_205 (by decide) (by decide) dX12_trip_132) dX12_trip_135 (by decide)) (EokI.iconst (v := 0) dX12_trip_138 (by decide))) (by decide) dX12_trip_139) (Sok.iinc (i := 1) (v := 1) dX12_trip_140 (show 1 < 4 by decide) (by decide))))))))) (Sok.goto (pc1 := 149) (pcN := 11) (Sok.sCallV (pc1 := 146) (Aok.aR (pc1 := 144) (EokR.aload_n (q := 0) dX12_trip_143) (Aok.aI (pc1 := 146) (EokI.bipush (v := 59) dX12_trip_144 (by decide)) Aok.nil)) (by decide) (kX12_takeSign g) rfl ykX12_takeSign vkX12_195 (by decide) (by decide) dX12_trip_146) dX12_trip_149 (by decide)))) Sok.forget)
def mX12_trip : MX := bodyOf 4 (sSeq (sPutI 12 0 .int (rLoc 0) (iK 0)) (sSeq (sCallV 12 mX12_cutAll (aR (rLoc 0) aNil)) (sSeq (sSetI 1 (iK 0)) (sSeq lX12_trip_1 (sSeq (sIf (cZ zgt (iGet 12 8 (rLoc 0))) (sRetI (iGet 12 8 (rLoc 0))) sSkip) (sSeq (sASt 0 narI (rGet 12 14 (rLoc 0)) (iK 0) (iLoc 1)) (sSeq (sSeq (sSeq (sSetI 2 (iK 0)) lX12_trip_2) (sForget 2)) (sRetI (iK 0)))))))))
theorem kX12_trip (g : GT) : MK g 4 yX12_trip cX12_trip 4 (some .int) mX12_trip := MK.of (pcN := 99999) (pcB := 0) (pcC := 0) rfl (Sok.seq (pc1 := 5) (Sok.putI (ci := 12) (T := TX12) (NN := 27) (tt := tyX12) (j := 0) (pc1 := 1) (pc2 := 2) (ty := .int) (EokR.aload_n (q := 0) dX12_trip_0) (EokI.iconst (v := 0) dX12_trip_1 (by decide)) (by decide) rfl wsX12_in tyX12_ok nmX12 (by decide) flX12_1 rfl rfl dX12_trip_2) (Sok.seq (pc1 := 9) (Sok.sCallV (pc1 := 6) (Aok.aR (pc1 := 6) (EokR.aload_n (q := 0) dX12_trip_5) Aok.nil) (by decide) (kX12_cutAll g) rfl ykX12_cutAll vkX12_180 (by decide) (by decide) dX12_trip_6) (Sok.seq (pc1 := 11) (Sok.setI_n (q := 1) (pc1 := 10) (EokI.iconst (v := 0) dX12_trip_9 (by decide)) (by decide) dX12_trip_10 (show 1 < 4 by decide)) (Sok.seq (pc1 := 152) (olX12_trip_1 g ) (Sok.seq (pc1 := 164) (Sok.ite (pc1 := 159) (pc2 := 164) (Cok.zero (pc1 := 156) (pcT := 159) (pcF := 164) (EokI.getf (pc1 := 153) (j := 8) (ci := 12) (T := TX12) (N := 27) (EokR.aload_n (q := 0) dX12_trip_152) rfl wsX12_in (by decide) flX12_148 dX12_trip_153) (JZ.gtF (tgt := 164) dX12_trip_156 (by decide))) (by decide) (Sok.retI (pc1 := 163) (EokI.getf (pc1 := 160) (j := 8) (ci := 12) (T := TX12) (N := 27) (EokR.aload_n (q := 0) dX12_trip_159) rfl wsX12_in (by decide) flX12_148 dX12_trip_160) (by decide) dX12_trip_163 rfl) (Sok.skip (pc := 164))) (Sok.seq (pc1 := 171) (Sok.iASt (pc1 := 168) (pc2 := 169) (pc3 := 170) (EokR.getf (pc1 := 165) (j := 14) (ci := 12) (T := TX12) (N := 27) (EokR.aload_n (q := 0) dX12_trip_164) rfl wsX12_in (by decide) flX12_84 dX12_trip_165) (EokI.iconst (v := 0) dX12_trip_168 (by decide)) (EokI.iload_n (q := 1) dX12_trip_169) (by decide) dX12_trip_170) (Sok.seq (pc1 := 203) (Sok.seq (pc1 := 203) (Sok.seq (pc1 := 173) (Sok.setI_n (q := 2) (pc1 := 172) (EokI.iconst (v := 0) dX12_trip_171 (by decide)) (by decide) dX12_trip_172 (show 2 < 4 by decide)) (olX12_trip_2 g )) (Sok.forget (pc := 203))) (Sok.retI (pc1 := 204) (EokI.iconst (v := 0) dX12_trip_203 (by decide)) (by decide) dX12_trip_204 rfl))))))))
/-! PassHutsModel.worked(III)I -/
theorem dX12_worked_0 : decode cX12_worked 0 = .ok (.iload_n 0, 1) := by decide +kernel
theorem dX12_worked_1 : decode cX12_worked 1 = .ok (.tableswitch 87 4 9 #[39, 43, 47, 51, 62, 73], 39) := by decide +kernel
theorem dX12_worked_40 : decode cX12_worked 40 = .ok (.iload_n 1, 1) := by decide +kernel
theorem dX12_worked_41 : decode cX12_worked 41 = .ok (.iload_n 2, 1) := by decide +kernel
theorem dX12_worked_42 : decode cX12_worked 42 = .ok (.iadd, 1) := by decide +kernel
theorem dX12_worked_43 : decode cX12_worked 43 = .ok (.ireturn, 1) := by decide +kernel
theorem dX12_worked_44 : decode cX12_worked 44 = .ok (.iload_n 1, 1) := by decide +kernel
theorem dX12_worked_45 : decode cX12_worked 45 = .ok (.iload_n 2, 1) := by decide +kernel
theorem dX12_worked_46 : decode cX12_worked 46 = .ok (.isub, 1) := by decide +kernel
theorem dX12_worked_47 : decode cX12_worked 47 = .ok (.ireturn, 1) := by decide +kernel
theorem dX12_worked_48 : decode cX12_worked 48 = .ok (.iload_n 1, 1) := by decide +kernel
theorem dX12_worked_49 : decode cX12_worked 49 = .ok (.iload_n 2, 1) := by decide +kernel
theorem dX12_worked_50 : decode cX12_worked 50 = .ok (.imul, 1) := by decide +kernel
theorem dX12_worked_51 : decode cX12_worked 51 = .ok (.ireturn, 1) := by decide +kernel
theorem dX12_worked_52 : decode cX12_worked 52 = .ok (.iload_n 1, 1) := by decide +kernel
theorem dX12_worked_53 : decode cX12_worked 53 = .ok (.iload_n 2, 1) := by decide +kernel
theorem dX12_worked_54 : decode cX12_worked 54 = .ok (.if_icmp .ge 7, 3) := by decide +kernel
theorem dX12_worked_57 : decode cX12_worked 57 = .ok (.iconst 1, 1) := by decide +kernel
theorem dX12_worked_58 : decode cX12_worked 58 = .ok (.goto 4, 3) := by decide +kernel
theorem dX12_worked_61 : decode cX12_worked 61 = .ok (.iconst 0, 1) := by decide +kernel
theorem dX12_worked_62 : decode cX12_worked 62 = .ok (.ireturn, 1) := by decide +kernel
theorem dX12_worked_63 : decode cX12_worked 63 = .ok (.iload_n 1, 1) := by decide +kernel
theorem dX12_worked_64 : decode cX12_worked 64 = .ok (.iload_n 2, 1) := by decide +kernel
theorem dX12_worked_65 : decode cX12_worked 65 = .ok (.if_icmp .ne 7, 3) := by decide +kernel
theorem dX12_worked_68 : decode cX12_worked 68 = .ok (.iconst 1, 1) := by decide +kernel
theorem dX12_worked_69 : decode cX12_worked 69 = .ok (.goto 4, 3) := by decide +kernel
theorem dX12_worked_72 : decode cX12_worked 72 = .ok (.iconst 0, 1) := by decide +kernel
theorem dX12_worked_73 : decode cX12_worked 73 = .ok (.ireturn, 1) := by decide +kernel
theorem dX12_worked_74 : decode cX12_worked 74 = .ok (.iload_n 1, 1) := by decide +kernel
theorem dX12_worked_75 : decode cX12_worked 75 = .ok (.ifCond .eq 11, 3) := by decide +kernel
theorem dX12_worked_78 : decode cX12_worked 78 = .ok (.iload_n 2, 1) := by decide +kernel
theorem dX12_worked_79 : decode cX12_worked 79 = .ok (.ifCond .eq 7, 3) := by decide +kernel
theorem dX12_worked_82 : decode cX12_worked 82 = .ok (.iconst 1, 1) := by decide +kernel
theorem dX12_worked_83 : decode cX12_worked 83 = .ok (.goto 4, 3) := by decide +kernel
theorem dX12_worked_86 : decode cX12_worked 86 = .ok (.iconst 0, 1) := by decide +kernel
theorem dX12_worked_87 : decode cX12_worked 87 = .ok (.ireturn, 1) := by decide +kernel
theorem dX12_worked_88 : decode cX12_worked 88 = .ok (.iload_n 1, 1) := by decide +kernel
theorem dX12_worked_89 : decode cX12_worked 89 = .ok (.ifCond .ne 7, 3) := by decide +kernel
theorem dX12_worked_92 : decode cX12_worked 92 = .ok (.iload_n 2, 1) := by decide +kernel
theorem dX12_worked_93 : decode cX12_worked 93 = .ok (.ifCond .eq 7, 3) := by decide +kernel
theorem dX12_worked_96 : decode cX12_worked 96 = .ok (.iconst 1, 1) := by decide +kernel
theorem dX12_worked_97 : decode cX12_worked 97 = .ok (.goto 4, 3) := by decide +kernel
theorem dX12_worked_100 : decode cX12_worked 100 = .ok (.iconst 0, 1) := by decide +kernel
theorem dX12_worked_101 : decode cX12_worked 101 = .ok (.ireturn, 1) := by decide +kernel
abbrev tX12_worked (k : Nat) : MT := (RX12, cX12_worked, 3, k, (some .int))
def mX12_worked : MX := bodyOf 3 (sSw (sSwitch 4 (iLoc 0) [(sRetI (iB gT2 (· + ·) (iLoc 1) (iLoc 2))), (sRetI (iB gT2 (· - ·) (iLoc 1) (iLoc 2))), (sRetI (iB gT2 (· * ·) (iLoc 1) (iLoc 2))), (sRetI (iCond (cB rlt (iLoc 1) (iLoc 2)) (iK 1) (iK 0))), (sRetI (iCond (cB req (iLoc 1) (iLoc 2)) (iK 1) (iK 0))), (sRetI (iCond (cAnd (cZ zne (iLoc 1)) (cZ zne (iLoc 2))) (iK 1) (iK 0)))] (sRetI (iCond (cOr (cZ zne (iLoc 1)) (cZ zne (iLoc 2))) (iK 1) (iK 0)))))
theorem kX12_worked (g : GT) : MK g 0 yX12_worked cX12_worked 3 (some .int) mX12_worked := MK.of (pcN := 99999) (pcB := 0) (pcC := 0) rfl (Sok.swB (Sok.tswitch (pc1 := 1) (pd := 88) (pcs := [40, 44, 48, 52, 63, 74]) (pcN := 99999) (pcB := 99999) (EokI.iload_n (q := 0) dX12_worked_0) (by decide) dX12_worked_1 (by decide) rfl (by decide) (by decide) (sw_list (pd := 88) (d := (sRetI (iCond (cOr (cZ zne (iLoc 1)) (cZ zne (iLoc 2))) (iK 1) (iK 0)))) ⟨(Sok.retI (pc1 := 43) (EokI.bin (pc1 := 41) (pc2 := 42) (EokI.iload_n (q := 1) dX12_worked_40) (EokI.iload_n (q := 2) dX12_worked_41) (OPI.iadd dX12_worked_42)) (by decide) dX12_worked_43 rfl), (Sok.retI (pc1 := 47) (EokI.bin (pc1 := 45) (pc2 := 46) (EokI.iload_n (q := 1) dX12_worked_44) (EokI.iload_n (q := 2) dX12_worked_45) (OPI.isub dX12_worked_46)) (by decide) dX12_worked_47 rfl), (Sok.retI (pc1 := 51) (EokI.bin (pc1 := 49) (pc2 := 50) (EokI.iload_n (q := 1) dX12_worked_48) (EokI.iload_n (q := 2) dX12_worked_49) (OPI.imul dX12_worked_50)) (by decide) dX12_worked_51 rfl), (Sok.retI (pc1 := 62) (EokI.cond' (pc1 := 57) (pc2 := 61) (Cok.cmp (pc1 := 53) (pc2 := 54) (pcT := 57) (pcF := 61) (EokI.iload_n (q := 1) dX12_worked_52) (EokI.iload_n (q := 2) dX12_worked_53) (JI.ltF (tgt := 61) dX12_worked_54 (by decide))) (EokI.goto (pc1 := 58) (pc2 := 62) (EokI.iconst (v := 1) dX12_worked_57 (by decide)) dX12_worked_58 (by decide)) (EokI.iconst (v := 0) dX12_worked_61 (by decide))) (by decide) dX12_worked_62 rfl), (Sok.retI (pc1 := 73) (EokI.cond' (pc1 := 68) (pc2 := 72) (Cok.cmp (pc1 := 64) (pc2 := 65) (pcT := 68) (pcF := 72) (EokI.iload_n (q := 1) dX12_worked_63) (EokI.iload_n (q := 2) dX12_worked_64) (JI.eqF (tgt := 72) dX12_worked_65 (by decide))) (EokI.goto (pc1 := 69) (pc2 := 73) (EokI.iconst (v := 1) dX12_worked_68 (by decide)) dX12_worked_69 (by decide)) (EokI.iconst (v := 0) dX12_worked_72 (by decide))) (by decide) dX12_worked_73 rfl), (Sok.retI (pc1 := 87) (EokI.cond' (pc1 := 82) (pc2 := 86) (Cok.and (pc1 := 78) (Cok.zero (pc1 := 75) (pcT := 78) (pcF := 86) (EokI.iload_n (q := 1) dX12_worked_74) (JZ.neF (tgt := 86) dX12_worked_75 (by decide))) (Cok.zero (pc1 := 79) (pcT := 82) (pcF := 86) (EokI.iload_n (q := 2) dX12_worked_78) (JZ.neF (tgt := 86) dX12_worked_79 (by decide)))) (EokI.goto (pc1 := 83) (pc2 := 87) (EokI.iconst (v := 1) dX12_worked_82 (by decide)) dX12_worked_83 (by decide)) (EokI.iconst (v := 0) dX12_worked_86 (by decide))) (by decide) dX12_worked_87 rfl), trivial⟩) (Sok.retI (pc1 := 101) (EokI.cond' (pc1 := 96) (pc2 := 100) (Cok.or (pc1 := 92) (Cok.zero (pc1 := 89) (pcT := 96) (pcF := 92) (EokI.iload_n (q := 1) dX12_worked_88) (JZ.neT (tgt := 96) dX12_worked_89 (by decide))) (Cok.zero (pc1 := 93) (pcT := 96) (pcF := 100) (EokI.iload_n (q := 2) dX12_worked_92) (JZ.neF (tgt := 100) dX12_worked_93 (by decide)))) (EokI.goto (pc1 := 97) (pc2 := 101) (EokI.iconst (v := 1) dX12_worked_96 (by decide)) dX12_worked_97 (by decide)) (EokI.iconst (v := 0) dX12_worked_100 (by decide))) (by decide) dX12_worked_101 rfl)))
/-! PassHutsModel.worthAt(I)I -/
theorem dX12_worthAt_0 : decode cX12_worthAt 0 = .ok (.iconst 0, 1) := by decide +kernel
theorem dX12_worthAt_1 : decode cX12_worthAt 1 = .ok (.istore_n 2, 1) := by decide +kernel
theorem dX12_worthAt_2 : decode cX12_worthAt 2 = .ok (.iload_n 1, 1) := by decide +kernel
theorem dX12_worthAt_3 : decode cX12_worthAt 3 = .ok (.istore_n 3, 1) := by decide +kernel
theorem dX12_worthAt_4 : decode cX12_worthAt 4 = .ok (.aload_n 0, 1) := by decide +kernel
theorem dX12_worthAt_5 : decode cX12_worthAt 5 = .ok (.getfield 78, 3) := by decide +kernel
theorem dX12_worthAt_8 : decode cX12_worthAt 8 = .ok (.iload_n 3, 1) := by decide +kernel
theorem dX12_worthAt_9 : decode cX12_worthAt 9 = .ok (.iaload, 1) := by decide +kernel
theorem dX12_worthAt_10 : decode cX12_worthAt 10 = .ok (.bipush 16, 2) := by decide +kernel
theorem dX12_worthAt_12 : decode cX12_worthAt 12 = .ok (.irem, 1) := by decide +kernel
theorem dX12_worthAt_13 : decode cX12_worthAt 13 = .ok (.ifCond .eq 139, 3) := by decide +kernel
theorem dX12_worthAt_16 : decode cX12_worthAt 16 = .ok (.aload_n 0, 1) := by decide +kernel
theorem dX12_worthAt_17 : decode cX12_worthAt 17 = .ok (.getfield 78, 3) := by decide +kernel
theorem dX12_worthAt_20 : decode cX12_worthAt 20 = .ok (.iload_n 3, 1) := by decide +kernel
theorem dX12_worthAt_21 : decode cX12_worthAt 21 = .ok (.iaload, 1) := by decide +kernel
theorem dX12_worthAt_22 : decode cX12_worthAt 22 = .ok (.bipush 16, 2) := by decide +kernel
theorem dX12_worthAt_24 : decode cX12_worthAt 24 = .ok (.irem, 1) := by decide +kernel
theorem dX12_worthAt_25 : decode cX12_worthAt 25 = .ok (.istore 4, 2) := by decide +kernel
theorem dX12_worthAt_27 : decode cX12_worthAt 27 = .ok (.iload 4, 2) := by decide +kernel
theorem dX12_worthAt_29 : decode cX12_worthAt 29 = .ok (.iconst 1, 1) := by decide +kernel
theorem dX12_worthAt_30 : decode cX12_worthAt 30 = .ok (.if_icmp .eq 9, 3) := by decide +kernel
theorem dX12_worthAt_33 : decode cX12_worthAt 33 = .ok (.iload 4, 2) := by decide +kernel
theorem dX12_worthAt_35 : decode cX12_worthAt 35 = .ok (.iconst 2, 1) := by decide +kernel
theorem dX12_worthAt_36 : decode cX12_worthAt 36 = .ok (.if_icmp .ne 47, 3) := by decide +kernel
theorem dX12_worthAt_39 : decode cX12_worthAt 39 = .ok (.aload_n 0, 1) := by decide +kernel
theorem dX12_worthAt_40 : decode cX12_worthAt 40 = .ok (.getfield 90, 3) := by decide +kernel
theorem dX12_worthAt_43 : decode cX12_worthAt 43 = .ok (.iload_n 2, 1) := by decide +kernel
theorem dX12_worthAt_44 : decode cX12_worthAt 44 = .ok (.iload 4, 2) := by decide +kernel
theorem dX12_worthAt_46 : decode cX12_worthAt 46 = .ok (.iconst 1, 1) := by decide +kernel
theorem dX12_worthAt_47 : decode cX12_worthAt 47 = .ok (.if_icmp .ne 15, 3) := by decide +kernel
theorem dX12_worthAt_50 : decode cX12_worthAt 50 = .ok (.aload_n 0, 1) := by decide +kernel
theorem dX12_worthAt_51 : decode cX12_worthAt 51 = .ok (.getfield 78, 3) := by decide +kernel
theorem dX12_worthAt_54 : decode cX12_worthAt 54 = .ok (.iload_n 3, 1) := by decide +kernel
theorem dX12_worthAt_55 : decode cX12_worthAt 55 = .ok (.iaload, 1) := by decide +kernel
theorem dX12_worthAt_56 : decode cX12_worthAt 56 = .ok (.bipush 16, 2) := by decide +kernel
theorem dX12_worthAt_58 : decode cX12_worthAt 58 = .ok (.idiv, 1) := by decide +kernel
theorem dX12_worthAt_59 : decode cX12_worthAt 59 = .ok (.goto 17, 3) := by decide +kernel
theorem dX12_worthAt_62 : decode cX12_worthAt 62 = .ok (.aload_n 0, 1) := by decide +kernel
theorem dX12_worthAt_63 : decode cX12_worthAt 63 = .ok (.getfield 87, 3) := by decide +kernel
theorem dX12_worthAt_66 : decode cX12_worthAt 66 = .ok (.aload_n 0, 1) := by decide +kernel
theorem dX12_worthAt_67 : decode cX12_worthAt 67 = .ok (.getfield 78, 3) := by decide +kernel
theorem dX12_worthAt_70 : decode cX12_worthAt 70 = .ok (.iload_n 3, 1) := by decide +kernel
theorem dX12_worthAt_71 : decode cX12_worthAt 71 = .ok (.iaload, 1) := by decide +kernel
theorem dX12_worthAt_72 : decode cX12_worthAt 72 = .ok (.bipush 16, 2) := by decide +kernel
theorem dX12_worthAt_74 : decode cX12_worthAt 74 = .ok (.idiv, 1) := by decide +kernel
theorem dX12_worthAt_75 : decode cX12_worthAt 75 = .ok (.iaload, 1) := by decide +kernel
theorem dX12_worthAt_76 : decode cX12_worthAt 76 = .ok (.iastore, 1) := by decide +kernel
theorem dX12_worthAt_77 : decode cX12_worthAt 77 = .ok (.iinc 2 1, 3) := by decide +kernel
theorem dX12_worthAt_80 : decode cX12_worthAt 80 = .ok (.goto 66, 3) := by decide +kernel
theorem dX12_worthAt_83 : decode cX12_worthAt 83 = .ok (.iload 4, 2) := by decide +kernel
theorem dX12_worthAt_85 : decode cX12_worthAt 85 = .ok (.iconst 3, 1) := by decide +kernel
theorem dX12_worthAt_86 : decode cX12_worthAt 86 = .ok (.if_icmp .ne 30, 3) := by decide +kernel
theorem dX12_worthAt_89 : decode cX12_worthAt 89 = .ok (.aload_n 0, 1) := by decide +kernel
theorem dX12_worthAt_90 : decode cX12_worthAt 90 = .ok (.getfield 90, 3) := by decide +kernel
theorem dX12_worthAt_93 : decode cX12_worthAt 93 = .ok (.iload_n 2, 1) := by decide +kernel
theorem dX12_worthAt_94 : decode cX12_worthAt 94 = .ok (.iconst 1, 1) := by decide +kernel
theorem dX12_worthAt_95 : decode cX12_worthAt 95 = .ok (.isub, 1) := by decide +kernel
theorem dX12_worthAt_96 : decode cX12_worthAt 96 = .ok (.aload_n 0, 1) := by decide +kernel
theorem dX12_worthAt_97 : decode cX12_worthAt 97 = .ok (.getfield 90, 3) := by decide +kernel
theorem dX12_worthAt_100 : decode cX12_worthAt 100 = .ok (.iload_n 2, 1) := by decide +kernel
theorem dX12_worthAt_101 : decode cX12_worthAt 101 = .ok (.iconst 1, 1) := by decide +kernel
theorem dX12_worthAt_102 : decode cX12_worthAt 102 = .ok (.isub, 1) := by decide +kernel
theorem dX12_worthAt_103 : decode cX12_worthAt 103 = .ok (.iaload, 1) := by decide +kernel
theorem dX12_worthAt_104 : decode cX12_worthAt 104 = .ok (.ifCond .ne 7, 3) := by decide +kernel
theorem dX12_worthAt_107 : decode cX12_worthAt 107 = .ok (.iconst 1, 1) := by decide +kernel
theorem dX12_worthAt_108 : decode cX12_worthAt 108 = .ok (.goto 4, 3) := by decide +kernel
theorem dX12_worthAt_111 : decode cX12_worthAt 111 = .ok (.iconst 0, 1) := by decide +kernel
theorem dX12_worthAt_112 : decode cX12_worthAt 112 = .ok (.iastore, 1) := by decide +kernel
theorem dX12_worthAt_113 : decode cX12_worthAt 113 = .ok (.goto 33, 3) := by decide +kernel
theorem dX12_worthAt_116 : decode cX12_worthAt 116 = .ok (.iinc 2 (-1), 3) := by decide +kernel
theorem dX12_worthAt_119 : decode cX12_worthAt 119 = .ok (.aload_n 0, 1) := by decide +kernel
theorem dX12_worthAt_120 : decode cX12_worthAt 120 = .ok (.getfield 90, 3) := by decide +kernel
theorem dX12_worthAt_123 : decode cX12_worthAt 123 = .ok (.iload_n 2, 1) := by decide +kernel
theorem dX12_worthAt_124 : decode cX12_worthAt 124 = .ok (.iconst 1, 1) := by decide +kernel
theorem dX12_worthAt_125 : decode cX12_worthAt 125 = .ok (.isub, 1) := by decide +kernel
theorem dX12_worthAt_126 : decode cX12_worthAt 126 = .ok (.iload 4, 2) := by decide +kernel
theorem dX12_worthAt_128 : decode cX12_worthAt 128 = .ok (.aload_n 0, 1) := by decide +kernel
theorem dX12_worthAt_129 : decode cX12_worthAt 129 = .ok (.getfield 90, 3) := by decide +kernel
theorem dX12_worthAt_132 : decode cX12_worthAt 132 = .ok (.iload_n 2, 1) := by decide +kernel
theorem dX12_worthAt_133 : decode cX12_worthAt 133 = .ok (.iconst 1, 1) := by decide +kernel
theorem dX12_worthAt_134 : decode cX12_worthAt 134 = .ok (.isub, 1) := by decide +kernel
theorem dX12_worthAt_135 : decode cX12_worthAt 135 = .ok (.iaload, 1) := by decide +kernel
theorem dX12_worthAt_136 : decode cX12_worthAt 136 = .ok (.aload_n 0, 1) := by decide +kernel
theorem dX12_worthAt_137 : decode cX12_worthAt 137 = .ok (.getfield 90, 3) := by decide +kernel
theorem dX12_worthAt_140 : decode cX12_worthAt 140 = .ok (.iload_n 2, 1) := by decide +kernel
theorem dX12_worthAt_141 : decode cX12_worthAt 141 = .ok (.iaload, 1) := by decide +kernel
theorem dX12_worthAt_142 : decode cX12_worthAt 142 = .ok (.invokestatic 233, 3) := by decide +kernel
theorem dX12_worthAt_145 : decode cX12_worthAt 145 = .ok (.iastore, 1) := by decide +kernel
theorem dX12_worthAt_146 : decode cX12_worthAt 146 = .ok (.iinc 3 1, 3) := by decide +kernel
theorem dX12_worthAt_149 : decode cX12_worthAt 149 = .ok (.goto (-145), 3) := by decide +kernel
theorem dX12_worthAt_152 : decode cX12_worthAt 152 = .ok (.aload_n 0, 1) := by decide +kernel
theorem dX12_worthAt_153 : decode cX12_worthAt 153 = .ok (.getfield 90, 3) := by decide +kernel
theorem dX12_worthAt_156 : decode cX12_worthAt 156 = .ok (.iconst 0, 1) := by decide +kernel
theorem dX12_worthAt_157 : decode cX12_worthAt 157 = .ok (.iaload, 1) := by decide +kernel
theorem dX12_worthAt_158 : decode cX12_worthAt 158 = .ok (.ireturn, 1) := by decide +kernel
abbrev tX12_worthAt (k : Nat) : MT := (RX12, cX12_worthAt, 5, k, (some .int))
def lX12_worthAt_1 : SX := (sLoop (cZ zne (iB gNZ jrem (iALd (rGet 12 11 (rLoc 0)) (iLoc 3)) (iK 16))) (sSeq (sSetI 4 (iB gNZ jrem (iALd (rGet 12 11 (rLoc 0)) (iLoc 3)) (iK 16))) (sIf (cOr (cB req (iLoc 4) (iK 1)) (cB req (iLoc 4) (iK 2))) (sSeq (sASt 0 narI (rGet 12 16 (rLoc 0)) (iLoc 2) (iCond (cB req (iLoc 4) (iK 1)) (iB gNZ (· / ·) (iALd (rGet 12 11 (rLoc 0)) (iLoc 3)) (iK 16)) (iALd (rGet 12 15 (rLoc 0)) (iB gNZ (· / ·) (iALd (rGet 12 11 (rLoc 0)) (iLoc 3)) (iK 16))))) (sInc 2 1)) (sIf (cB req (iLoc 4) (iK 3)) (sASt 0 narI (rGet 12 16 (rLoc 0)) (iB gT2 (· - ·) (iLoc 2) (iK 1)) (iCond (cZ zeq (iALd (rGet 12 16 (rLoc 0)) (iB gT2 (· - ·) (iLoc 2) (iK 1)))) (iK 1) (iK 0))) (sSeq (sInc 2 (-1)) (sASt 0 narI (rGet 12 16 (rLoc 0)) (iB gT2 (· - ·) (iLoc 2) (iK 1)) (iCallS mX12_worked (aI (iLoc 4) (aI (iALd (rGet 12 16 (rLoc 0)) (iB gT2 (· - ·) (iLoc 2) (iK 1))) (aI (iALd (rGet 12 16 (rLoc 0)) (iLoc 2)) aNil))))))))) (sSeq (sForget 4) (sInc 3 1)))
theorem olX12_worthAt_1 (g : GT) {pcB pcC : Nat} : Sok g (tX12_worthAt 1) 4 152 pcB pcC (lX12_worthAt_1) := (Sok.loop (pc := 4) (pc1 := 16) (pc2 := 146) (pcN := 152) (Cok.zero (pc1 := 13) (pcT := 16) (pcF := 152) (EokI.bin (pc1 := 10) (pc2 := 12) (EokI.iALd (pc1 := 8) (pc2 := 9) (EokR.getf (pc1 := 5) (j := 11) (ci := 12) (T := TX12) (N := 27) (EokR.aload_n (q := 0) dX12_worthAt_4) rfl wsX12_in (by decide) flX12_78 dX12_worthAt_5) (EokI.iload_n (q := 3) dX12_worthAt_8) dX12_worthAt_9) (EokI.bipush (v := 16) dX12_worthAt_10 (by decide)) (OPI.irem dX12_worthAt_12)) (JZ.neF (tgt := 152) dX12_worthAt_13 (by decide))) (by decide) (Sok.seq (pc1 := 27) (Sok.setI (i := 4) (pc1 := 25) (EokI.bin (pc1 := 22) (pc2 := 24) (EokI.iALd (pc1 := 20) (pc2 := 21) (EokR.getf (pc1 := 17) (j := 11) (ci := 12) (T := TX12) (N := 27) (EokR.aload_n (q := 0) dX12_worthAt_16) rfl wsX12_in (by decide) flX12_78 dX12_worthAt_17) (EokI.iload_n (q := 3) dX12_worthAt_20) dX12_worthAt_21) (EokI.bipush (v := 16) dX12_worthAt_22 (by decide)) (OPI.irem dX12_worthAt_24)) (by decide) dX12_worthAt_25 (show 4 < 5 by decide)) (Sok.ite (pc1 := 39) (pc2 := 83) (Cok.or (pc1 := 33) (Cok.cmp (pc1 := 29) (pc2 := 30) (pcT := 39) (pcF := 33) (EokI.iload (i := 4) dX12_worthAt_27) (EokI.iconst (v := 1) dX12_worthAt_29 (by decide)) (JI.eqT (tgt := 39) dX12_worthAt_30 (by decide))) (Cok.cmp (pc1 := 35) (pc2 := 36) (pcT := 39) (pcF := 83) (EokI.iload (i := 4) dX12_worthAt_33) (EokI.iconst (v := 2) dX12_worthAt_35 (by decide)) (JI.eqF (tgt := 83) dX12_worthAt_36 (by decide)))) (by decide) (Sok.seq (pc1 := 77) (Sok.iASt (pc1 := 43) (pc2 := 44) (pc3 := 76) (EokR.getf (pc1 := 40) (j := 16) (ci := 12) (T := TX12) (N := 27) (EokR.aload_n (q := 0) dX12_worthAt_39) rfl wsX12_in (by decide) flX12_90 dX12_worthAt_40) (EokI.iload_n (q := 2) dX12_worthAt_43) (EokI.cond' (pc1 := 50) (pc2 := 62) (Cok.cmp (pc1 := 46) (pc2 := 47) (pcT := 50) (pcF := 62) (EokI.iload (i := 4) dX12_worthAt_44) (EokI.iconst (v := 1) dX12_worthAt_46 (by decide)) (JI.eqF (tgt := 62) dX12_worthAt_47 (by decide))) (EokI.goto (pc1 := 59) (pc2 := 76) (EokI.bin (pc1 := 56) (pc2 := 58) (EokI.iALd (pc1 := 54) (pc2 := 55) (EokR.getf (pc1 := 51) (j := 11) (ci := 12) (T := TX12) (N := 27) (EokR.aload_n (q := 0) dX12_worthAt_50) rfl wsX12_in (by decide) flX12_78 dX12_worthAt_51) (EokI.iload_n (q := 3) dX12_worthAt_54) dX12_worthAt_55) (EokI.bipush (v := 16) dX12_worthAt_56 (by decide)) (OPI.idiv dX12_worthAt_58)) dX12_worthAt_59 (by decide)) (EokI.iALd (pc1 := 66) (pc2 := 75) (EokR.getf (pc1 := 63) (j := 15) (ci := 12) (T := TX12) (N := 27) (EokR.aload_n (q := 0) dX12_worthAt_62) rfl wsX12_in (by decide) flX12_87 dX12_worthAt_63) (EokI.bin (pc1 := 72) (pc2 := 74) (EokI.iALd (pc1 := 70) (pc2 := 71) (EokR.getf (pc1 := 67) (j := 11) (ci := 12) (T := TX12) (N := 27) (EokR.aload_n (q := 0) dX12_worthAt_66) rfl wsX12_in (by decide) flX12_78 dX12_worthAt_67) (EokI.iload_n (q := 3) dX12_worthAt_70) dX12_worthAt_71) (EokI.bipush (v := 16) dX12_worthAt_72 (by decide)) (OPI.idiv dX12_worthAt_74)) dX12_worthAt_75)) (by decide) dX12_worthAt_76) (Sok.goto (pc1 := 80) (pcN := 146) (Sok.iinc (i := 2) (v := 1) dX12_worthAt_77 (show 2 < 5 by decide) (by decide)) dX12_worthAt_80 (by decide))) (Sok.ite (pc1 := 89) (pc2 := 116) (Cok.cmp (pc1 := 85) (pc2 := 86) (pcT := 89) (pcF := 116) (EokI.iload (i := 4) dX12_worthAt_83) (EokI.iconst (v := 3) dX12_worthAt_85 (by decide)) (JI.eqF (tgt := 116) dX12_worthAt_86 (by decide))) (by decide) (Sok.goto (pc1 := 113) (pcN := 146) (Sok.iASt (pc1 := 93) (pc2 := 96) (pc3 := 112) (EokR.getf (pc1 := 90) (j := 16) (ci := 12) (T := TX12) (N := 27) (EokR.aload_n (q := 0) dX12_worthAt_89) rfl wsX12_in (by decide) flX12_90 dX12_worthAt_90) (EokI.bin (pc1 := 94) (pc2 := 95) (EokI.iload_n (q := 2) dX12_worthAt_93) (EokI.iconst (v := 1) dX12_worthAt_94 (by decide)) (OPI.isub dX12_worthAt_95)) (EokI.cond' (pc1 := 107) (pc2 := 111) (Cok.zero (pc1 := 104) (pcT := 107) (pcF := 111) (EokI.iALd (pc1 := 100) (pc2 := 103) (EokR.getf (pc1 := 97) (j := 16) (ci := 12) (T := TX12) (N := 27) (EokR.aload_n (q := 0) dX12_worthAt_96) rfl wsX12_in (by decide) flX12_90 dX12_worthAt_97) (EokI.bin (pc1 := 101) (pc2 := 102) (EokI.iload_n (q := 2) dX12_worthAt_100) (EokI.iconst (v := 1) dX12_worthAt_101 (by decide)) (OPI.isub dX12_worthAt_102)) dX12_worthAt_103) (JZ.eqF (tgt := 111) dX12_worthAt_104 (by decide))) (EokI.goto (pc1 := 108) (pc2 := 112) (EokI.iconst (v := 1) dX12_worthAt_107 (by decide)) dX12_worthAt_108 (by decide)) (EokI.iconst (v := 0) dX12_worthAt_111 (by decide))) (by decide) dX12_worthAt_112) dX12_worthAt_113 (by decide)) (Sok.seq (pc1 := 119) (Sok.iinc (i := 2) (v := (-1)) dX12_worthAt_116 (show 2 < 5 by decide) (by decide)) (Sok.iASt (pc1 := 123) (pc2 := 126) (pc3 := 145) (EokR.getf (pc1 := 120) (j := 16) (ci := 12) (T := TX12) (N := 27) (EokR.aload_n (q := 0) dX12_worthAt_119) rfl wsX12_in (by decide) flX12_90 dX12_worthAt_120) (EokI.bin (pc1 := 124) (pc2 := 125) (EokI.iload_n (q := 2) dX12_worthAt_123) (EokI.iconst (v := 1) dX12_worthAt_124 (by decide)) (OPI.isub dX12_worthAt_125)) (EokI.iCallS (pc1 := 142) (Aok.aI (pc1 := 128) (EokI.iload (i := 4) dX12_worthAt_126) (Aok.aI (pc1 := 136) (EokI.iALd (pc1 := 132) (pc2 := 135) (EokR.getf (pc1 := 129) (j := 16) (ci := 12) (T := TX12) (N := 27) (EokR.aload_n (q := 0) dX12_worthAt_128) rfl wsX12_in (by decide) flX12_90 dX12_worthAt_129) (EokI.bin (pc1 := 133) (pc2 := 134) (EokI.iload_n (q := 2) dX12_worthAt_132) (EokI.iconst (v := 1) dX12_worthAt_133 (by decide)) (OPI.isub dX12_worthAt_134)) dX12_worthAt_135) (Aok.aI (pc1 := 142) (EokI.iALd (pc1 := 140) (pc2 := 141) (EokR.getf (pc1 := 137) (j := 16) (ci := 12) (T := TX12) (N := 27) (EokR.aload_n (q := 0) dX12_worthAt_136) rfl wsX12_in (by decide) flX12_90 dX12_worthAt_137) (EokI.iload_n (q := 2) dX12_worthAt_140) dX12_worthAt_141) Aok.nil))) (kX12_worked g) ykX12_worked skX12_233 (by decide) (by decide) dX12_worthAt_142) (by decide) dX12_worthAt_145))))) (Sok.seq (pc1 := 146) Sok.forget (Sok.goto (pc1 := 149) (pcN := 4) (Sok.iinc (i := 3) (v := 1) dX12_worthAt_146 (show 3 < 5 by decide) (by decide)) dX12_worthAt_149 (by decide))))
def mX12_worthAt : MX := bodyOf 5 (sSeq (sSetI 2 (iK 0)) (sSeq (sSeq (sSeq (sSetI 3 (iLoc 1)) lX12_worthAt_1) (sForget 3)) (sRetI (iALd (rGet 12 16 (rLoc 0)) (iK 0)))))
theorem kX12_worthAt (g : GT) : MK g 1 yX12_worthAt cX12_worthAt 5 (some .int) mX12_worthAt := MK.of (pcN := 99999) (pcB := 0) (pcC := 0) rfl (Sok.seq (pc1 := 2) (Sok.setI_n (q := 2) (pc1 := 1) (EokI.iconst (v := 0) dX12_worthAt_0 (by decide)) (by decide) dX12_worthAt_1 (show 2 < 5 by decide)) (Sok.seq (pc1 := 152) (Sok.seq (pc1 := 152) (Sok.seq (pc1 := 4) (Sok.setI_n (q := 3) (pc1 := 3) (EokI.iload_n (q := 1) dX12_worthAt_2) (by decide) dX12_worthAt_3 (show 3 < 5 by decide)) (olX12_worthAt_1 g )) (Sok.forget (pc := 152))) (Sok.retI (pc1 := 158) (EokI.iALd (pc1 := 156) (pc2 := 157) (EokR.getf (pc1 := 153) (j := 16) (ci := 12) (T := TX12) (N := 27) (EokR.aload_n (q := 0) dX12_worthAt_152) rfl wsX12_in (by decide) flX12_90 dX12_worthAt_153) (EokI.iconst (v := 0) dX12_worthAt_156 (by decide)) dX12_worthAt_157) (by decide) dX12_worthAt_158 rfl)))
/-! PassHutsModel.pathsFrom(I)I -/
theorem dX12_pathsFrom_0 : decode cX12_pathsFrom 0 = .ok (.iconst 0, 1) := by decide +kernel
theorem dX12_pathsFrom_1 : decode cX12_pathsFrom 1 = .ok (.istore_n 2, 1) := by decide +kernel
theorem dX12_pathsFrom_2 : decode cX12_pathsFrom 2 = .ok (.iconst 0, 1) := by decide +kernel
theorem dX12_pathsFrom_3 : decode cX12_pathsFrom 3 = .ok (.istore_n 3, 1) := by decide +kernel
theorem dX12_pathsFrom_4 : decode cX12_pathsFrom 4 = .ok (.iload_n 3, 1) := by decide +kernel
theorem dX12_pathsFrom_5 : decode cX12_pathsFrom 5 = .ok (.aload_n 0, 1) := by decide +kernel
theorem dX12_pathsFrom_6 : decode cX12_pathsFrom 6 = .ok (.invokevirtual 215, 3) := by decide +kernel
theorem dX12_pathsFrom_9 : decode cX12_pathsFrom 9 = .ok (.if_icmp .ge 35, 3) := by decide +kernel
theorem dX12_pathsFrom_12 : decode cX12_pathsFrom 12 = .ok (.iload_n 2, 1) := by decide +kernel
theorem dX12_pathsFrom_13 : decode cX12_pathsFrom 13 = .ok (.aload_n 0, 1) := by decide +kernel
theorem dX12_pathsFrom_14 : decode cX12_pathsFrom 14 = .ok (.getfield 75, 3) := by decide +kernel
theorem dX12_pathsFrom_17 : decode cX12_pathsFrom 17 = .ok (.bipush 13, 2) := by decide +kernel
theorem dX12_pathsFrom_19 : decode cX12_pathsFrom 19 = .ok (.iconst 5, 1) := by decide +kernel
theorem dX12_pathsFrom_20 : decode cX12_pathsFrom 20 = .ok (.iload_n 1, 1) := by decide +kernel
theorem dX12_pathsFrom_21 : decode cX12_pathsFrom 21 = .ok (.imul, 1) := by decide +kernel
theorem dX12_pathsFrom_22 : decode cX12_pathsFrom 22 = .ok (.iadd, 1) := by decide +kernel
theorem dX12_pathsFrom_23 : decode cX12_pathsFrom 23 = .ok (.iload_n 3, 1) := by decide +kernel
theorem dX12_pathsFrom_24 : decode cX12_pathsFrom 24 = .ok (.iadd, 1) := by decide +kernel
theorem dX12_pathsFrom_25 : decode cX12_pathsFrom 25 = .ok (.iaload, 1) := by decide +kernel
theorem dX12_pathsFrom_26 : decode cX12_pathsFrom 26 = .ok (.ifCond .le 9, 3) := by decide +kernel
theorem dX12_pathsFrom_29 : decode cX12_pathsFrom 29 = .ok (.iconst 1, 1) := by decide +kernel
theorem dX12_pathsFrom_30 : decode cX12_pathsFrom 30 = .ok (.iload_n 3, 1) := by decide +kernel
theorem dX12_pathsFrom_31 : decode cX12_pathsFrom 31 = .ok (.ishl, 1) := by decide +kernel
theorem dX12_pathsFrom_32 : decode cX12_pathsFrom 32 = .ok (.goto 4, 3) := by decide +kernel
theorem dX12_pathsFrom_35 : decode cX12_pathsFrom 35 = .ok (.iconst 0, 1) := by decide +kernel
theorem dX12_pathsFrom_36 : decode cX12_pathsFrom 36 = .ok (.ior, 1) := by decide +kernel
theorem dX12_pathsFrom_37 : decode cX12_pathsFrom 37 = .ok (.istore_n 2, 1) := by decide +kernel
theorem dX12_pathsFrom_38 : decode cX12_pathsFrom 38 = .ok (.iinc 3 1, 3) := by decide +kernel
theorem dX12_pathsFrom_41 : decode cX12_pathsFrom 41 = .ok (.goto (-37), 3) := by decide +kernel
theorem dX12_pathsFrom_44 : decode cX12_pathsFrom 44 = .ok (.iload_n 2, 1) := by decide +kernel
theorem dX12_pathsFrom_45 : decode cX12_pathsFrom 45 = .ok (.ireturn, 1) := by decide +kernel
abbrev tX12_pathsFrom (k : Nat) : MT := (RX12, cX12_pathsFrom, 4, k, (some .int))
def lX12_pathsFrom_1 : SX := (sLoop (cB rlt (iLoc 3) (iCallV 12 mX12_huts (aR (rLoc 0) aNil))) (sSetI 2 (iB gT2 (· ||| ·) (iLoc 2) (iCond (cZ zgt (iALd (rGet 12 10 (rLoc 0)) (iB gT2 (· + ·) (iB gT2 (· + ·) (iK 13) (iB gT2 (· * ·) (iK 5) (iLoc 1))) (iLoc 3)))) (iB gT2 jshl (iK 1) (iLoc 3)) (iK 0)))) (sInc 3 1))
theorem olX12_pathsFrom_1 (g : GT) {pcB pcC : Nat} : Sok g (tX12_pathsFrom 1) 4 44 pcB pcC (lX12_pathsFrom_1) := (Sok.loop (pc := 4) (pc1 := 12) (pc2 := 38) (pcN := 44) (Cok.cmp (pc1 := 5) (pc2 := 9) (pcT := 12) (pcF := 44) (EokI.iload_n (q := 3) dX12_pathsFrom_4) (EokI.iCallV (pc1 := 6) (Aok.aR (pc1 := 6) (EokR.aload_n (q := 0) dX12_pathsFrom_5) Aok.nil) (kX12_huts g) rfl ykX12_huts vkX12_215 (by decide) (by decide) dX12_pathsFrom_6) (JI.ltF (tgt := 44) dX12_pathsFrom_9 (by decide))) (by decide) (Sok.setI_n (q := 2) (pc1 := 37) (EokI.bin (pc1 := 13) (pc2 := 36) (EokI.iload_n (q := 2) dX12_pathsFrom_12) (EokI.cond' (pc1 := 29) (pc2 := 35) (Cok.zero (pc1 := 26) (pcT := 29) (pcF := 35) (EokI.iALd (pc1 := 17) (pc2 := 25) (EokR.getf (pc1 := 14) (j := 10) (ci := 12) (T := TX12) (N := 27) (EokR.aload_n (q := 0) dX12_pathsFrom_13) rfl wsX12_in (by decide) flX12_75 dX12_pathsFrom_14) (EokI.bin (pc1 := 23) (pc2 := 24) (EokI.bin (pc1 := 19) (pc2 := 22) (EokI.bipush (v := 13) dX12_pathsFrom_17 (by decide)) (EokI.bin (pc1 := 20) (pc2 := 21) (EokI.iconst (v := 5) dX12_pathsFrom_19 (by decide)) (EokI.iload_n (q := 1) dX12_pathsFrom_20) (OPI.imul dX12_pathsFrom_21)) (OPI.iadd dX12_pathsFrom_22)) (EokI.iload_n (q := 3) dX12_pathsFrom_23) (OPI.iadd dX12_pathsFrom_24)) dX12_pathsFrom_25) (JZ.gtF (tgt := 35) dX12_pathsFrom_26 (by decide))) (EokI.goto (pc1 := 32) (pc2 := 36) (EokI.bin (pc1 := 30) (pc2 := 31) (EokI.iconst (v := 1) dX12_pathsFrom_29 (by decide)) (EokI.iload_n (q := 3) dX12_pathsFrom_30) (OPI.ishl dX12_pathsFrom_31)) dX12_pathsFrom_32 (by decide)) (EokI.iconst (v := 0) dX12_pathsFrom_35 (by decide))) (OPI.ior dX12_pathsFrom_36)) (by decide) dX12_pathsFrom_37 (show 2 < 4 by decide)) (Sok.goto (pc1 := 41) (pcN := 4) (Sok.iinc (i := 3) (v := 1) dX12_pathsFrom_38 (show 3 < 4 by decide) (by decide)) dX12_pathsFrom_41 (by decide)))
def mX12_pathsFrom : MX := bodyOf 4 (sSeq (sSetI 2 (iK 0)) (sSeq (sSeq (sSeq (sSetI 3 (iK 0)) lX12_pathsFrom_1) (sForget 3)) (sRetI (iLoc 2))))
theorem kX12_pathsFrom (g : GT) : MK g 1 yX12_pathsFrom cX12_pathsFrom 4 (some .int) mX12_pathsFrom := MK.of (pcN := 99999) (pcB := 0) (pcC := 0) rfl (Sok.seq (pc1 := 2) (Sok.setI_n (q := 2) (pc1 := 1) (EokI.iconst (v := 0) dX12_pathsFrom_0 (by decide)) (by decide) dX12_pathsFrom_1 (show 2 < 4 by decide)) (Sok.seq (pc1 := 44) (Sok.seq (pc1 := 44) (Sok.seq (pc1 := 4) (Sok.setI_n (q := 3) (pc1 := 3) (EokI.iconst (v := 0) dX12_pathsFrom_2 (by decide)) (by decide) dX12_pathsFrom_3 (show 3 < 4 by decide)) (olX12_pathsFrom_1 g )) (Sok.forget (pc := 44))) (Sok.retI (pc1 := 45) (EokI.iload_n (q := 2) dX12_pathsFrom_44) (by decide) dX12_pathsFrom_45 rfl)))
/-! PassHutsModel.priceOf(II)I -/
theorem dX12_priceOf_0 : decode cX12_priceOf 0 = .ok (.aload_n 0, 1) := by decide +kernel
theorem dX12_priceOf_1 : decode cX12_priceOf 1 = .ok (.getfield 75, 3) := by decide +kernel
theorem dX12_priceOf_4 : decode cX12_priceOf 4 = .ok (.bipush 13, 2) := by decide +kernel
theorem dX12_priceOf_6 : decode cX12_priceOf 6 = .ok (.iconst 5, 1) := by decide +kernel
theorem dX12_priceOf_7 : decode cX12_priceOf 7 = .ok (.iload_n 1, 1) := by decide +kernel
theorem dX12_priceOf_8 : decode cX12_priceOf 8 = .ok (.imul, 1) := by decide +kernel
theorem dX12_priceOf_9 : decode cX12_priceOf 9 = .ok (.iadd, 1) := by decide +kernel
theorem dX12_priceOf_10 : decode cX12_priceOf 10 = .ok (.iload_n 2, 1) := by decide +kernel
theorem dX12_priceOf_11 : decode cX12_priceOf 11 = .ok (.iadd, 1) := by decide +kernel
theorem dX12_priceOf_12 : decode cX12_priceOf 12 = .ok (.iaload, 1) := by decide +kernel
theorem dX12_priceOf_13 : decode cX12_priceOf 13 = .ok (.istore_n 3, 1) := by decide +kernel
theorem dX12_priceOf_14 : decode cX12_priceOf 14 = .ok (.iload_n 3, 1) := by decide +kernel
theorem dX12_priceOf_15 : decode cX12_priceOf 15 = .ok (.ifCond .ne 5, 3) := by decide +kernel
theorem dX12_priceOf_18 : decode cX12_priceOf 18 = .ok (.iconst 0, 1) := by decide +kernel
theorem dX12_priceOf_19 : decode cX12_priceOf 19 = .ok (.ireturn, 1) := by decide +kernel
theorem dX12_priceOf_20 : decode cX12_priceOf 20 = .ok (.aload_n 0, 1) := by decide +kernel
theorem dX12_priceOf_21 : decode cX12_priceOf 21 = .ok (.iload_n 1, 1) := by decide +kernel
theorem dX12_priceOf_22 : decode cX12_priceOf 22 = .ok (.iconst 0, 1) := by decide +kernel
theorem dX12_priceOf_23 : decode cX12_priceOf 23 = .ok (.invokevirtual 236, 3) := by decide +kernel
theorem dX12_priceOf_26 : decode cX12_priceOf 26 = .ok (.iconst 1, 1) := by decide +kernel
theorem dX12_priceOf_27 : decode cX12_priceOf 27 = .ok (.if_icmp .ne 14, 3) := by decide +kernel
theorem dX12_priceOf_30 : decode cX12_priceOf 30 = .ok (.iload_n 3, 1) := by decide +kernel
theorem dX12_priceOf_31 : decode cX12_priceOf 31 = .ok (.iconst 2, 1) := by decide +kernel
theorem dX12_priceOf_32 : decode cX12_priceOf 32 = .ok (.if_icmp .le 9, 3) := by decide +kernel
theorem dX12_priceOf_35 : decode cX12_priceOf 35 = .ok (.iload_n 3, 1) := by decide +kernel
theorem dX12_priceOf_36 : decode cX12_priceOf 36 = .ok (.iconst 1, 1) := by decide +kernel
theorem dX12_priceOf_37 : decode cX12_priceOf 37 = .ok (.isub, 1) := by decide +kernel
theorem dX12_priceOf_38 : decode cX12_priceOf 38 = .ok (.goto 4, 3) := by decide +kernel
theorem dX12_priceOf_41 : decode cX12_priceOf 41 = .ok (.iload_n 3, 1) := by decide +kernel
theorem dX12_priceOf_42 : decode cX12_priceOf 42 = .ok (.istore_n 3, 1) := by decide +kernel
theorem dX12_priceOf_43 : decode cX12_priceOf 43 = .ok (.aload_n 0, 1) := by decide +kernel
theorem dX12_priceOf_44 : decode cX12_priceOf 44 = .ok (.iload_n 2, 1) := by decide +kernel
theorem dX12_priceOf_45 : decode cX12_priceOf 45 = .ok (.iconst 0, 1) := by decide +kernel
theorem dX12_priceOf_46 : decode cX12_priceOf 46 = .ok (.invokevirtual 236, 3) := by decide +kernel
theorem dX12_priceOf_49 : decode cX12_priceOf 49 = .ok (.iconst 2, 1) := by decide +kernel
theorem dX12_priceOf_50 : decode cX12_priceOf 50 = .ok (.if_icmp .ne 9, 3) := by decide +kernel
theorem dX12_priceOf_53 : decode cX12_priceOf 53 = .ok (.iload_n 3, 1) := by decide +kernel
theorem dX12_priceOf_54 : decode cX12_priceOf 54 = .ok (.iconst 1, 1) := by decide +kernel
theorem dX12_priceOf_55 : decode cX12_priceOf 55 = .ok (.iadd, 1) := by decide +kernel
theorem dX12_priceOf_56 : decode cX12_priceOf 56 = .ok (.goto 4, 3) := by decide +kernel
theorem dX12_priceOf_59 : decode cX12_priceOf 59 = .ok (.iload_n 3, 1) := by decide +kernel
theorem dX12_priceOf_60 : decode cX12_priceOf 60 = .ok (.ireturn, 1) := by decide +kernel
abbrev tX12_priceOf (k : Nat) : MT := (RX12, cX12_priceOf, 4, k, (some .int))
def mX12_priceOf : MX := bodyOf 4 (sSeq (sSetI 3 (iALd (rGet 12 10 (rLoc 0)) (iB gT2 (· + ·) (iB gT2 (· + ·) (iK 13) (iB gT2 (· * ·) (iK 5) (iLoc 1))) (iLoc 2)))) (sSeq (sIf (cZ zeq (iLoc 3)) (sRetI (iK 0)) sSkip) (sSeq (sSetI 3 (iCond (cAnd (cB req (iCallV 12 mX12_hutOf (aR (rLoc 0) (aI (iLoc 1) (aI (iK 0) aNil)))) (iK 1)) (cB rgt (iLoc 3) (iK 2))) (iB gT2 (· - ·) (iLoc 3) (iK 1)) (iLoc 3))) (sRetI (iCond (cB req (iCallV 12 mX12_hutOf (aR (rLoc 0) (aI (iLoc 2) (aI (iK 0) aNil)))) (iK 2)) (iB gT2 (· + ·) (iLoc 3) (iK 1)) (iLoc 3))))))
theorem kX12_priceOf (g : GT) : MK g 1 yX12_priceOf cX12_priceOf 4 (some .int) mX12_priceOf := MK.of (pcN := 99999) (pcB := 0) (pcC := 0) rfl (Sok.seq (pc1 := 14) (Sok.setI_n (q := 3) (pc1 := 13) (EokI.iALd (pc1 := 4) (pc2 := 12) (EokR.getf (pc1 := 1) (j := 10) (ci := 12) (T := TX12) (N := 27) (EokR.aload_n (q := 0) dX12_priceOf_0) rfl wsX12_in (by decide) flX12_75 dX12_priceOf_1) (EokI.bin (pc1 := 10) (pc2 := 11) (EokI.bin (pc1 := 6) (pc2 := 9) (EokI.bipush (v := 13) dX12_priceOf_4 (by decide)) (EokI.bin (pc1 := 7) (pc2 := 8) (EokI.iconst (v := 5) dX12_priceOf_6 (by decide)) (EokI.iload_n (q := 1) dX12_priceOf_7) (OPI.imul dX12_priceOf_8)) (OPI.iadd dX12_priceOf_9)) (EokI.iload_n (q := 2) dX12_priceOf_10) (OPI.iadd dX12_priceOf_11)) dX12_priceOf_12) (by decide) dX12_priceOf_13 (show 3 < 4 by decide)) (Sok.seq (pc1 := 20) (Sok.ite (pc1 := 18) (pc2 := 20) (Cok.zero (pc1 := 15) (pcT := 18) (pcF := 20) (EokI.iload_n (q := 3) dX12_priceOf_14) (JZ.eqF (tgt := 20) dX12_priceOf_15 (by decide))) (by decide) (Sok.retI (pc1 := 19) (EokI.iconst (v := 0) dX12_priceOf_18 (by decide)) (by decide) dX12_priceOf_19 rfl) (Sok.skip (pc := 20))) (Sok.seq (pc1 := 43) (Sok.setI_n (q := 3) (pc1 := 42) (EokI.cond' (pc1 := 35) (pc2 := 41) (Cok.and (pc1 := 30) (Cok.cmp (pc1 := 26) (pc2 := 27) (pcT := 30) (pcF := 41) (EokI.iCallV (pc1 := 23) (Aok.aR (pc1 := 21) (EokR.aload_n (q := 0) dX12_priceOf_20) (Aok.aI (pc1 := 22) (EokI.iload_n (q := 1) dX12_priceOf_21) (Aok.aI (pc1 := 23) (EokI.iconst (v := 0) dX12_priceOf_22 (by decide)) Aok.nil))) (kX12_hutOf g) rfl ykX12_hutOf vkX12_236 (by decide) (by decide) dX12_priceOf_23) (EokI.iconst (v := 1) dX12_priceOf_26 (by decide)) (JI.eqF (tgt := 41) dX12_priceOf_27 (by decide))) (Cok.cmp (pc1 := 31) (pc2 := 32) (pcT := 35) (pcF := 41) (EokI.iload_n (q := 3) dX12_priceOf_30) (EokI.iconst (v := 2) dX12_priceOf_31 (by decide)) (JI.gtF (tgt := 41) dX12_priceOf_32 (by decide)))) (EokI.goto (pc1 := 38) (pc2 := 42) (EokI.bin (pc1 := 36) (pc2 := 37) (EokI.iload_n (q := 3) dX12_priceOf_35) (EokI.iconst (v := 1) dX12_priceOf_36 (by decide)) (OPI.isub dX12_priceOf_37)) dX12_priceOf_38 (by decide)) (EokI.iload_n (q := 3) dX12_priceOf_41)) (by decide) dX12_priceOf_42 (show 3 < 4 by decide)) (Sok.retI (pc1 := 60) (EokI.cond' (pc1 := 53) (pc2 := 59) (Cok.cmp (pc1 := 49) (pc2 := 50) (pcT := 53) (pcF := 59) (EokI.iCallV (pc1 := 46) (Aok.aR (pc1 := 44) (EokR.aload_n (q := 0) dX12_priceOf_43) (Aok.aI (pc1 := 45) (EokI.iload_n (q := 2) dX12_priceOf_44) (Aok.aI (pc1 := 46) (EokI.iconst (v := 0) dX12_priceOf_45 (by decide)) Aok.nil))) (kX12_hutOf g) rfl ykX12_hutOf vkX12_236 (by decide) (by decide) dX12_priceOf_46) (EokI.iconst (v := 2) dX12_priceOf_49 (by decide)) (JI.eqF (tgt := 59) dX12_priceOf_50 (by decide))) (EokI.goto (pc1 := 56) (pc2 := 60) (EokI.bin (pc1 := 54) (pc2 := 55) (EokI.iload_n (q := 3) dX12_priceOf_53) (EokI.iconst (v := 1) dX12_priceOf_54 (by decide)) (OPI.iadd dX12_priceOf_55)) dX12_priceOf_56 (by decide)) (EokI.iload_n (q := 3) dX12_priceOf_59)) (by decide) dX12_priceOf_60 rfl))))
/-! PassHutsModel.mayCarry(II)Z -/
theorem dX12_mayCarry_0 : decode cX12_mayCarry 0 = .ok (.aload_n 0, 1) := by decide +kernel
theorem dX12_mayCarry_1 : decode cX12_mayCarry 1 = .ok (.iload_n 1, 1) := by decide +kernel
theorem dX12_mayCarry_2 : decode cX12_mayCarry 2 = .ok (.iload_n 2, 1) := by decide +kernel
theorem dX12_mayCarry_3 : decode cX12_mayCarry 3 = .ok (.invokevirtual 252, 3) := by decide +kernel
theorem dX12_mayCarry_6 : decode cX12_mayCarry 6 = .ok (.istore_n 3, 1) := by decide +kernel
theorem dX12_mayCarry_7 : decode cX12_mayCarry 7 = .ok (.iload_n 3, 1) := by decide +kernel
theorem dX12_mayCarry_8 : decode cX12_mayCarry 8 = .ok (.ifCond .eq 21, 3) := by decide +kernel
theorem dX12_mayCarry_11 : decode cX12_mayCarry 11 = .ok (.aload_n 0, 1) := by decide +kernel
theorem dX12_mayCarry_12 : decode cX12_mayCarry 12 = .ok (.getfield 100, 3) := by decide +kernel
theorem dX12_mayCarry_15 : decode cX12_mayCarry 15 = .ok (.iload_n 1, 1) := by decide +kernel
theorem dX12_mayCarry_16 : decode cX12_mayCarry 16 = .ok (.iaload, 1) := by decide +kernel
theorem dX12_mayCarry_17 : decode cX12_mayCarry 17 = .ok (.iload_n 3, 1) := by decide +kernel
theorem dX12_mayCarry_18 : decode cX12_mayCarry 18 = .ok (.if_icmp .lt 11, 3) := by decide +kernel
theorem dX12_mayCarry_21 : decode cX12_mayCarry 21 = .ok (.aload_n 0, 1) := by decide +kernel
theorem dX12_mayCarry_22 : decode cX12_mayCarry 22 = .ok (.iload_n 2, 1) := by decide +kernel
theorem dX12_mayCarry_23 : decode cX12_mayCarry 23 = .ok (.invokevirtual 255, 3) := by decide +kernel
theorem dX12_mayCarry_26 : decode cX12_mayCarry 26 = .ok (.ifCond .eq 5, 3) := by decide +kernel
theorem dX12_mayCarry_29 : decode cX12_mayCarry 29 = .ok (.iconst 0, 1) := by decide +kernel
theorem dX12_mayCarry_30 : decode cX12_mayCarry 30 = .ok (.ireturn, 1) := by decide +kernel
theorem dX12_mayCarry_31 : decode cX12_mayCarry 31 = .ok (.aload_n 0, 1) := by decide +kernel
theorem dX12_mayCarry_32 : decode cX12_mayCarry 32 = .ok (.getfield 87, 3) := by decide +kernel
theorem dX12_mayCarry_35 : decode cX12_mayCarry 35 = .ok (.iconst 0, 1) := by decide +kernel
theorem dX12_mayCarry_36 : decode cX12_mayCarry 36 = .ok (.aload_n 0, 1) := by decide +kernel
theorem dX12_mayCarry_37 : decode cX12_mayCarry 37 = .ok (.getfield 100, 3) := by decide +kernel
theorem dX12_mayCarry_40 : decode cX12_mayCarry 40 = .ok (.iload_n 1, 1) := by decide +kernel
theorem dX12_mayCarry_41 : decode cX12_mayCarry 41 = .ok (.iaload, 1) := by decide +kernel
theorem dX12_mayCarry_42 : decode cX12_mayCarry 42 = .ok (.iastore, 1) := by decide +kernel
theorem dX12_mayCarry_43 : decode cX12_mayCarry 43 = .ok (.aload_n 0, 1) := by decide +kernel
theorem dX12_mayCarry_44 : decode cX12_mayCarry 44 = .ok (.getfield 87, 3) := by decide +kernel
theorem dX12_mayCarry_47 : decode cX12_mayCarry 47 = .ok (.iconst 1, 1) := by decide +kernel
theorem dX12_mayCarry_48 : decode cX12_mayCarry 48 = .ok (.aload_n 0, 1) := by decide +kernel
theorem dX12_mayCarry_49 : decode cX12_mayCarry 49 = .ok (.getfield 100, 3) := by decide +kernel
theorem dX12_mayCarry_52 : decode cX12_mayCarry 52 = .ok (.iload_n 2, 1) := by decide +kernel
theorem dX12_mayCarry_53 : decode cX12_mayCarry 53 = .ok (.iaload, 1) := by decide +kernel
theorem dX12_mayCarry_54 : decode cX12_mayCarry 54 = .ok (.iastore, 1) := by decide +kernel
theorem dX12_mayCarry_55 : decode cX12_mayCarry 55 = .ok (.aload_n 0, 1) := by decide +kernel
theorem dX12_mayCarry_56 : decode cX12_mayCarry 56 = .ok (.getfield 87, 3) := by decide +kernel
theorem dX12_mayCarry_59 : decode cX12_mayCarry 59 = .ok (.iconst 2, 1) := by decide +kernel
theorem dX12_mayCarry_60 : decode cX12_mayCarry 60 = .ok (.iload_n 3, 1) := by decide +kernel
theorem dX12_mayCarry_61 : decode cX12_mayCarry 61 = .ok (.iastore, 1) := by decide +kernel
theorem dX12_mayCarry_62 : decode cX12_mayCarry 62 = .ok (.aload_n 0, 1) := by decide +kernel
theorem dX12_mayCarry_63 : decode cX12_mayCarry 63 = .ok (.getfield 87, 3) := by decide +kernel
theorem dX12_mayCarry_66 : decode cX12_mayCarry 66 = .ok (.iconst 3, 1) := by decide +kernel
theorem dX12_mayCarry_67 : decode cX12_mayCarry 67 = .ok (.aload_n 0, 1) := by decide +kernel
theorem dX12_mayCarry_68 : decode cX12_mayCarry 68 = .ok (.invokevirtual 258, 3) := by decide +kernel
theorem dX12_mayCarry_71 : decode cX12_mayCarry 71 = .ok (.iastore, 1) := by decide +kernel
theorem dX12_mayCarry_72 : decode cX12_mayCarry 72 = .ok (.aload_n 0, 1) := by decide +kernel
theorem dX12_mayCarry_73 : decode cX12_mayCarry 73 = .ok (.getfield 75, 3) := by decide +kernel
theorem dX12_mayCarry_76 : decode cX12_mayCarry 76 = .ok (.iconst 2, 1) := by decide +kernel
theorem dX12_mayCarry_77 : decode cX12_mayCarry 77 = .ok (.iaload, 1) := by decide +kernel
theorem dX12_mayCarry_78 : decode cX12_mayCarry 78 = .ok (.ifCond .lt 16, 3) := by decide +kernel
theorem dX12_mayCarry_81 : decode cX12_mayCarry 81 = .ok (.aload_n 0, 1) := by decide +kernel
theorem dX12_mayCarry_82 : decode cX12_mayCarry 82 = .ok (.aload_n 0, 1) := by decide +kernel
theorem dX12_mayCarry_83 : decode cX12_mayCarry 83 = .ok (.getfield 75, 3) := by decide +kernel
theorem dX12_mayCarry_86 : decode cX12_mayCarry 86 = .ok (.iconst 2, 1) := by decide +kernel
theorem dX12_mayCarry_87 : decode cX12_mayCarry 87 = .ok (.iaload, 1) := by decide +kernel
theorem dX12_mayCarry_88 : decode cX12_mayCarry 88 = .ok (.invokevirtual 261, 3) := by decide +kernel
theorem dX12_mayCarry_91 : decode cX12_mayCarry 91 = .ok (.ifCond .ne 7, 3) := by decide +kernel
theorem dX12_mayCarry_94 : decode cX12_mayCarry 94 = .ok (.iconst 1, 1) := by decide +kernel
theorem dX12_mayCarry_95 : decode cX12_mayCarry 95 = .ok (.goto 4, 3) := by decide +kernel
theorem dX12_mayCarry_98 : decode cX12_mayCarry 98 = .ok (.iconst 0, 1) := by decide +kernel
theorem dX12_mayCarry_99 : decode cX12_mayCarry 99 = .ok (.ireturn, 1) := by decide +kernel
abbrev tX12_mayCarry (k : Nat) : MT := (RX12, cX12_mayCarry, 4, k, (some .boolean))
def mX12_mayCarry : MX := bodyOf 4 (sSeq (sSetI 3 (iCallV 12 mX12_priceOf (aR (rLoc 0) (aI (iLoc 1) (aI (iLoc 2) aNil))))) (sSeq (sIf (cOr (cOr (cZ zeq (iLoc 3)) (cB rlt (iALd (rGet 12 20 (rLoc 0)) (iLoc 1)) (iLoc 3))) (cZ zne (iCallV 12 mX12_isFull (aR (rLoc 0) (aI (iLoc 2) aNil))))) (sRetZ (iK 0)) sSkip) (sSeq (sASt 0 narI (rGet 12 15 (rLoc 0)) (iK 0) (iALd (rGet 12 20 (rLoc 0)) (iLoc 1))) (sSeq (sASt 0 narI (rGet 12 15 (rLoc 0)) (iK 1) (iALd (rGet 12 20 (rLoc 0)) (iLoc 2))) (sSeq (sASt 0 narI (rGet 12 15 (rLoc 0)) (iK 2) (iLoc 3)) (sSeq (sASt 0 narI (rGet 12 15 (rLoc 0)) (iK 3) (iCallV 12 mX12_allLoads (aR (rLoc 0) aNil))) (sRetZ (iBool (cOr (cZ zlt (iALd (rGet 12 10 (rLoc 0)) (iK 2))) (cZ zeq (iCallV 12 mX12_worthAt (aR (rLoc 0) (aI (iALd (rGet 12 10 (rLoc 0)) (iK 2)) aNil)))))))))))))
theorem kX12_mayCarry (g : GT) : MK g 2 yX12_mayCarry cX12_mayCarry 4 (some .boolean) mX12_mayCarry := MK.of (pcN := 99999) (pcB := 0) (pcC := 0) rfl (Sok.seq (pc1 := 7) (Sok.setI_n (q := 3) (pc1 := 6) (EokI.iCallV (pc1 := 3) (Aok.aR (pc1 := 1) (EokR.aload_n (q := 0) dX12_mayCarry_0) (Aok.aI (pc1 := 2) (EokI.iload_n (q := 1) dX12_mayCarry_1) (Aok.aI (pc1 := 3) (EokI.iload_n (q := 2) dX12_mayCarry_2) Aok.nil))) (kX12_priceOf g) rfl ykX12_priceOf vkX12_252 (by decide) (by decide) dX12_mayCarry_3) (by decide) dX12_mayCarry_6 (show 3 < 4 by decide)) (Sok.seq (pc1 := 31) (Sok.ite (pc1 := 29) (pc2 := 31) (Cok.or (pc1 := 21) (Cok.or (pc1 := 11) (Cok.zero (pc1 := 8) (pcT := 29) (pcF := 11) (EokI.iload_n (q := 3) dX12_mayCarry_7) (JZ.eqT (tgt := 29) dX12_mayCarry_8 (by decide))) (Cok.cmp (pc1 := 17) (pc2 := 18) (pcT := 29) (pcF := 21) (EokI.iALd (pc1 := 15) (pc2 := 16) (EokR.getf (pc1 := 12) (j := 20) (ci := 12) (T := TX12) (N := 27) (EokR.aload_n (q := 0) dX12_mayCarry_11) rfl wsX12_in (by decide) flX12_100 dX12_mayCarry_12) (EokI.iload_n (q := 1) dX12_mayCarry_15) dX12_mayCarry_16) (EokI.iload_n (q := 3) dX12_mayCarry_17) (JI.ltT (tgt := 29) dX12_mayCarry_18 (by decide)))) (Cok.zero (pc1 := 26) (pcT := 29) (pcF := 31) (EokI.iCallV (pc1 := 23) (Aok.aR (pc1 := 22) (EokR.aload_n (q := 0) dX12_mayCarry_21) (Aok.aI (pc1 := 23) (EokI.iload_n (q := 2) dX12_mayCarry_22) Aok.nil)) (kX12_isFull g) rfl ykX12_isFull vkX12_255 (by decide) (by decide) dX12_mayCarry_23) (JZ.neF (tgt := 31) dX12_mayCarry_26 (by decide)))) (by decide) (Sok.retZ (pc1 := 30) (EokI.iconst (v := 0) dX12_mayCarry_29 (by decide)) (by decide) dX12_mayCarry_30 rfl) (Sok.skip (pc := 31))) (Sok.seq (pc1 := 43) (Sok.iASt (pc1 := 35) (pc2 := 36) (pc3 := 42) (EokR.getf (pc1 := 32) (j := 15) (ci := 12) (T := TX12) (N := 27) (EokR.aload_n (q := 0) dX12_mayCarry_31) rfl wsX12_in (by decide) flX12_87 dX12_mayCarry_32) (EokI.iconst (v := 0) dX12_mayCarry_35 (by decide)) (EokI.iALd (pc1 := 40) (pc2 := 41) (EokR.getf (pc1 := 37) (j := 20) (ci := 12) (T := TX12) (N := 27) (EokR.aload_n (q := 0) dX12_mayCarry_36) rfl wsX12_in (by decide) flX12_100 dX12_mayCarry_37) (EokI.iload_n (q := 1) dX12_mayCarry_40) dX12_mayCarry_41) (by decide) dX12_mayCarry_42) (Sok.seq (pc1 := 55) (Sok.iASt (pc1 := 47) (pc2 := 48) (pc3 := 54) (EokR.getf (pc1 := 44) (j := 15) (ci := 12) (T := TX12) (N := 27) (EokR.aload_n (q := 0) dX12_mayCarry_43) rfl wsX12_in (by decide) flX12_87 dX12_mayCarry_44) (EokI.iconst (v := 1) dX12_mayCarry_47 (by decide)) (EokI.iALd (pc1 := 52) (pc2 := 53) (EokR.getf (pc1 := 49) (j := 20) (ci := 12) (T := TX12) (N := 27) (EokR.aload_n (q := 0) dX12_mayCarry_48) rfl wsX12_in (by decide) flX12_100 dX12_mayCarry_49) (EokI.iload_n (q := 2) dX12_mayCarry_52) dX12_mayCarry_53) (by decide) dX12_mayCarry_54) (Sok.seq (pc1 := 62) (Sok.iASt (pc1 := 59) (pc2 := 60) (pc3 := 61) (EokR.getf (pc1 := 56) (j := 15) (ci := 12) (T := TX12) (N := 27) (EokR.aload_n (q := 0) dX12_mayCarry_55) rfl wsX12_in (by decide) flX12_87 dX12_mayCarry_56) (EokI.iconst (v := 2) dX12_mayCarry_59 (by decide)) (EokI.iload_n (q := 3) dX12_mayCarry_60) (by decide) dX12_mayCarry_61) (Sok.seq (pc1 := 72) (Sok.iASt (pc1 := 66) (pc2 := 67) (pc3 := 71) (EokR.getf (pc1 := 63) (j := 15) (ci := 12) (T := TX12) (N := 27) (EokR.aload_n (q := 0) dX12_mayCarry_62) rfl wsX12_in (by decide) flX12_87 dX12_mayCarry_63) (EokI.iconst (v := 3) dX12_mayCarry_66 (by decide)) (EokI.iCallV (pc1 := 68) (Aok.aR (pc1 := 68) (EokR.aload_n (q := 0) dX12_mayCarry_67) Aok.nil) (kX12_allLoads g) rfl ykX12_allLoads vkX12_258 (by decide) (by decide) dX12_mayCarry_68) (by decide) dX12_mayCarry_71) (Sok.retZ (pc1 := 99) (EokI.cond' (pc1 := 94) (pc2 := 98) (Cok.or (pc1 := 81) (Cok.zero (pc1 := 78) (pcT := 94) (pcF := 81) (EokI.iALd (pc1 := 76) (pc2 := 77) (EokR.getf (pc1 := 73) (j := 10) (ci := 12) (T := TX12) (N := 27) (EokR.aload_n (q := 0) dX12_mayCarry_72) rfl wsX12_in (by decide) flX12_75 dX12_mayCarry_73) (EokI.iconst (v := 2) dX12_mayCarry_76 (by decide)) dX12_mayCarry_77) (JZ.ltT (tgt := 94) dX12_mayCarry_78 (by decide))) (Cok.zero (pc1 := 91) (pcT := 94) (pcF := 98) (EokI.iCallV (pc1 := 88) (Aok.aR (pc1 := 82) (EokR.aload_n (q := 0) dX12_mayCarry_81) (Aok.aI (pc1 := 88) (EokI.iALd (pc1 := 86) (pc2 := 87) (EokR.getf (pc1 := 83) (j := 10) (ci := 12) (T := TX12) (N := 27) (EokR.aload_n (q := 0) dX12_mayCarry_82) rfl wsX12_in (by decide) flX12_75 dX12_mayCarry_83) (EokI.iconst (v := 2) dX12_mayCarry_86 (by decide)) dX12_mayCarry_87) Aok.nil)) (kX12_worthAt g) rfl ykX12_worthAt vkX12_261 (by decide) (by decide) dX12_mayCarry_88) (JZ.eqF (tgt := 98) dX12_mayCarry_91 (by decide)))) (EokI.goto (pc1 := 95) (pc2 := 99) (EokI.iconst (v := 1) dX12_mayCarry_94 (by decide)) dX12_mayCarry_95 (by decide)) (EokI.iconst (v := 0) dX12_mayCarry_98 (by decide))) (by decide) dX12_mayCarry_99 rfl)))))))
/-! PassHutsModel.carries(III)V -/
theorem dX12_carries_0 : decode cX12_carries 0 = .ok (.aload_n 0, 1) := by decide +kernel
theorem dX12_carries_1 : decode cX12_carries 1 = .ok (.getfield 100, 3) := by decide +kernel
theorem dX12_carries_4 : decode cX12_carries 4 = .ok (.iload_n 1, 1) := by decide +kernel
theorem dX12_carries_5 : decode cX12_carries 5 = .ok (.dup2, 1) := by decide +kernel
theorem dX12_carries_6 : decode cX12_carries 6 = .ok (.iaload, 1) := by decide +kernel
theorem dX12_carries_7 : decode cX12_carries 7 = .ok (.iload_n 3, 1) := by decide +kernel
theorem dX12_carries_8 : decode cX12_carries 8 = .ok (.aload_n 0, 1) := by decide +kernel
theorem dX12_carries_9 : decode cX12_carries 9 = .ok (.iload_n 1, 1) := by decide +kernel
theorem dX12_carries_10 : decode cX12_carries 10 = .ok (.iload_n 2, 1) := by decide +kernel
theorem dX12_carries_11 : decode cX12_carries 11 = .ok (.invokevirtual 252, 3) := by decide +kernel
theorem dX12_carries_14 : decode cX12_carries 14 = .ok (.imul, 1) := by decide +kernel
theorem dX12_carries_15 : decode cX12_carries 15 = .ok (.isub, 1) := by decide +kernel
theorem dX12_carries_16 : decode cX12_carries 16 = .ok (.iastore, 1) := by decide +kernel
theorem dX12_carries_17 : decode cX12_carries 17 = .ok (.aload_n 0, 1) := by decide +kernel
theorem dX12_carries_18 : decode cX12_carries 18 = .ok (.getfield 100, 3) := by decide +kernel
theorem dX12_carries_21 : decode cX12_carries 21 = .ok (.iload_n 2, 1) := by decide +kernel
theorem dX12_carries_22 : decode cX12_carries 22 = .ok (.dup2, 1) := by decide +kernel
theorem dX12_carries_23 : decode cX12_carries 23 = .ok (.iaload, 1) := by decide +kernel
theorem dX12_carries_24 : decode cX12_carries 24 = .ok (.iload_n 3, 1) := by decide +kernel
theorem dX12_carries_25 : decode cX12_carries 25 = .ok (.iadd, 1) := by decide +kernel
theorem dX12_carries_26 : decode cX12_carries 26 = .ok (.iastore, 1) := by decide +kernel
theorem dX12_carries_27 : decode cX12_carries 27 = .ok (.return_, 1) := by decide +kernel
abbrev tX12_carries (k : Nat) : MT := (RX12, cX12_carries, 4, k, none)
def mX12_carries : MX := bodyOf 4 (sSeq (sSeq (sAUpd gT2 (· - ·) (rGet 12 20 (rLoc 0)) (iLoc 1) (iB gT2 (· * ·) (iLoc 3) (iCallV 12 mX12_priceOf (aR (rLoc 0) (aI (iLoc 1) (aI (iLoc 2) aNil)))))) (sAUpd gT2 (· + ·) (rGet 12 20 (rLoc 0)) (iLoc 2) (iLoc 3))) sRetV)
theorem kX12_carries (g : GT) : MK g 2 yX12_carries cX12_carries 4 none mX12_carries := MK.of (pcN := 99999) (pcB := 0) (pcC := 0) rfl (Sok.seq (pc1 := 27) (Sok.seq (pc1 := 17) (Sok.aupd (pc1 := 4) (pc2 := 5) (pc3 := 15) (EokR.getf (pc1 := 1) (j := 20) (ci := 12) (T := TX12) (N := 27) (EokR.aload_n (q := 0) dX12_carries_0) rfl wsX12_in (by decide) flX12_100 dX12_carries_1) (EokI.iload_n (q := 1) dX12_carries_4) dX12_carries_5 dX12_carries_6 (EokI.bin (pc1 := 8) (pc2 := 14) (EokI.iload_n (q := 3) dX12_carries_7) (EokI.iCallV (pc1 := 11) (Aok.aR (pc1 := 9) (EokR.aload_n (q := 0) dX12_carries_8) (Aok.aI (pc1 := 10) (EokI.iload_n (q := 1) dX12_carries_9) (Aok.aI (pc1 := 11) (EokI.iload_n (q := 2) dX12_carries_10) Aok.nil))) (kX12_priceOf g) rfl ykX12_priceOf vkX12_252 (by decide) (by decide) dX12_carries_11) (OPI.imul dX12_carries_14)) (OPI.isub dX12_carries_15) (by decide) dX12_carries_16) (Sok.aupd (pc1 := 21) (pc2 := 22) (pc3 := 25) (EokR.getf (pc1 := 18) (j := 20) (ci := 12) (T := TX12) (N := 27) (EokR.aload_n (q := 0) dX12_carries_17) rfl wsX12_in (by decide) flX12_100 dX12_carries_18) (EokI.iload_n (q := 2) dX12_carries_21) dX12_carries_22 dX12_carries_23 (EokI.iload_n (q := 3) dX12_carries_24) (OPI.iadd dX12_carries_25) (by decide) dX12_carries_26)) (Sok.retV dX12_carries_27 rfl))
/-! PassHutsModel.loadedNow()I -/
theorem dX12_loadedNow_0 : decode cX12_loadedNow 0 = .ok (.iconst 0, 1) := by decide +kernel
theorem dX12_loadedNow_1 : decode cX12_loadedNow 1 = .ok (.istore_n 1, 1) := by decide +kernel
theorem dX12_loadedNow_2 : decode cX12_loadedNow 2 = .ok (.iconst 0, 1) := by decide +kernel
theorem dX12_loadedNow_3 : decode cX12_loadedNow 3 = .ok (.istore_n 2, 1) := by decide +kernel
theorem dX12_loadedNow_4 : decode cX12_loadedNow 4 = .ok (.iload_n 2, 1) := by decide +kernel
theorem dX12_loadedNow_5 : decode cX12_loadedNow 5 = .ok (.aload_n 0, 1) := by decide +kernel
theorem dX12_loadedNow_6 : decode cX12_loadedNow 6 = .ok (.invokevirtual 215, 3) := by decide +kernel
theorem dX12_loadedNow_9 : decode cX12_loadedNow 9 = .ok (.if_icmp .ge 28, 3) := by decide +kernel
theorem dX12_loadedNow_12 : decode cX12_loadedNow 12 = .ok (.iload_n 1, 1) := by decide +kernel
theorem dX12_loadedNow_13 : decode cX12_loadedNow 13 = .ok (.aload_n 0, 1) := by decide +kernel
theorem dX12_loadedNow_14 : decode cX12_loadedNow 14 = .ok (.getfield 100, 3) := by decide +kernel
theorem dX12_loadedNow_17 : decode cX12_loadedNow 17 = .ok (.iload_n 2, 1) := by decide +kernel
theorem dX12_loadedNow_18 : decode cX12_loadedNow 18 = .ok (.iaload, 1) := by decide +kernel
theorem dX12_loadedNow_19 : decode cX12_loadedNow 19 = .ok (.ifCond .le 9, 3) := by decide +kernel
theorem dX12_loadedNow_22 : decode cX12_loadedNow 22 = .ok (.iconst 1, 1) := by decide +kernel
theorem dX12_loadedNow_23 : decode cX12_loadedNow 23 = .ok (.iload_n 2, 1) := by decide +kernel
theorem dX12_loadedNow_24 : decode cX12_loadedNow 24 = .ok (.ishl, 1) := by decide +kernel
theorem dX12_loadedNow_25 : decode cX12_loadedNow 25 = .ok (.goto 4, 3) := by decide +kernel
theorem dX12_loadedNow_28 : decode cX12_loadedNow 28 = .ok (.iconst 0, 1) := by decide +kernel
theorem dX12_loadedNow_29 : decode cX12_loadedNow 29 = .ok (.ior, 1) := by decide +kernel
theorem dX12_loadedNow_30 : decode cX12_loadedNow 30 = .ok (.istore_n 1, 1) := by decide +kernel
theorem dX12_loadedNow_31 : decode cX12_loadedNow 31 = .ok (.iinc 2 1, 3) := by decide +kernel
theorem dX12_loadedNow_34 : decode cX12_loadedNow 34 = .ok (.goto (-30), 3) := by decide +kernel
theorem dX12_loadedNow_37 : decode cX12_loadedNow 37 = .ok (.iload_n 1, 1) := by decide +kernel
theorem dX12_loadedNow_38 : decode cX12_loadedNow 38 = .ok (.ireturn, 1) := by decide +kernel
abbrev tX12_loadedNow (k : Nat) : MT := (RX12, cX12_loadedNow, 3, k, (some .int))
def lX12_loadedNow_1 : SX := (sLoop (cB rlt (iLoc 2) (iCallV 12 mX12_huts (aR (rLoc 0) aNil))) (sSetI 1 (iB gT2 (· ||| ·) (iLoc 1) (iCond (cZ zgt (iALd (rGet 12 20 (rLoc 0)) (iLoc 2))) (iB gT2 jshl (iK 1) (iLoc 2)) (iK 0)))) (sInc 2 1))
theorem olX12_loadedNow_1 (g : GT) {pcB pcC : Nat} : Sok g (tX12_loadedNow 1) 4 37 pcB pcC (lX12_loadedNow_1) := (Sok.loop (pc := 4) (pc1 := 12) (pc2 := 31) (pcN := 37) (Cok.cmp (pc1 := 5) (pc2 := 9) (pcT := 12) (pcF := 37) (EokI.iload_n (q := 2) dX12_loadedNow_4) (EokI.iCallV (pc1 := 6) (Aok.aR (pc1 := 6) (EokR.aload_n (q := 0) dX12_loadedNow_5) Aok.nil) (kX12_huts g) rfl ykX12_huts vkX12_215 (by decide) (by decide) dX12_loadedNow_6) (JI.ltF (tgt := 37) dX12_loadedNow_9 (by decide))) (by decide) (Sok.setI_n (q := 1) (pc1 := 30) (EokI.bin (pc1 := 13) (pc2 := 29) (EokI.iload_n (q := 1) dX12_loadedNow_12) (EokI.cond' (pc1 := 22) (pc2 := 28) (Cok.zero (pc1 := 19) (pcT := 22) (pcF := 28) (EokI.iALd (pc1 := 17) (pc2 := 18) (EokR.getf (pc1 := 14) (j := 20) (ci := 12) (T := TX12) (N := 27) (EokR.aload_n (q := 0) dX12_loadedNow_13) rfl wsX12_in (by decide) flX12_100 dX12_loadedNow_14) (EokI.iload_n (q := 2) dX12_loadedNow_17) dX12_loadedNow_18) (JZ.gtF (tgt := 28) dX12_loadedNow_19 (by decide))) (EokI.goto (pc1 := 25) (pc2 := 29) (EokI.bin (pc1 := 23) (pc2 := 24) (EokI.iconst (v := 1) dX12_loadedNow_22 (by decide)) (EokI.iload_n (q := 2) dX12_loadedNow_23) (OPI.ishl dX12_loadedNow_24)) dX12_loadedNow_25 (by decide)) (EokI.iconst (v := 0) dX12_loadedNow_28 (by decide))) (OPI.ior dX12_loadedNow_29)) (by decide) dX12_loadedNow_30 (show 1 < 3 by decide)) (Sok.goto (pc1 := 34) (pcN := 4) (Sok.iinc (i := 2) (v := 1) dX12_loadedNow_31 (show 2 < 3 by decide) (by decide)) dX12_loadedNow_34 (by decide)))
def mX12_loadedNow : MX := bodyOf 3 (sSeq (sSetI 1 (iK 0)) (sSeq (sSeq (sSeq (sSetI 2 (iK 0)) lX12_loadedNow_1) (sForget 2)) (sRetI (iLoc 1))))
theorem kX12_loadedNow (g : GT) : MK g 1 yX12_loadedNow cX12_loadedNow 3 (some .int) mX12_loadedNow := MK.of (pcN := 99999) (pcB := 0) (pcC := 0) rfl (Sok.seq (pc1 := 2) (Sok.setI_n (q := 1) (pc1 := 1) (EokI.iconst (v := 0) dX12_loadedNow_0 (by decide)) (by decide) dX12_loadedNow_1 (show 1 < 3 by decide)) (Sok.seq (pc1 := 37) (Sok.seq (pc1 := 37) (Sok.seq (pc1 := 4) (Sok.setI_n (q := 2) (pc1 := 3) (EokI.iconst (v := 0) dX12_loadedNow_2 (by decide)) (by decide) dX12_loadedNow_3 (show 2 < 3 by decide)) (olX12_loadedNow_1 g )) (Sok.forget (pc := 37))) (Sok.retI (pc1 := 38) (EokI.iload_n (q := 1) dX12_loadedNow_37) (by decide) dX12_loadedNow_38 rfl)))
/-! PassHutsModel.keepsLoads()V -/
theorem dX12_keepsLoads_0 : decode cX12_keepsLoads 0 = .ok (.iconst 0, 1) := by decide +kernel
theorem dX12_keepsLoads_1 : decode cX12_keepsLoads 1 = .ok (.istore_n 1, 1) := by decide +kernel
theorem dX12_keepsLoads_2 : decode cX12_keepsLoads 2 = .ok (.iload_n 1, 1) := by decide +kernel
theorem dX12_keepsLoads_3 : decode cX12_keepsLoads 3 = .ok (.iconst 5, 1) := by decide +kernel
theorem dX12_keepsLoads_4 : decode cX12_keepsLoads 4 = .ok (.if_icmp .ge 21, 3) := by decide +kernel
theorem dX12_keepsLoads_7 : decode cX12_keepsLoads 7 = .ok (.aload_n 0, 1) := by decide +kernel
theorem dX12_keepsLoads_8 : decode cX12_keepsLoads 8 = .ok (.getfield 93, 3) := by decide +kernel
theorem dX12_keepsLoads_11 : decode cX12_keepsLoads 11 = .ok (.iload_n 1, 1) := by decide +kernel
theorem dX12_keepsLoads_12 : decode cX12_keepsLoads 12 = .ok (.aload_n 0, 1) := by decide +kernel
theorem dX12_keepsLoads_13 : decode cX12_keepsLoads 13 = .ok (.getfield 100, 3) := by decide +kernel
theorem dX12_keepsLoads_16 : decode cX12_keepsLoads 16 = .ok (.iload_n 1, 1) := by decide +kernel
theorem dX12_keepsLoads_17 : decode cX12_keepsLoads 17 = .ok (.iaload, 1) := by decide +kernel
theorem dX12_keepsLoads_18 : decode cX12_keepsLoads 18 = .ok (.iastore, 1) := by decide +kernel
theorem dX12_keepsLoads_19 : decode cX12_keepsLoads 19 = .ok (.iinc 1 1, 3) := by decide +kernel
theorem dX12_keepsLoads_22 : decode cX12_keepsLoads 22 = .ok (.goto (-20), 3) := by decide +kernel
theorem dX12_keepsLoads_25 : decode cX12_keepsLoads 25 = .ok (.return_, 1) := by decide +kernel
abbrev tX12_keepsLoads (k : Nat) : MT := (RX12, cX12_keepsLoads, 2, k, none)
def lX12_keepsLoads_1 : SX := (sLoop (cB rlt (iLoc 1) (iK 5)) (sASt 0 narI (rGet 12 17 (rLoc 0)) (iLoc 1) (iALd (rGet 12 20 (rLoc 0)) (iLoc 1))) (sInc 1 1))
theorem olX12_keepsLoads_1 (g : GT) {pcB pcC : Nat} : Sok g (tX12_keepsLoads 0) 2 25 pcB pcC (lX12_keepsLoads_1) := (Sok.loop (pc := 2) (pc1 := 7) (pc2 := 19) (pcN := 25) (Cok.cmp (pc1 := 3) (pc2 := 4) (pcT := 7) (pcF := 25) (EokI.iload_n (q := 1) dX12_keepsLoads_2) (EokI.iconst (v := 5) dX12_keepsLoads_3 (by decide)) (JI.ltF (tgt := 25) dX12_keepsLoads_4 (by decide))) (by decide) (Sok.iASt (pc1 := 11) (pc2 := 12) (pc3 := 18) (EokR.getf (pc1 := 8) (j := 17) (ci := 12) (T := TX12) (N := 27) (EokR.aload_n (q := 0) dX12_keepsLoads_7) rfl wsX12_in (by decide) flX12_93 dX12_keepsLoads_8) (EokI.iload_n (q := 1) dX12_keepsLoads_11) (EokI.iALd (pc1 := 16) (pc2 := 17) (EokR.getf (pc1 := 13) (j := 20) (ci := 12) (T := TX12) (N := 27) (EokR.aload_n (q := 0) dX12_keepsLoads_12) rfl wsX12_in (by decide) flX12_100 dX12_keepsLoads_13) (EokI.iload_n (q := 1) dX12_keepsLoads_16) dX12_keepsLoads_17) (by decide) dX12_keepsLoads_18) (Sok.goto (pc1 := 22) (pcN := 2) (Sok.iinc (i := 1) (v := 1) dX12_keepsLoads_19 (show 1 < 2 by decide) (by decide)) dX12_keepsLoads_22 (by decide)))
def mX12_keepsLoads : MX := bodyOf 2 (sSeq (sSeq (sSeq (sSetI 1 (iK 0)) lX12_keepsLoads_1) (sForget 1)) sRetV)
theorem kX12_keepsLoads (g : GT) : MK g 0 yX12_keepsLoads cX12_keepsLoads 2 none mX12_keepsLoads := MK.of (pcN := 99999) (pcB := 0) (pcC := 0) rfl (Sok.seq (pc1 := 25) (Sok.seq (pc1 := 25) (Sok.seq (pc1 := 2) (Sok.setI_n (q := 1) (pc1 := 1) (EokI.iconst (v := 0) dX12_keepsLoads_0 (by decide)) (by decide) dX12_keepsLoads_1 (show 1 < 2 by decide)) (olX12_keepsLoads_1 g )) (Sok.forget (pc := 25))) (Sok.retV dX12_keepsLoads_25 rfl))
/-! PassHutsModel.hut(II)I -/
theorem dX12_hut_0 : decode cX12_hut 0 = .ok (.aload_n 0, 1) := by decide +kernel
theorem dX12_hut_1 : decode cX12_hut 1 = .ok (.iconst 0, 1) := by decide +kernel
theorem dX12_hut_2 : decode cX12_hut 2 = .ok (.putfield 1, 3) := by decide +kernel
theorem dX12_hut_5 : decode cX12_hut 5 = .ok (.aload_n 0, 1) := by decide +kernel
theorem dX12_hut_6 : decode cX12_hut 6 = .ok (.iload_n 1, 1) := by decide +kernel
theorem dX12_hut_7 : decode cX12_hut 7 = .ok (.invokevirtual 264, 3) := by decide +kernel
theorem dX12_hut_10 : decode cX12_hut 10 = .ok (.ifCond .eq 12, 3) := by decide +kernel
theorem dX12_hut_13 : decode cX12_hut 13 = .ok (.iload_n 2, 1) := by decide +kernel
theorem dX12_hut_14 : decode cX12_hut 14 = .ok (.iconst 0, 1) := by decide +kernel
theorem dX12_hut_15 : decode cX12_hut 15 = .ok (.iconst 3, 1) := by decide +kernel
theorem dX12_hut_16 : decode cX12_hut 16 = .ok (.invokestatic 267, 3) := by decide +kernel
theorem dX12_hut_19 : decode cX12_hut 19 = .ok (.ifCond .ne 5, 3) := by decide +kernel
theorem dX12_hut_22 : decode cX12_hut 22 = .ok (.iconst (-1), 1) := by decide +kernel
theorem dX12_hut_23 : decode cX12_hut 23 = .ok (.ireturn, 1) := by decide +kernel
theorem dX12_hut_24 : decode cX12_hut 24 = .ok (.aload_n 0, 1) := by decide +kernel
theorem dX12_hut_25 : decode cX12_hut 25 = .ok (.invokevirtual 271, 3) := by decide +kernel
theorem dX12_hut_28 : decode cX12_hut 28 = .ok (.iload_n 2, 1) := by decide +kernel
theorem dX12_hut_29 : decode cX12_hut 29 = .ok (.ifCond .ne 12, 3) := by decide +kernel
theorem dX12_hut_32 : decode cX12_hut 32 = .ok (.aload_n 0, 1) := by decide +kernel
theorem dX12_hut_33 : decode cX12_hut 33 = .ok (.iload_n 1, 1) := by decide +kernel
theorem dX12_hut_34 : decode cX12_hut 34 = .ok (.iconst 0, 1) := by decide +kernel
theorem dX12_hut_35 : decode cX12_hut 35 = .ok (.invokevirtual 236, 3) := by decide +kernel
theorem dX12_hut_38 : decode cX12_hut 38 = .ok (.goto 43, 3) := by decide +kernel
theorem dX12_hut_41 : decode cX12_hut 41 = .ok (.iload_n 2, 1) := by decide +kernel
theorem dX12_hut_42 : decode cX12_hut 42 = .ok (.iconst 1, 1) := by decide +kernel
theorem dX12_hut_43 : decode cX12_hut 43 = .ok (.if_icmp .ne 12, 3) := by decide +kernel
theorem dX12_hut_46 : decode cX12_hut 46 = .ok (.aload_n 0, 1) := by decide +kernel
theorem dX12_hut_47 : decode cX12_hut 47 = .ok (.getfield 100, 3) := by decide +kernel
theorem dX12_hut_50 : decode cX12_hut 50 = .ok (.iload_n 1, 1) := by decide +kernel
theorem dX12_hut_51 : decode cX12_hut 51 = .ok (.iaload, 1) := by decide +kernel
theorem dX12_hut_52 : decode cX12_hut 52 = .ok (.goto 29, 3) := by decide +kernel
theorem dX12_hut_55 : decode cX12_hut 55 = .ok (.iload_n 2, 1) := by decide +kernel
theorem dX12_hut_56 : decode cX12_hut 56 = .ok (.iconst 2, 1) := by decide +kernel
theorem dX12_hut_57 : decode cX12_hut 57 = .ok (.if_icmp .ne 11, 3) := by decide +kernel
theorem dX12_hut_60 : decode cX12_hut 60 = .ok (.aload_n 0, 1) := by decide +kernel
theorem dX12_hut_61 : decode cX12_hut 61 = .ok (.iload_n 1, 1) := by decide +kernel
theorem dX12_hut_62 : decode cX12_hut 62 = .ok (.invokevirtual 274, 3) := by decide +kernel
theorem dX12_hut_65 : decode cX12_hut 65 = .ok (.goto 16, 3) := by decide +kernel
theorem dX12_hut_68 : decode cX12_hut 68 = .ok (.aload_n 0, 1) := by decide +kernel
theorem dX12_hut_69 : decode cX12_hut 69 = .ok (.iload_n 1, 1) := by decide +kernel
theorem dX12_hut_70 : decode cX12_hut 70 = .ok (.invokevirtual 255, 3) := by decide +kernel
theorem dX12_hut_73 : decode cX12_hut 73 = .ok (.ifCond .eq 7, 3) := by decide +kernel
theorem dX12_hut_76 : decode cX12_hut 76 = .ok (.iconst 1, 1) := by decide +kernel
theorem dX12_hut_77 : decode cX12_hut 77 = .ok (.goto 4, 3) := by decide +kernel
theorem dX12_hut_80 : decode cX12_hut 80 = .ok (.iconst 0, 1) := by decide +kernel
theorem dX12_hut_81 : decode cX12_hut 81 = .ok (.ireturn, 1) := by decide +kernel
abbrev tX12_hut (k : Nat) : MT := (RX12, cX12_hut, 3, k, (some .int))
def mX12_hut : MX := bodyOf 3 (sSeq (sPutI 12 0 .int (rLoc 0) (iK 0)) (sSeq (sIf (cOr (cNot (cZ zne (iCallV 12 mX12_isHut (aR (rLoc 0) (aI (iLoc 1) aNil))))) (cNot (cZ zne (iCallS mX12_within (aI (iLoc 2) (aI (iK 0) (aI (iK 3) aNil))))))) (sRetI (iK (-1))) sSkip) (sSeq (sCallV 12 mX12_laysNow (aR (rLoc 0) aNil)) (sRetI (iCond (cZ zeq (iLoc 2)) (iCallV 12 mX12_hutOf (aR (rLoc 0) (aI (iLoc 1) (aI (iK 0) aNil)))) (iCond (cB req (iLoc 2) (iK 1)) (iALd (rGet 12 20 (rLoc 0)) (iLoc 1)) (iCond (cB req (iLoc 2) (iK 2)) (iCallV 12 mX12_pathsFrom (aR (rLoc 0) (aI (iLoc 1) aNil))) (iCond (cZ zne (iCallV 12 mX12_isFull (aR (rLoc 0) (aI (iLoc 1) aNil)))) (iK 1) (iK 0)))))))))
theorem kX12_hut (g : GT) : MK g 2 yX12_hut cX12_hut 3 (some .int) mX12_hut := MK.of (pcN := 99999) (pcB := 0) (pcC := 0) rfl (Sok.seq (pc1 := 5) (Sok.putI (ci := 12) (T := TX12) (NN := 27) (tt := tyX12) (j := 0) (pc1 := 1) (pc2 := 2) (ty := .int) (EokR.aload_n (q := 0) dX12_hut_0) (EokI.iconst (v := 0) dX12_hut_1 (by decide)) (by decide) rfl wsX12_in tyX12_ok nmX12 (by decide) flX12_1 rfl rfl dX12_hut_2) (Sok.seq (pc1 := 24) (Sok.ite (pc1 := 22) (pc2 := 24) (Cok.or (pc1 := 13) (Cok.not (Cok.zero (pc1 := 10) (pcT := 13) (pcF := 22) (EokI.iCallV (pc1 := 7) (Aok.aR (pc1 := 6) (EokR.aload_n (q := 0) dX12_hut_5) (Aok.aI (pc1 := 7) (EokI.iload_n (q := 1) dX12_hut_6) Aok.nil)) (kX12_isHut g) rfl ykX12_isHut vkX12_264 (by decide) (by decide) dX12_hut_7) (JZ.neF (tgt := 22) dX12_hut_10 (by decide)))) (Cok.not (Cok.zero (pc1 := 19) (pcT := 24) (pcF := 22) (EokI.iCallS (pc1 := 16) (Aok.aI (pc1 := 14) (EokI.iload_n (q := 2) dX12_hut_13) (Aok.aI (pc1 := 15) (EokI.iconst (v := 0) dX12_hut_14 (by decide)) (Aok.aI (pc1 := 16) (EokI.iconst (v := 3) dX12_hut_15 (by decide)) Aok.nil))) (kX12_within g) ykX12_within skX12_267 (by decide) (by decide) dX12_hut_16) (JZ.neT (tgt := 24) dX12_hut_19 (by decide))))) (by decide) (Sok.retI (pc1 := 23) (EokI.iconst (v := (-1)) dX12_hut_22 (by decide)) (by decide) dX12_hut_23 rfl) (Sok.skip (pc := 24))) (Sok.seq (pc1 := 28) (Sok.sCallV (pc1 := 25) (Aok.aR (pc1 := 25) (EokR.aload_n (q := 0) dX12_hut_24) Aok.nil) (by decide) (kX12_laysNow g) rfl ykX12_laysNow vkX12_271 (by decide) (by decide) dX12_hut_25) (Sok.retI (pc1 := 81) (EokI.cond' (pc1 := 32) (pc2 := 41) (Cok.zero (pc1 := 29) (pcT := 32) (pcF := 41) (EokI.iload_n (q := 2) dX12_hut_28) (JZ.eqF (tgt := 41) dX12_hut_29 (by decide))) (EokI.goto (pc1 := 38) (pc2 := 81) (EokI.iCallV (pc1 := 35) (Aok.aR (pc1 := 33) (EokR.aload_n (q := 0) dX12_hut_32) (Aok.aI (pc1 := 34) (EokI.iload_n (q := 1) dX12_hut_33) (Aok.aI (pc1 := 35) (EokI.iconst (v := 0) dX12_hut_34 (by decide)) Aok.nil))) (kX12_hutOf g) rfl ykX12_hutOf vkX12_236 (by decide) (by decide) dX12_hut_35) dX12_hut_38 (by decide)) (EokI.cond' (pc1 := 46) (pc2 := 55) (Cok.cmp (pc1 := 42) (pc2 := 43) (pcT := 46) (pcF := 55) (EokI.iload_n (q := 2) dX12_hut_41) (EokI.iconst (v := 1) dX12_hut_42 (by decide)) (JI.eqF (tgt := 55) dX12_hut_43 (by decide))) (EokI.goto (pc1 := 52) (pc2 := 81) (EokI.iALd (pc1 := 50) (pc2 := 51) (EokR.getf (pc1 := 47) (j := 20) (ci := 12) (T := TX12) (N := 27) (EokR.aload_n (q := 0) dX12_hut_46) rfl wsX12_in (by decide) flX12_100 dX12_hut_47) (EokI.iload_n (q := 1) dX12_hut_50) dX12_hut_51) dX12_hut_52 (by decide)) (EokI.cond' (pc1 := 60) (pc2 := 68) (Cok.cmp (pc1 := 56) (pc2 := 57) (pcT := 60) (pcF := 68) (EokI.iload_n (q := 2) dX12_hut_55) (EokI.iconst (v := 2) dX12_hut_56 (by decide)) (JI.eqF (tgt := 68) dX12_hut_57 (by decide))) (EokI.goto (pc1 := 65) (pc2 := 81) (EokI.iCallV (pc1 := 62) (Aok.aR (pc1 := 61) (EokR.aload_n (q := 0) dX12_hut_60) (Aok.aI (pc1 := 62) (EokI.iload_n (q := 1) dX12_hut_61) Aok.nil)) (kX12_pathsFrom g) rfl ykX12_pathsFrom vkX12_274 (by decide) (by decide) dX12_hut_62) dX12_hut_65 (by decide)) (EokI.cond' (pc1 := 76) (pc2 := 80) (Cok.zero (pc1 := 73) (pcT := 76) (pcF := 80) (EokI.iCallV (pc1 := 70) (Aok.aR (pc1 := 69) (EokR.aload_n (q := 0) dX12_hut_68) (Aok.aI (pc1 := 70) (EokI.iload_n (q := 1) dX12_hut_69) Aok.nil)) (kX12_isFull g) rfl ykX12_isFull vkX12_255 (by decide) (by decide) dX12_hut_70) (JZ.neF (tgt := 80) dX12_hut_73 (by decide))) (EokI.goto (pc1 := 77) (pc2 := 81) (EokI.iconst (v := 1) dX12_hut_76 (by decide)) dX12_hut_77 (by decide)) (EokI.iconst (v := 0) dX12_hut_80 (by decide)))))) (by decide) dX12_hut_81 rfl))))
/-! PassHutsModel.price(II)I -/
theorem dX12_price_0 : decode cX12_price 0 = .ok (.aload_n 0, 1) := by decide +kernel
theorem dX12_price_1 : decode cX12_price 1 = .ok (.iconst 0, 1) := by decide +kernel
theorem dX12_price_2 : decode cX12_price 2 = .ok (.putfield 1, 3) := by decide +kernel
theorem dX12_price_5 : decode cX12_price 5 = .ok (.aload_n 0, 1) := by decide +kernel
theorem dX12_price_6 : decode cX12_price 6 = .ok (.iload_n 1, 1) := by decide +kernel
theorem dX12_price_7 : decode cX12_price 7 = .ok (.invokevirtual 264, 3) := by decide +kernel
theorem dX12_price_10 : decode cX12_price 10 = .ok (.ifCond .eq 29, 3) := by decide +kernel
theorem dX12_price_13 : decode cX12_price 13 = .ok (.aload_n 0, 1) := by decide +kernel
theorem dX12_price_14 : decode cX12_price 14 = .ok (.iload_n 2, 1) := by decide +kernel
theorem dX12_price_15 : decode cX12_price 15 = .ok (.invokevirtual 264, 3) := by decide +kernel
theorem dX12_price_18 : decode cX12_price 18 = .ok (.ifCond .eq 21, 3) := by decide +kernel
theorem dX12_price_21 : decode cX12_price 21 = .ok (.aload_n 0, 1) := by decide +kernel
theorem dX12_price_22 : decode cX12_price 22 = .ok (.iload_n 1, 1) := by decide +kernel
theorem dX12_price_23 : decode cX12_price 23 = .ok (.iload_n 2, 1) := by decide +kernel
theorem dX12_price_24 : decode cX12_price 24 = .ok (.invokevirtual 252, 3) := by decide +kernel
theorem dX12_price_27 : decode cX12_price 27 = .ok (.ifCond .le 12, 3) := by decide +kernel
theorem dX12_price_30 : decode cX12_price 30 = .ok (.aload_n 0, 1) := by decide +kernel
theorem dX12_price_31 : decode cX12_price 31 = .ok (.iload_n 1, 1) := by decide +kernel
theorem dX12_price_32 : decode cX12_price 32 = .ok (.iload_n 2, 1) := by decide +kernel
theorem dX12_price_33 : decode cX12_price 33 = .ok (.invokevirtual 252, 3) := by decide +kernel
theorem dX12_price_36 : decode cX12_price 36 = .ok (.goto 4, 3) := by decide +kernel
theorem dX12_price_39 : decode cX12_price 39 = .ok (.iconst (-1), 1) := by decide +kernel
theorem dX12_price_40 : decode cX12_price 40 = .ok (.ireturn, 1) := by decide +kernel
abbrev tX12_price (k : Nat) : MT := (RX12, cX12_price, 3, k, (some .int))
def mX12_price : MX := bodyOf 3 (sSeq (sPutI 12 0 .int (rLoc 0) (iK 0)) (sRetI (iCond (cAnd (cAnd (cZ zne (iCallV 12 mX12_isHut (aR (rLoc 0) (aI (iLoc 1) aNil)))) (cZ zne (iCallV 12 mX12_isHut (aR (rLoc 0) (aI (iLoc 2) aNil))))) (cZ zgt (iCallV 12 mX12_priceOf (aR (rLoc 0) (aI (iLoc 1) (aI (iLoc 2) aNil)))))) (iCallV 12 mX12_priceOf (aR (rLoc 0) (aI (iLoc 1) (aI (iLoc 2) aNil)))) (iK (-1)))))
theorem kX12_price (g : GT) : MK g 2 yX12_price cX12_price 3 (some .int) mX12_price := MK.of (pcN := 99999) (pcB := 0) (pcC := 0) rfl (Sok.seq (pc1 := 5) (Sok.putI (ci := 12) (T := TX12) (NN := 27) (tt := tyX12) (j := 0) (pc1 := 1) (pc2 := 2) (ty := .int) (EokR.aload_n (q := 0) dX12_price_0) (EokI.iconst (v := 0) dX12_price_1 (by decide)) (by decide) rfl wsX12_in tyX12_ok nmX12 (by decide) flX12_1 rfl rfl dX12_price_2) (Sok.retI (pc1 := 40) (EokI.cond' (pc1 := 30) (pc2 := 39) (Cok.and (pc1 := 21) (Cok.and (pc1 := 13) (Cok.zero (pc1 := 10) (pcT := 13) (pcF := 39) (EokI.iCallV (pc1 := 7) (Aok.aR (pc1 := 6) (EokR.aload_n (q := 0) dX12_price_5) (Aok.aI (pc1 := 7) (EokI.iload_n (q := 1) dX12_price_6) Aok.nil)) (kX12_isHut g) rfl ykX12_isHut vkX12_264 (by decide) (by decide) dX12_price_7) (JZ.neF (tgt := 39) dX12_price_10 (by decide))) (Cok.zero (pc1 := 18) (pcT := 21) (pcF := 39) (EokI.iCallV (pc1 := 15) (Aok.aR (pc1 := 14) (EokR.aload_n (q := 0) dX12_price_13) (Aok.aI (pc1 := 15) (EokI.iload_n (q := 2) dX12_price_14) Aok.nil)) (kX12_isHut g) rfl ykX12_isHut vkX12_264 (by decide) (by decide) dX12_price_15) (JZ.neF (tgt := 39) dX12_price_18 (by decide)))) (Cok.zero (pc1 := 27) (pcT := 30) (pcF := 39) (EokI.iCallV (pc1 := 24) (Aok.aR (pc1 := 22) (EokR.aload_n (q := 0) dX12_price_21) (Aok.aI (pc1 := 23) (EokI.iload_n (q := 1) dX12_price_22) (Aok.aI (pc1 := 24) (EokI.iload_n (q := 2) dX12_price_23) Aok.nil))) (kX12_priceOf g) rfl ykX12_priceOf vkX12_252 (by decide) (by decide) dX12_price_24) (JZ.gtF (tgt := 39) dX12_price_27 (by decide)))) (EokI.goto (pc1 := 36) (pc2 := 40) (EokI.iCallV (pc1 := 33) (Aok.aR (pc1 := 31) (EokR.aload_n (q := 0) dX12_price_30) (Aok.aI (pc1 := 32) (EokI.iload_n (q := 1) dX12_price_31) (Aok.aI (pc1 := 33) (EokI.iload_n (q := 2) dX12_price_32) Aok.nil))) (kX12_priceOf g) rfl ykX12_priceOf vkX12_252 (by decide) (by decide) dX12_price_33) dX12_price_36 (by decide)) (EokI.iconst (v := (-1)) dX12_price_39 (by decide))) (by decide) dX12_price_40 rfl))
/-! PassHutsModel.can(II)Z -/
theorem dX12_can_0 : decode cX12_can 0 = .ok (.aload_n 0, 1) := by decide +kernel
theorem dX12_can_1 : decode cX12_can 1 = .ok (.iconst 0, 1) := by decide +kernel
theorem dX12_can_2 : decode cX12_can 2 = .ok (.putfield 1, 3) := by decide +kernel
theorem dX12_can_5 : decode cX12_can 5 = .ok (.aload_n 0, 1) := by decide +kernel
theorem dX12_can_6 : decode cX12_can 6 = .ok (.invokevirtual 271, 3) := by decide +kernel
theorem dX12_can_9 : decode cX12_can 9 = .ok (.aload_n 0, 1) := by decide +kernel
theorem dX12_can_10 : decode cX12_can 10 = .ok (.iload_n 1, 1) := by decide +kernel
theorem dX12_can_11 : decode cX12_can 11 = .ok (.invokevirtual 264, 3) := by decide +kernel
theorem dX12_can_14 : decode cX12_can 14 = .ok (.ifCond .eq 24, 3) := by decide +kernel
theorem dX12_can_17 : decode cX12_can 17 = .ok (.aload_n 0, 1) := by decide +kernel
theorem dX12_can_18 : decode cX12_can 18 = .ok (.iload_n 2, 1) := by decide +kernel
theorem dX12_can_19 : decode cX12_can 19 = .ok (.invokevirtual 264, 3) := by decide +kernel
theorem dX12_can_22 : decode cX12_can 22 = .ok (.ifCond .eq 16, 3) := by decide +kernel
theorem dX12_can_25 : decode cX12_can 25 = .ok (.aload_n 0, 1) := by decide +kernel
theorem dX12_can_26 : decode cX12_can 26 = .ok (.iload_n 1, 1) := by decide +kernel
theorem dX12_can_27 : decode cX12_can 27 = .ok (.iload_n 2, 1) := by decide +kernel
theorem dX12_can_28 : decode cX12_can 28 = .ok (.invokevirtual 277, 3) := by decide +kernel
theorem dX12_can_31 : decode cX12_can 31 = .ok (.ifCond .eq 7, 3) := by decide +kernel
theorem dX12_can_34 : decode cX12_can 34 = .ok (.iconst 1, 1) := by decide +kernel
theorem dX12_can_35 : decode cX12_can 35 = .ok (.goto 4, 3) := by decide +kernel
theorem dX12_can_38 : decode cX12_can 38 = .ok (.iconst 0, 1) := by decide +kernel
theorem dX12_can_39 : decode cX12_can 39 = .ok (.ireturn, 1) := by decide +kernel
abbrev tX12_can (k : Nat) : MT := (RX12, cX12_can, 3, k, (some .boolean))
def mX12_can : MX := bodyOf 3 (sSeq (sPutI 12 0 .int (rLoc 0) (iK 0)) (sSeq (sCallV 12 mX12_laysNow (aR (rLoc 0) aNil)) (sRetZ (iBool (cAnd (cAnd (cZ zne (iCallV 12 mX12_isHut (aR (rLoc 0) (aI (iLoc 1) aNil)))) (cZ zne (iCallV 12 mX12_isHut (aR (rLoc 0) (aI (iLoc 2) aNil))))) (cZ zne (iCallV 12 mX12_mayCarry (aR (rLoc 0) (aI (iLoc 1) (aI (iLoc 2) aNil))))))))))
theorem kX12_can (g : GT) : MK g 3 yX12_can cX12_can 3 (some .boolean) mX12_can := MK.of (pcN := 99999) (pcB := 0) (pcC := 0) rfl (Sok.seq (pc1 := 5) (Sok.putI (ci := 12) (T := TX12) (NN := 27) (tt := tyX12) (j := 0) (pc1 := 1) (pc2 := 2) (ty := .int) (EokR.aload_n (q := 0) dX12_can_0) (EokI.iconst (v := 0) dX12_can_1 (by decide)) (by decide) rfl wsX12_in tyX12_ok nmX12 (by decide) flX12_1 rfl rfl dX12_can_2) (Sok.seq (pc1 := 9) (Sok.sCallV (pc1 := 6) (Aok.aR (pc1 := 6) (EokR.aload_n (q := 0) dX12_can_5) Aok.nil) (by decide) (kX12_laysNow g) rfl ykX12_laysNow vkX12_271 (by decide) (by decide) dX12_can_6) (Sok.retZ (pc1 := 39) (EokI.cond' (pc1 := 34) (pc2 := 38) (Cok.and (pc1 := 25) (Cok.and (pc1 := 17) (Cok.zero (pc1 := 14) (pcT := 17) (pcF := 38) (EokI.iCallV (pc1 := 11) (Aok.aR (pc1 := 10) (EokR.aload_n (q := 0) dX12_can_9) (Aok.aI (pc1 := 11) (EokI.iload_n (q := 1) dX12_can_10) Aok.nil)) (kX12_isHut g) rfl ykX12_isHut vkX12_264 (by decide) (by decide) dX12_can_11) (JZ.neF (tgt := 38) dX12_can_14 (by decide))) (Cok.zero (pc1 := 22) (pcT := 25) (pcF := 38) (EokI.iCallV (pc1 := 19) (Aok.aR (pc1 := 18) (EokR.aload_n (q := 0) dX12_can_17) (Aok.aI (pc1 := 19) (EokI.iload_n (q := 2) dX12_can_18) Aok.nil)) (kX12_isHut g) rfl ykX12_isHut vkX12_264 (by decide) (by decide) dX12_can_19) (JZ.neF (tgt := 38) dX12_can_22 (by decide)))) (Cok.zero (pc1 := 31) (pcT := 34) (pcF := 38) (EokI.iCallV (pc1 := 28) (Aok.aR (pc1 := 26) (EokR.aload_n (q := 0) dX12_can_25) (Aok.aI (pc1 := 27) (EokI.iload_n (q := 1) dX12_can_26) (Aok.aI (pc1 := 28) (EokI.iload_n (q := 2) dX12_can_27) Aok.nil))) (kX12_mayCarry g) rfl ykX12_mayCarry vkX12_277 (by decide) (by decide) dX12_can_28) (JZ.neF (tgt := 38) dX12_can_31 (by decide)))) (EokI.goto (pc1 := 35) (pc2 := 39) (EokI.iconst (v := 1) dX12_can_34 (by decide)) dX12_can_35 (by decide)) (EokI.iconst (v := 0) dX12_can_38 (by decide))) (by decide) dX12_can_39 rfl)))
/-! PassHutsModel.carry(II)I -/
theorem dX12_carry_0 : decode cX12_carry 0 = .ok (.aload_n 0, 1) := by decide +kernel
theorem dX12_carry_1 : decode cX12_carry 1 = .ok (.iconst 0, 1) := by decide +kernel
theorem dX12_carry_2 : decode cX12_carry 2 = .ok (.putfield 1, 3) := by decide +kernel
theorem dX12_carry_5 : decode cX12_carry 5 = .ok (.aload_n 0, 1) := by decide +kernel
theorem dX12_carry_6 : decode cX12_carry 6 = .ok (.invokevirtual 271, 3) := by decide +kernel
theorem dX12_carry_9 : decode cX12_carry 9 = .ok (.aload_n 0, 1) := by decide +kernel
theorem dX12_carry_10 : decode cX12_carry 10 = .ok (.iload_n 1, 1) := by decide +kernel
theorem dX12_carry_11 : decode cX12_carry 11 = .ok (.invokevirtual 264, 3) := by decide +kernel
theorem dX12_carry_14 : decode cX12_carry 14 = .ok (.ifCond .eq 20, 3) := by decide +kernel
theorem dX12_carry_17 : decode cX12_carry 17 = .ok (.aload_n 0, 1) := by decide +kernel
theorem dX12_carry_18 : decode cX12_carry 18 = .ok (.iload_n 2, 1) := by decide +kernel
theorem dX12_carry_19 : decode cX12_carry 19 = .ok (.invokevirtual 264, 3) := by decide +kernel
theorem dX12_carry_22 : decode cX12_carry 22 = .ok (.ifCond .eq 12, 3) := by decide +kernel
theorem dX12_carry_25 : decode cX12_carry 25 = .ok (.aload_n 0, 1) := by decide +kernel
theorem dX12_carry_26 : decode cX12_carry 26 = .ok (.iload_n 1, 1) := by decide +kernel
theorem dX12_carry_27 : decode cX12_carry 27 = .ok (.iload_n 2, 1) := by decide +kernel
theorem dX12_carry_28 : decode cX12_carry 28 = .ok (.invokevirtual 277, 3) := by decide +kernel
theorem dX12_carry_31 : decode cX12_carry 31 = .ok (.ifCond .ne 5, 3) := by decide +kernel
theorem dX12_carry_34 : decode cX12_carry 34 = .ok (.iconst (-1), 1) := by decide +kernel
theorem dX12_carry_35 : decode cX12_carry 35 = .ok (.ireturn, 1) := by decide +kernel
theorem dX12_carry_36 : decode cX12_carry 36 = .ok (.aload_n 0, 1) := by decide +kernel
theorem dX12_carry_37 : decode cX12_carry 37 = .ok (.invokevirtual 281, 3) := by decide +kernel
theorem dX12_carry_40 : decode cX12_carry 40 = .ok (.aload_n 0, 1) := by decide +kernel
theorem dX12_carry_41 : decode cX12_carry 41 = .ok (.iload_n 1, 1) := by decide +kernel
theorem dX12_carry_42 : decode cX12_carry 42 = .ok (.iload_n 2, 1) := by decide +kernel
theorem dX12_carry_43 : decode cX12_carry 43 = .ok (.iconst 1, 1) := by decide +kernel
theorem dX12_carry_44 : decode cX12_carry 44 = .ok (.invokevirtual 284, 3) := by decide +kernel
theorem dX12_carry_47 : decode cX12_carry 47 = .ok (.aload_n 0, 1) := by decide +kernel
theorem dX12_carry_48 : decode cX12_carry 48 = .ok (.invokevirtual 287, 3) := by decide +kernel
theorem dX12_carry_51 : decode cX12_carry 51 = .ok (.aload_n 0, 1) := by decide +kernel
theorem dX12_carry_52 : decode cX12_carry 52 = .ok (.getfield 93, 3) := by decide +kernel
theorem dX12_carry_55 : decode cX12_carry 55 = .ok (.iconst 5, 1) := by decide +kernel
theorem dX12_carry_56 : decode cX12_carry 56 = .ok (.dup2, 1) := by decide +kernel
theorem dX12_carry_57 : decode cX12_carry 57 = .ok (.iaload, 1) := by decide +kernel
theorem dX12_carry_58 : decode cX12_carry 58 = .ok (.iconst 1, 1) := by decide +kernel
theorem dX12_carry_59 : decode cX12_carry 59 = .ok (.iadd, 1) := by decide +kernel
theorem dX12_carry_60 : decode cX12_carry 60 = .ok (.iastore, 1) := by decide +kernel
theorem dX12_carry_61 : decode cX12_carry 61 = .ok (.aload_n 0, 1) := by decide +kernel
theorem dX12_carry_62 : decode cX12_carry 62 = .ok (.iload_n 1, 1) := by decide +kernel
theorem dX12_carry_63 : decode cX12_carry 63 = .ok (.iload_n 2, 1) := by decide +kernel
theorem dX12_carry_64 : decode cX12_carry 64 = .ok (.invokevirtual 252, 3) := by decide +kernel
theorem dX12_carry_67 : decode cX12_carry 67 = .ok (.ireturn, 1) := by decide +kernel
abbrev tX12_carry (k : Nat) : MT := (RX12, cX12_carry, 3, k, (some .int))
def mX12_carry : MX := bodyOf 3 (sSeq (sPutI 12 0 .int (rLoc 0) (iK 0)) (sSeq (sCallV 12 mX12_laysNow (aR (rLoc 0) aNil)) (sSeq (sIf (cOr (cOr (cNot (cZ zne (iCallV 12 mX12_isHut (aR (rLoc 0) (aI (iLoc 1) aNil))))) (cNot (cZ zne (iCallV 12 mX12_isHut (aR (rLoc 0) (aI (iLoc 2) aNil)))))) (cNot (cZ zne (iCallV 12 mX12_mayCarry (aR (rLoc 0) (aI (iLoc 1) (aI (iLoc 2) aNil))))))) (sRetI (iK (-1))) sSkip) (sSeq (sCallV 12 mX12_keeps (aR (rLoc 0) aNil)) (sSeq (sCallV 12 mX12_carries (aR (rLoc 0) (aI (iLoc 1) (aI (iLoc 2) (aI (iK 1) aNil))))) (sSeq (sCallV 12 mX12_keepsLoads (aR (rLoc 0) aNil)) (sSeq (sAUpd gT2 (· + ·) (rGet 12 17 (rLoc 0)) (iK 5) (iK 1)) (sRetI (iCallV 12 mX12_priceOf (aR (rLoc 0) (aI (iLoc 1) (aI (iLoc 2) aNil))))))))))))
theorem kX12_carry (g : GT) : MK g 3 yX12_carry cX12_carry 3 (some .int) mX12_carry := MK.of (pcN := 99999) (pcB := 0) (pcC := 0) rfl (Sok.seq (pc1 := 5) (Sok.putI (ci := 12) (T := TX12) (NN := 27) (tt := tyX12) (j := 0) (pc1 := 1) (pc2 := 2) (ty := .int) (EokR.aload_n (q := 0) dX12_carry_0) (EokI.iconst (v := 0) dX12_carry_1 (by decide)) (by decide) rfl wsX12_in tyX12_ok nmX12 (by decide) flX12_1 rfl rfl dX12_carry_2) (Sok.seq (pc1 := 9) (Sok.sCallV (pc1 := 6) (Aok.aR (pc1 := 6) (EokR.aload_n (q := 0) dX12_carry_5) Aok.nil) (by decide) (kX12_laysNow g) rfl ykX12_laysNow vkX12_271 (by decide) (by decide) dX12_carry_6) (Sok.seq (pc1 := 36) (Sok.ite (pc1 := 34) (pc2 := 36) (Cok.or (pc1 := 25) (Cok.or (pc1 := 17) (Cok.not (Cok.zero (pc1 := 14) (pcT := 17) (pcF := 34) (EokI.iCallV (pc1 := 11) (Aok.aR (pc1 := 10) (EokR.aload_n (q := 0) dX12_carry_9) (Aok.aI (pc1 := 11) (EokI.iload_n (q := 1) dX12_carry_10) Aok.nil)) (kX12_isHut g) rfl ykX12_isHut vkX12_264 (by decide) (by decide) dX12_carry_11) (JZ.neF (tgt := 34) dX12_carry_14 (by decide)))) (Cok.not (Cok.zero (pc1 := 22) (pcT := 25) (pcF := 34) (EokI.iCallV (pc1 := 19) (Aok.aR (pc1 := 18) (EokR.aload_n (q := 0) dX12_carry_17) (Aok.aI (pc1 := 19) (EokI.iload_n (q := 2) dX12_carry_18) Aok.nil)) (kX12_isHut g) rfl ykX12_isHut vkX12_264 (by decide) (by decide) dX12_carry_19) (JZ.neF (tgt := 34) dX12_carry_22 (by decide))))) (Cok.not (Cok.zero (pc1 := 31) (pcT := 36) (pcF := 34) (EokI.iCallV (pc1 := 28) (Aok.aR (pc1 := 26) (EokR.aload_n (q := 0) dX12_carry_25) (Aok.aI (pc1 := 27) (EokI.iload_n (q := 1) dX12_carry_26) (Aok.aI (pc1 := 28) (EokI.iload_n (q := 2) dX12_carry_27) Aok.nil))) (kX12_mayCarry g) rfl ykX12_mayCarry vkX12_277 (by decide) (by decide) dX12_carry_28) (JZ.neT (tgt := 36) dX12_carry_31 (by decide))))) (by decide) (Sok.retI (pc1 := 35) (EokI.iconst (v := (-1)) dX12_carry_34 (by decide)) (by decide) dX12_carry_35 rfl) (Sok.skip (pc := 36))) (Sok.seq (pc1 := 40) (Sok.sCallV (pc1 := 37) (Aok.aR (pc1 := 37) (EokR.aload_n (q := 0) dX12_carry_36) Aok.nil) (by decide) (kX12_keeps g) rfl ykX12_keeps vkX12_281 (by decide) (by decide) dX12_carry_37) (Sok.seq (pc1 := 47) (Sok.sCallV (pc1 := 44) (Aok.aR (pc1 := 41) (EokR.aload_n (q := 0) dX12_carry_40) (Aok.aI (pc1 := 42) (EokI.iload_n (q := 1) dX12_carry_41) (Aok.aI (pc1 := 43) (EokI.iload_n (q := 2) dX12_carry_42) (Aok.aI (pc1 := 44) (EokI.iconst (v := 1) dX12_carry_43 (by decide)) Aok.nil)))) (by decide) (kX12_carries g) rfl ykX12_carries vkX12_284 (by decide) (by decide) dX12_carry_44) (Sok.seq (pc1 := 51) (Sok.sCallV (pc1 := 48) (Aok.aR (pc1 := 48) (EokR.aload_n (q := 0) dX12_carry_47) Aok.nil) (by decide) (kX12_keepsLoads g) rfl ykX12_keepsLoads vkX12_287 (by decide) (by decide) dX12_carry_48) (Sok.seq (pc1 := 61) (Sok.aupd (pc1 := 55) (pc2 := 56) (pc3 := 59) (EokR.getf (pc1 := 52) (j := 17) (ci := 12) (T := TX12) (N := 27) (EokR.aload_n (q := 0) dX12_carry_51) rfl wsX12_in (by decide) flX12_93 dX12_carry_52) (EokI.iconst (v := 5) dX12_carry_55 (by decide)) dX12_carry_56 dX12_carry_57 (EokI.iconst (v := 1) dX12_carry_58 (by decide)) (OPI.iadd dX12_carry_59) (by decide) dX12_carry_60) (Sok.retI (pc1 := 67) (EokI.iCallV (pc1 := 64) (Aok.aR (pc1 := 62) (EokR.aload_n (q := 0) dX12_carry_61) (Aok.aI (pc1 := 63) (EokI.iload_n (q := 1) dX12_carry_62) (Aok.aI (pc1 := 64) (EokI.iload_n (q := 2) dX12_carry_63) Aok.nil))) (kX12_priceOf g) rfl ykX12_priceOf vkX12_252 (by decide) (by decide) dX12_carry_64) (by decide) dX12_carry_67 rfl))))))))
/-! PassHutsModel.eat(I)I -/
theorem dX12_eat_0 : decode cX12_eat 0 = .ok (.aload_n 0, 1) := by decide +kernel
theorem dX12_eat_1 : decode cX12_eat 1 = .ok (.iconst 0, 1) := by decide +kernel
theorem dX12_eat_2 : decode cX12_eat 2 = .ok (.putfield 1, 3) := by decide +kernel
theorem dX12_eat_5 : decode cX12_eat 5 = .ok (.aload_n 0, 1) := by decide +kernel
theorem dX12_eat_6 : decode cX12_eat 6 = .ok (.iload_n 1, 1) := by decide +kernel
theorem dX12_eat_7 : decode cX12_eat 7 = .ok (.invokevirtual 264, 3) := by decide +kernel
theorem dX12_eat_10 : decode cX12_eat 10 = .ok (.ifCond .eq 12, 3) := by decide +kernel
theorem dX12_eat_13 : decode cX12_eat 13 = .ok (.aload_n 0, 1) := by decide +kernel
theorem dX12_eat_14 : decode cX12_eat 14 = .ok (.getfield 93, 3) := by decide +kernel
theorem dX12_eat_17 : decode cX12_eat 17 = .ok (.iload_n 1, 1) := by decide +kernel
theorem dX12_eat_18 : decode cX12_eat 18 = .ok (.iaload, 1) := by decide +kernel
theorem dX12_eat_19 : decode cX12_eat 19 = .ok (.ifCond .ne 5, 3) := by decide +kernel
theorem dX12_eat_22 : decode cX12_eat 22 = .ok (.iconst (-1), 1) := by decide +kernel
theorem dX12_eat_23 : decode cX12_eat 23 = .ok (.ireturn, 1) := by decide +kernel
theorem dX12_eat_24 : decode cX12_eat 24 = .ok (.aload_n 0, 1) := by decide +kernel
theorem dX12_eat_25 : decode cX12_eat 25 = .ok (.invokevirtual 281, 3) := by decide +kernel
theorem dX12_eat_28 : decode cX12_eat 28 = .ok (.aload_n 0, 1) := by decide +kernel
theorem dX12_eat_29 : decode cX12_eat 29 = .ok (.getfield 93, 3) := by decide +kernel
theorem dX12_eat_32 : decode cX12_eat 32 = .ok (.iload_n 1, 1) := by decide +kernel
theorem dX12_eat_33 : decode cX12_eat 33 = .ok (.dup2, 1) := by decide +kernel
theorem dX12_eat_34 : decode cX12_eat 34 = .ok (.iaload, 1) := by decide +kernel
theorem dX12_eat_35 : decode cX12_eat 35 = .ok (.iconst 1, 1) := by decide +kernel
theorem dX12_eat_36 : decode cX12_eat 36 = .ok (.isub, 1) := by decide +kernel
theorem dX12_eat_37 : decode cX12_eat 37 = .ok (.iastore, 1) := by decide +kernel
theorem dX12_eat_38 : decode cX12_eat 38 = .ok (.aload_n 0, 1) := by decide +kernel
theorem dX12_eat_39 : decode cX12_eat 39 = .ok (.getfield 93, 3) := by decide +kernel
theorem dX12_eat_42 : decode cX12_eat 42 = .ok (.iload_n 1, 1) := by decide +kernel
theorem dX12_eat_43 : decode cX12_eat 43 = .ok (.iaload, 1) := by decide +kernel
theorem dX12_eat_44 : decode cX12_eat 44 = .ok (.ireturn, 1) := by decide +kernel
abbrev tX12_eat (k : Nat) : MT := (RX12, cX12_eat, 2, k, (some .int))
def mX12_eat : MX := bodyOf 2 (sSeq (sPutI 12 0 .int (rLoc 0) (iK 0)) (sSeq (sIf (cOr (cNot (cZ zne (iCallV 12 mX12_isHut (aR (rLoc 0) (aI (iLoc 1) aNil))))) (cZ zeq (iALd (rGet 12 17 (rLoc 0)) (iLoc 1)))) (sRetI (iK (-1))) sSkip) (sSeq (sCallV 12 mX12_keeps (aR (rLoc 0) aNil)) (sSeq (sAUpd gT2 (· - ·) (rGet 12 17 (rLoc 0)) (iLoc 1) (iK 1)) (sRetI (iALd (rGet 12 17 (rLoc 0)) (iLoc 1)))))))
theorem kX12_eat (g : GT) : MK g 2 yX12_eat cX12_eat 2 (some .int) mX12_eat := MK.of (pcN := 99999) (pcB := 0) (pcC := 0) rfl (Sok.seq (pc1 := 5) (Sok.putI (ci := 12) (T := TX12) (NN := 27) (tt := tyX12) (j := 0) (pc1 := 1) (pc2 := 2) (ty := .int) (EokR.aload_n (q := 0) dX12_eat_0) (EokI.iconst (v := 0) dX12_eat_1 (by decide)) (by decide) rfl wsX12_in tyX12_ok nmX12 (by decide) flX12_1 rfl rfl dX12_eat_2) (Sok.seq (pc1 := 24) (Sok.ite (pc1 := 22) (pc2 := 24) (Cok.or (pc1 := 13) (Cok.not (Cok.zero (pc1 := 10) (pcT := 13) (pcF := 22) (EokI.iCallV (pc1 := 7) (Aok.aR (pc1 := 6) (EokR.aload_n (q := 0) dX12_eat_5) (Aok.aI (pc1 := 7) (EokI.iload_n (q := 1) dX12_eat_6) Aok.nil)) (kX12_isHut g) rfl ykX12_isHut vkX12_264 (by decide) (by decide) dX12_eat_7) (JZ.neF (tgt := 22) dX12_eat_10 (by decide)))) (Cok.zero (pc1 := 19) (pcT := 22) (pcF := 24) (EokI.iALd (pc1 := 17) (pc2 := 18) (EokR.getf (pc1 := 14) (j := 17) (ci := 12) (T := TX12) (N := 27) (EokR.aload_n (q := 0) dX12_eat_13) rfl wsX12_in (by decide) flX12_93 dX12_eat_14) (EokI.iload_n (q := 1) dX12_eat_17) dX12_eat_18) (JZ.eqF (tgt := 24) dX12_eat_19 (by decide)))) (by decide) (Sok.retI (pc1 := 23) (EokI.iconst (v := (-1)) dX12_eat_22 (by decide)) (by decide) dX12_eat_23 rfl) (Sok.skip (pc := 24))) (Sok.seq (pc1 := 28) (Sok.sCallV (pc1 := 25) (Aok.aR (pc1 := 25) (EokR.aload_n (q := 0) dX12_eat_24) Aok.nil) (by decide) (kX12_keeps g) rfl ykX12_keeps vkX12_281 (by decide) (by decide) dX12_eat_25) (Sok.seq (pc1 := 38) (Sok.aupd (pc1 := 32) (pc2 := 33) (pc3 := 36) (EokR.getf (pc1 := 29) (j := 17) (ci := 12) (T := TX12) (N := 27) (EokR.aload_n (q := 0) dX12_eat_28) rfl wsX12_in (by decide) flX12_93 dX12_eat_29) (EokI.iload_n (q := 1) dX12_eat_32) dX12_eat_33 dX12_eat_34 (EokI.iconst (v := 1) dX12_eat_35 (by decide)) (OPI.isub dX12_eat_36) (by decide) dX12_eat_37) (Sok.retI (pc1 := 44) (EokI.iALd (pc1 := 42) (pc2 := 43) (EokR.getf (pc1 := 39) (j := 17) (ci := 12) (T := TX12) (N := 27) (EokR.aload_n (q := 0) dX12_eat_38) rfl wsX12_in (by decide) flX12_93 dX12_eat_39) (EokI.iload_n (q := 1) dX12_eat_42) dX12_eat_43) (by decide) dX12_eat_44 rfl)))))
/-! PassHutsModel.undo()Z -/
theorem dX12_undo_0 : decode cX12_undo 0 = .ok (.aload_n 0, 1) := by decide +kernel
theorem dX12_undo_1 : decode cX12_undo 1 = .ok (.iconst 0, 1) := by decide +kernel
theorem dX12_undo_2 : decode cX12_undo 2 = .ok (.putfield 1, 3) := by decide +kernel
theorem dX12_undo_5 : decode cX12_undo 5 = .ok (.aload_n 0, 1) := by decide +kernel
theorem dX12_undo_6 : decode cX12_undo 6 = .ok (.getfield 242, 3) := by decide +kernel
theorem dX12_undo_9 : decode cX12_undo 9 = .ok (.ifCond .ne 5, 3) := by decide +kernel
theorem dX12_undo_12 : decode cX12_undo 12 = .ok (.iconst 0, 1) := by decide +kernel
theorem dX12_undo_13 : decode cX12_undo 13 = .ok (.ireturn, 1) := by decide +kernel
theorem dX12_undo_14 : decode cX12_undo 14 = .ok (.aload_n 0, 1) := by decide +kernel
theorem dX12_undo_15 : decode cX12_undo 15 = .ok (.dup, 1) := by decide +kernel
theorem dX12_undo_16 : decode cX12_undo 16 = .ok (.getfield 242, 3) := by decide +kernel
theorem dX12_undo_19 : decode cX12_undo 19 = .ok (.iconst 1, 1) := by decide +kernel
theorem dX12_undo_20 : decode cX12_undo 20 = .ok (.isub, 1) := by decide +kernel
theorem dX12_undo_21 : decode cX12_undo 21 = .ok (.putfield 242, 3) := by decide +kernel
theorem dX12_undo_24 : decode cX12_undo 24 = .ok (.aload_n 0, 1) := by decide +kernel
theorem dX12_undo_25 : decode cX12_undo 25 = .ok (.bipush 31, 2) := by decide +kernel
theorem dX12_undo_27 : decode cX12_undo 27 = .ok (.iconst 5, 1) := by decide +kernel
theorem dX12_undo_28 : decode cX12_undo 28 = .ok (.aload_n 0, 1) := by decide +kernel
theorem dX12_undo_29 : decode cX12_undo 29 = .ok (.getfield 242, 3) := by decide +kernel
theorem dX12_undo_32 : decode cX12_undo 32 = .ok (.iadd, 1) := by decide +kernel
theorem dX12_undo_33 : decode cX12_undo 33 = .ok (.imul, 1) := by decide +kernel
theorem dX12_undo_34 : decode cX12_undo 34 = .ok (.iconst 0, 1) := by decide +kernel
theorem dX12_undo_35 : decode cX12_undo 35 = .ok (.bipush 6, 2) := by decide +kernel
theorem dX12_undo_37 : decode cX12_undo 37 = .ok (.invokevirtual 248, 3) := by decide +kernel
theorem dX12_undo_40 : decode cX12_undo 40 = .ok (.iconst 1, 1) := by decide +kernel
theorem dX12_undo_41 : decode cX12_undo 41 = .ok (.ireturn, 1) := by decide +kernel
abbrev tX12_undo (k : Nat) : MT := (RX12, cX12_undo, 1, k, (some .boolean))
def mX12_undo : MX := bodyOf 1 (sSeq (sPutI 12 0 .int (rLoc 0) (iK 0)) (sSeq (sIf (cZ zeq (iGet 12 18 (rLoc 0))) (sRetZ (iK 0)) sSkip) (sSeq (sUpd 12 18 gT2 (· - ·) (rLoc 0) (iK 1)) (sSeq (sCallV 12 mX12_copies (aR (rLoc 0) (aI (iB gT2 (· * ·) (iK 31) (iB gT2 (· + ·) (iK 5) (iGet 12 18 (rLoc 0)))) (aI (iK 0) (aI (iK 6) aNil))))) (sRetZ (iK 1))))))
theorem kX12_undo (g : GT) : MK g 1 yX12_undo cX12_undo 1 (some .boolean) mX12_undo := MK.of (pcN := 99999) (pcB := 0) (pcC := 0) rfl (Sok.seq (pc1 := 5) (Sok.putI (ci := 12) (T := TX12) (NN := 27) (tt := tyX12) (j := 0) (pc1 := 1) (pc2 := 2) (ty := .int) (EokR.aload_n (q := 0) dX12_undo_0) (EokI.iconst (v := 0) dX12_undo_1 (by decide)) (by decide) rfl wsX12_in tyX12_ok nmX12 (by decide) flX12_1 rfl rfl dX12_undo_2) (Sok.seq (pc1 := 14) (Sok.ite (pc1 := 12) (pc2 := 14) (Cok.zero (pc1 := 9) (pcT := 12) (pcF := 14) (EokI.getf (pc1 := 6) (j := 18) (ci := 12) (T := TX12) (N := 27) (EokR.aload_n (q := 0) dX12_undo_5) rfl wsX12_in (by decide) flX12_242 dX12_undo_6) (JZ.eqF (tgt := 14) dX12_undo_9 (by decide))) (by decide) (Sok.retZ (pc1 := 13) (EokI.iconst (v := 0) dX12_undo_12 (by decide)) (by decide) dX12_undo_13 rfl) (Sok.skip (pc := 14))) (Sok.seq (pc1 := 24) (Sok.upd (ci := 12) (T := TX12) (NN := 27) (tt := tyX12) (j := 18) (pc1 := 15) (pc2 := 20) (EokR.aload_n (q := 0) dX12_undo_14) dX12_undo_15 dX12_undo_16 (EokI.iconst (v := 1) dX12_undo_19 (by decide)) (OPI.isub dX12_undo_20) (by decide) rfl wsX12_in tyX12_ok nmX12 (by decide) flX12_242 rfl rfl dX12_undo_21) (Sok.seq (pc1 := 40) (Sok.sCallV (pc1 := 37) (Aok.aR (pc1 := 25) (EokR.aload_n (q := 0) dX12_undo_24) (Aok.aI (pc1 := 34) (EokI.bin (pc1 := 27) (pc2 := 33) (EokI.bipush (v := 31) dX12_undo_25 (by decide)) (EokI.bin (pc1 := 28) (pc2 := 32) (EokI.iconst (v := 5) dX12_undo_27 (by decide)) (EokI.getf (pc1 := 29) (j := 18) (ci := 12) (T := TX12) (N := 27) (EokR.aload_n (q := 0) dX12_undo_28) rfl wsX12_in (by decide) flX12_242 dX12_undo_29) (OPI.iadd dX12_undo_32)) (OPI.imul dX12_undo_33)) (Aok.aI (pc1 := 35) (EokI.iconst (v := 0) dX12_undo_34 (by decide)) (Aok.aI (pc1 := 37) (EokI.bipush (v := 6) dX12_undo_35 (by decide)) Aok.nil)))) (by decide) (kX12_copies g) rfl ykX12_copies vkX12_248 (by decide) (by decide) dX12_undo_37) (Sok.retZ (pc1 := 41) (EokI.iconst (v := 1) dX12_undo_40 (by decide)) (by decide) dX12_undo_41 rfl)))))
/-! PassHutsModel.judged(I)I -/
theorem dX12_judged_0 : decode cX12_judged 0 = .ok (.aload_n 0, 1) := by decide +kernel
theorem dX12_judged_1 : decode cX12_judged 1 = .ok (.iconst 0, 1) := by decide +kernel
theorem dX12_judged_2 : decode cX12_judged 2 = .ok (.putfield 1, 3) := by decide +kernel
theorem dX12_judged_5 : decode cX12_judged 5 = .ok (.iload_n 1, 1) := by decide +kernel
theorem dX12_judged_6 : decode cX12_judged 6 = .ok (.iconst 0, 1) := by decide +kernel
theorem dX12_judged_7 : decode cX12_judged 7 = .ok (.iconst 2, 1) := by decide +kernel
theorem dX12_judged_8 : decode cX12_judged 8 = .ok (.invokestatic 267, 3) := by decide +kernel
theorem dX12_judged_11 : decode cX12_judged 11 = .ok (.ifCond .ne 6, 3) := by decide +kernel
theorem dX12_judged_14 : decode cX12_judged 14 = .ok (.bipush (-2), 2) := by decide +kernel
theorem dX12_judged_16 : decode cX12_judged 16 = .ok (.ireturn, 1) := by decide +kernel
theorem dX12_judged_17 : decode cX12_judged 17 = .ok (.aload_n 0, 1) := by decide +kernel
theorem dX12_judged_18 : decode cX12_judged 18 = .ok (.invokevirtual 239, 3) := by decide +kernel
theorem dX12_judged_21 : decode cX12_judged 21 = .ok (.iconst (-1), 1) := by decide +kernel
theorem dX12_judged_22 : decode cX12_judged 22 = .ok (.istore_n 2, 1) := by decide +kernel
theorem dX12_judged_23 : decode cX12_judged 23 = .ok (.iconst (-1), 1) := by decide +kernel
theorem dX12_judged_24 : decode cX12_judged 24 = .ok (.istore_n 3, 1) := by decide +kernel
theorem dX12_judged_25 : decode cX12_judged 25 = .ok (.iconst 0, 1) := by decide +kernel
theorem dX12_judged_26 : decode cX12_judged 26 = .ok (.istore 4, 2) := by decide +kernel
theorem dX12_judged_28 : decode cX12_judged 28 = .ok (.iload 4, 2) := by decide +kernel
theorem dX12_judged_30 : decode cX12_judged 30 = .ok (.aload_n 0, 1) := by decide +kernel
theorem dX12_judged_31 : decode cX12_judged 31 = .ok (.getfield 84, 3) := by decide +kernel
theorem dX12_judged_34 : decode cX12_judged 34 = .ok (.iconst 0, 1) := by decide +kernel
theorem dX12_judged_35 : decode cX12_judged 35 = .ok (.iaload, 1) := by decide +kernel
theorem dX12_judged_36 : decode cX12_judged 36 = .ok (.if_icmp .ge 203, 3) := by decide +kernel
theorem dX12_judged_39 : decode cX12_judged 39 = .ok (.aload_n 0, 1) := by decide +kernel
theorem dX12_judged_40 : decode cX12_judged 40 = .ok (.getfield 84, 3) := by decide +kernel
theorem dX12_judged_43 : decode cX12_judged 43 = .ok (.iconst 1, 1) := by decide +kernel
theorem dX12_judged_44 : decode cX12_judged 44 = .ok (.iconst 3, 1) := by decide +kernel
theorem dX12_judged_45 : decode cX12_judged 45 = .ok (.iload 4, 2) := by decide +kernel
theorem dX12_judged_47 : decode cX12_judged 47 = .ok (.imul, 1) := by decide +kernel
theorem dX12_judged_48 : decode cX12_judged 48 = .ok (.iadd, 1) := by decide +kernel
theorem dX12_judged_49 : decode cX12_judged 49 = .ok (.iaload, 1) := by decide +kernel
theorem dX12_judged_50 : decode cX12_judged 50 = .ok (.istore 5, 2) := by decide +kernel
theorem dX12_judged_52 : decode cX12_judged 52 = .ok (.aload_n 0, 1) := by decide +kernel
theorem dX12_judged_53 : decode cX12_judged 53 = .ok (.getfield 84, 3) := by decide +kernel
theorem dX12_judged_56 : decode cX12_judged 56 = .ok (.iconst 2, 1) := by decide +kernel
theorem dX12_judged_57 : decode cX12_judged 57 = .ok (.iconst 3, 1) := by decide +kernel
theorem dX12_judged_58 : decode cX12_judged 58 = .ok (.iload 4, 2) := by decide +kernel
theorem dX12_judged_60 : decode cX12_judged 60 = .ok (.imul, 1) := by decide +kernel
theorem dX12_judged_61 : decode cX12_judged 61 = .ok (.iadd, 1) := by decide +kernel
theorem dX12_judged_62 : decode cX12_judged 62 = .ok (.iaload, 1) := by decide +kernel
theorem dX12_judged_63 : decode cX12_judged 63 = .ok (.istore 6, 2) := by decide +kernel
theorem dX12_judged_65 : decode cX12_judged 65 = .ok (.aload_n 0, 1) := by decide +kernel
theorem dX12_judged_66 : decode cX12_judged 66 = .ok (.getfield 84, 3) := by decide +kernel
theorem dX12_judged_69 : decode cX12_judged 69 = .ok (.iconst 3, 1) := by decide +kernel
theorem dX12_judged_70 : decode cX12_judged 70 = .ok (.iconst 3, 1) := by decide +kernel
theorem dX12_judged_71 : decode cX12_judged 71 = .ok (.iload 4, 2) := by decide +kernel
theorem dX12_judged_73 : decode cX12_judged 73 = .ok (.imul, 1) := by decide +kernel
theorem dX12_judged_74 : decode cX12_judged 74 = .ok (.iadd, 1) := by decide +kernel
theorem dX12_judged_75 : decode cX12_judged 75 = .ok (.iaload, 1) := by decide +kernel
theorem dX12_judged_76 : decode cX12_judged 76 = .ok (.istore 7, 2) := by decide +kernel
theorem dX12_judged_78 : decode cX12_judged 78 = .ok (.iload 5, 2) := by decide +kernel
theorem dX12_judged_80 : decode cX12_judged 80 = .ok (.ifCond .ne 14, 3) := by decide +kernel
theorem dX12_judged_83 : decode cX12_judged 83 = .ok (.aload_n 0, 1) := by decide +kernel
theorem dX12_judged_84 : decode cX12_judged 84 = .ok (.iload 6, 2) := by decide +kernel
theorem dX12_judged_86 : decode cX12_judged 86 = .ok (.iload 7, 2) := by decide +kernel
theorem dX12_judged_88 : decode cX12_judged 88 = .ok (.invokevirtual 277, 3) := by decide +kernel
theorem dX12_judged_91 : decode cX12_judged 91 = .ok (.goto 50, 3) := by decide +kernel
theorem dX12_judged_94 : decode cX12_judged 94 = .ok (.iload 5, 2) := by decide +kernel
theorem dX12_judged_96 : decode cX12_judged 96 = .ok (.iconst 1, 1) := by decide +kernel
theorem dX12_judged_97 : decode cX12_judged 97 = .ok (.if_icmp .ne 29, 3) := by decide +kernel
theorem dX12_judged_100 : decode cX12_judged 100 = .ok (.aload_n 0, 1) := by decide +kernel
theorem dX12_judged_101 : decode cX12_judged 101 = .ok (.iload 6, 2) := by decide +kernel
theorem dX12_judged_103 : decode cX12_judged 103 = .ok (.invokevirtual 255, 3) := by decide +kernel
theorem dX12_judged_106 : decode cX12_judged 106 = .ok (.ifCond .ne 16, 3) := by decide +kernel
theorem dX12_judged_109 : decode cX12_judged 109 = .ok (.aload_n 0, 1) := by decide +kernel
theorem dX12_judged_110 : decode cX12_judged 110 = .ok (.invokevirtual 258, 3) := by decide +kernel
theorem dX12_judged_113 : decode cX12_judged 113 = .ok (.bipush 12, 2) := by decide +kernel
theorem dX12_judged_115 : decode cX12_judged 115 = .ok (.if_icmp .ge 7, 3) := by decide +kernel
theorem dX12_judged_118 : decode cX12_judged 118 = .ok (.iconst 1, 1) := by decide +kernel
theorem dX12_judged_119 : decode cX12_judged 119 = .ok (.goto 22, 3) := by decide +kernel
theorem dX12_judged_122 : decode cX12_judged 122 = .ok (.iconst 0, 1) := by decide +kernel
theorem dX12_judged_123 : decode cX12_judged 123 = .ok (.goto 18, 3) := by decide +kernel
theorem dX12_judged_126 : decode cX12_judged 126 = .ok (.aload_n 0, 1) := by decide +kernel
theorem dX12_judged_127 : decode cX12_judged 127 = .ok (.getfield 100, 3) := by decide +kernel
theorem dX12_judged_130 : decode cX12_judged 130 = .ok (.iload 6, 2) := by decide +kernel
theorem dX12_judged_132 : decode cX12_judged 132 = .ok (.iaload, 1) := by decide +kernel
theorem dX12_judged_133 : decode cX12_judged 133 = .ok (.ifCond .le 7, 3) := by decide +kernel
theorem dX12_judged_136 : decode cX12_judged 136 = .ok (.iconst 1, 1) := by decide +kernel
theorem dX12_judged_137 : decode cX12_judged 137 = .ok (.goto 4, 3) := by decide +kernel
theorem dX12_judged_140 : decode cX12_judged 140 = .ok (.iconst 0, 1) := by decide +kernel
theorem dX12_judged_141 : decode cX12_judged 141 = .ok (.istore 8, 2) := by decide +kernel
theorem dX12_judged_143 : decode cX12_judged 143 = .ok (.iload 8, 2) := by decide +kernel
theorem dX12_judged_145 : decode cX12_judged 145 = .ok (.ifCond .ne 12, 3) := by decide +kernel
theorem dX12_judged_148 : decode cX12_judged 148 = .ok (.iload_n 2, 1) := by decide +kernel
theorem dX12_judged_149 : decode cX12_judged 149 = .ok (.ifCond .ge 8, 3) := by decide +kernel
theorem dX12_judged_152 : decode cX12_judged 152 = .ok (.iload 4, 2) := by decide +kernel
theorem dX12_judged_154 : decode cX12_judged 154 = .ok (.goto 4, 3) := by decide +kernel
theorem dX12_judged_157 : decode cX12_judged 157 = .ok (.iload_n 2, 1) := by decide +kernel
theorem dX12_judged_158 : decode cX12_judged 158 = .ok (.istore_n 2, 1) := by decide +kernel
theorem dX12_judged_159 : decode cX12_judged 159 = .ok (.iload 8, 2) := by decide +kernel
theorem dX12_judged_161 : decode cX12_judged 161 = .ok (.ifCond .eq 20, 3) := by decide +kernel
theorem dX12_judged_164 : decode cX12_judged 164 = .ok (.iload 5, 2) := by decide +kernel
theorem dX12_judged_166 : decode cX12_judged 166 = .ok (.ifCond .ne 15, 3) := by decide +kernel
theorem dX12_judged_169 : decode cX12_judged 169 = .ok (.aload_n 0, 1) := by decide +kernel
theorem dX12_judged_170 : decode cX12_judged 170 = .ok (.iload 6, 2) := by decide +kernel
theorem dX12_judged_172 : decode cX12_judged 172 = .ok (.iload 7, 2) := by decide +kernel
theorem dX12_judged_174 : decode cX12_judged 174 = .ok (.iconst 1, 1) := by decide +kernel
theorem dX12_judged_175 : decode cX12_judged 175 = .ok (.invokevirtual 284, 3) := by decide +kernel
theorem dX12_judged_178 : decode cX12_judged 178 = .ok (.goto 29, 3) := by decide +kernel
theorem dX12_judged_181 : decode cX12_judged 181 = .ok (.iload 8, 2) := by decide +kernel
theorem dX12_judged_183 : decode cX12_judged 183 = .ok (.ifCond .eq 24, 3) := by decide +kernel
theorem dX12_judged_186 : decode cX12_judged 186 = .ok (.aload_n 0, 1) := by decide +kernel
theorem dX12_judged_187 : decode cX12_judged 187 = .ok (.getfield 100, 3) := by decide +kernel
theorem dX12_judged_190 : decode cX12_judged 190 = .ok (.iload 6, 2) := by decide +kernel
theorem dX12_judged_192 : decode cX12_judged 192 = .ok (.dup2, 1) := by decide +kernel
theorem dX12_judged_193 : decode cX12_judged 193 = .ok (.iaload, 1) := by decide +kernel
theorem dX12_judged_194 : decode cX12_judged 194 = .ok (.iload 5, 2) := by decide +kernel
theorem dX12_judged_196 : decode cX12_judged 196 = .ok (.iconst 1, 1) := by decide +kernel
theorem dX12_judged_197 : decode cX12_judged 197 = .ok (.if_icmp .ne 7, 3) := by decide +kernel
theorem dX12_judged_200 : decode cX12_judged 200 = .ok (.iconst 1, 1) := by decide +kernel
theorem dX12_judged_201 : decode cX12_judged 201 = .ok (.goto 4, 3) := by decide +kernel
theorem dX12_judged_204 : decode cX12_judged 204 = .ok (.iconst (-1), 1) := by decide +kernel
theorem dX12_judged_205 : decode cX12_judged 205 = .ok (.iadd, 1) := by decide +kernel
theorem dX12_judged_206 : decode cX12_judged 206 = .ok (.iastore, 1) := by decide +kernel
theorem dX12_judged_207 : decode cX12_judged 207 = .ok (.aload_n 0, 1) := by decide +kernel
theorem dX12_judged_208 : decode cX12_judged 208 = .ok (.invokevirtual 290, 3) := by decide +kernel
theorem dX12_judged_211 : decode cX12_judged 211 = .ok (.iconst 1, 1) := by decide +kernel
theorem dX12_judged_212 : decode cX12_judged 212 = .ok (.aload_n 0, 1) := by decide +kernel
theorem dX12_judged_213 : decode cX12_judged 213 = .ok (.invokevirtual 215, 3) := by decide +kernel
theorem dX12_judged_216 : decode cX12_judged 216 = .ok (.ishl, 1) := by decide +kernel
theorem dX12_judged_217 : decode cX12_judged 217 = .ok (.iconst 1, 1) := by decide +kernel
theorem dX12_judged_218 : decode cX12_judged 218 = .ok (.isub, 1) := by decide +kernel
theorem dX12_judged_219 : decode cX12_judged 219 = .ok (.if_icmp .ne 12, 3) := by decide +kernel
theorem dX12_judged_222 : decode cX12_judged 222 = .ok (.iload_n 3, 1) := by decide +kernel
theorem dX12_judged_223 : decode cX12_judged 223 = .ok (.ifCond .ge 8, 3) := by decide +kernel
theorem dX12_judged_226 : decode cX12_judged 226 = .ok (.iload 4, 2) := by decide +kernel
theorem dX12_judged_228 : decode cX12_judged 228 = .ok (.goto 4, 3) := by decide +kernel
theorem dX12_judged_231 : decode cX12_judged 231 = .ok (.iload_n 3, 1) := by decide +kernel
theorem dX12_judged_232 : decode cX12_judged 232 = .ok (.istore_n 3, 1) := by decide +kernel
theorem dX12_judged_233 : decode cX12_judged 233 = .ok (.iinc 4 1, 3) := by decide +kernel
theorem dX12_judged_236 : decode cX12_judged 236 = .ok (.goto (-208), 3) := by decide +kernel
theorem dX12_judged_239 : decode cX12_judged 239 = .ok (.iload_n 1, 1) := by decide +kernel
theorem dX12_judged_240 : decode cX12_judged 240 = .ok (.ifCond .ne 7, 3) := by decide +kernel
theorem dX12_judged_243 : decode cX12_judged 243 = .ok (.iload_n 2, 1) := by decide +kernel
theorem dX12_judged_244 : decode cX12_judged 244 = .ok (.goto 16, 3) := by decide +kernel
theorem dX12_judged_247 : decode cX12_judged 247 = .ok (.iload_n 1, 1) := by decide +kernel
theorem dX12_judged_248 : decode cX12_judged 248 = .ok (.iconst 1, 1) := by decide +kernel
theorem dX12_judged_249 : decode cX12_judged 249 = .ok (.if_icmp .ne 7, 3) := by decide +kernel
theorem dX12_judged_252 : decode cX12_judged 252 = .ok (.iload_n 3, 1) := by decide +kernel
theorem dX12_judged_253 : decode cX12_judged 253 = .ok (.goto 7, 3) := by decide +kernel
theorem dX12_judged_256 : decode cX12_judged 256 = .ok (.aload_n 0, 1) := by decide +kernel
theorem dX12_judged_257 : decode cX12_judged 257 = .ok (.invokevirtual 258, 3) := by decide +kernel
theorem dX12_judged_260 : decode cX12_judged 260 = .ok (.ireturn, 1) := by decide +kernel
abbrev tX12_judged (k : Nat) : MT := (RX12, cX12_judged, 9, k, (some .int))
def lX12_judged_1 : SX := (sLoop (cB rlt (iLoc 4) (iALd (rGet 12 14 (rLoc 0)) (iK 0))) (sSeq (sSetI 5 (iALd (rGet 12 14 (rLoc 0)) (iB gT2 (· + ·) (iK 1) (iB gT2 (· * ·) (iK 3) (iLoc 4))))) (sSeq (sSetI 6 (iALd (rGet 12 14 (rLoc 0)) (iB gT2 (· + ·) (iK 2) (iB gT2 (· * ·) (iK 3) (iLoc 4))))) (sSeq (sSetI 7 (iALd (rGet 12 14 (rLoc 0)) (iB gT2 (· + ·) (iK 3) (iB gT2 (· * ·) (iK 3) (iLoc 4))))) (sSeq (sSetI 8 (iCond (cZ zeq (iLoc 5)) (iCallV 12 mX12_mayCarry (aR (rLoc 0) (aI (iLoc 6) (aI (iLoc 7) aNil)))) (iCond (cB req (iLoc 5) (iK 1)) (iBool (cAnd (cNot (cZ zne (iCallV 12 mX12_isFull (aR (rLoc 0) (aI (iLoc 6) aNil))))) (cB rlt (iCallV 12 mX12_allLoads (aR (rLoc 0) aNil)) (iK 12)))) (iBool (cZ zgt (iALd (rGet 12 20 (rLoc 0)) (iLoc 6))))))) (sSeq (sSetI 2 (iCond (cAnd (cNot (cZ zne (iLoc 8))) (cZ zlt (iLoc 2))) (iLoc 4) (iLoc 2))) (sSeq (sIf (cAnd (cZ zne (iLoc 8)) (cZ zeq (iLoc 5))) (sCallV 12 mX12_carries (aR (rLoc 0) (aI (iLoc 6) (aI (iLoc 7) (aI (iK 1) aNil))))) (sIf (cZ zne (iLoc 8)) (sAUpd gT2 (· + ·) (rGet 12 20 (rLoc 0)) (iLoc 6) (iCond (cB req (iLoc 5) (iK 1)) (iK 1) (iK (-1)))) sSkip)) (sSetI 3 (iCond (cAnd (cB req (iCallV 12 mX12_loadedNow (aR (rLoc 0) aNil)) (iB gT2 (· - ·) (iB gT2 jshl (iK 1) (iCallV 12 mX12_huts (aR (rLoc 0) aNil))) (iK 1))) (cZ zlt (iLoc 3))) (iLoc 4) (iLoc 3))))))))) (sSeq (sForget 5) (sInc 4 1)))
theorem olX12_judged_1 (g : GT) {pcB pcC : Nat} : Sok g (tX12_judged 3) 28 239 pcB pcC (lX12_judged_1) := (Sok.loop (pc := 28) (pc1 := 39) (pc2 := 233) (pcN := 239) (Cok.cmp (pc1 := 30) (pc2 := 36) (pcT := 39) (pcF := 239) (EokI.iload (i := 4) dX12_judged_28) (EokI.iALd (pc1 := 34) (pc2 := 35) (EokR.getf (pc1 := 31) (j := 14) (ci := 12) (T := TX12) (N := 27) (EokR.aload_n (q := 0) dX12_judged_30) rfl wsX12_in (by decide) flX12_84 dX12_judged_31) (EokI.iconst (v := 0) dX12_judged_34 (by decide)) dX12_judged_35) (JI.ltF (tgt := 239) dX12_judged_36 (by decide))) (by decide) (Sok.seq (pc1 := 52) (Sok.setI (i := 5) (pc1 := 50) (EokI.iALd (pc1 := 43) (pc2 := 49) (EokR.getf (pc1 := 40) (j := 14) (ci := 12) (T := TX12) (N := 27) (EokR.aload_n (q := 0) dX12_judged_39) rfl wsX12_in (by decide) flX12_84 dX12_judged_40) (EokI.bin (pc1 := 44) (pc2 := 48) (EokI.iconst (v := 1) dX12_judged_43 (by decide)) (EokI.bin (pc1 := 45) (pc2 := 47) (EokI.iconst (v := 3) dX12_judged_44 (by decide)) (EokI.iload (i := 4) dX12_judged_45) (OPI.imul dX12_judged_47)) (OPI.iadd dX12_judged_48)) dX12_judged_49) (by decide) dX12_judged_50 (show 5 < 9 by decide)) (Sok.seq (pc1 := 65) (Sok.setI (i := 6) (pc1 := 63) (EokI.iALd (pc1 := 56) (pc2 := 62) (EokR.getf (pc1 := 53) (j := 14) (ci := 12) (T := TX12) (N := 27) (EokR.aload_n (q := 0) dX12_judged_52) rfl wsX12_in (by decide) flX12_84 dX12_judged_53) (EokI.bin (pc1 := 57) (pc2 := 61) (EokI.iconst (v := 2) dX12_judged_56 (by decide)) (EokI.bin (pc1 := 58) (pc2 := 60) (EokI.iconst (v := 3) dX12_judged_57 (by decide)) (EokI.iload (i := 4) dX12_judged_58) (OPI.imul dX12_judged_60)) (OPI.iadd dX12_judged_61)) dX12_judged_62) (by decide) dX12_judged_63 (show 6 < 9 by decide)) (Sok.seq (pc1 := 78) (Sok.setI (i := 7) (pc1 := 76) (EokI.iALd (pc1 := 69) (pc2 := 75) (EokR.getf (pc1 := 66) (j := 14) (ci := 12) (T := TX12) (N := 27) (EokR.aload_n (q := 0) dX12_judged_65) rfl wsX12_in (by decide) flX12_84 dX12_judged_66) (EokI.bin (pc1 := 70) (pc2 := 74) (EokI.iconst (v := 3) dX12_judged_69 (by decide)) (EokI.bin (pc1 := 71) (pc2 := 73) (EokI.iconst (v := 3) dX12_judged_70 (by decide)) (EokI.iload (i := 4) dX12_judged_71) (OPI.imul dX12_judged_73)) (OPI.iadd dX12_judged_74)) dX12_judged_75) (by decide) dX12_judged_76 (show 7 < 9 by decide)) (Sok.seq (pc1 := 143) (Sok.setI (i := 8) (pc1 := 141) (EokI.cond' (pc1 := 83) (pc2 := 94) (Cok.zero (pc1 := 80) (pcT := 83) (pcF := 94) (EokI.iload (i := 5) dX12_judged_78) (JZ.eqF (tgt := 94) dX12_judged_80 (by decide))) (EokI.goto (pc1 := 91) (pc2 := 141) (EokI.iCallV (pc1 := 88) (Aok.aR (pc1 := 84) (EokR.aload_n (q := 0) dX12_judged_83) (Aok.aI (pc1 := 86) (EokI.iload (i := 6) dX12_judged_84) (Aok.aI (pc1 := 88) (EokI.iload (i := 7) dX12_judged_86) Aok.nil))) (kX12_mayCarry g) rfl ykX12_mayCarry vkX12_277 (by decide) (by decide) dX12_judged_88) dX12_judged_91 (by decide)) (EokI.cond' (pc1 := 100) (pc2 := 126) (Cok.cmp (pc1 := 96) (pc2 := 97) (pcT := 100) (pcF := 126) (EokI.iload (i := 5) dX12_judged_94) (EokI.iconst (v := 1) dX12_judged_96 (by decide)) (JI.eqF (tgt := 126) dX12_judged_97 (by decide))) (EokI.cond' (pc1 := 118) (pc2 := 122) (Cok.and (pc1 := 109) (Cok.not (Cok.zero (pc1 := 106) (pcT := 122) (pcF := 109) (EokI.iCallV (pc1 := 103) (Aok.aR (pc1 := 101) (EokR.aload_n (q := 0) dX12_judged_100) (Aok.aI (pc1 := 103) (EokI.iload (i := 6) dX12_judged_101) Aok.nil)) (kX12_isFull g) rfl ykX12_isFull vkX12_255 (by decide) (by decide) dX12_judged_103) (JZ.neT (tgt := 122) dX12_judged_106 (by decide)))) (Cok.cmp (pc1 := 113) (pc2 := 115) (pcT := 118) (pcF := 122) (EokI.iCallV (pc1 := 110) (Aok.aR (pc1 := 110) (EokR.aload_n (q := 0) dX12_judged_109) Aok.nil) (kX12_allLoads g) rfl ykX12_allLoads vkX12_258 (by decide) (by decide) dX12_judged_110) (EokI.bipush (v := 12) dX12_judged_113 (by decide)) (JI.ltF (tgt := 122) dX12_judged_115 (by decide)))) (EokI.goto (pc1 := 119) (pc2 := 141) (EokI.iconst (v := 1) dX12_judged_118 (by decide)) dX12_judged_119 (by decide)) (EokI.goto (pc1 := 123) (pc2 := 141) (EokI.iconst (v := 0) dX12_judged_122 (by decide)) dX12_judged_123 (by decide))) (EokI.cond' (pc1 := 136) (pc2 := 140) (Cok.zero (pc1 := 133) (pcT := 136) (pcF := 140) (EokI.iALd (pc1 := 130) (pc2 := 132) (EokR.getf (pc1 := 127) (j := 20) (ci := 12) (T := TX12) (N := 27) (EokR.aload_n (q := 0) dX12_judged_126) rfl wsX12_in (by decide) flX12_100 dX12_judged_127) (EokI.iload (i := 6) dX12_judged_130) dX12_judged_132) (JZ.gtF (tgt := 140) dX12_judged_133 (by decide))) (EokI.goto (pc1 := 137) (pc2 := 141) (EokI.iconst (v := 1) dX12_judged_136 (by decide)) dX12_judged_137 (by decide)) (EokI.iconst (v := 0) dX12_judged_140 (by decide))))) (by decide) dX12_judged_141 (show 8 < 9 by decide)) (Sok.seq (pc1 := 159) (Sok.setI_n (q := 2) (pc1 := 158) (EokI.cond' (pc1 := 152) (pc2 := 157) (Cok.and (pc1 := 148) (Cok.not (Cok.zero (pc1 := 145) (pcT := 157) (pcF := 148) (EokI.iload (i := 8) dX12_judged_143) (JZ.neT (tgt := 157) dX12_judged_145 (by decide)))) (Cok.zero (pc1 := 149) (pcT := 152) (pcF := 157) (EokI.iload_n (q := 2) dX12_judged_148) (JZ.ltF (tgt := 157) dX12_judged_149 (by decide)))) (EokI.goto (pc1 := 154) (pc2 := 158) (EokI.iload (i := 4) dX12_judged_152) dX12_judged_154 (by decide)) (EokI.iload_n (q := 2) dX12_judged_157)) (by decide) dX12_judged_158 (show 2 < 9 by decide)) (Sok.seq (pc1 := 207) (Sok.ite (pc1 := 169) (pc2 := 181) (Cok.and (pc1 := 164) (Cok.zero (pc1 := 161) (pcT := 164) (pcF := 181) (EokI.iload (i := 8) dX12_judged_159) (JZ.neF (tgt := 181) dX12_judged_161 (by decide))) (Cok.zero (pc1 := 166) (pcT := 169) (pcF := 181) (EokI.iload (i := 5) dX12_judged_164) (JZ.eqF (tgt := 181) dX12_judged_166 (by decide)))) (by decide) (Sok.goto (pc1 := 178) (pcN := 207) (Sok.sCallV (pc1 := 175) (Aok.aR (pc1 := 170) (EokR.aload_n (q := 0) dX12_judged_169) (Aok.aI (pc1 := 172) (EokI.iload (i := 6) dX12_judged_170) (Aok.aI (pc1 := 174) (EokI.iload (i := 7) dX12_judged_172) (Aok.aI (pc1 := 175) (EokI.iconst (v := 1) dX12_judged_174 (by decide)) Aok.nil)))) (by decide) (kX12_carries g) rfl ykX12_carries vkX12_284 (by decide) (by decide) dX12_judged_175) dX12_judged_178 (by decide)) (Sok.ite (pc1 := 186) (pc2 := 207) (Cok.zero (pc1 := 183) (pcT := 186) (pcF := 207) (EokI.iload (i := 8) dX12_judged_181) (JZ.neF (tgt := 207) dX12_judged_183 (by decide))) (by decide) (Sok.aupd (pc1 := 190) (pc2 := 192) (pc3 := 205) (EokR.getf (pc1 := 187) (j := 20) (ci := 12) (T := TX12) (N := 27) (EokR.aload_n (q := 0) dX12_judged_186) rfl wsX12_in (by decide) flX12_100 dX12_judged_187) (EokI.iload (i := 6) dX12_judged_190) dX12_judged_192 dX12_judged_193 (EokI.cond' (pc1 := 200) (pc2 := 204) (Cok.cmp (pc1 := 196) (pc2 := 197) (pcT := 200) (pcF := 204) (EokI.iload (i := 5) dX12_judged_194) (EokI.iconst (v := 1) dX12_judged_196 (by decide)) (JI.eqF (tgt := 204) dX12_judged_197 (by decide))) (EokI.goto (pc1 := 201) (pc2 := 205) (EokI.iconst (v := 1) dX12_judged_200 (by decide)) dX12_judged_201 (by decide)) (EokI.iconst (v := (-1)) dX12_judged_204 (by decide))) (OPI.iadd dX12_judged_205) (by decide) dX12_judged_206) (Sok.skip (pc := 207)))) (Sok.setI_n (q := 3) (pc1 := 232) (EokI.cond' (pc1 := 226) (pc2 := 231) (Cok.and (pc1 := 222) (Cok.cmp (pc1 := 211) (pc2 := 219) (pcT := 222) (pcF := 231) (EokI.iCallV (pc1 := 208) (Aok.aR (pc1 := 208) (EokR.aload_n (q := 0) dX12_judged_207) Aok.nil) (kX12_loadedNow g) rfl ykX12_loadedNow vkX12_290 (by decide) (by decide) dX12_judged_208) (EokI.bin (pc1 := 217) (pc2 := 218) (EokI.bin (pc1 := 212) (pc2 := 216) (EokI.iconst (v := 1) dX12_judged_211 (by decide)) (EokI.iCallV (pc1 := 213) (Aok.aR (pc1 := 213) (EokR.aload_n (q := 0) dX12_judged_212) Aok.nil) (kX12_huts g) rfl ykX12_huts vkX12_215 (by decide) (by decide) dX12_judged_213) (OPI.ishl dX12_judged_216)) (EokI.iconst (v := 1) dX12_judged_217 (by decide)) (OPI.isub dX12_judged_218)) (JI.eqF (tgt := 231) dX12_judged_219 (by decide))) (Cok.zero (pc1 := 223) (pcT := 226) (pcF := 231) (EokI.iload_n (q := 3) dX12_judged_222) (JZ.ltF (tgt := 231) dX12_judged_223 (by decide)))) (EokI.goto (pc1 := 228) (pc2 := 232) (EokI.iload (i := 4) dX12_judged_226) dX12_judged_228 (by decide)) (EokI.iload_n (q := 3) dX12_judged_231)) (by decide) dX12_judged_232 (show 3 < 9 by decide)))))))) (Sok.seq (pc1 := 233) Sok.forget (Sok.goto (pc1 := 236) (pcN := 28) (Sok.iinc (i := 4) (v := 1) dX12_judged_233 (show 4 < 9 by decide) (by decide)) dX12_judged_236 (by decide))))
def mX12_judged : MX := bodyOf 9 (sSeq (sPutI 12 0 .int (rLoc 0) (iK 0)) (sSeq (sIf (cNot (cZ zne (iCallS mX12_within (aI (iLoc 1) (aI (iK 0) (aI (iK 2) aNil)))))) (sRetI (iK (-2))) sSkip) (sSeq (sCallV 12 mX12_laysTold (aR (rLoc 0) aNil)) (sSeq (sSetI 2 (iK (-1))) (sSeq (sSetI 3 (iK (-1))) (sSeq (sSeq (sSeq (sSetI 4 (iK 0)) lX12_judged_1) (sForget 4)) (sRetI (iCond (cZ zeq (iLoc 1)) (iLoc 2) (iCond (cB req (iLoc 1) (iK 1)) (iLoc 3) (iCallV 12 mX12_allLoads (aR (rLoc 0) aNil)))))))))))
theorem kX12_judged (g : GT) : MK g 3 yX12_judged cX12_judged 9 (some .int) mX12_judged := MK.of (pcN := 99999) (pcB := 0) (pcC := 0) rfl (Sok.seq (pc1 := 5) (Sok.putI (ci := 12) (T := TX12) (NN := 27) (tt := tyX12) (j := 0) (pc1 := 1) (pc2 := 2) (ty := .int) (EokR.aload_n (q := 0) dX12_judged_0) (EokI.iconst (v := 0) dX12_judged_1 (by decide)) (by decide) rfl wsX12_in tyX12_ok nmX12 (by decide) flX12_1 rfl rfl dX12_judged_2) (Sok.seq (pc1 := 17) (Sok.ite (pc1 := 14) (pc2 := 17) (Cok.not (Cok.zero (pc1 := 11) (pcT := 17) (pcF := 14) (EokI.iCallS (pc1 := 8) (Aok.aI (pc1 := 6) (EokI.iload_n (q := 1) dX12_judged_5) (Aok.aI (pc1 := 7) (EokI.iconst (v := 0) dX12_judged_6 (by decide)) (Aok.aI (pc1 := 8) (EokI.iconst (v := 2) dX12_judged_7 (by decide)) Aok.nil))) (kX12_within g) ykX12_within skX12_267 (by decide) (by decide) dX12_judged_8) (JZ.neT (tgt := 17) dX12_judged_11 (by decide)))) (by decide) (Sok.retI (pc1 := 16) (EokI.bipush (v := (-2)) dX12_judged_14 (by decide)) (by decide) dX12_judged_16 rfl) (Sok.skip (pc := 17))) (Sok.seq (pc1 := 21) (Sok.sCallV (pc1 := 18) (Aok.aR (pc1 := 18) (EokR.aload_n (q := 0) dX12_judged_17) Aok.nil) (by decide) (kX12_laysTold g) rfl ykX12_laysTold vkX12_239 (by decide) (by decide) dX12_judged_18) (Sok.seq (pc1 := 23) (Sok.setI_n (q := 2) (pc1 := 22) (EokI.iconst (v := (-1)) dX12_judged_21 (by decide)) (by decide) dX12_judged_22 (show 2 < 9 by decide)) (Sok.seq (pc1 := 25) (Sok.setI_n (q := 3) (pc1 := 24) (EokI.iconst (v := (-1)) dX12_judged_23 (by decide)) (by decide) dX12_judged_24 (show 3 < 9 by decide)) (Sok.seq (pc1 := 239) (Sok.seq (pc1 := 239) (Sok.seq (pc1 := 28) (Sok.setI (i := 4) (pc1 := 26) (EokI.iconst (v := 0) dX12_judged_25 (by decide)) (by decide) dX12_judged_26 (show 4 < 9 by decide)) (olX12_judged_1 g )) (Sok.forget (pc := 239))) (Sok.retI (pc1 := 260) (EokI.cond' (pc1 := 243) (pc2 := 247) (Cok.zero (pc1 := 240) (pcT := 243) (pcF := 247) (EokI.iload_n (q := 1) dX12_judged_239) (JZ.eqF (tgt := 247) dX12_judged_240 (by decide))) (EokI.goto (pc1 := 244) (pc2 := 260) (EokI.iload_n (q := 2) dX12_judged_243) dX12_judged_244 (by decide)) (EokI.cond' (pc1 := 252) (pc2 := 256) (Cok.cmp (pc1 := 248) (pc2 := 249) (pcT := 252) (pcF := 256) (EokI.iload_n (q := 1) dX12_judged_247) (EokI.iconst (v := 1) dX12_judged_248 (by decide)) (JI.eqF (tgt := 256) dX12_judged_249 (by decide))) (EokI.goto (pc1 := 253) (pc2 := 260) (EokI.iload_n (q := 3) dX12_judged_252) dX12_judged_253 (by decide)) (EokI.iCallV (pc1 := 257) (Aok.aR (pc1 := 257) (EokR.aload_n (q := 0) dX12_judged_256) Aok.nil) (kX12_allLoads g) rfl ykX12_allLoads vkX12_258 (by decide) (by decide) dX12_judged_257))) (by decide) dX12_judged_260 rfl)))))))
/-! PassHutsModel.waysOf(II)I -/
theorem dX12_waysOf_0 : decode cX12_waysOf 0 = .ok (.iconst 1, 1) := by decide +kernel
theorem dX12_waysOf_1 : decode cX12_waysOf 1 = .ok (.istore_n 2, 1) := by decide +kernel
theorem dX12_waysOf_2 : decode cX12_waysOf 2 = .ok (.iconst 1, 1) := by decide +kernel
theorem dX12_waysOf_3 : decode cX12_waysOf 3 = .ok (.istore_n 3, 1) := by decide +kernel
theorem dX12_waysOf_4 : decode cX12_waysOf 4 = .ok (.iload_n 3, 1) := by decide +kernel
theorem dX12_waysOf_5 : decode cX12_waysOf 5 = .ok (.iload_n 1, 1) := by decide +kernel
theorem dX12_waysOf_6 : decode cX12_waysOf 6 = .ok (.if_icmp .gt 17, 3) := by decide +kernel
theorem dX12_waysOf_9 : decode cX12_waysOf 9 = .ok (.iload_n 2, 1) := by decide +kernel
theorem dX12_waysOf_10 : decode cX12_waysOf 10 = .ok (.iload_n 0, 1) := by decide +kernel
theorem dX12_waysOf_11 : decode cX12_waysOf 11 = .ok (.iload_n 3, 1) := by decide +kernel
theorem dX12_waysOf_12 : decode cX12_waysOf 12 = .ok (.iadd, 1) := by decide +kernel
theorem dX12_waysOf_13 : decode cX12_waysOf 13 = .ok (.imul, 1) := by decide +kernel
theorem dX12_waysOf_14 : decode cX12_waysOf 14 = .ok (.iload_n 3, 1) := by decide +kernel
theorem dX12_waysOf_15 : decode cX12_waysOf 15 = .ok (.idiv, 1) := by decide +kernel
theorem dX12_waysOf_16 : decode cX12_waysOf 16 = .ok (.istore_n 2, 1) := by decide +kernel
theorem dX12_waysOf_17 : decode cX12_waysOf 17 = .ok (.iinc 3 1, 3) := by decide +kernel
theorem dX12_waysOf_20 : decode cX12_waysOf 20 = .ok (.goto (-16), 3) := by decide +kernel
theorem dX12_waysOf_23 : decode cX12_waysOf 23 = .ok (.iload_n 2, 1) := by decide +kernel
theorem dX12_waysOf_24 : decode cX12_waysOf 24 = .ok (.ireturn, 1) := by decide +kernel
abbrev tX12_waysOf (k : Nat) : MT := (RX12, cX12_waysOf, 4, k, (some .int))
def lX12_waysOf_1 : SX := (sLoop (cB rle (iLoc 3) (iLoc 1)) (sSetI 2 (iB gNZ (· / ·) (iB gT2 (· * ·) (iLoc 2) (iB gT2 (· + ·) (iLoc 0) (iLoc 3))) (iLoc 3))) (sInc 3 1))
theorem olX12_waysOf_1 (g : GT) {pcB pcC : Nat} : Sok g (tX12_waysOf 0) 4 23 pcB pcC (lX12_waysOf_1) := (Sok.loop (pc := 4) (pc1 := 9) (pc2 := 17) (pcN := 23) (Cok.cmp (pc1 := 5) (pc2 := 6) (pcT := 9) (pcF := 23) (EokI.iload_n (q := 3) dX12_waysOf_4) (EokI.iload_n (q := 1) dX12_waysOf_5) (JI.leF (tgt := 23) dX12_waysOf_6 (by decide))) (by decide) (Sok.setI_n (q := 2) (pc1 := 16) (EokI.bin (pc1 := 14) (pc2 := 15) (EokI.bin (pc1 := 10) (pc2 := 13) (EokI.iload_n (q := 2) dX12_waysOf_9) (EokI.bin (pc1 := 11) (pc2 := 12) (EokI.iload_n (q := 0) dX12_waysOf_10) (EokI.iload_n (q := 3) dX12_waysOf_11) (OPI.iadd dX12_waysOf_12)) (OPI.imul dX12_waysOf_13)) (EokI.iload_n (q := 3) dX12_waysOf_14) (OPI.idiv dX12_waysOf_15)) (by decide) dX12_waysOf_16 (show 2 < 4 by decide)) (Sok.goto (pc1 := 20) (pcN := 4) (Sok.iinc (i := 3) (v := 1) dX12_waysOf_17 (show 3 < 4 by decide) (by decide)) dX12_waysOf_20 (by decide)))
def mX12_waysOf : MX := bodyOf 4 (sSeq (sSetI 2 (iK 1)) (sSeq (sSeq (sSeq (sSetI 3 (iK 1)) lX12_waysOf_1) (sForget 3)) (sRetI (iLoc 2))))
theorem kX12_waysOf (g : GT) : MK g 0 yX12_waysOf cX12_waysOf 4 (some .int) mX12_waysOf := MK.of (pcN := 99999) (pcB := 0) (pcC := 0) rfl (Sok.seq (pc1 := 2) (Sok.setI_n (q := 2) (pc1 := 1) (EokI.iconst (v := 1) dX12_waysOf_0 (by decide)) (by decide) dX12_waysOf_1 (show 2 < 4 by decide)) (Sok.seq (pc1 := 23) (Sok.seq (pc1 := 23) (Sok.seq (pc1 := 4) (Sok.setI_n (q := 3) (pc1 := 3) (EokI.iconst (v := 1) dX12_waysOf_2 (by decide)) (by decide) dX12_waysOf_3 (show 3 < 4 by decide)) (olX12_waysOf_1 g )) (Sok.forget (pc := 23))) (Sok.retI (pc1 := 24) (EokI.iload_n (q := 2) dX12_waysOf_23) (by decide) dX12_waysOf_24 rfl)))
/-! PassHutsModel.allWays()I -/
theorem dX12_allWays_0 : decode cX12_allWays 0 = .ok (.bipush 12, 2) := by decide +kernel
theorem dX12_allWays_2 : decode cX12_allWays 2 = .ok (.aload_n 0, 1) := by decide +kernel
theorem dX12_allWays_3 : decode cX12_allWays 3 = .ok (.invokevirtual 215, 3) := by decide +kernel
theorem dX12_allWays_6 : decode cX12_allWays 6 = .ok (.invokestatic 293, 3) := by decide +kernel
theorem dX12_allWays_9 : decode cX12_allWays 9 = .ok (.ireturn, 1) := by decide +kernel
abbrev tX12_allWays (k : Nat) : MT := (RX12, cX12_allWays, 1, k, (some .int))
def mX12_allWays : MX := bodyOf 1 (sRetI (iCallS mX12_waysOf (aI (iK 12) (aI (iCallV 12 mX12_huts (aR (rLoc 0) aNil)) aNil))))
theorem kX12_allWays (g : GT) : MK g 1 yX12_allWays cX12_allWays 1 (some .int) mX12_allWays := MK.of (pcN := 99999) (pcB := 0) (pcC := 0) rfl (Sok.retI (pc1 := 9) (EokI.iCallS (pc1 := 6) (Aok.aI (pc1 := 2) (EokI.bipush (v := 12) dX12_allWays_0 (by decide)) (Aok.aI (pc1 := 6) (EokI.iCallV (pc1 := 3) (Aok.aR (pc1 := 3) (EokR.aload_n (q := 0) dX12_allWays_2) Aok.nil) (kX12_huts g) rfl ykX12_huts vkX12_215 (by decide) (by decide) dX12_allWays_3) Aok.nil)) (kX12_waysOf g) ykX12_waysOf skX12_293 (by decide) (by decide) dX12_allWays_6) (by decide) dX12_allWays_9 rfl)
/-! PassHutsModel.numberNow()I -/
theorem dX12_numberNow_0 : decode cX12_numberNow 0 = .ok (.iconst 0, 1) := by decide +kernel
theorem dX12_numberNow_1 : decode cX12_numberNow 1 = .ok (.istore_n 1, 1) := by decide +kernel
theorem dX12_numberNow_2 : decode cX12_numberNow 2 = .ok (.bipush 12, 2) := by decide +kernel
theorem dX12_numberNow_4 : decode cX12_numberNow 4 = .ok (.istore_n 2, 1) := by decide +kernel
theorem dX12_numberNow_5 : decode cX12_numberNow 5 = .ok (.iconst 0, 1) := by decide +kernel
theorem dX12_numberNow_6 : decode cX12_numberNow 6 = .ok (.istore_n 3, 1) := by decide +kernel
theorem dX12_numberNow_7 : decode cX12_numberNow 7 = .ok (.iload_n 3, 1) := by decide +kernel
theorem dX12_numberNow_8 : decode cX12_numberNow 8 = .ok (.aload_n 0, 1) := by decide +kernel
theorem dX12_numberNow_9 : decode cX12_numberNow 9 = .ok (.invokevirtual 215, 3) := by decide +kernel
theorem dX12_numberNow_12 : decode cX12_numberNow 12 = .ok (.if_icmp .ge 56, 3) := by decide +kernel
theorem dX12_numberNow_15 : decode cX12_numberNow 15 = .ok (.iconst 0, 1) := by decide +kernel
theorem dX12_numberNow_16 : decode cX12_numberNow 16 = .ok (.istore 4, 2) := by decide +kernel
theorem dX12_numberNow_18 : decode cX12_numberNow 18 = .ok (.iload 4, 2) := by decide +kernel
theorem dX12_numberNow_20 : decode cX12_numberNow 20 = .ok (.aload_n 0, 1) := by decide +kernel
theorem dX12_numberNow_21 : decode cX12_numberNow 21 = .ok (.getfield 100, 3) := by decide +kernel
theorem dX12_numberNow_24 : decode cX12_numberNow 24 = .ok (.iload_n 3, 1) := by decide +kernel
theorem dX12_numberNow_25 : decode cX12_numberNow 25 = .ok (.iaload, 1) := by decide +kernel
theorem dX12_numberNow_26 : decode cX12_numberNow 26 = .ok (.if_icmp .ge 27, 3) := by decide +kernel
theorem dX12_numberNow_29 : decode cX12_numberNow 29 = .ok (.iload_n 1, 1) := by decide +kernel
theorem dX12_numberNow_30 : decode cX12_numberNow 30 = .ok (.iload_n 2, 1) := by decide +kernel
theorem dX12_numberNow_31 : decode cX12_numberNow 31 = .ok (.iload 4, 2) := by decide +kernel
theorem dX12_numberNow_33 : decode cX12_numberNow 33 = .ok (.isub, 1) := by decide +kernel
theorem dX12_numberNow_34 : decode cX12_numberNow 34 = .ok (.aload_n 0, 1) := by decide +kernel
theorem dX12_numberNow_35 : decode cX12_numberNow 35 = .ok (.invokevirtual 215, 3) := by decide +kernel
theorem dX12_numberNow_38 : decode cX12_numberNow 38 = .ok (.iconst 1, 1) := by decide +kernel
theorem dX12_numberNow_39 : decode cX12_numberNow 39 = .ok (.isub, 1) := by decide +kernel
theorem dX12_numberNow_40 : decode cX12_numberNow 40 = .ok (.iload_n 3, 1) := by decide +kernel
theorem dX12_numberNow_41 : decode cX12_numberNow 41 = .ok (.isub, 1) := by decide +kernel
theorem dX12_numberNow_42 : decode cX12_numberNow 42 = .ok (.invokestatic 293, 3) := by decide +kernel
theorem dX12_numberNow_45 : decode cX12_numberNow 45 = .ok (.iadd, 1) := by decide +kernel
theorem dX12_numberNow_46 : decode cX12_numberNow 46 = .ok (.istore_n 1, 1) := by decide +kernel
theorem dX12_numberNow_47 : decode cX12_numberNow 47 = .ok (.iinc 4 1, 3) := by decide +kernel
theorem dX12_numberNow_50 : decode cX12_numberNow 50 = .ok (.goto (-32), 3) := by decide +kernel
theorem dX12_numberNow_53 : decode cX12_numberNow 53 = .ok (.iload_n 2, 1) := by decide +kernel
theorem dX12_numberNow_54 : decode cX12_numberNow 54 = .ok (.aload_n 0, 1) := by decide +kernel
theorem dX12_numberNow_55 : decode cX12_numberNow 55 = .ok (.getfield 100, 3) := by decide +kernel
theorem dX12_numberNow_58 : decode cX12_numberNow 58 = .ok (.iload_n 3, 1) := by decide +kernel
theorem dX12_numberNow_59 : decode cX12_numberNow 59 = .ok (.iaload, 1) := by decide +kernel
theorem dX12_numberNow_60 : decode cX12_numberNow 60 = .ok (.isub, 1) := by decide +kernel
theorem dX12_numberNow_61 : decode cX12_numberNow 61 = .ok (.istore_n 2, 1) := by decide +kernel
theorem dX12_numberNow_62 : decode cX12_numberNow 62 = .ok (.iinc 3 1, 3) := by decide +kernel
theorem dX12_numberNow_65 : decode cX12_numberNow 65 = .ok (.goto (-58), 3) := by decide +kernel
theorem dX12_numberNow_68 : decode cX12_numberNow 68 = .ok (.iload_n 1, 1) := by decide +kernel
theorem dX12_numberNow_69 : decode cX12_numberNow 69 = .ok (.ireturn, 1) := by decide +kernel
abbrev tX12_numberNow (k : Nat) : MT := (RX12, cX12_numberNow, 5, k, (some .int))
def lX12_numberNow_1 : SX := (sLoop (cB rlt (iLoc 4) (iALd (rGet 12 20 (rLoc 0)) (iLoc 3))) (sSetI 1 (iB gT2 (· + ·) (iLoc 1) (iCallS mX12_waysOf (aI (iB gT2 (· - ·) (iLoc 2) (iLoc 4)) (aI (iB gT2 (· - ·) (iB gT2 (· - ·) (iCallV 12 mX12_huts (aR (rLoc 0) aNil)) (iK 1)) (iLoc 3)) aNil))))) (sInc 4 1))
def lX12_numberNow_2 : SX := (sLoop (cB rlt (iLoc 3) (iCallV 12 mX12_huts (aR (rLoc 0) aNil))) (sSeq (sSeq (sSetI 4 (iK 0)) lX12_numberNow_1) (sSetI 2 (iB gT2 (· - ·) (iLoc 2) (iALd (rGet 12 20 (rLoc 0)) (iLoc 3))))) (sSeq (sForget 4) (sInc 3 1)))
theorem olX12_numberNow_1 (g : GT) {pcB pcC : Nat} : Sok g (tX12_numberNow 1) 18 53 pcB pcC (lX12_numberNow_1) := (Sok.loop (pc := 18) (pc1 := 29) (pc2 := 47) (pcN := 53) (Cok.cmp (pc1 := 20) (pc2 := 26) (pcT := 29) (pcF := 53) (EokI.iload (i := 4) dX12_numberNow_18) (EokI.iALd (pc1 := 24) (pc2 := 25) (EokR.getf (pc1 := 21) (j := 20) (ci := 12) (T := TX12) (N := 27) (EokR.aload_n (q := 0) dX12_numberNow_20) rfl wsX12_in (by decide) flX12_100 dX12_numberNow_21) (EokI.iload_n (q := 3) dX12_numberNow_24) dX12_numberNow_25) (JI.ltF (tgt := 53) dX12_numberNow_26 (by decide))) (by decide) (Sok.setI_n (q := 1) (pc1 := 46) (EokI.bin (pc1 := 30) (pc2 := 45) (EokI.iload_n (q := 1) dX12_numberNow_29) (EokI.iCallS (pc1 := 42) (Aok.aI (pc1 := 34) (EokI.bin (pc1 := 31) (pc2 := 33) (EokI.iload_n (q := 2) dX12_numberNow_30) (EokI.iload (i := 4) dX12_numberNow_31) (OPI.isub dX12_numberNow_33)) (Aok.aI (pc1 := 42) (EokI.bin (pc1 := 40) (pc2 := 41) (EokI.bin (pc1 := 38) (pc2 := 39) (EokI.iCallV (pc1 := 35) (Aok.aR (pc1 := 35) (EokR.aload_n (q := 0) dX12_numberNow_34) Aok.nil) (kX12_huts g) rfl ykX12_huts vkX12_215 (by decide) (by decide) dX12_numberNow_35) (EokI.iconst (v := 1) dX12_numberNow_38 (by decide)) (OPI.isub dX12_numberNow_39)) (EokI.iload_n (q := 3) dX12_numberNow_40) (OPI.isub dX12_numberNow_41)) Aok.nil)) (kX12_waysOf g) ykX12_waysOf skX12_293 (by decide) (by decide) dX12_numberNow_42) (OPI.iadd dX12_numberNow_45)) (by decide) dX12_numberNow_46 (show 1 < 5 by decide)) (Sok.goto (pc1 := 50) (pcN := 18) (Sok.iinc (i := 4) (v := 1) dX12_numberNow_47 (show 4 < 5 by decide) (by decide)) dX12_numberNow_50 (by decide)))
theorem olX12_numberNow_2 (g : GT) {pcB pcC : Nat} : Sok g (tX12_numberNow 1) 7 68 pcB pcC (lX12_numberNow_2) := (Sok.loop (pc := 7) (pc1 := 15) (pc2 := 62) (pcN := 68) (Cok.cmp (pc1 := 8) (pc2 := 12) (pcT := 15) (pcF := 68) (EokI.iload_n (q := 3) dX12_numberNow_7) (EokI.iCallV (pc1 := 9) (Aok.aR (pc1 := 9) (EokR.aload_n (q := 0) dX12_numberNow_8) Aok.nil) (kX12_huts g) rfl ykX12_huts vkX12_215 (by decide) (by decide) dX12_numberNow_9) (JI.ltF (tgt := 68) dX12_numberNow_12 (by decide))) (by decide) (Sok.seq (pc1 := 53) (Sok.seq (pc1 := 18) (Sok.setI (i := 4) (pc1 := 16) (EokI.iconst (v := 0) dX12_numberNow_15 (by decide)) (by decide) dX12_numberNow_16 (show 4 < 5 by decide)) (olX12_numberNow_1 g )) (Sok.setI_n (q := 2) (pc1 := 61) (EokI.bin (pc1 := 54) (pc2 := 60) (EokI.iload_n (q := 2) dX12_numberNow_53) (EokI.iALd (pc1 := 58) (pc2 := 59) (EokR.getf (pc1 := 55) (j := 20) (ci := 12) (T := TX12) (N := 27) (EokR.aload_n (q := 0) dX12_numberNow_54) rfl wsX12_in (by decide) flX12_100 dX12_numberNow_55) (EokI.iload_n (q := 3) dX12_numberNow_58) dX12_numberNow_59) (OPI.isub dX12_numberNow_60)) (by decide) dX12_numberNow_61 (show 2 < 5 by decide))) (Sok.seq (pc1 := 62) Sok.forget (Sok.goto (pc1 := 65) (pcN := 7) (Sok.iinc (i := 3) (v := 1) dX12_numberNow_62 (show 3 < 5 by decide) (by decide)) dX12_numberNow_65 (by decide))))
def mX12_numberNow : MX := bodyOf 5 (sSeq (sSetI 1 (iK 0)) (sSeq (sSetI 2 (iK 12)) (sSeq (sSeq (sSeq (sSetI 3 (iK 0)) lX12_numberNow_2) (sForget 3)) (sRetI (iLoc 1)))))
theorem kX12_numberNow (g : GT) : MK g 1 yX12_numberNow cX12_numberNow 5 (some .int) mX12_numberNow := MK.of (pcN := 99999) (pcB := 0) (pcC := 0) rfl (Sok.seq (pc1 := 2) (Sok.setI_n (q := 1) (pc1 := 1) (EokI.iconst (v := 0) dX12_numberNow_0 (by decide)) (by decide) dX12_numberNow_1 (show 1 < 5 by decide)) (Sok.seq (pc1 := 5) (Sok.setI_n (q := 2) (pc1 := 4) (EokI.bipush (v := 12) dX12_numberNow_2 (by decide)) (by decide) dX12_numberNow_4 (show 2 < 5 by decide)) (Sok.seq (pc1 := 68) (Sok.seq (pc1 := 68) (Sok.seq (pc1 := 7) (Sok.setI_n (q := 3) (pc1 := 6) (EokI.iconst (v := 0) dX12_numberNow_5 (by decide)) (by decide) dX12_numberNow_6 (show 3 < 5 by decide)) (olX12_numberNow_2 g )) (Sok.forget (pc := 68))) (Sok.retI (pc1 := 69) (EokI.iload_n (q := 1) dX12_numberNow_68) (by decide) dX12_numberNow_69 rfl))))
/-! PassHutsModel.lays(I)V -/
theorem dX12_lays_0 : decode cX12_lays 0 = .ok (.iload_n 1, 1) := by decide +kernel
theorem dX12_lays_1 : decode cX12_lays 1 = .ok (.istore_n 2, 1) := by decide +kernel
theorem dX12_lays_2 : decode cX12_lays 2 = .ok (.bipush 12, 2) := by decide +kernel
theorem dX12_lays_4 : decode cX12_lays 4 = .ok (.istore_n 3, 1) := by decide +kernel
theorem dX12_lays_5 : decode cX12_lays 5 = .ok (.iconst 0, 1) := by decide +kernel
theorem dX12_lays_6 : decode cX12_lays 6 = .ok (.istore 4, 2) := by decide +kernel
theorem dX12_lays_8 : decode cX12_lays 8 = .ok (.iload 4, 2) := by decide +kernel
theorem dX12_lays_10 : decode cX12_lays 10 = .ok (.iconst 5, 1) := by decide +kernel
theorem dX12_lays_11 : decode cX12_lays 11 = .ok (.if_icmp .ge 99, 3) := by decide +kernel
theorem dX12_lays_14 : decode cX12_lays 14 = .ok (.aload_n 0, 1) := by decide +kernel
theorem dX12_lays_15 : decode cX12_lays 15 = .ok (.getfield 100, 3) := by decide +kernel
theorem dX12_lays_18 : decode cX12_lays 18 = .ok (.iload 4, 2) := by decide +kernel
theorem dX12_lays_20 : decode cX12_lays 20 = .ok (.iconst 0, 1) := by decide +kernel
theorem dX12_lays_21 : decode cX12_lays 21 = .ok (.iastore, 1) := by decide +kernel
theorem dX12_lays_22 : decode cX12_lays 22 = .ok (.iload 4, 2) := by decide +kernel
theorem dX12_lays_24 : decode cX12_lays 24 = .ok (.aload_n 0, 1) := by decide +kernel
theorem dX12_lays_25 : decode cX12_lays 25 = .ok (.invokevirtual 215, 3) := by decide +kernel
theorem dX12_lays_28 : decode cX12_lays 28 = .ok (.if_icmp .ge 66, 3) := by decide +kernel
theorem dX12_lays_31 : decode cX12_lays 31 = .ok (.iload_n 2, 1) := by decide +kernel
theorem dX12_lays_32 : decode cX12_lays 32 = .ok (.iload_n 3, 1) := by decide +kernel
theorem dX12_lays_33 : decode cX12_lays 33 = .ok (.aload_n 0, 1) := by decide +kernel
theorem dX12_lays_34 : decode cX12_lays 34 = .ok (.getfield 100, 3) := by decide +kernel
theorem dX12_lays_37 : decode cX12_lays 37 = .ok (.iload 4, 2) := by decide +kernel
theorem dX12_lays_39 : decode cX12_lays 39 = .ok (.iaload, 1) := by decide +kernel
theorem dX12_lays_40 : decode cX12_lays 40 = .ok (.isub, 1) := by decide +kernel
theorem dX12_lays_41 : decode cX12_lays 41 = .ok (.aload_n 0, 1) := by decide +kernel
theorem dX12_lays_42 : decode cX12_lays 42 = .ok (.invokevirtual 215, 3) := by decide +kernel
theorem dX12_lays_45 : decode cX12_lays 45 = .ok (.iconst 1, 1) := by decide +kernel
theorem dX12_lays_46 : decode cX12_lays 46 = .ok (.isub, 1) := by decide +kernel
theorem dX12_lays_47 : decode cX12_lays 47 = .ok (.iload 4, 2) := by decide +kernel
theorem dX12_lays_49 : decode cX12_lays 49 = .ok (.isub, 1) := by decide +kernel
theorem dX12_lays_50 : decode cX12_lays 50 = .ok (.invokestatic 293, 3) := by decide +kernel
theorem dX12_lays_53 : decode cX12_lays 53 = .ok (.if_icmp .lt 41, 3) := by decide +kernel
theorem dX12_lays_56 : decode cX12_lays 56 = .ok (.iload_n 2, 1) := by decide +kernel
theorem dX12_lays_57 : decode cX12_lays 57 = .ok (.iload_n 3, 1) := by decide +kernel
theorem dX12_lays_58 : decode cX12_lays 58 = .ok (.aload_n 0, 1) := by decide +kernel
theorem dX12_lays_59 : decode cX12_lays 59 = .ok (.getfield 100, 3) := by decide +kernel
theorem dX12_lays_62 : decode cX12_lays 62 = .ok (.iload 4, 2) := by decide +kernel
theorem dX12_lays_64 : decode cX12_lays 64 = .ok (.iaload, 1) := by decide +kernel
theorem dX12_lays_65 : decode cX12_lays 65 = .ok (.isub, 1) := by decide +kernel
theorem dX12_lays_66 : decode cX12_lays 66 = .ok (.aload_n 0, 1) := by decide +kernel
theorem dX12_lays_67 : decode cX12_lays 67 = .ok (.invokevirtual 215, 3) := by decide +kernel
theorem dX12_lays_70 : decode cX12_lays 70 = .ok (.iconst 1, 1) := by decide +kernel
theorem dX12_lays_71 : decode cX12_lays 71 = .ok (.isub, 1) := by decide +kernel
theorem dX12_lays_72 : decode cX12_lays 72 = .ok (.iload 4, 2) := by decide +kernel
theorem dX12_lays_74 : decode cX12_lays 74 = .ok (.isub, 1) := by decide +kernel
theorem dX12_lays_75 : decode cX12_lays 75 = .ok (.invokestatic 293, 3) := by decide +kernel
theorem dX12_lays_78 : decode cX12_lays 78 = .ok (.isub, 1) := by decide +kernel
theorem dX12_lays_79 : decode cX12_lays 79 = .ok (.istore_n 2, 1) := by decide +kernel
theorem dX12_lays_80 : decode cX12_lays 80 = .ok (.aload_n 0, 1) := by decide +kernel
theorem dX12_lays_81 : decode cX12_lays 81 = .ok (.getfield 100, 3) := by decide +kernel
theorem dX12_lays_84 : decode cX12_lays 84 = .ok (.iload 4, 2) := by decide +kernel
theorem dX12_lays_86 : decode cX12_lays 86 = .ok (.dup2, 1) := by decide +kernel
theorem dX12_lays_87 : decode cX12_lays 87 = .ok (.iaload, 1) := by decide +kernel
theorem dX12_lays_88 : decode cX12_lays 88 = .ok (.iconst 1, 1) := by decide +kernel
theorem dX12_lays_89 : decode cX12_lays 89 = .ok (.iadd, 1) := by decide +kernel
theorem dX12_lays_90 : decode cX12_lays 90 = .ok (.iastore, 1) := by decide +kernel
theorem dX12_lays_91 : decode cX12_lays 91 = .ok (.goto (-69), 3) := by decide +kernel
theorem dX12_lays_94 : decode cX12_lays 94 = .ok (.iload_n 3, 1) := by decide +kernel
theorem dX12_lays_95 : decode cX12_lays 95 = .ok (.aload_n 0, 1) := by decide +kernel
theorem dX12_lays_96 : decode cX12_lays 96 = .ok (.getfield 100, 3) := by decide +kernel
theorem dX12_lays_99 : decode cX12_lays 99 = .ok (.iload 4, 2) := by decide +kernel
theorem dX12_lays_101 : decode cX12_lays 101 = .ok (.iaload, 1) := by decide +kernel
theorem dX12_lays_102 : decode cX12_lays 102 = .ok (.isub, 1) := by decide +kernel
theorem dX12_lays_103 : decode cX12_lays 103 = .ok (.istore_n 3, 1) := by decide +kernel
theorem dX12_lays_104 : decode cX12_lays 104 = .ok (.iinc 4 1, 3) := by decide +kernel
theorem dX12_lays_107 : decode cX12_lays 107 = .ok (.goto (-99), 3) := by decide +kernel
theorem dX12_lays_110 : decode cX12_lays 110 = .ok (.return_, 1) := by decide +kernel
abbrev tX12_lays (k : Nat) : MT := (RX12, cX12_lays, 5, k, none)
def lX12_lays_1 : SX := (sLoop (cAnd (cB rlt (iLoc 4) (iCallV 12 mX12_huts (aR (rLoc 0) aNil))) (cB rge (iLoc 2) (iCallS mX12_waysOf (aI (iB gT2 (· - ·) (iLoc 3) (iALd (rGet 12 20 (rLoc 0)) (iLoc 4))) (aI (iB gT2 (· - ·) (iB gT2 (· - ·) (iCallV 12 mX12_huts (aR (rLoc 0) aNil)) (iK 1)) (iLoc 4)) aNil))))) (sSeq (sSetI 2 (iB gT2 (· - ·) (iLoc 2) (iCallS mX12_waysOf (aI (iB gT2 (· - ·) (iLoc 3) (iALd (rGet 12 20 (rLoc 0)) (iLoc 4))) (aI (iB gT2 (· - ·) (iB gT2 (· - ·) (iCallV 12 mX12_huts (aR (rLoc 0) aNil)) (iK 1)) (iLoc 4)) aNil))))) (sAUpd gT2 (· + ·) (rGet 12 20 (rLoc 0)) (iLoc 4) (iK 1))) sSkip)
def lX12_lays_2 : SX := (sLoop (cB rlt (iLoc 4) (iK 5)) (sSeq (sASt 0 narI (rGet 12 20 (rLoc 0)) (iLoc 4) (iK 0)) (sSeq lX12_lays_1 (sSetI 3 (iB gT2 (· - ·) (iLoc 3) (iALd (rGet 12 20 (rLoc 0)) (iLoc 4)))))) (sInc 4 1))
theorem olX12_lays_1 (g : GT) {pcB pcC : Nat} : Sok g (tX12_lays 1) 22 94 pcB pcC (lX12_lays_1) := (Sok.loop (pc := 22) (pc1 := 56) (pc2 := 22) (pcN := 94) (Cok.and (pc1 := 31) (Cok.cmp (pc1 := 24) (pc2 := 28) (pcT := 31) (pcF := 94) (EokI.iload (i := 4) dX12_lays_22) (EokI.iCallV (pc1 := 25) (Aok.aR (pc1 := 25) (EokR.aload_n (q := 0) dX12_lays_24) Aok.nil) (kX12_huts g) rfl ykX12_huts vkX12_215 (by decide) (by decide) dX12_lays_25) (JI.ltF (tgt := 94) dX12_lays_28 (by decide))) (Cok.cmp (pc1 := 32) (pc2 := 53) (pcT := 56) (pcF := 94) (EokI.iload_n (q := 2) dX12_lays_31) (EokI.iCallS (pc1 := 50) (Aok.aI (pc1 := 41) (EokI.bin (pc1 := 33) (pc2 := 40) (EokI.iload_n (q := 3) dX12_lays_32) (EokI.iALd (pc1 := 37) (pc2 := 39) (EokR.getf (pc1 := 34) (j := 20) (ci := 12) (T := TX12) (N := 27) (EokR.aload_n (q := 0) dX12_lays_33) rfl wsX12_in (by decide) flX12_100 dX12_lays_34) (EokI.iload (i := 4) dX12_lays_37) dX12_lays_39) (OPI.isub dX12_lays_40)) (Aok.aI (pc1 := 50) (EokI.bin (pc1 := 47) (pc2 := 49) (EokI.bin (pc1 := 45) (pc2 := 46) (EokI.iCallV (pc1 := 42) (Aok.aR (pc1 := 42) (EokR.aload_n (q := 0) dX12_lays_41) Aok.nil) (kX12_huts g) rfl ykX12_huts vkX12_215 (by decide) (by decide) dX12_lays_42) (EokI.iconst (v := 1) dX12_lays_45 (by decide)) (OPI.isub dX12_lays_46)) (EokI.iload (i := 4) dX12_lays_47) (OPI.isub dX12_lays_49)) Aok.nil)) (kX12_waysOf g) ykX12_waysOf skX12_293 (by decide) (by decide) dX12_lays_50) (JI.geF (tgt := 94) dX12_lays_53 (by decide)))) (by decide) (Sok.seq (pc1 := 80) (Sok.setI_n (q := 2) (pc1 := 79) (EokI.bin (pc1 := 57) (pc2 := 78) (EokI.iload_n (q := 2) dX12_lays_56) (EokI.iCallS (pc1 := 75) (Aok.aI (pc1 := 66) (EokI.bin (pc1 := 58) (pc2 := 65) (EokI.iload_n (q := 3) dX12_lays_57) (EokI.iALd (pc1 := 62) (pc2 := 64) (EokR.getf (pc1 := 59) (j := 20) (ci := 12) (T := TX12) (N := 27) (EokR.aload_n (q := 0) dX12_lays_58) rfl wsX12_in (by decide) flX12_100 dX12_lays_59) (EokI.iload (i := 4) dX12_lays_62) dX12_lays_64) (OPI.isub dX12_lays_65)) (Aok.aI (pc1 := 75) (EokI.bin (pc1 := 72) (pc2 := 74) (EokI.bin (pc1 := 70) (pc2 := 71) (EokI.iCallV (pc1 := 67) (Aok.aR (pc1 := 67) (EokR.aload_n (q := 0) dX12_lays_66) Aok.nil) (kX12_huts g) rfl ykX12_huts vkX12_215 (by decide) (by decide) dX12_lays_67) (EokI.iconst (v := 1) dX12_lays_70 (by decide)) (OPI.isub dX12_lays_71)) (EokI.iload (i := 4) dX12_lays_72) (OPI.isub dX12_lays_74)) Aok.nil)) (kX12_waysOf g) ykX12_waysOf skX12_293 (by decide) (by decide) dX12_lays_75) (OPI.isub dX12_lays_78)) (by decide) dX12_lays_79 (show 2 < 5 by decide)) (Sok.goto (pc1 := 91) (pcN := 22) (Sok.aupd (pc1 := 84) (pc2 := 86) (pc3 := 89) (EokR.getf (pc1 := 81) (j := 20) (ci := 12) (T := TX12) (N := 27) (EokR.aload_n (q := 0) dX12_lays_80) rfl wsX12_in (by decide) flX12_100 dX12_lays_81) (EokI.iload (i := 4) dX12_lays_84) dX12_lays_86 dX12_lays_87 (EokI.iconst (v := 1) dX12_lays_88 (by decide)) (OPI.iadd dX12_lays_89) (by decide) dX12_lays_90) dX12_lays_91 (by decide))) Sok.skip)
theorem olX12_lays_2 (g : GT) {pcB pcC : Nat} : Sok g (tX12_lays 1) 8 110 pcB pcC (lX12_lays_2) := (Sok.loop (pc := 8) (pc1 := 14) (pc2 := 104) (pcN := 110) (Cok.cmp (pc1 := 10) (pc2 := 11) (pcT := 14) (pcF := 110) (EokI.iload (i := 4) dX12_lays_8) (EokI.iconst (v := 5) dX12_lays_10 (by decide)) (JI.ltF (tgt := 110) dX12_lays_11 (by decide))) (by decide) (Sok.seq (pc1 := 22) (Sok.iASt (pc1 := 18) (pc2 := 20) (pc3 := 21) (EokR.getf (pc1 := 15) (j := 20) (ci := 12) (T := TX12) (N := 27) (EokR.aload_n (q := 0) dX12_lays_14) rfl wsX12_in (by decide) flX12_100 dX12_lays_15) (EokI.iload (i := 4) dX12_lays_18) (EokI.iconst (v := 0) dX12_lays_20 (by decide)) (by decide) dX12_lays_21) (Sok.seq (pc1 := 94) (olX12_lays_1 g ) (Sok.setI_n (q := 3) (pc1 := 103) (EokI.bin (pc1 := 95) (pc2 := 102) (EokI.iload_n (q := 3) dX12_lays_94) (EokI.iALd (pc1 := 99) (pc2 := 101) (EokR.getf (pc1 := 96) (j := 20) (ci := 12) (T := TX12) (N := 27) (EokR.aload_n (q := 0) dX12_lays_95) rfl wsX12_in (by decide) flX12_100 dX12_lays_96) (EokI.iload (i := 4) dX12_lays_99) dX12_lays_101) (OPI.isub dX12_lays_102)) (by decide) dX12_lays_103 (show 3 < 5 by decide)))) (Sok.goto (pc1 := 107) (pcN := 8) (Sok.iinc (i := 4) (v := 1) dX12_lays_104 (show 4 < 5 by decide) (by decide)) dX12_lays_107 (by decide)))
def mX12_lays : MX := bodyOf 5 (sSeq (sSeq (sSetI 2 (iLoc 1)) (sSeq (sSetI 3 (iK 12)) (sSeq (sSeq (sSetI 4 (iK 0)) lX12_lays_2) (sForget 4)))) sRetV)
theorem kX12_lays (g : GT) : MK g 1 yX12_lays cX12_lays 5 none mX12_lays := MK.of (pcN := 99999) (pcB := 0) (pcC := 0) rfl (Sok.seq (pc1 := 110) (Sok.seq (pc1 := 2) (Sok.setI_n (q := 2) (pc1 := 1) (EokI.iload_n (q := 1) dX12_lays_0) (by decide) dX12_lays_1 (show 2 < 5 by decide)) (Sok.seq (pc1 := 5) (Sok.setI_n (q := 3) (pc1 := 4) (EokI.bipush (v := 12) dX12_lays_2 (by decide)) (by decide) dX12_lays_4 (show 3 < 5 by decide)) (Sok.seq (pc1 := 110) (Sok.seq (pc1 := 8) (Sok.setI (i := 4) (pc1 := 6) (EokI.iconst (v := 0) dX12_lays_5 (by decide)) (by decide) dX12_lays_6 (show 4 < 5 by decide)) (olX12_lays_2 g )) (Sok.forget (pc := 110))))) (Sok.retV dX12_lays_110 rfl))
/-! PassHutsModel.beginOf(II)J -/
theorem dX12_beginOf_0 : decode cX12_beginOf 0 = .ok (.iload_n 1, 1) := by decide +kernel
theorem dX12_beginOf_1 : decode cX12_beginOf 1 = .ok (.tableswitch 127 1 8 #[47, 53, 70, 78, 97, 127, 127, 113], 47) := by decide +kernel
theorem dX12_beginOf_48 : decode cX12_beginOf 48 = .ok (.aload_n 0, 1) := by decide +kernel
theorem dX12_beginOf_49 : decode cX12_beginOf 49 = .ok (.invokevirtual 290, 3) := by decide +kernel
theorem dX12_beginOf_52 : decode cX12_beginOf 52 = .ok (.i2l, 1) := by decide +kernel
theorem dX12_beginOf_53 : decode cX12_beginOf 53 = .ok (.lreturn, 1) := by decide +kernel
theorem dX12_beginOf_54 : decode cX12_beginOf 54 = .ok (.aload_n 0, 1) := by decide +kernel
theorem dX12_beginOf_55 : decode cX12_beginOf 55 = .ok (.getfield 100, 3) := by decide +kernel
theorem dX12_beginOf_58 : decode cX12_beginOf 58 = .ok (.iload_n 2, 1) := by decide +kernel
theorem dX12_beginOf_59 : decode cX12_beginOf 59 = .ok (.iaload, 1) := by decide +kernel
theorem dX12_beginOf_60 : decode cX12_beginOf 60 = .ok (.ifCond .le 9, 3) := by decide +kernel
theorem dX12_beginOf_63 : decode cX12_beginOf 63 = .ok (.ldc2_w 316, 3) := by decide +kernel
theorem dX12_beginOf_66 : decode cX12_beginOf 66 = .ok (.goto 4, 3) := by decide +kernel
theorem dX12_beginOf_69 : decode cX12_beginOf 69 = .ok (.lconst 0, 1) := by decide +kernel
theorem dX12_beginOf_70 : decode cX12_beginOf 70 = .ok (.lreturn, 1) := by decide +kernel
theorem dX12_beginOf_71 : decode cX12_beginOf 71 = .ok (.aload_n 0, 1) := by decide +kernel
theorem dX12_beginOf_72 : decode cX12_beginOf 72 = .ok (.getfield 100, 3) := by decide +kernel
theorem dX12_beginOf_75 : decode cX12_beginOf 75 = .ok (.iload_n 2, 1) := by decide +kernel
theorem dX12_beginOf_76 : decode cX12_beginOf 76 = .ok (.iaload, 1) := by decide +kernel
theorem dX12_beginOf_77 : decode cX12_beginOf 77 = .ok (.i2l, 1) := by decide +kernel
theorem dX12_beginOf_78 : decode cX12_beginOf 78 = .ok (.lreturn, 1) := by decide +kernel
theorem dX12_beginOf_79 : decode cX12_beginOf 79 = .ok (.aload_n 0, 1) := by decide +kernel
theorem dX12_beginOf_80 : decode cX12_beginOf 80 = .ok (.getfield 100, 3) := by decide +kernel
theorem dX12_beginOf_83 : decode cX12_beginOf 83 = .ok (.iload_n 2, 1) := by decide +kernel
theorem dX12_beginOf_84 : decode cX12_beginOf 84 = .ok (.iaload, 1) := by decide +kernel
theorem dX12_beginOf_85 : decode cX12_beginOf 85 = .ok (.ifCond .le 11, 3) := by decide +kernel
theorem dX12_beginOf_88 : decode cX12_beginOf 88 = .ok (.aload_n 0, 1) := by decide +kernel
theorem dX12_beginOf_89 : decode cX12_beginOf 89 = .ok (.invokevirtual 258, 3) := by decide +kernel
theorem dX12_beginOf_92 : decode cX12_beginOf 92 = .ok (.i2l, 1) := by decide +kernel
theorem dX12_beginOf_93 : decode cX12_beginOf 93 = .ok (.goto 4, 3) := by decide +kernel
theorem dX12_beginOf_96 : decode cX12_beginOf 96 = .ok (.lconst 0, 1) := by decide +kernel
theorem dX12_beginOf_97 : decode cX12_beginOf 97 = .ok (.lreturn, 1) := by decide +kernel
theorem dX12_beginOf_98 : decode cX12_beginOf 98 = .ok (.aload_n 0, 1) := by decide +kernel
theorem dX12_beginOf_99 : decode cX12_beginOf 99 = .ok (.invokevirtual 290, 3) := by decide +kernel
theorem dX12_beginOf_102 : decode cX12_beginOf 102 = .ok (.iload_n 2, 1) := by decide +kernel
theorem dX12_beginOf_103 : decode cX12_beginOf 103 = .ok (.iand, 1) := by decide +kernel
theorem dX12_beginOf_104 : decode cX12_beginOf 104 = .ok (.iload_n 2, 1) := by decide +kernel
theorem dX12_beginOf_105 : decode cX12_beginOf 105 = .ok (.if_icmp .ne 7, 3) := by decide +kernel
theorem dX12_beginOf_108 : decode cX12_beginOf 108 = .ok (.lconst 1, 1) := by decide +kernel
theorem dX12_beginOf_109 : decode cX12_beginOf 109 = .ok (.goto 4, 3) := by decide +kernel
theorem dX12_beginOf_112 : decode cX12_beginOf 112 = .ok (.lconst 0, 1) := by decide +kernel
theorem dX12_beginOf_113 : decode cX12_beginOf 113 = .ok (.lreturn, 1) := by decide +kernel
theorem dX12_beginOf_114 : decode cX12_beginOf 114 = .ok (.aload_n 0, 1) := by decide +kernel
theorem dX12_beginOf_115 : decode cX12_beginOf 115 = .ok (.invokevirtual 258, 3) := by decide +kernel
theorem dX12_beginOf_118 : decode cX12_beginOf 118 = .ok (.iload_n 2, 1) := by decide +kernel
theorem dX12_beginOf_119 : decode cX12_beginOf 119 = .ok (.if_icmp .ne 7, 3) := by decide +kernel
theorem dX12_beginOf_122 : decode cX12_beginOf 122 = .ok (.lconst 1, 1) := by decide +kernel
theorem dX12_beginOf_123 : decode cX12_beginOf 123 = .ok (.goto 4, 3) := by decide +kernel
theorem dX12_beginOf_126 : decode cX12_beginOf 126 = .ok (.lconst 0, 1) := by decide +kernel
theorem dX12_beginOf_127 : decode cX12_beginOf 127 = .ok (.lreturn, 1) := by decide +kernel
theorem dX12_beginOf_128 : decode cX12_beginOf 128 = .ok (.lconst 0, 1) := by decide +kernel
theorem dX12_beginOf_129 : decode cX12_beginOf 129 = .ok (.lreturn, 1) := by decide +kernel
abbrev tX12_beginOf (k : Nat) : MT := (RX12, cX12_beginOf, 3, k, (some .long))
def mX12_beginOf : MX := bodyOf 3 (sSw (sSwitch 1 (iLoc 1) [(sRetL (lOfI (iCallV 12 mX12_loadedNow (aR (rLoc 0) aNil)))), (sRetL (lCond (cZ zgt (iALd (rGet 12 20 (rLoc 0)) (iLoc 2))) (lK 17) (lK 0))), (sRetL (lOfI (iALd (rGet 12 20 (rLoc 0)) (iLoc 2)))), (sRetL (lCond (cZ zgt (iALd (rGet 12 20 (rLoc 0)) (iLoc 2))) (lOfI (iCallV 12 mX12_allLoads (aR (rLoc 0) aNil))) (lK 0))), (sRetL (lCond (cB req (iB gT2 (· &&& ·) (iCallV 12 mX12_loadedNow (aR (rLoc 0) aNil)) (iLoc 2)) (iLoc 2)) (lK 1) (lK 0))), (sRetL (lK 0)), (sRetL (lK 0)), (sRetL (lCond (cB req (iCallV 12 mX12_allLoads (aR (rLoc 0) aNil)) (iLoc 2)) (lK 1) (lK 0)))] (sRetL (lK 0))))
theorem kX12_beginOf (g : GT) : MK g 2 yX12_beginOf cX12_beginOf 3 (some .long) mX12_beginOf := MK.of (pcN := 99999) (pcB := 0) (pcC := 0) rfl (Sok.swB (Sok.tswitch (pc1 := 1) (pd := 128) (pcs := [48, 54, 71, 79, 98, 128, 128, 114]) (pcN := 99999) (pcB := 99999) (EokI.iload_n (q := 1) dX12_beginOf_0) (by decide) dX12_beginOf_1 (by decide) rfl (by decide) (by decide) (sw_list (pd := 128) (d := (sRetL (lK 0))) ⟨(Sok.retL (pc1 := 53) (EokL.i2l (pc1 := 52) (EokI.iCallV (pc1 := 49) (Aok.aR (pc1 := 49) (EokR.aload_n (q := 0) dX12_beginOf_48) Aok.nil) (kX12_loadedNow g) rfl ykX12_loadedNow vkX12_290 (by decide) (by decide) dX12_beginOf_49) dX12_beginOf_52) (by decide) dX12_beginOf_53 rfl), (Sok.retL (pc1 := 70) (EokL.cond' (pc1 := 63) (pc2 := 69) (Cok.zero (pc1 := 60) (pcT := 63) (pcF := 69) (EokI.iALd (pc1 := 58) (pc2 := 59) (EokR.getf (pc1 := 55) (j := 20) (ci := 12) (T := TX12) (N := 27) (EokR.aload_n (q := 0) dX12_beginOf_54) rfl wsX12_in (by decide) flX12_100 dX12_beginOf_55) (EokI.iload_n (q := 2) dX12_beginOf_58) dX12_beginOf_59) (JZ.gtF (tgt := 69) dX12_beginOf_60 (by decide))) (EokL.goto (pc1 := 66) (pc2 := 70) (EokL.ldc2 (v := 17) ckX12_316 dX12_beginOf_63) dX12_beginOf_66 (by decide)) (EokL.lconst (v := 0) dX12_beginOf_69 (by decide))) (by decide) dX12_beginOf_70 rfl), (Sok.retL (pc1 := 78) (EokL.i2l (pc1 := 77) (EokI.iALd (pc1 := 75) (pc2 := 76) (EokR.getf (pc1 := 72) (j := 20) (ci := 12) (T := TX12) (N := 27) (EokR.aload_n (q := 0) dX12_beginOf_71) rfl wsX12_in (by decide) flX12_100 dX12_beginOf_72) (EokI.iload_n (q := 2) dX12_beginOf_75) dX12_beginOf_76) dX12_beginOf_77) (by decide) dX12_beginOf_78 rfl), (Sok.retL (pc1 := 97) (EokL.cond' (pc1 := 88) (pc2 := 96) (Cok.zero (pc1 := 85) (pcT := 88) (pcF := 96) (EokI.iALd (pc1 := 83) (pc2 := 84) (EokR.getf (pc1 := 80) (j := 20) (ci := 12) (T := TX12) (N := 27) (EokR.aload_n (q := 0) dX12_beginOf_79) rfl wsX12_in (by decide) flX12_100 dX12_beginOf_80) (EokI.iload_n (q := 2) dX12_beginOf_83) dX12_beginOf_84) (JZ.gtF (tgt := 96) dX12_beginOf_85 (by decide))) (EokL.goto (pc1 := 93) (pc2 := 97) (EokL.i2l (pc1 := 92) (EokI.iCallV (pc1 := 89) (Aok.aR (pc1 := 89) (EokR.aload_n (q := 0) dX12_beginOf_88) Aok.nil) (kX12_allLoads g) rfl ykX12_allLoads vkX12_258 (by decide) (by decide) dX12_beginOf_89) dX12_beginOf_92) dX12_beginOf_93 (by decide)) (EokL.lconst (v := 0) dX12_beginOf_96 (by decide))) (by decide) dX12_beginOf_97 rfl), (Sok.retL (pc1 := 113) (EokL.cond' (pc1 := 108) (pc2 := 112) (Cok.cmp (pc1 := 104) (pc2 := 105) (pcT := 108) (pcF := 112) (EokI.bin (pc1 := 102) (pc2 := 103) (EokI.iCallV (pc1 := 99) (Aok.aR (pc1 := 99) (EokR.aload_n (q := 0) dX12_beginOf_98) Aok.nil) (kX12_loadedNow g) rfl ykX12_loadedNow vkX12_290 (by decide) (by decide) dX12_beginOf_99) (EokI.iload_n (q := 2) dX12_beginOf_102) (OPI.iand dX12_beginOf_103)) (EokI.iload_n (q := 2) dX12_beginOf_104) (JI.eqF (tgt := 112) dX12_beginOf_105 (by decide))) (EokL.goto (pc1 := 109) (pc2 := 113) (EokL.lconst (v := 1) dX12_beginOf_108 (by decide)) dX12_beginOf_109 (by decide)) (EokL.lconst (v := 0) dX12_beginOf_112 (by decide))) (by decide) dX12_beginOf_113 rfl), (Sok.retL (pc1 := 129) (EokL.lconst (v := 0) dX12_beginOf_128 (by decide)) (by decide) dX12_beginOf_129 rfl), (Sok.retL (pc1 := 129) (EokL.lconst (v := 0) dX12_beginOf_128 (by decide)) (by decide) dX12_beginOf_129 rfl), (Sok.retL (pc1 := 127) (EokL.cond' (pc1 := 122) (pc2 := 126) (Cok.cmp (pc1 := 118) (pc2 := 119) (pcT := 122) (pcF := 126) (EokI.iCallV (pc1 := 115) (Aok.aR (pc1 := 115) (EokR.aload_n (q := 0) dX12_beginOf_114) Aok.nil) (kX12_allLoads g) rfl ykX12_allLoads vkX12_258 (by decide) (by decide) dX12_beginOf_115) (EokI.iload_n (q := 2) dX12_beginOf_118) (JI.eqF (tgt := 126) dX12_beginOf_119 (by decide))) (EokL.goto (pc1 := 123) (pc2 := 127) (EokL.lconst (v := 1) dX12_beginOf_122 (by decide)) dX12_beginOf_123 (by decide)) (EokL.lconst (v := 0) dX12_beginOf_126 (by decide))) (by decide) dX12_beginOf_127 rfl), trivial⟩) (Sok.retL (pc1 := 129) (EokL.lconst (v := 0) dX12_beginOf_128 (by decide)) (by decide) dX12_beginOf_129 rfl)))
/-! PassHutsModel.joinedWays(JJ)J -/
theorem dX12_joinedWays_0 : decode cX12_joinedWays 0 = .ok (.lload_n 2, 1) := by decide +kernel
theorem dX12_joinedWays_1 : decode cX12_joinedWays 1 = .ok (.lconst 0, 1) := by decide +kernel
theorem dX12_joinedWays_2 : decode cX12_joinedWays 2 = .ok (.lcmp, 1) := by decide +kernel
theorem dX12_joinedWays_3 : decode cX12_joinedWays 3 = .ok (.ifCond .ne 5, 3) := by decide +kernel
theorem dX12_joinedWays_6 : decode cX12_joinedWays 6 = .ok (.lload_n 0, 1) := by decide +kernel
theorem dX12_joinedWays_7 : decode cX12_joinedWays 7 = .ok (.lreturn, 1) := by decide +kernel
theorem dX12_joinedWays_8 : decode cX12_joinedWays 8 = .ok (.lload_n 2, 1) := by decide +kernel
theorem dX12_joinedWays_9 : decode cX12_joinedWays 9 = .ok (.ldc2_w 325, 3) := by decide +kernel
theorem dX12_joinedWays_12 : decode cX12_joinedWays 12 = .ok (.lrem, 1) := by decide +kernel
theorem dX12_joinedWays_13 : decode cX12_joinedWays 13 = .ok (.lconst 1, 1) := by decide +kernel
theorem dX12_joinedWays_14 : decode cX12_joinedWays 14 = .ok (.ladd, 1) := by decide +kernel
theorem dX12_joinedWays_15 : decode cX12_joinedWays 15 = .ok (.lstore 4, 2) := by decide +kernel
theorem dX12_joinedWays_17 : decode cX12_joinedWays 17 = .ok (.lload_n 0, 1) := by decide +kernel
theorem dX12_joinedWays_18 : decode cX12_joinedWays 18 = .ok (.lconst 0, 1) := by decide +kernel
theorem dX12_joinedWays_19 : decode cX12_joinedWays 19 = .ok (.lcmp, 1) := by decide +kernel
theorem dX12_joinedWays_20 : decode cX12_joinedWays 20 = .ok (.ifCond .eq 14, 3) := by decide +kernel
theorem dX12_joinedWays_23 : decode cX12_joinedWays 23 = .ok (.lload 4, 2) := by decide +kernel
theorem dX12_joinedWays_25 : decode cX12_joinedWays 25 = .ok (.lload_n 0, 1) := by decide +kernel
theorem dX12_joinedWays_26 : decode cX12_joinedWays 26 = .ok (.ldc2_w 325, 3) := by decide +kernel
theorem dX12_joinedWays_29 : decode cX12_joinedWays 29 = .ok (.lrem, 1) := by decide +kernel
theorem dX12_joinedWays_30 : decode cX12_joinedWays 30 = .ok (.lcmp, 1) := by decide +kernel
theorem dX12_joinedWays_31 : decode cX12_joinedWays 31 = .ok (.ifCond .ge 16, 3) := by decide +kernel
theorem dX12_joinedWays_34 : decode cX12_joinedWays 34 = .ok (.lload 4, 2) := by decide +kernel
theorem dX12_joinedWays_36 : decode cX12_joinedWays 36 = .ok (.ldc2_w 325, 3) := by decide +kernel
theorem dX12_joinedWays_39 : decode cX12_joinedWays 39 = .ok (.lload_n 2, 1) := by decide +kernel
theorem dX12_joinedWays_40 : decode cX12_joinedWays 40 = .ok (.ldc2_w 325, 3) := by decide +kernel
theorem dX12_joinedWays_43 : decode cX12_joinedWays 43 = .ok (.ldiv, 1) := by decide +kernel
theorem dX12_joinedWays_44 : decode cX12_joinedWays 44 = .ok (.lmul, 1) := by decide +kernel
theorem dX12_joinedWays_45 : decode cX12_joinedWays 45 = .ok (.ladd, 1) := by decide +kernel
theorem dX12_joinedWays_46 : decode cX12_joinedWays 46 = .ok (.lreturn, 1) := by decide +kernel
theorem dX12_joinedWays_47 : decode cX12_joinedWays 47 = .ok (.lload 4, 2) := by decide +kernel
theorem dX12_joinedWays_49 : decode cX12_joinedWays 49 = .ok (.lload_n 0, 1) := by decide +kernel
theorem dX12_joinedWays_50 : decode cX12_joinedWays 50 = .ok (.ldc2_w 325, 3) := by decide +kernel
theorem dX12_joinedWays_53 : decode cX12_joinedWays 53 = .ok (.lrem, 1) := by decide +kernel
theorem dX12_joinedWays_54 : decode cX12_joinedWays 54 = .ok (.lcmp, 1) := by decide +kernel
theorem dX12_joinedWays_55 : decode cX12_joinedWays 55 = .ok (.ifCond .ne 17, 3) := by decide +kernel
theorem dX12_joinedWays_58 : decode cX12_joinedWays 58 = .ok (.lload_n 0, 1) := by decide +kernel
theorem dX12_joinedWays_59 : decode cX12_joinedWays 59 = .ok (.ldc2_w 325, 3) := by decide +kernel
theorem dX12_joinedWays_62 : decode cX12_joinedWays 62 = .ok (.ldiv, 1) := by decide +kernel
theorem dX12_joinedWays_63 : decode cX12_joinedWays 63 = .ok (.lload_n 2, 1) := by decide +kernel
theorem dX12_joinedWays_64 : decode cX12_joinedWays 64 = .ok (.ldc2_w 325, 3) := by decide +kernel
theorem dX12_joinedWays_67 : decode cX12_joinedWays 67 = .ok (.ldiv, 1) := by decide +kernel
theorem dX12_joinedWays_68 : decode cX12_joinedWays 68 = .ok (.ladd, 1) := by decide +kernel
theorem dX12_joinedWays_69 : decode cX12_joinedWays 69 = .ok (.goto 8, 3) := by decide +kernel
theorem dX12_joinedWays_72 : decode cX12_joinedWays 72 = .ok (.lload_n 0, 1) := by decide +kernel
theorem dX12_joinedWays_73 : decode cX12_joinedWays 73 = .ok (.ldc2_w 325, 3) := by decide +kernel
theorem dX12_joinedWays_76 : decode cX12_joinedWays 76 = .ok (.ldiv, 1) := by decide +kernel
theorem dX12_joinedWays_77 : decode cX12_joinedWays 77 = .ok (.lstore 6, 2) := by decide +kernel
theorem dX12_joinedWays_79 : decode cX12_joinedWays 79 = .ok (.lload_n 0, 1) := by decide +kernel
theorem dX12_joinedWays_80 : decode cX12_joinedWays 80 = .ok (.ldc2_w 325, 3) := by decide +kernel
theorem dX12_joinedWays_83 : decode cX12_joinedWays 83 = .ok (.lrem, 1) := by decide +kernel
theorem dX12_joinedWays_84 : decode cX12_joinedWays 84 = .ok (.ldc2_w 325, 3) := by decide +kernel
theorem dX12_joinedWays_87 : decode cX12_joinedWays 87 = .ok (.lload 6, 2) := by decide +kernel
theorem dX12_joinedWays_89 : decode cX12_joinedWays 89 = .ok (.ldc2_w 327, 3) := by decide +kernel
theorem dX12_joinedWays_92 : decode cX12_joinedWays 92 = .ok (.lcmp, 1) := by decide +kernel
theorem dX12_joinedWays_93 : decode cX12_joinedWays 93 = .ok (.ifCond .le 9, 3) := by decide +kernel
theorem dX12_joinedWays_96 : decode cX12_joinedWays 96 = .ok (.ldc2_w 327, 3) := by decide +kernel
theorem dX12_joinedWays_99 : decode cX12_joinedWays 99 = .ok (.goto 5, 3) := by decide +kernel
theorem dX12_joinedWays_102 : decode cX12_joinedWays 102 = .ok (.lload 6, 2) := by decide +kernel
theorem dX12_joinedWays_104 : decode cX12_joinedWays 104 = .ok (.lmul, 1) := by decide +kernel
theorem dX12_joinedWays_105 : decode cX12_joinedWays 105 = .ok (.ladd, 1) := by decide +kernel
theorem dX12_joinedWays_106 : decode cX12_joinedWays 106 = .ok (.lreturn, 1) := by decide +kernel
abbrev tX12_joinedWays (k : Nat) : MT := (RX12, cX12_joinedWays, 8, k, (some .long))
def mX12_joinedWays : MX := bodyOf 8 (sSeq (sIf (cL leq (lLoc 2) (lK 0)) (sRetL (lLoc 0)) sSkip) (sSeq (sSetL 4 (lB gT2 (· + ·) (lB gNZL jlrem (lLoc 2) (lK 16)) (lK 1))) (sSeq (sIf (cOr (cL leq (lLoc 0) (lK 0)) (cL llt (lLoc 4) (lB gNZL jlrem (lLoc 0) (lK 16)))) (sRetL (lB gT2 (· + ·) (lLoc 4) (lB gT2 (· * ·) (lK 16) (lB gNZL (· / ·) (lLoc 2) (lK 16))))) sSkip) (sSeq (sSetL 6 (lCond (cL leq (lLoc 4) (lB gNZL jlrem (lLoc 0) (lK 16))) (lB gT2 (· + ·) (lB gNZL (· / ·) (lLoc 0) (lK 16)) (lB gNZL (· / ·) (lLoc 2) (lK 16))) (lB gNZL (· / ·) (lLoc 0) (lK 16)))) (sRetL (lB gT2 (· + ·) (lB gNZL jlrem (lLoc 0) (lK 16)) (lB gT2 (· * ·) (lK 16) (lCond (cL lgt (lLoc 6) (lK 2000000000)) (lK 2000000000) (lLoc 6)))))))))
theorem kX12_joinedWays (g : GT) : MK g 0 yX12_joinedWays cX12_joinedWays 8 (some .long) mX12_joinedWays := MK.of (pcN := 99999) (pcB := 0) (pcC := 0) rfl (Sok.seq (pc1 := 8) (Sok.ite (pc1 := 6) (pc2 := 8) (Cok.lcmp (pc1 := 1) (pc2 := 2) (pcT := 6) (pcF := 8) (EokL.lload_n (q := 2) dX12_joinedWays_0) (EokL.lconst (v := 0) dX12_joinedWays_1 (by decide)) (JL.eq dX12_joinedWays_2 (JZ.eqF (tgt := 8) dX12_joinedWays_3 (by decide)))) (by decide) (Sok.retL (pc1 := 7) (EokL.lload_n (q := 0) dX12_joinedWays_6) (by decide) dX12_joinedWays_7 rfl) (Sok.skip (pc := 8))) (Sok.seq (pc1 := 17) (Sok.setL (i := 4) (pc1 := 15) (EokL.bin (pc1 := 13) (pc2 := 14) (EokL.bin (pc1 := 9) (pc2 := 12) (EokL.lload_n (q := 2) dX12_joinedWays_8) (EokL.ldc2 (v := 16) ckX12_325 dX12_joinedWays_9) (OPL.lrem dX12_joinedWays_12)) (EokL.lconst (v := 1) dX12_joinedWays_13 (by decide)) (OPL.ladd dX12_joinedWays_14)) (by decide) dX12_joinedWays_15 (show 5 < 8 by decide)) (Sok.seq (pc1 := 47) (Sok.ite (pc1 := 34) (pc2 := 47) (Cok.or (pc1 := 23) (Cok.lcmp (pc1 := 18) (pc2 := 19) (pcT := 34) (pcF := 23) (EokL.lload_n (q := 0) dX12_joinedWays_17) (EokL.lconst (v := 0) dX12_joinedWays_18 (by decide)) (JL.eq dX12_joinedWays_19 (JZ.eqT (tgt := 34) dX12_joinedWays_20 (by decide)))) (Cok.lcmp (pc1 := 25) (pc2 := 30) (pcT := 34) (pcF := 47) (EokL.lload (i := 4) dX12_joinedWays_23) (EokL.bin (pc1 := 26) (pc2 := 29) (EokL.lload_n (q := 0) dX12_joinedWays_25) (EokL.ldc2 (v := 16) ckX12_325 dX12_joinedWays_26) (OPL.lrem dX12_joinedWays_29)) (JL.lt dX12_joinedWays_30 (JZ.ltF (tgt := 47) dX12_joinedWays_31 (by decide))))) (by decide) (Sok.retL (pc1 := 46) (EokL.bin (pc1 := 36) (pc2 := 45) (EokL.lload (i := 4) dX12_joinedWays_34) (EokL.bin (pc1 := 39) (pc2 := 44) (EokL.ldc2 (v := 16) ckX12_325 dX12_joinedWays_36) (EokL.bin (pc1 := 40) (pc2 := 43) (EokL.lload_n (q := 2) dX12_joinedWays_39) (EokL.ldc2 (v := 16) ckX12_325 dX12_joinedWays_40) (OPL.ldiv dX12_joinedWays_43)) (OPL.lmul dX12_joinedWays_44)) (OPL.ladd dX12_joinedWays_45)) (by decide) dX12_joinedWays_46 rfl) (Sok.skip (pc := 47))) (Sok.seq (pc1 := 79) (Sok.setL (i := 6) (pc1 := 77) (EokL.cond' (pc1 := 58) (pc2 := 72) (Cok.lcmp (pc1 := 49) (pc2 := 54) (pcT := 58) (pcF := 72) (EokL.lload (i := 4) dX12_joinedWays_47) (EokL.bin (pc1 := 50) (pc2 := 53) (EokL.lload_n (q := 0) dX12_joinedWays_49) (EokL.ldc2 (v := 16) ckX12_325 dX12_joinedWays_50) (OPL.lrem dX12_joinedWays_53)) (JL.eq dX12_joinedWays_54 (JZ.eqF (tgt := 72) dX12_joinedWays_55 (by decide)))) (EokL.goto (pc1 := 69) (pc2 := 77) (EokL.bin (pc1 := 63) (pc2 := 68) (EokL.bin (pc1 := 59) (pc2 := 62) (EokL.lload_n (q := 0) dX12_joinedWays_58) (EokL.ldc2 (v := 16) ckX12_325 dX12_joinedWays_59) (OPL.ldiv dX12_joinedWays_62)) (EokL.bin (pc1 := 64) (pc2 := 67) (EokL.lload_n (q := 2) dX12_joinedWays_63) (EokL.ldc2 (v := 16) ckX12_325 dX12_joinedWays_64) (OPL.ldiv dX12_joinedWays_67)) (OPL.ladd dX12_joinedWays_68)) dX12_joinedWays_69 (by decide)) (EokL.bin (pc1 := 73) (pc2 := 76) (EokL.lload_n (q := 0) dX12_joinedWays_72) (EokL.ldc2 (v := 16) ckX12_325 dX12_joinedWays_73) (OPL.ldiv dX12_joinedWays_76))) (by decide) dX12_joinedWays_77 (show 7 < 8 by decide)) (Sok.retL (pc1 := 106) (EokL.bin (pc1 := 84) (pc2 := 105) (EokL.bin (pc1 := 80) (pc2 := 83) (EokL.lload_n (q := 0) dX12_joinedWays_79) (EokL.ldc2 (v := 16) ckX12_325 dX12_joinedWays_80) (OPL.lrem dX12_joinedWays_83)) (EokL.bin (pc1 := 87) (pc2 := 104) (EokL.ldc2 (v := 16) ckX12_325 dX12_joinedWays_84) (EokL.cond' (pc1 := 96) (pc2 := 102) (Cok.lcmp (pc1 := 89) (pc2 := 92) (pcT := 96) (pcF := 102) (EokL.lload (i := 6) dX12_joinedWays_87) (EokL.ldc2 (v := 2000000000) ckX12_327 dX12_joinedWays_89) (JL.gt dX12_joinedWays_92 (JZ.gtF (tgt := 102) dX12_joinedWays_93 (by decide)))) (EokL.goto (pc1 := 99) (pc2 := 104) (EokL.ldc2 (v := 2000000000) ckX12_327 dX12_joinedWays_96) dX12_joinedWays_99 (by decide)) (EokL.lload (i := 6) dX12_joinedWays_102)) (OPL.lmul dX12_joinedWays_104)) (OPL.ladd dX12_joinedWays_105)) (by decide) dX12_joinedWays_106 rfl)))))
/-! PassHutsModel.joinedPull(JJ)J -/
theorem dX12_joinedPull_0 : decode cX12_joinedPull 0 = .ok (.lload_n 2, 1) := by decide +kernel
theorem dX12_joinedPull_1 : decode cX12_joinedPull 1 = .ok (.ldc2_w 329, 3) := by decide +kernel
theorem dX12_joinedPull_4 : decode cX12_joinedPull 4 = .ok (.lrem, 1) := by decide +kernel
theorem dX12_joinedPull_5 : decode cX12_joinedPull 5 = .ok (.lconst 0, 1) := by decide +kernel
theorem dX12_joinedPull_6 : decode cX12_joinedPull 6 = .ok (.lcmp, 1) := by decide +kernel
theorem dX12_joinedPull_7 : decode cX12_joinedPull 7 = .ok (.ifCond .ne 7, 3) := by decide +kernel
theorem dX12_joinedPull_10 : decode cX12_joinedPull 10 = .ok (.iconst 1, 1) := by decide +kernel
theorem dX12_joinedPull_11 : decode cX12_joinedPull 11 = .ok (.goto 4, 3) := by decide +kernel
theorem dX12_joinedPull_14 : decode cX12_joinedPull 14 = .ok (.iconst 0, 1) := by decide +kernel
theorem dX12_joinedPull_15 : decode cX12_joinedPull 15 = .ok (.istore 4, 2) := by decide +kernel
theorem dX12_joinedPull_17 : decode cX12_joinedPull 17 = .ok (.lload_n 2, 1) := by decide +kernel
theorem dX12_joinedPull_18 : decode cX12_joinedPull 18 = .ok (.ldc2_w 329, 3) := by decide +kernel
theorem dX12_joinedPull_21 : decode cX12_joinedPull 21 = .ok (.ldiv, 1) := by decide +kernel
theorem dX12_joinedPull_22 : decode cX12_joinedPull 22 = .ok (.lconst 1, 1) := by decide +kernel
theorem dX12_joinedPull_23 : decode cX12_joinedPull 23 = .ok (.ladd, 1) := by decide +kernel
theorem dX12_joinedPull_24 : decode cX12_joinedPull 24 = .ok (.lstore 5, 2) := by decide +kernel
theorem dX12_joinedPull_26 : decode cX12_joinedPull 26 = .ok (.iload 4, 2) := by decide +kernel
theorem dX12_joinedPull_28 : decode cX12_joinedPull 28 = .ok (.ifCond .eq 37, 3) := by decide +kernel
theorem dX12_joinedPull_31 : decode cX12_joinedPull 31 = .ok (.lload_n 0, 1) := by decide +kernel
theorem dX12_joinedPull_32 : decode cX12_joinedPull 32 = .ok (.ldc2_w 329, 3) := by decide +kernel
theorem dX12_joinedPull_35 : decode cX12_joinedPull 35 = .ok (.lrem, 1) := by decide +kernel
theorem dX12_joinedPull_36 : decode cX12_joinedPull 36 = .ok (.lconst 0, 1) := by decide +kernel
theorem dX12_joinedPull_37 : decode cX12_joinedPull 37 = .ok (.lcmp, 1) := by decide +kernel
theorem dX12_joinedPull_38 : decode cX12_joinedPull 38 = .ok (.ifCond .eq 14, 3) := by decide +kernel
theorem dX12_joinedPull_41 : decode cX12_joinedPull 41 = .ok (.lload 5, 2) := by decide +kernel
theorem dX12_joinedPull_43 : decode cX12_joinedPull 43 = .ok (.lload_n 0, 1) := by decide +kernel
theorem dX12_joinedPull_44 : decode cX12_joinedPull 44 = .ok (.ldc2_w 329, 3) := by decide +kernel
theorem dX12_joinedPull_47 : decode cX12_joinedPull 47 = .ok (.ldiv, 1) := by decide +kernel
theorem dX12_joinedPull_48 : decode cX12_joinedPull 48 = .ok (.lcmp, 1) := by decide +kernel
theorem dX12_joinedPull_49 : decode cX12_joinedPull 49 = .ok (.ifCond .ge 14, 3) := by decide +kernel
theorem dX12_joinedPull_52 : decode cX12_joinedPull 52 = .ok (.ldc2_w 329, 3) := by decide +kernel
theorem dX12_joinedPull_55 : decode cX12_joinedPull 55 = .ok (.lload 5, 2) := by decide +kernel
theorem dX12_joinedPull_57 : decode cX12_joinedPull 57 = .ok (.lmul, 1) := by decide +kernel
theorem dX12_joinedPull_58 : decode cX12_joinedPull 58 = .ok (.lconst 1, 1) := by decide +kernel
theorem dX12_joinedPull_59 : decode cX12_joinedPull 59 = .ok (.ladd, 1) := by decide +kernel
theorem dX12_joinedPull_60 : decode cX12_joinedPull 60 = .ok (.goto 4, 3) := by decide +kernel
theorem dX12_joinedPull_63 : decode cX12_joinedPull 63 = .ok (.lload_n 0, 1) := by decide +kernel
theorem dX12_joinedPull_64 : decode cX12_joinedPull 64 = .ok (.lreturn, 1) := by decide +kernel
theorem dX12_joinedPull_65 : decode cX12_joinedPull 65 = .ok (.lload_n 0, 1) := by decide +kernel
theorem dX12_joinedPull_66 : decode cX12_joinedPull 66 = .ok (.ldc2_w 329, 3) := by decide +kernel
theorem dX12_joinedPull_69 : decode cX12_joinedPull 69 = .ok (.lrem, 1) := by decide +kernel
theorem dX12_joinedPull_70 : decode cX12_joinedPull 70 = .ok (.lconst 0, 1) := by decide +kernel
theorem dX12_joinedPull_71 : decode cX12_joinedPull 71 = .ok (.lcmp, 1) := by decide +kernel
theorem dX12_joinedPull_72 : decode cX12_joinedPull 72 = .ok (.ifCond .ne 23, 3) := by decide +kernel
theorem dX12_joinedPull_75 : decode cX12_joinedPull 75 = .ok (.lload 5, 2) := by decide +kernel
theorem dX12_joinedPull_77 : decode cX12_joinedPull 77 = .ok (.lload_n 0, 1) := by decide +kernel
theorem dX12_joinedPull_78 : decode cX12_joinedPull 78 = .ok (.ldc2_w 329, 3) := by decide +kernel
theorem dX12_joinedPull_81 : decode cX12_joinedPull 81 = .ok (.ldiv, 1) := by decide +kernel
theorem dX12_joinedPull_82 : decode cX12_joinedPull 82 = .ok (.lcmp, 1) := by decide +kernel
theorem dX12_joinedPull_83 : decode cX12_joinedPull 83 = .ok (.ifCond .le 12, 3) := by decide +kernel
theorem dX12_joinedPull_86 : decode cX12_joinedPull 86 = .ok (.ldc2_w 329, 3) := by decide +kernel
theorem dX12_joinedPull_89 : decode cX12_joinedPull 89 = .ok (.lload 5, 2) := by decide +kernel
theorem dX12_joinedPull_91 : decode cX12_joinedPull 91 = .ok (.lmul, 1) := by decide +kernel
theorem dX12_joinedPull_92 : decode cX12_joinedPull 92 = .ok (.goto 4, 3) := by decide +kernel
theorem dX12_joinedPull_95 : decode cX12_joinedPull 95 = .ok (.lload_n 0, 1) := by decide +kernel
theorem dX12_joinedPull_96 : decode cX12_joinedPull 96 = .ok (.lreturn, 1) := by decide +kernel
abbrev tX12_joinedPull (k : Nat) : MT := (RX12, cX12_joinedPull, 7, k, (some .long))
def mX12_joinedPull : MX := bodyOf 7 (sSeq (sSetI 4 (iBool (cL leq (lB gNZL jlrem (lLoc 2) (lK 2)) (lK 0)))) (sSeq (sSetL 5 (lB gT2 (· + ·) (lB gNZL (· / ·) (lLoc 2) (lK 2)) (lK 1))) (sSeq (sIf (cZ zne (iLoc 4)) (sRetL (lCond (cOr (cL leq (lB gNZL jlrem (lLoc 0) (lK 2)) (lK 0)) (cL llt (lLoc 5) (lB gNZL (· / ·) (lLoc 0) (lK 2)))) (lB gT2 (· + ·) (lB gT2 (· * ·) (lK 2) (lLoc 5)) (lK 1)) (lLoc 0))) sSkip) (sRetL (lCond (cAnd (cL leq (lB gNZL jlrem (lLoc 0) (lK 2)) (lK 0)) (cL lgt (lLoc 5) (lB gNZL (· / ·) (lLoc 0) (lK 2)))) (lB gT2 (· * ·) (lK 2) (lLoc 5)) (lLoc 0))))))
theorem kX12_joinedPull (g : GT) : MK g 0 yX12_joinedPull cX12_joinedPull 7 (some .long) mX12_joinedPull := MK.of (pcN := 99999) (pcB := 0) (pcC := 0) rfl (Sok.seq (pc1 := 17) (Sok.setI (i := 4) (pc1 := 15) (EokI.cond' (pc1 := 10) (pc2 := 14) (Cok.lcmp (pc1 := 5) (pc2 := 6) (pcT := 10) (pcF := 14) (EokL.bin (pc1 := 1) (pc2 := 4) (EokL.lload_n (q := 2) dX12_joinedPull_0) (EokL.ldc2 (v := 2) ckX12_329 dX12_joinedPull_1) (OPL.lrem dX12_joinedPull_4)) (EokL.lconst (v := 0) dX12_joinedPull_5 (by decide)) (JL.eq dX12_joinedPull_6 (JZ.eqF (tgt := 14) dX12_joinedPull_7 (by decide)))) (EokI.goto (pc1 := 11) (pc2 := 15) (EokI.iconst (v := 1) dX12_joinedPull_10 (by decide)) dX12_joinedPull_11 (by decide)) (EokI.iconst (v := 0) dX12_joinedPull_14 (by decide))) (by decide) dX12_joinedPull_15 (show 4 < 7 by decide)) (Sok.seq (pc1 := 26) (Sok.setL (i := 5) (pc1 := 24) (EokL.bin (pc1 := 22) (pc2 := 23) (EokL.bin (pc1 := 18) (pc2 := 21) (EokL.lload_n (q := 2) dX12_joinedPull_17) (EokL.ldc2 (v := 2) ckX12_329 dX12_joinedPull_18) (OPL.ldiv dX12_joinedPull_21)) (EokL.lconst (v := 1) dX12_joinedPull_22 (by decide)) (OPL.ladd dX12_joinedPull_23)) (by decide) dX12_joinedPull_24 (show 6 < 7 by decide)) (Sok.seq (pc1 := 65) (Sok.ite (pc1 := 31) (pc2 := 65) (Cok.zero (pc1 := 28) (pcT := 31) (pcF := 65) (EokI.iload (i := 4) dX12_joinedPull_26) (JZ.neF (tgt := 65) dX12_joinedPull_28 (by decide))) (by decide) (Sok.retL (pc1 := 64) (EokL.cond' (pc1 := 52) (pc2 := 63) (Cok.or (pc1 := 41) (Cok.lcmp (pc1 := 36) (pc2 := 37) (pcT := 52) (pcF := 41) (EokL.bin (pc1 := 32) (pc2 := 35) (EokL.lload_n (q := 0) dX12_joinedPull_31) (EokL.ldc2 (v := 2) ckX12_329 dX12_joinedPull_32) (OPL.lrem dX12_joinedPull_35)) (EokL.lconst (v := 0) dX12_joinedPull_36 (by decide)) (JL.eq dX12_joinedPull_37 (JZ.eqT (tgt := 52) dX12_joinedPull_38 (by decide)))) (Cok.lcmp (pc1 := 43) (pc2 := 48) (pcT := 52) (pcF := 63) (EokL.lload (i := 5) dX12_joinedPull_41) (EokL.bin (pc1 := 44) (pc2 := 47) (EokL.lload_n (q := 0) dX12_joinedPull_43) (EokL.ldc2 (v := 2) ckX12_329 dX12_joinedPull_44) (OPL.ldiv dX12_joinedPull_47)) (JL.lt dX12_joinedPull_48 (JZ.ltF (tgt := 63) dX12_joinedPull_49 (by decide))))) (EokL.goto (pc1 := 60) (pc2 := 64) (EokL.bin (pc1 := 58) (pc2 := 59) (EokL.bin (pc1 := 55) (pc2 := 57) (EokL.ldc2 (v := 2) ckX12_329 dX12_joinedPull_52) (EokL.lload (i := 5) dX12_joinedPull_55) (OPL.lmul dX12_joinedPull_57)) (EokL.lconst (v := 1) dX12_joinedPull_58 (by decide)) (OPL.ladd dX12_joinedPull_59)) dX12_joinedPull_60 (by decide)) (EokL.lload_n (q := 0) dX12_joinedPull_63)) (by decide) dX12_joinedPull_64 rfl) (Sok.skip (pc := 65))) (Sok.retL (pc1 := 96) (EokL.cond' (pc1 := 86) (pc2 := 95) (Cok.and (pc1 := 75) (Cok.lcmp (pc1 := 70) (pc2 := 71) (pcT := 75) (pcF := 95) (EokL.bin (pc1 := 66) (pc2 := 69) (EokL.lload_n (q := 0) dX12_joinedPull_65) (EokL.ldc2 (v := 2) ckX12_329 dX12_joinedPull_66) (OPL.lrem dX12_joinedPull_69)) (EokL.lconst (v := 0) dX12_joinedPull_70 (by decide)) (JL.eq dX12_joinedPull_71 (JZ.eqF (tgt := 95) dX12_joinedPull_72 (by decide)))) (Cok.lcmp (pc1 := 77) (pc2 := 82) (pcT := 86) (pcF := 95) (EokL.lload (i := 5) dX12_joinedPull_75) (EokL.bin (pc1 := 78) (pc2 := 81) (EokL.lload_n (q := 0) dX12_joinedPull_77) (EokL.ldc2 (v := 2) ckX12_329 dX12_joinedPull_78) (OPL.ldiv dX12_joinedPull_81)) (JL.gt dX12_joinedPull_82 (JZ.gtF (tgt := 95) dX12_joinedPull_83 (by decide))))) (EokL.goto (pc1 := 92) (pc2 := 96) (EokL.bin (pc1 := 89) (pc2 := 91) (EokL.ldc2 (v := 2) ckX12_329 dX12_joinedPull_86) (EokL.lload (i := 5) dX12_joinedPull_89) (OPL.lmul dX12_joinedPull_91)) dX12_joinedPull_92 (by decide)) (EokL.lload_n (q := 0) dX12_joinedPull_95)) (by decide) dX12_joinedPull_96 rfl))))
/-! PassHutsModel.joined(IJJ)J -/
theorem dX12_joined_0 : decode cX12_joined 0 = .ok (.iload_n 0, 1) := by decide +kernel
theorem dX12_joined_1 : decode cX12_joined 1 = .ok (.tableswitch 113 1 8 #[47, 51, 57, 57, 69, 97, 113, 69], 47) := by decide +kernel
theorem dX12_joined_48 : decode cX12_joined 48 = .ok (.lload_n 1, 1) := by decide +kernel
theorem dX12_joined_49 : decode cX12_joined 49 = .ok (.lload_n 3, 1) := by decide +kernel
theorem dX12_joined_50 : decode cX12_joined 50 = .ok (.lor, 1) := by decide +kernel
theorem dX12_joined_51 : decode cX12_joined 51 = .ok (.lreturn, 1) := by decide +kernel
theorem dX12_joined_52 : decode cX12_joined 52 = .ok (.lload_n 1, 1) := by decide +kernel
theorem dX12_joined_53 : decode cX12_joined 53 = .ok (.lload_n 3, 1) := by decide +kernel
theorem dX12_joined_54 : decode cX12_joined 54 = .ok (.invokestatic 318, 3) := by decide +kernel
theorem dX12_joined_57 : decode cX12_joined 57 = .ok (.lreturn, 1) := by decide +kernel
theorem dX12_joined_58 : decode cX12_joined 58 = .ok (.lload_n 3, 1) := by decide +kernel
theorem dX12_joined_59 : decode cX12_joined 59 = .ok (.lload_n 1, 1) := by decide +kernel
theorem dX12_joined_60 : decode cX12_joined 60 = .ok (.lcmp, 1) := by decide +kernel
theorem dX12_joined_61 : decode cX12_joined 61 = .ok (.ifCond .le 7, 3) := by decide +kernel
theorem dX12_joined_64 : decode cX12_joined 64 = .ok (.lload_n 3, 1) := by decide +kernel
theorem dX12_joined_65 : decode cX12_joined 65 = .ok (.goto 4, 3) := by decide +kernel
theorem dX12_joined_68 : decode cX12_joined 68 = .ok (.lload_n 1, 1) := by decide +kernel
theorem dX12_joined_69 : decode cX12_joined 69 = .ok (.lreturn, 1) := by decide +kernel
theorem dX12_joined_70 : decode cX12_joined 70 = .ok (.lload_n 3, 1) := by decide +kernel
theorem dX12_joined_71 : decode cX12_joined 71 = .ok (.lconst 0, 1) := by decide +kernel
theorem dX12_joined_72 : decode cX12_joined 72 = .ok (.lcmp, 1) := by decide +kernel
theorem dX12_joined_73 : decode cX12_joined 73 = .ok (.ifCond .le 23, 3) := by decide +kernel
theorem dX12_joined_76 : decode cX12_joined 76 = .ok (.lload_n 1, 1) := by decide +kernel
theorem dX12_joined_77 : decode cX12_joined 77 = .ok (.lconst 0, 1) := by decide +kernel
theorem dX12_joined_78 : decode cX12_joined 78 = .ok (.lcmp, 1) := by decide +kernel
theorem dX12_joined_79 : decode cX12_joined 79 = .ok (.ifCond .eq 11, 3) := by decide +kernel
theorem dX12_joined_82 : decode cX12_joined 82 = .ok (.lload_n 3, 1) := by decide +kernel
theorem dX12_joined_83 : decode cX12_joined 83 = .ok (.lconst 1, 1) := by decide +kernel
theorem dX12_joined_84 : decode cX12_joined 84 = .ok (.ladd, 1) := by decide +kernel
theorem dX12_joined_85 : decode cX12_joined 85 = .ok (.lload_n 1, 1) := by decide +kernel
theorem dX12_joined_86 : decode cX12_joined 86 = .ok (.lcmp, 1) := by decide +kernel
theorem dX12_joined_87 : decode cX12_joined 87 = .ok (.ifCond .ge 9, 3) := by decide +kernel
theorem dX12_joined_90 : decode cX12_joined 90 = .ok (.lload_n 3, 1) := by decide +kernel
theorem dX12_joined_91 : decode cX12_joined 91 = .ok (.lconst 1, 1) := by decide +kernel
theorem dX12_joined_92 : decode cX12_joined 92 = .ok (.ladd, 1) := by decide +kernel
theorem dX12_joined_93 : decode cX12_joined 93 = .ok (.goto 4, 3) := by decide +kernel
theorem dX12_joined_96 : decode cX12_joined 96 = .ok (.lload_n 1, 1) := by decide +kernel
theorem dX12_joined_97 : decode cX12_joined 97 = .ok (.lreturn, 1) := by decide +kernel
theorem dX12_joined_98 : decode cX12_joined 98 = .ok (.lload_n 3, 1) := by decide +kernel
theorem dX12_joined_99 : decode cX12_joined 99 = .ok (.lconst 1, 1) := by decide +kernel
theorem dX12_joined_100 : decode cX12_joined 100 = .ok (.ladd, 1) := by decide +kernel
theorem dX12_joined_101 : decode cX12_joined 101 = .ok (.lload_n 1, 1) := by decide +kernel
theorem dX12_joined_102 : decode cX12_joined 102 = .ok (.lcmp, 1) := by decide +kernel
theorem dX12_joined_103 : decode cX12_joined 103 = .ok (.ifCond .le 9, 3) := by decide +kernel
theorem dX12_joined_106 : decode cX12_joined 106 = .ok (.lload_n 3, 1) := by decide +kernel
theorem dX12_joined_107 : decode cX12_joined 107 = .ok (.lconst 1, 1) := by decide +kernel
theorem dX12_joined_108 : decode cX12_joined 108 = .ok (.ladd, 1) := by decide +kernel
theorem dX12_joined_109 : decode cX12_joined 109 = .ok (.goto 4, 3) := by decide +kernel
theorem dX12_joined_112 : decode cX12_joined 112 = .ok (.lload_n 1, 1) := by decide +kernel
theorem dX12_joined_113 : decode cX12_joined 113 = .ok (.lreturn, 1) := by decide +kernel
theorem dX12_joined_114 : decode cX12_joined 114 = .ok (.lload_n 1, 1) := by decide +kernel
theorem dX12_joined_115 : decode cX12_joined 115 = .ok (.lload_n 3, 1) := by decide +kernel
theorem dX12_joined_116 : decode cX12_joined 116 = .ok (.invokestatic 322, 3) := by decide +kernel
theorem dX12_joined_119 : decode cX12_joined 119 = .ok (.lreturn, 1) := by decide +kernel
abbrev tX12_joined (k : Nat) : MT := (RX12, cX12_joined, 5, k, (some .long))
def mX12_joined : MX := bodyOf 5 (sSw (sSwitch 1 (iLoc 0) [(sRetL (lB gT2 (· ||| ·) (lLoc 1) (lLoc 3))), (sRetL (lCallS mX12_joinedWays (aL (lLoc 1) (aL (lLoc 3) aNil)))), (sRetL (lCond (cL lgt (lLoc 3) (lLoc 1)) (lLoc 3) (lLoc 1))), (sRetL (lCond (cL lgt (lLoc 3) (lLoc 1)) (lLoc 3) (lLoc 1))), (sRetL (lCond (cAnd (cL lgt (lLoc 3) (lK 0)) (cOr (cL leq (lLoc 1) (lK 0)) (cL llt (lB gT2 (· + ·) (lLoc 3) (lK 1)) (lLoc 1)))) (lB gT2 (· + ·) (lLoc 3) (lK 1)) (lLoc 1))), (sRetL (lCond (cL lgt (lB gT2 (· + ·) (lLoc 3) (lK 1)) (lLoc 1)) (lB gT2 (· + ·) (lLoc 3) (lK 1)) (lLoc 1))), (sRetL (lCallS mX12_joinedPull (aL (lLoc 1) (aL (lLoc 3) aNil)))), (sRetL (lCond (cAnd (cL lgt (lLoc 3) (lK 0)) (cOr (cL leq (lLoc 1) (lK 0)) (cL llt (lB gT2 (· + ·) (lLoc 3) (lK 1)) (lLoc 1)))) (lB gT2 (· + ·) (lLoc 3) (lK 1)) (lLoc 1)))] (sRetL (lCallS mX12_joinedPull (aL (lLoc 1) (aL (lLoc 3) aNil))))))
theorem kX12_joined (g : GT) : MK g 1 yX12_joined cX12_joined 5 (some .long) mX12_joined := MK.of (pcN := 99999) (pcB := 0) (pcC := 0) rfl (Sok.swB (Sok.tswitch (pc1 := 1) (pd := 114) (pcs := [48, 52, 58, 58, 70, 98, 114, 70]) (pcN := 99999) (pcB := 99999) (EokI.iload_n (q := 0) dX12_joined_0) (by decide) dX12_joined_1 (by decide) rfl (by decide) (by decide) (sw_list (pd := 114) (d := (sRetL (lCallS mX12_joinedPull (aL (lLoc 1) (aL (lLoc 3) aNil))))) ⟨(Sok.retL (pc1 := 51) (EokL.bin (pc1 := 49) (pc2 := 50) (EokL.lload_n (q := 1) dX12_joined_48) (EokL.lload_n (q := 3) dX12_joined_49) (OPL.lor dX12_joined_50)) (by decide) dX12_joined_51 rfl), (Sok.retL (pc1 := 57) (EokL.lCallS (pc1 := 54) (Aok.aL (pc1 := 53) (EokL.lload_n (q := 1) dX12_joined_52) (Aok.aL (pc1 := 54) (EokL.lload_n (q := 3) dX12_joined_53) Aok.nil)) (kX12_joinedWays g) ykX12_joinedWays skX12_318 (by decide) (by decide) dX12_joined_54) (by decide) dX12_joined_57 rfl), (Sok.retL (pc1 := 69) (EokL.cond' (pc1 := 64) (pc2 := 68) (Cok.lcmp (pc1 := 59) (pc2 := 60) (pcT := 64) (pcF := 68) (EokL.lload_n (q := 3) dX12_joined_58) (EokL.lload_n (q := 1) dX12_joined_59) (JL.gt dX12_joined_60 (JZ.gtF (tgt := 68) dX12_joined_61 (by decide)))) (EokL.goto (pc1 := 65) (pc2 := 69) (EokL.lload_n (q := 3) dX12_joined_64) dX12_joined_65 (by decide)) (EokL.lload_n (q := 1) dX12_joined_68)) (by decide) dX12_joined_69 rfl), (Sok.retL (pc1 := 69) (EokL.cond' (pc1 := 64) (pc2 := 68) (Cok.lcmp (pc1 := 59) (pc2 := 60) (pcT := 64) (pcF := 68) (EokL.lload_n (q := 3) dX12_joined_58) (EokL.lload_n (q := 1) dX12_joined_59) (JL.gt dX12_joined_60 (JZ.gtF (tgt := 68) dX12_joined_61 (by decide)))) (EokL.goto (pc1 := 65) (pc2 := 69) (EokL.lload_n (q := 3) dX12_joined_64) dX12_joined_65 (by decide)) (EokL.lload_n (q := 1) dX12_joined_68)) (by decide) dX12_joined_69 rfl), (Sok.retL (pc1 := 97) (EokL.cond' (pc1 := 90) (pc2 := 96) (Cok.and (pc1 := 76) (Cok.lcmp (pc1 := 71) (pc2 := 72) (pcT := 76) (pcF := 96) (EokL.lload_n (q := 3) dX12_joined_70) (EokL.lconst (v := 0) dX12_joined_71 (by decide)) (JL.gt dX12_joined_72 (JZ.gtF (tgt := 96) dX12_joined_73 (by decide)))) (Cok.or (pc1 := 82) (Cok.lcmp (pc1 := 77) (pc2 := 78) (pcT := 90) (pcF := 82) (EokL.lload_n (q := 1) dX12_joined_76) (EokL.lconst (v := 0) dX12_joined_77 (by decide)) (JL.eq dX12_joined_78 (JZ.eqT (tgt := 90) dX12_joined_79 (by decide)))) (Cok.lcmp (pc1 := 85) (pc2 := 86) (pcT := 90) (pcF := 96) (EokL.bin (pc1 := 83) (pc2 := 84) (EokL.lload_n (q := 3) dX12_joined_82) (EokL.lconst (v := 1) dX12_joined_83 (by decide)) (OPL.ladd dX12_joined_84)) (EokL.lload_n (q := 1) dX12_joined_85) (JL.lt dX12_joined_86 (JZ.ltF (tgt := 96) dX12_joined_87 (by decide)))))) (EokL.goto (pc1 := 93) (pc2 := 97) (EokL.bin (pc1 := 91) (pc2 := 92) (EokL.lload_n (q := 3) dX12_joined_90) (EokL.lconst (v := 1) dX12_joined_91 (by decide)) (OPL.ladd dX12_joined_92)) dX12_joined_93 (by decide)) (EokL.lload_n (q := 1) dX12_joined_96)) (by decide) dX12_joined_97 rfl), (Sok.retL (pc1 := 113) (EokL.cond' (pc1 := 106) (pc2 := 112) (Cok.lcmp (pc1 := 101) (pc2 := 102) (pcT := 106) (pcF := 112) (EokL.bin (pc1 := 99) (pc2 := 100) (EokL.lload_n (q := 3) dX12_joined_98) (EokL.lconst (v := 1) dX12_joined_99 (by decide)) (OPL.ladd dX12_joined_100)) (EokL.lload_n (q := 1) dX12_joined_101) (JL.gt dX12_joined_102 (JZ.gtF (tgt := 112) dX12_joined_103 (by decide)))) (EokL.goto (pc1 := 109) (pc2 := 113) (EokL.bin (pc1 := 107) (pc2 := 108) (EokL.lload_n (q := 3) dX12_joined_106) (EokL.lconst (v := 1) dX12_joined_107 (by decide)) (OPL.ladd dX12_joined_108)) dX12_joined_109 (by decide)) (EokL.lload_n (q := 1) dX12_joined_112)) (by decide) dX12_joined_113 rfl), (Sok.retL (pc1 := 119) (EokL.lCallS (pc1 := 116) (Aok.aL (pc1 := 115) (EokL.lload_n (q := 1) dX12_joined_114) (Aok.aL (pc1 := 116) (EokL.lload_n (q := 3) dX12_joined_115) Aok.nil)) (kX12_joinedPull g) ykX12_joinedPull skX12_322 (by decide) (by decide) dX12_joined_116) (by decide) dX12_joined_119 rfl), (Sok.retL (pc1 := 97) (EokL.cond' (pc1 := 90) (pc2 := 96) (Cok.and (pc1 := 76) (Cok.lcmp (pc1 := 71) (pc2 := 72) (pcT := 76) (pcF := 96) (EokL.lload_n (q := 3) dX12_joined_70) (EokL.lconst (v := 0) dX12_joined_71 (by decide)) (JL.gt dX12_joined_72 (JZ.gtF (tgt := 96) dX12_joined_73 (by decide)))) (Cok.or (pc1 := 82) (Cok.lcmp (pc1 := 77) (pc2 := 78) (pcT := 90) (pcF := 82) (EokL.lload_n (q := 1) dX12_joined_76) (EokL.lconst (v := 0) dX12_joined_77 (by decide)) (JL.eq dX12_joined_78 (JZ.eqT (tgt := 90) dX12_joined_79 (by decide)))) (Cok.lcmp (pc1 := 85) (pc2 := 86) (pcT := 90) (pcF := 96) (EokL.bin (pc1 := 83) (pc2 := 84) (EokL.lload_n (q := 3) dX12_joined_82) (EokL.lconst (v := 1) dX12_joined_83 (by decide)) (OPL.ladd dX12_joined_84)) (EokL.lload_n (q := 1) dX12_joined_85) (JL.lt dX12_joined_86 (JZ.ltF (tgt := 96) dX12_joined_87 (by decide)))))) (EokL.goto (pc1 := 93) (pc2 := 97) (EokL.bin (pc1 := 91) (pc2 := 92) (EokL.lload_n (q := 3) dX12_joined_90) (EokL.lconst (v := 1) dX12_joined_91 (by decide)) (OPL.ladd dX12_joined_92)) dX12_joined_93 (by decide)) (EokL.lload_n (q := 1) dX12_joined_96)) (by decide) dX12_joined_97 rfl), trivial⟩) (Sok.retL (pc1 := 119) (EokL.lCallS (pc1 := 116) (Aok.aL (pc1 := 115) (EokL.lload_n (q := 1) dX12_joined_114) (Aok.aL (pc1 := 116) (EokL.lload_n (q := 3) dX12_joined_115) Aok.nil)) (kX12_joinedPull g) ykX12_joinedPull skX12_322 (by decide) (by decide) dX12_joined_116) (by decide) dX12_joined_119 rfl)))
/-! PassHutsModel.worthOf(II)J -/
theorem dX12_worthOf_0 : decode cX12_worthOf 0 = .ok (.aload_n 0, 1) := by decide +kernel
theorem dX12_worthOf_1 : decode cX12_worthOf 1 = .ok (.iload_n 1, 1) := by decide +kernel
theorem dX12_worthOf_2 : decode cX12_worthOf 2 = .ok (.iload_n 2, 1) := by decide +kernel
theorem dX12_worthOf_3 : decode cX12_worthOf 3 = .ok (.invokevirtual 306, 3) := by decide +kernel
theorem dX12_worthOf_6 : decode cX12_worthOf 6 = .ok (.lstore_n 3, 1) := by decide +kernel
theorem dX12_worthOf_7 : decode cX12_worthOf 7 = .ok (.lload_n 3, 1) := by decide +kernel
theorem dX12_worthOf_8 : decode cX12_worthOf 8 = .ok (.lconst 0, 1) := by decide +kernel
theorem dX12_worthOf_9 : decode cX12_worthOf 9 = .ok (.lcmp, 1) := by decide +kernel
theorem dX12_worthOf_10 : decode cX12_worthOf 10 = .ok (.ifCond .le 28, 3) := by decide +kernel
theorem dX12_worthOf_13 : decode cX12_worthOf 13 = .ok (.iload_n 1, 1) := by decide +kernel
theorem dX12_worthOf_14 : decode cX12_worthOf 14 = .ok (.iconst 2, 1) := by decide +kernel
theorem dX12_worthOf_15 : decode cX12_worthOf 15 = .ok (.if_icmp .eq 19, 3) := by decide +kernel
theorem dX12_worthOf_18 : decode cX12_worthOf 18 = .ok (.iload_n 1, 1) := by decide +kernel
theorem dX12_worthOf_19 : decode cX12_worthOf 19 = .ok (.iconst 4, 1) := by decide +kernel
theorem dX12_worthOf_20 : decode cX12_worthOf 20 = .ok (.if_icmp .eq 14, 3) := by decide +kernel
theorem dX12_worthOf_23 : decode cX12_worthOf 23 = .ok (.iload_n 1, 1) := by decide +kernel
theorem dX12_worthOf_24 : decode cX12_worthOf 24 = .ok (.iconst 5, 1) := by decide +kernel
theorem dX12_worthOf_25 : decode cX12_worthOf 25 = .ok (.if_icmp .eq 9, 3) := by decide +kernel
theorem dX12_worthOf_28 : decode cX12_worthOf 28 = .ok (.iload_n 1, 1) := by decide +kernel
theorem dX12_worthOf_29 : decode cX12_worthOf 29 = .ok (.bipush 8, 2) := by decide +kernel
theorem dX12_worthOf_31 : decode cX12_worthOf 31 = .ok (.if_icmp .ne 7, 3) := by decide +kernel
theorem dX12_worthOf_34 : decode cX12_worthOf 34 = .ok (.iconst 1, 1) := by decide +kernel
theorem dX12_worthOf_35 : decode cX12_worthOf 35 = .ok (.goto 4, 3) := by decide +kernel
theorem dX12_worthOf_38 : decode cX12_worthOf 38 = .ok (.iconst 0, 1) := by decide +kernel
theorem dX12_worthOf_39 : decode cX12_worthOf 39 = .ok (.istore 5, 2) := by decide +kernel
theorem dX12_worthOf_41 : decode cX12_worthOf 41 = .ok (.iconst 0, 1) := by decide +kernel
theorem dX12_worthOf_42 : decode cX12_worthOf 42 = .ok (.istore 6, 2) := by decide +kernel
theorem dX12_worthOf_44 : decode cX12_worthOf 44 = .ok (.iload 6, 2) := by decide +kernel
theorem dX12_worthOf_46 : decode cX12_worthOf 46 = .ok (.aload_n 0, 1) := by decide +kernel
theorem dX12_worthOf_47 : decode cX12_worthOf 47 = .ok (.invokevirtual 215, 3) := by decide +kernel
theorem dX12_worthOf_50 : decode cX12_worthOf 50 = .ok (.if_icmp .ge 76, 3) := by decide +kernel
theorem dX12_worthOf_53 : decode cX12_worthOf 53 = .ok (.iload 5, 2) := by decide +kernel
theorem dX12_worthOf_55 : decode cX12_worthOf 55 = .ok (.ifCond .ne 71, 3) := by decide +kernel
theorem dX12_worthOf_58 : decode cX12_worthOf 58 = .ok (.iconst 0, 1) := by decide +kernel
theorem dX12_worthOf_59 : decode cX12_worthOf 59 = .ok (.istore 7, 2) := by decide +kernel
theorem dX12_worthOf_61 : decode cX12_worthOf 61 = .ok (.iload 7, 2) := by decide +kernel
theorem dX12_worthOf_63 : decode cX12_worthOf 63 = .ok (.aload_n 0, 1) := by decide +kernel
theorem dX12_worthOf_64 : decode cX12_worthOf 64 = .ok (.invokevirtual 215, 3) := by decide +kernel
theorem dX12_worthOf_67 : decode cX12_worthOf 67 = .ok (.if_icmp .ge 53, 3) := by decide +kernel
theorem dX12_worthOf_70 : decode cX12_worthOf 70 = .ok (.aload_n 0, 1) := by decide +kernel
theorem dX12_worthOf_71 : decode cX12_worthOf 71 = .ok (.iload 6, 2) := by decide +kernel
theorem dX12_worthOf_73 : decode cX12_worthOf 73 = .ok (.iload 7, 2) := by decide +kernel
theorem dX12_worthOf_75 : decode cX12_worthOf 75 = .ok (.invokevirtual 277, 3) := by decide +kernel
theorem dX12_worthOf_78 : decode cX12_worthOf 78 = .ok (.ifCond .eq 36, 3) := by decide +kernel
theorem dX12_worthOf_81 : decode cX12_worthOf 81 = .ok (.aload_n 0, 1) := by decide +kernel
theorem dX12_worthOf_82 : decode cX12_worthOf 82 = .ok (.iload 6, 2) := by decide +kernel
theorem dX12_worthOf_84 : decode cX12_worthOf 84 = .ok (.iload 7, 2) := by decide +kernel
theorem dX12_worthOf_86 : decode cX12_worthOf 86 = .ok (.iconst 1, 1) := by decide +kernel
theorem dX12_worthOf_87 : decode cX12_worthOf 87 = .ok (.invokevirtual 284, 3) := by decide +kernel
theorem dX12_worthOf_90 : decode cX12_worthOf 90 = .ok (.iload_n 1, 1) := by decide +kernel
theorem dX12_worthOf_91 : decode cX12_worthOf 91 = .ok (.lload_n 3, 1) := by decide +kernel
theorem dX12_worthOf_92 : decode cX12_worthOf 92 = .ok (.aload_n 0, 1) := by decide +kernel
theorem dX12_worthOf_93 : decode cX12_worthOf 93 = .ok (.getfield 103, 3) := by decide +kernel
theorem dX12_worthOf_96 : decode cX12_worthOf 96 = .ok (.aload_n 0, 1) := by decide +kernel
theorem dX12_worthOf_97 : decode cX12_worthOf 97 = .ok (.invokevirtual 309, 3) := by decide +kernel
theorem dX12_worthOf_100 : decode cX12_worthOf 100 = .ok (.laload, 1) := by decide +kernel
theorem dX12_worthOf_101 : decode cX12_worthOf 101 = .ok (.invokestatic 312, 3) := by decide +kernel
theorem dX12_worthOf_104 : decode cX12_worthOf 104 = .ok (.lstore_n 3, 1) := by decide +kernel
theorem dX12_worthOf_105 : decode cX12_worthOf 105 = .ok (.aload_n 0, 1) := by decide +kernel
theorem dX12_worthOf_106 : decode cX12_worthOf 106 = .ok (.iload 6, 2) := by decide +kernel
theorem dX12_worthOf_108 : decode cX12_worthOf 108 = .ok (.iload 7, 2) := by decide +kernel
theorem dX12_worthOf_110 : decode cX12_worthOf 110 = .ok (.iconst (-1), 1) := by decide +kernel
theorem dX12_worthOf_111 : decode cX12_worthOf 111 = .ok (.invokevirtual 284, 3) := by decide +kernel
theorem dX12_worthOf_114 : decode cX12_worthOf 114 = .ok (.iinc 7 1, 3) := by decide +kernel
theorem dX12_worthOf_117 : decode cX12_worthOf 117 = .ok (.goto (-56), 3) := by decide +kernel
theorem dX12_worthOf_120 : decode cX12_worthOf 120 = .ok (.iinc 6 1, 3) := by decide +kernel
theorem dX12_worthOf_123 : decode cX12_worthOf 123 = .ok (.goto (-79), 3) := by decide +kernel
theorem dX12_worthOf_126 : decode cX12_worthOf 126 = .ok (.lload_n 3, 1) := by decide +kernel
theorem dX12_worthOf_127 : decode cX12_worthOf 127 = .ok (.lreturn, 1) := by decide +kernel
abbrev tX12_worthOf (k : Nat) : MT := (RX12, cX12_worthOf, 8, k, (some .long))
def lX12_worthOf_1 : SX := (sLoop (cB rlt (iLoc 7) (iCallV 12 mX12_huts (aR (rLoc 0) aNil))) (sIf (cZ zne (iCallV 12 mX12_mayCarry (aR (rLoc 0) (aI (iLoc 6) (aI (iLoc 7) aNil))))) (sSeq (sCallV 12 mX12_carries (aR (rLoc 0) (aI (iLoc 6) (aI (iLoc 7) (aI (iK 1) aNil))))) (sSeq (sSetL 3 (lCallS mX12_joined (aI (iLoc 1) (aL (lLoc 3) (aL (lALd (rGet 12 21 (rLoc 0)) (iCallV 12 mX12_numberNow (aR (rLoc 0) aNil))) aNil))))) (sCallV 12 mX12_carries (aR (rLoc 0) (aI (iLoc 6) (aI (iLoc 7) (aI (iK (-1)) aNil))))))) sSkip) (sInc 7 1))
def lX12_worthOf_2 : SX := (sLoop (cAnd (cB rlt (iLoc 6) (iCallV 12 mX12_huts (aR (rLoc 0) aNil))) (cNot (cZ zne (iLoc 5)))) (sSeq (sSetI 7 (iK 0)) lX12_worthOf_1) (sSeq (sForget 7) (sInc 6 1)))
theorem olX12_worthOf_1 (g : GT) {pcB pcC : Nat} : Sok g (tX12_worthOf 3) 61 120 pcB pcC (lX12_worthOf_1) := (Sok.loop (pc := 61) (pc1 := 70) (pc2 := 114) (pcN := 120) (Cok.cmp (pc1 := 63) (pc2 := 67) (pcT := 70) (pcF := 120) (EokI.iload (i := 7) dX12_worthOf_61) (EokI.iCallV (pc1 := 64) (Aok.aR (pc1 := 64) (EokR.aload_n (q := 0) dX12_worthOf_63) Aok.nil) (kX12_huts g) rfl ykX12_huts vkX12_215 (by decide) (by decide) dX12_worthOf_64) (JI.ltF (tgt := 120) dX12_worthOf_67 (by decide))) (by decide) (Sok.ite (pc1 := 81) (pc2 := 114) (Cok.zero (pc1 := 78) (pcT := 81) (pcF := 114) (EokI.iCallV (pc1 := 75) (Aok.aR (pc1 := 71) (EokR.aload_n (q := 0) dX12_worthOf_70) (Aok.aI (pc1 := 73) (EokI.iload (i := 6) dX12_worthOf_71) (Aok.aI (pc1 := 75) (EokI.iload (i := 7) dX12_worthOf_73) Aok.nil))) (kX12_mayCarry g) rfl ykX12_mayCarry vkX12_277 (by decide) (by decide) dX12_worthOf_75) (JZ.neF (tgt := 114) dX12_worthOf_78 (by decide))) (by decide) (Sok.seq (pc1 := 90) (Sok.sCallV (pc1 := 87) (Aok.aR (pc1 := 82) (EokR.aload_n (q := 0) dX12_worthOf_81) (Aok.aI (pc1 := 84) (EokI.iload (i := 6) dX12_worthOf_82) (Aok.aI (pc1 := 86) (EokI.iload (i := 7) dX12_worthOf_84) (Aok.aI (pc1 := 87) (EokI.iconst (v := 1) dX12_worthOf_86 (by decide)) Aok.nil)))) (by decide) (kX12_carries g) rfl ykX12_carries vkX12_284 (by decide) (by decide) dX12_worthOf_87) (Sok.seq (pc1 := 105) (Sok.setL_n (q := 3) (pc1 := 104) (EokL.lCallS (pc1 := 101) (Aok.aI (pc1 := 91) (EokI.iload_n (q := 1) dX12_worthOf_90) (Aok.aL (pc1 := 92) (EokL.lload_n (q := 3) dX12_worthOf_91) (Aok.aL (pc1 := 101) (EokL.lALd (pc1 := 96) (pc2 := 100) (EokR.getf (pc1 := 93) (j := 21) (ci := 12) (T := TX12) (N := 27) (EokR.aload_n (q := 0) dX12_worthOf_92) rfl wsX12_in (by decide) flX12_103 dX12_worthOf_93) (EokI.iCallV (pc1 := 97) (Aok.aR (pc1 := 97) (EokR.aload_n (q := 0) dX12_worthOf_96) Aok.nil) (kX12_numberNow g) rfl ykX12_numberNow vkX12_309 (by decide) (by decide) dX12_worthOf_97) dX12_worthOf_100) Aok.nil))) (kX12_joined g) ykX12_joined skX12_312 (by decide) (by decide) dX12_worthOf_101) (by decide) dX12_worthOf_104 (show 4 < 8 by decide)) (Sok.sCallV (pc1 := 111) (Aok.aR (pc1 := 106) (EokR.aload_n (q := 0) dX12_worthOf_105) (Aok.aI (pc1 := 108) (EokI.iload (i := 6) dX12_worthOf_106) (Aok.aI (pc1 := 110) (EokI.iload (i := 7) dX12_worthOf_108) (Aok.aI (pc1 := 111) (EokI.iconst (v := (-1)) dX12_worthOf_110 (by decide)) Aok.nil)))) (by decide) (kX12_carries g) rfl ykX12_carries vkX12_284 (by decide) (by decide) dX12_worthOf_111))) (Sok.skip (pc := 114))) (Sok.goto (pc1 := 117) (pcN := 61) (Sok.iinc (i := 7) (v := 1) dX12_worthOf_114 (show 7 < 8 by decide) (by decide)) dX12_worthOf_117 (by decide)))
theorem olX12_worthOf_2 (g : GT) {pcB pcC : Nat} : Sok g (tX12_worthOf 3) 44 126 pcB pcC (lX12_worthOf_2) := (Sok.loop (pc := 44) (pc1 := 58) (pc2 := 120) (pcN := 126) (Cok.and (pc1 := 53) (Cok.cmp (pc1 := 46) (pc2 := 50) (pcT := 53) (pcF := 126) (EokI.iload (i := 6) dX12_worthOf_44) (EokI.iCallV (pc1 := 47) (Aok.aR (pc1 := 47) (EokR.aload_n (q := 0) dX12_worthOf_46) Aok.nil) (kX12_huts g) rfl ykX12_huts vkX12_215 (by decide) (by decide) dX12_worthOf_47) (JI.ltF (tgt := 126) dX12_worthOf_50 (by decide))) (Cok.not (Cok.zero (pc1 := 55) (pcT := 126) (pcF := 58) (EokI.iload (i := 5) dX12_worthOf_53) (JZ.neT (tgt := 126) dX12_worthOf_55 (by decide))))) (by decide) (Sok.seq (pc1 := 61) (Sok.setI (i := 7) (pc1 := 59) (EokI.iconst (v := 0) dX12_worthOf_58 (by decide)) (by decide) dX12_worthOf_59 (show 7 < 8 by decide)) (olX12_worthOf_1 g )) (Sok.seq (pc1 := 120) Sok.forget (Sok.goto (pc1 := 123) (pcN := 44) (Sok.iinc (i := 6) (v := 1) dX12_worthOf_120 (show 6 < 8 by decide) (by decide)) dX12_worthOf_123 (by decide))))
def mX12_worthOf : MX := bodyOf 8 (sSeq (sSetL 3 (lCallV 12 mX12_beginOf (aR (rLoc 0) (aI (iLoc 1) (aI (iLoc 2) aNil))))) (sSeq (sSetI 5 (iBool (cAnd (cL lgt (lLoc 3) (lK 0)) (cOr (cOr (cOr (cB req (iLoc 1) (iK 2)) (cB req (iLoc 1) (iK 4))) (cB req (iLoc 1) (iK 5))) (cB req (iLoc 1) (iK 8)))))) (sSeq (sSeq (sSeq (sSetI 6 (iK 0)) lX12_worthOf_2) (sForget 6)) (sRetL (lLoc 3)))))
theorem kX12_worthOf (g : GT) : MK g 3 yX12_worthOf cX12_worthOf 8 (some .long) mX12_worthOf := MK.of (pcN := 99999) (pcB := 0) (pcC := 0) rfl (Sok.seq (pc1 := 7) (Sok.setL_n (q := 3) (pc1 := 6) (EokL.lCallV (pc1 := 3) (Aok.aR (pc1 := 1) (EokR.aload_n (q := 0) dX12_worthOf_0) (Aok.aI (pc1 := 2) (EokI.iload_n (q := 1) dX12_worthOf_1) (Aok.aI (pc1 := 3) (EokI.iload_n (q := 2) dX12_worthOf_2) Aok.nil))) (kX12_beginOf g) rfl ykX12_beginOf vkX12_306 (by decide) (by decide) dX12_worthOf_3) (by decide) dX12_worthOf_6 (show 4 < 8 by decide)) (Sok.seq (pc1 := 41) (Sok.setI (i := 5) (pc1 := 39) (EokI.cond' (pc1 := 34) (pc2 := 38) (Cok.and (pc1 := 13) (Cok.lcmp (pc1 := 8) (pc2 := 9) (pcT := 13) (pcF := 38) (EokL.lload_n (q := 3) dX12_worthOf_7) (EokL.lconst (v := 0) dX12_worthOf_8 (by decide)) (JL.gt dX12_worthOf_9 (JZ.gtF (tgt := 38) dX12_worthOf_10 (by decide)))) (Cok.or (pc1 := 28) (Cok.or (pc1 := 23) (Cok.or (pc1 := 18) (Cok.cmp (pc1 := 14) (pc2 := 15) (pcT := 34) (pcF := 18) (EokI.iload_n (q := 1) dX12_worthOf_13) (EokI.iconst (v := 2) dX12_worthOf_14 (by decide)) (JI.eqT (tgt := 34) dX12_worthOf_15 (by decide))) (Cok.cmp (pc1 := 19) (pc2 := 20) (pcT := 34) (pcF := 23) (EokI.iload_n (q := 1) dX12_worthOf_18) (EokI.iconst (v := 4) dX12_worthOf_19 (by decide)) (JI.eqT (tgt := 34) dX12_worthOf_20 (by decide)))) (Cok.cmp (pc1 := 24) (pc2 := 25) (pcT := 34) (pcF := 28) (EokI.iload_n (q := 1) dX12_worthOf_23) (EokI.iconst (v := 5) dX12_worthOf_24 (by decide)) (JI.eqT (tgt := 34) dX12_worthOf_25 (by decide)))) (Cok.cmp (pc1 := 29) (pc2 := 31) (pcT := 34) (pcF := 38) (EokI.iload_n (q := 1) dX12_worthOf_28) (EokI.bipush (v := 8) dX12_worthOf_29 (by decide)) (JI.eqF (tgt := 38) dX12_worthOf_31 (by decide))))) (EokI.goto (pc1 := 35) (pc2 := 39) (EokI.iconst (v := 1) dX12_worthOf_34 (by decide)) dX12_worthOf_35 (by decide)) (EokI.iconst (v := 0) dX12_worthOf_38 (by decide))) (by decide) dX12_worthOf_39 (show 5 < 8 by decide)) (Sok.seq (pc1 := 126) (Sok.seq (pc1 := 126) (Sok.seq (pc1 := 44) (Sok.setI (i := 6) (pc1 := 42) (EokI.iconst (v := 0) dX12_worthOf_41 (by decide)) (by decide) dX12_worthOf_42 (show 6 < 8 by decide)) (olX12_worthOf_2 g )) (Sok.forget (pc := 126))) (Sok.retL (pc1 := 127) (EokL.lload_n (q := 3) dX12_worthOf_126) (by decide) dX12_worthOf_127 rfl))))
/-! PassHutsModel.fills(II)V -/
theorem dX12_fills_0 : decode cX12_fills 0 = .ok (.aload_n 0, 1) := by decide +kernel
theorem dX12_fills_1 : decode cX12_fills 1 = .ok (.getfield 245, 3) := by decide +kernel
theorem dX12_fills_4 : decode cX12_fills 4 = .ok (.bipush 64, 2) := by decide +kernel
theorem dX12_fills_6 : decode cX12_fills 6 = .ok (.iload_n 1, 1) := by decide +kernel
theorem dX12_fills_7 : decode cX12_fills 7 = .ok (.imul, 1) := by decide +kernel
theorem dX12_fills_8 : decode cX12_fills 8 = .ok (.iload_n 2, 1) := by decide +kernel
theorem dX12_fills_9 : decode cX12_fills 9 = .ok (.iadd, 1) := by decide +kernel
theorem dX12_fills_10 : decode cX12_fills 10 = .ok (.if_icmp .ne 4, 3) := by decide +kernel
theorem dX12_fills_13 : decode cX12_fills 13 = .ok (.return_, 1) := by decide +kernel
theorem dX12_fills_14 : decode cX12_fills 14 = .ok (.aload_n 0, 1) := by decide +kernel
theorem dX12_fills_15 : decode cX12_fills 15 = .ok (.bipush 64, 2) := by decide +kernel
theorem dX12_fills_17 : decode cX12_fills 17 = .ok (.iload_n 1, 1) := by decide +kernel
theorem dX12_fills_18 : decode cX12_fills 18 = .ok (.imul, 1) := by decide +kernel
theorem dX12_fills_19 : decode cX12_fills 19 = .ok (.iload_n 2, 1) := by decide +kernel
theorem dX12_fills_20 : decode cX12_fills 20 = .ok (.iadd, 1) := by decide +kernel
theorem dX12_fills_21 : decode cX12_fills 21 = .ok (.putfield 245, 3) := by decide +kernel
theorem dX12_fills_24 : decode cX12_fills 24 = .ok (.iconst 0, 1) := by decide +kernel
theorem dX12_fills_25 : decode cX12_fills 25 = .ok (.istore_n 3, 1) := by decide +kernel
theorem dX12_fills_26 : decode cX12_fills 26 = .ok (.iload_n 3, 1) := by decide +kernel
theorem dX12_fills_27 : decode cX12_fills 27 = .ok (.bipush 12, 2) := by decide +kernel
theorem dX12_fills_29 : decode cX12_fills 29 = .ok (.if_icmp .gt 54, 3) := by decide +kernel
theorem dX12_fills_32 : decode cX12_fills 32 = .ok (.iconst 0, 1) := by decide +kernel
theorem dX12_fills_33 : decode cX12_fills 33 = .ok (.istore 4, 2) := by decide +kernel
theorem dX12_fills_35 : decode cX12_fills 35 = .ok (.iload 4, 2) := by decide +kernel
theorem dX12_fills_37 : decode cX12_fills 37 = .ok (.aload_n 0, 1) := by decide +kernel
theorem dX12_fills_38 : decode cX12_fills 38 = .ok (.invokevirtual 296, 3) := by decide +kernel
theorem dX12_fills_41 : decode cX12_fills 41 = .ok (.if_icmp .ge 36, 3) := by decide +kernel
theorem dX12_fills_44 : decode cX12_fills 44 = .ok (.aload_n 0, 1) := by decide +kernel
theorem dX12_fills_45 : decode cX12_fills 45 = .ok (.iload 4, 2) := by decide +kernel
theorem dX12_fills_47 : decode cX12_fills 47 = .ok (.invokevirtual 299, 3) := by decide +kernel
theorem dX12_fills_50 : decode cX12_fills 50 = .ok (.aload_n 0, 1) := by decide +kernel
theorem dX12_fills_51 : decode cX12_fills 51 = .ok (.invokevirtual 258, 3) := by decide +kernel
theorem dX12_fills_54 : decode cX12_fills 54 = .ok (.iload_n 3, 1) := by decide +kernel
theorem dX12_fills_55 : decode cX12_fills 55 = .ok (.if_icmp .ne 16, 3) := by decide +kernel
theorem dX12_fills_58 : decode cX12_fills 58 = .ok (.aload_n 0, 1) := by decide +kernel
theorem dX12_fills_59 : decode cX12_fills 59 = .ok (.getfield 103, 3) := by decide +kernel
theorem dX12_fills_62 : decode cX12_fills 62 = .ok (.iload 4, 2) := by decide +kernel
theorem dX12_fills_64 : decode cX12_fills 64 = .ok (.aload_n 0, 1) := by decide +kernel
theorem dX12_fills_65 : decode cX12_fills 65 = .ok (.iload_n 1, 1) := by decide +kernel
theorem dX12_fills_66 : decode cX12_fills 66 = .ok (.iload_n 2, 1) := by decide +kernel
theorem dX12_fills_67 : decode cX12_fills 67 = .ok (.invokevirtual 302, 3) := by decide +kernel
theorem dX12_fills_70 : decode cX12_fills 70 = .ok (.lastore, 1) := by decide +kernel
theorem dX12_fills_71 : decode cX12_fills 71 = .ok (.iinc 4 1, 3) := by decide +kernel
theorem dX12_fills_74 : decode cX12_fills 74 = .ok (.goto (-39), 3) := by decide +kernel
theorem dX12_fills_77 : decode cX12_fills 77 = .ok (.iinc 3 1, 3) := by decide +kernel
theorem dX12_fills_80 : decode cX12_fills 80 = .ok (.goto (-54), 3) := by decide +kernel
theorem dX12_fills_83 : decode cX12_fills 83 = .ok (.return_, 1) := by decide +kernel
abbrev tX12_fills (k : Nat) : MT := (RX12, cX12_fills, 5, k, none)
def lX12_fills_1 : SX := (sLoop (cB rlt (iLoc 4) (iCallV 12 mX12_allWays (aR (rLoc 0) aNil))) (sSeq (sCallV 12 mX12_lays (aR (rLoc 0) (aI (iLoc 4) aNil))) (sIf (cB req (iCallV 12 mX12_allLoads (aR (rLoc 0) aNil)) (iLoc 3)) (sAStL (rGet 12 21 (rLoc 0)) (iLoc 4) (lCallV 12 mX12_worthOf (aR (rLoc 0) (aI (iLoc 1) (aI (iLoc 2) aNil))))) sSkip)) (sInc 4 1))
def lX12_fills_2 : SX := (sLoop (cB rle (iLoc 3) (iK 12)) (sSeq (sSetI 4 (iK 0)) lX12_fills_1) (sSeq (sForget 4) (sInc 3 1)))
theorem olX12_fills_1 (g : GT) {pcB pcC : Nat} : Sok g (tX12_fills 4) 35 77 pcB pcC (lX12_fills_1) := (Sok.loop (pc := 35) (pc1 := 44) (pc2 := 71) (pcN := 77) (Cok.cmp (pc1 := 37) (pc2 := 41) (pcT := 44) (pcF := 77) (EokI.iload (i := 4) dX12_fills_35) (EokI.iCallV (pc1 := 38) (Aok.aR (pc1 := 38) (EokR.aload_n (q := 0) dX12_fills_37) Aok.nil) (kX12_allWays g) rfl ykX12_allWays vkX12_296 (by decide) (by decide) dX12_fills_38) (JI.ltF (tgt := 77) dX12_fills_41 (by decide))) (by decide) (Sok.seq (pc1 := 50) (Sok.sCallV (pc1 := 47) (Aok.aR (pc1 := 45) (EokR.aload_n (q := 0) dX12_fills_44) (Aok.aI (pc1 := 47) (EokI.iload (i := 4) dX12_fills_45) Aok.nil)) (by decide) (kX12_lays g) rfl ykX12_lays vkX12_299 (by decide) (by decide) dX12_fills_47) (Sok.ite (pc1 := 58) (pc2 := 71) (Cok.cmp (pc1 := 54) (pc2 := 55) (pcT := 58) (pcF := 71) (EokI.iCallV (pc1 := 51) (Aok.aR (pc1 := 51) (EokR.aload_n (q := 0) dX12_fills_50) Aok.nil) (kX12_allLoads g) rfl ykX12_allLoads vkX12_258 (by decide) (by decide) dX12_fills_51) (EokI.iload_n (q := 3) dX12_fills_54) (JI.eqF (tgt := 71) dX12_fills_55 (by decide))) (by decide) (Sok.lASt (pc1 := 62) (pc2 := 64) (pc3 := 70) (EokR.getf (pc1 := 59) (j := 21) (ci := 12) (T := TX12) (N := 27) (EokR.aload_n (q := 0) dX12_fills_58) rfl wsX12_in (by decide) flX12_103 dX12_fills_59) (EokI.iload (i := 4) dX12_fills_62) (EokL.lCallV (pc1 := 67) (Aok.aR (pc1 := 65) (EokR.aload_n (q := 0) dX12_fills_64) (Aok.aI (pc1 := 66) (EokI.iload_n (q := 1) dX12_fills_65) (Aok.aI (pc1 := 67) (EokI.iload_n (q := 2) dX12_fills_66) Aok.nil))) (kX12_worthOf g) rfl ykX12_worthOf vkX12_302 (by decide) (by decide) dX12_fills_67) (by decide) dX12_fills_70) (Sok.skip (pc := 71)))) (Sok.goto (pc1 := 74) (pcN := 35) (Sok.iinc (i := 4) (v := 1) dX12_fills_71 (show 4 < 5 by decide) (by decide)) dX12_fills_74 (by decide)))
theorem olX12_fills_2 (g : GT) {pcB pcC : Nat} : Sok g (tX12_fills 4) 26 83 pcB pcC (lX12_fills_2) := (Sok.loop (pc := 26) (pc1 := 32) (pc2 := 77) (pcN := 83) (Cok.cmp (pc1 := 27) (pc2 := 29) (pcT := 32) (pcF := 83) (EokI.iload_n (q := 3) dX12_fills_26) (EokI.bipush (v := 12) dX12_fills_27 (by decide)) (JI.leF (tgt := 83) dX12_fills_29 (by decide))) (by decide) (Sok.seq (pc1 := 35) (Sok.setI (i := 4) (pc1 := 33) (EokI.iconst (v := 0) dX12_fills_32 (by decide)) (by decide) dX12_fills_33 (show 4 < 5 by decide)) (olX12_fills_1 g )) (Sok.seq (pc1 := 77) Sok.forget (Sok.goto (pc1 := 80) (pcN := 26) (Sok.iinc (i := 3) (v := 1) dX12_fills_77 (show 3 < 5 by decide) (by decide)) dX12_fills_80 (by decide))))
def mX12_fills : MX := bodyOf 5 (sSeq (sSeq (sIf (cB req (iGet 12 22 (rLoc 0)) (iB gT2 (· + ·) (iB gT2 (· * ·) (iK 64) (iLoc 1)) (iLoc 2))) sRetV sSkip) (sSeq (sPutI 12 22 .int (rLoc 0) (iB gT2 (· + ·) (iB gT2 (· * ·) (iK 64) (iLoc 1)) (iLoc 2))) (sSeq (sSeq (sSetI 3 (iK 0)) lX12_fills_2) (sForget 3)))) sRetV)
theorem kX12_fills (g : GT) : MK g 4 yX12_fills cX12_fills 5 none mX12_fills := MK.of (pcN := 99999) (pcB := 0) (pcC := 0) rfl (Sok.seq (pc1 := 83) (Sok.seq (pc1 := 14) (Sok.ite (pc1 := 13) (pc2 := 14) (Cok.cmp (pc1 := 4) (pc2 := 10) (pcT := 13) (pcF := 14) (EokI.getf (pc1 := 1) (j := 22) (ci := 12) (T := TX12) (N := 27) (EokR.aload_n (q := 0) dX12_fills_0) rfl wsX12_in (by decide) flX12_245 dX12_fills_1) (EokI.bin (pc1 := 8) (pc2 := 9) (EokI.bin (pc1 := 6) (pc2 := 7) (EokI.bipush (v := 64) dX12_fills_4 (by decide)) (EokI.iload_n (q := 1) dX12_fills_6) (OPI.imul dX12_fills_7)) (EokI.iload_n (q := 2) dX12_fills_8) (OPI.iadd dX12_fills_9)) (JI.eqF (tgt := 14) dX12_fills_10 (by decide))) (by decide) (Sok.retV dX12_fills_13 rfl) (Sok.skip (pc := 14))) (Sok.seq (pc1 := 24) (Sok.putI (ci := 12) (T := TX12) (NN := 27) (tt := tyX12) (j := 22) (pc1 := 15) (pc2 := 21) (ty := .int) (EokR.aload_n (q := 0) dX12_fills_14) (EokI.bin (pc1 := 19) (pc2 := 20) (EokI.bin (pc1 := 17) (pc2 := 18) (EokI.bipush (v := 64) dX12_fills_15 (by decide)) (EokI.iload_n (q := 1) dX12_fills_17) (OPI.imul dX12_fills_18)) (EokI.iload_n (q := 2) dX12_fills_19) (OPI.iadd dX12_fills_20)) (by decide) rfl wsX12_in tyX12_ok nmX12 (by decide) flX12_245 rfl rfl dX12_fills_21) (Sok.seq (pc1 := 83) (Sok.seq (pc1 := 26) (Sok.setI_n (q := 3) (pc1 := 25) (EokI.iconst (v := 0) dX12_fills_24 (by decide)) (by decide) dX12_fills_25 (show 3 < 5 by decide)) (olX12_fills_2 g )) (Sok.forget (pc := 83))))) (Sok.retV dX12_fills_83 rfl))
/-! PassHutsModel.asked(II)J -/
theorem dX12_asked_0 : decode cX12_asked 0 = .ok (.aload_n 0, 1) := by decide +kernel
theorem dX12_asked_1 : decode cX12_asked 1 = .ok (.iload_n 1, 1) := by decide +kernel
theorem dX12_asked_2 : decode cX12_asked 2 = .ok (.iload_n 2, 1) := by decide +kernel
theorem dX12_asked_3 : decode cX12_asked 3 = .ok (.invokevirtual 331, 3) := by decide +kernel
theorem dX12_asked_6 : decode cX12_asked 6 = .ok (.aload_n 0, 1) := by decide +kernel
theorem dX12_asked_7 : decode cX12_asked 7 = .ok (.invokevirtual 271, 3) := by decide +kernel
theorem dX12_asked_10 : decode cX12_asked 10 = .ok (.aload_n 0, 1) := by decide +kernel
theorem dX12_asked_11 : decode cX12_asked 11 = .ok (.getfield 103, 3) := by decide +kernel
theorem dX12_asked_14 : decode cX12_asked 14 = .ok (.aload_n 0, 1) := by decide +kernel
theorem dX12_asked_15 : decode cX12_asked 15 = .ok (.invokevirtual 309, 3) := by decide +kernel
theorem dX12_asked_18 : decode cX12_asked 18 = .ok (.laload, 1) := by decide +kernel
theorem dX12_asked_19 : decode cX12_asked 19 = .ok (.lreturn, 1) := by decide +kernel
abbrev tX12_asked (k : Nat) : MT := (RX12, cX12_asked, 3, k, (some .long))
def mX12_asked : MX := bodyOf 3 (sSeq (sCallV 12 mX12_fills (aR (rLoc 0) (aI (iLoc 1) (aI (iLoc 2) aNil)))) (sSeq (sCallV 12 mX12_laysNow (aR (rLoc 0) aNil)) (sRetL (lALd (rGet 12 21 (rLoc 0)) (iCallV 12 mX12_numberNow (aR (rLoc 0) aNil))))))
theorem kX12_asked (g : GT) : MK g 5 yX12_asked cX12_asked 3 (some .long) mX12_asked := MK.of (pcN := 99999) (pcB := 0) (pcC := 0) rfl (Sok.seq (pc1 := 6) (Sok.sCallV (pc1 := 3) (Aok.aR (pc1 := 1) (EokR.aload_n (q := 0) dX12_asked_0) (Aok.aI (pc1 := 2) (EokI.iload_n (q := 1) dX12_asked_1) (Aok.aI (pc1 := 3) (EokI.iload_n (q := 2) dX12_asked_2) Aok.nil))) (by decide) (kX12_fills g) rfl ykX12_fills vkX12_331 (by decide) (by decide) dX12_asked_3) (Sok.seq (pc1 := 10) (Sok.sCallV (pc1 := 7) (Aok.aR (pc1 := 7) (EokR.aload_n (q := 0) dX12_asked_6) Aok.nil) (by decide) (kX12_laysNow g) rfl ykX12_laysNow vkX12_271 (by decide) (by decide) dX12_asked_7) (Sok.retL (pc1 := 19) (EokL.lALd (pc1 := 14) (pc2 := 18) (EokR.getf (pc1 := 11) (j := 21) (ci := 12) (T := TX12) (N := 27) (EokR.aload_n (q := 0) dX12_asked_10) rfl wsX12_in (by decide) flX12_103 dX12_asked_11) (EokI.iCallV (pc1 := 15) (Aok.aR (pc1 := 15) (EokR.aload_n (q := 0) dX12_asked_14) Aok.nil) (kX12_numberNow g) rfl ykX12_numberNow vkX12_309 (by decide) (by decide) dX12_asked_15) dX12_asked_18) (by decide) dX12_asked_19 rfl)))
/-! PassHutsModel.most(I)I -/
theorem dX12_most_0 : decode cX12_most 0 = .ok (.aload_n 0, 1) := by decide +kernel
theorem dX12_most_1 : decode cX12_most 1 = .ok (.iconst 0, 1) := by decide +kernel
theorem dX12_most_2 : decode cX12_most 2 = .ok (.putfield 1, 3) := by decide +kernel
theorem dX12_most_5 : decode cX12_most 5 = .ok (.aload_n 0, 1) := by decide +kernel
theorem dX12_most_6 : decode cX12_most 6 = .ok (.iload_n 1, 1) := by decide +kernel
theorem dX12_most_7 : decode cX12_most 7 = .ok (.invokevirtual 264, 3) := by decide +kernel
theorem dX12_most_10 : decode cX12_most 10 = .ok (.ifCond .eq 13, 3) := by decide +kernel
theorem dX12_most_13 : decode cX12_most 13 = .ok (.aload_n 0, 1) := by decide +kernel
theorem dX12_most_14 : decode cX12_most 14 = .ok (.iconst 3, 1) := by decide +kernel
theorem dX12_most_15 : decode cX12_most 15 = .ok (.iload_n 1, 1) := by decide +kernel
theorem dX12_most_16 : decode cX12_most 16 = .ok (.invokevirtual 334, 3) := by decide +kernel
theorem dX12_most_19 : decode cX12_most 19 = .ok (.l2i, 1) := by decide +kernel
theorem dX12_most_20 : decode cX12_most 20 = .ok (.goto 4, 3) := by decide +kernel
theorem dX12_most_23 : decode cX12_most 23 = .ok (.iconst (-1), 1) := by decide +kernel
theorem dX12_most_24 : decode cX12_most 24 = .ok (.ireturn, 1) := by decide +kernel
abbrev tX12_most (k : Nat) : MT := (RX12, cX12_most, 2, k, (some .int))
def mX12_most : MX := bodyOf 2 (sSeq (sPutI 12 0 .int (rLoc 0) (iK 0)) (sRetI (iCond (cZ zne (iCallV 12 mX12_isHut (aR (rLoc 0) (aI (iLoc 1) aNil)))) (iOfL (lCallV 12 mX12_asked (aR (rLoc 0) (aI (iK 3) (aI (iLoc 1) aNil))))) (iK (-1)))))
theorem kX12_most (g : GT) : MK g 6 yX12_most cX12_most 2 (some .int) mX12_most := MK.of (pcN := 99999) (pcB := 0) (pcC := 0) rfl (Sok.seq (pc1 := 5) (Sok.putI (ci := 12) (T := TX12) (NN := 27) (tt := tyX12) (j := 0) (pc1 := 1) (pc2 := 2) (ty := .int) (EokR.aload_n (q := 0) dX12_most_0) (EokI.iconst (v := 0) dX12_most_1 (by decide)) (by decide) rfl wsX12_in tyX12_ok nmX12 (by decide) flX12_1 rfl rfl dX12_most_2) (Sok.retI (pc1 := 24) (EokI.cond' (pc1 := 13) (pc2 := 23) (Cok.zero (pc1 := 10) (pcT := 13) (pcF := 23) (EokI.iCallV (pc1 := 7) (Aok.aR (pc1 := 6) (EokR.aload_n (q := 0) dX12_most_5) (Aok.aI (pc1 := 7) (EokI.iload_n (q := 1) dX12_most_6) Aok.nil)) (kX12_isHut g) rfl ykX12_isHut vkX12_264 (by decide) (by decide) dX12_most_7) (JZ.neF (tgt := 23) dX12_most_10 (by decide))) (EokI.goto (pc1 := 20) (pc2 := 24) (EokI.l2i (pc1 := 19) (EokL.lCallV (pc1 := 16) (Aok.aR (pc1 := 14) (EokR.aload_n (q := 0) dX12_most_13) (Aok.aI (pc1 := 15) (EokI.iconst (v := 3) dX12_most_14 (by decide)) (Aok.aI (pc1 := 16) (EokI.iload_n (q := 1) dX12_most_15) Aok.nil))) (kX12_asked g) rfl ykX12_asked vkX12_334 (by decide) (by decide) dX12_most_16) dX12_most_19) dX12_most_20 (by decide)) (EokI.iconst (v := (-1)) dX12_most_23 (by decide))) (by decide) dX12_most_24 rfl))
/-! PassHutsModel.least(I)I -/
theorem dX12_least_0 : decode cX12_least 0 = .ok (.aload_n 0, 1) := by decide +kernel
theorem dX12_least_1 : decode cX12_least 1 = .ok (.iconst 0, 1) := by decide +kernel
theorem dX12_least_2 : decode cX12_least 2 = .ok (.putfield 1, 3) := by decide +kernel
theorem dX12_least_5 : decode cX12_least 5 = .ok (.aload_n 0, 1) := by decide +kernel
theorem dX12_least_6 : decode cX12_least 6 = .ok (.iload_n 1, 1) := by decide +kernel
theorem dX12_least_7 : decode cX12_least 7 = .ok (.invokevirtual 264, 3) := by decide +kernel
theorem dX12_least_10 : decode cX12_least 10 = .ok (.ifCond .eq 19, 3) := by decide +kernel
theorem dX12_least_13 : decode cX12_least 13 = .ok (.aload_n 0, 1) := by decide +kernel
theorem dX12_least_14 : decode cX12_least 14 = .ok (.iconst 2, 1) := by decide +kernel
theorem dX12_least_15 : decode cX12_least 15 = .ok (.iload_n 1, 1) := by decide +kernel
theorem dX12_least_16 : decode cX12_least 16 = .ok (.invokevirtual 334, 3) := by decide +kernel
theorem dX12_least_19 : decode cX12_least 19 = .ok (.ldc2_w 325, 3) := by decide +kernel
theorem dX12_least_22 : decode cX12_least 22 = .ok (.lrem, 1) := by decide +kernel
theorem dX12_least_23 : decode cX12_least 23 = .ok (.l2i, 1) := by decide +kernel
theorem dX12_least_24 : decode cX12_least 24 = .ok (.iconst 1, 1) := by decide +kernel
theorem dX12_least_25 : decode cX12_least 25 = .ok (.isub, 1) := by decide +kernel
theorem dX12_least_26 : decode cX12_least 26 = .ok (.goto 4, 3) := by decide +kernel
theorem dX12_least_29 : decode cX12_least 29 = .ok (.iconst (-1), 1) := by decide +kernel
theorem dX12_least_30 : decode cX12_least 30 = .ok (.ireturn, 1) := by decide +kernel
abbrev tX12_least (k : Nat) : MT := (RX12, cX12_least, 2, k, (some .int))
def mX12_least : MX := bodyOf 2 (sSeq (sPutI 12 0 .int (rLoc 0) (iK 0)) (sRetI (iCond (cZ zne (iCallV 12 mX12_isHut (aR (rLoc 0) (aI (iLoc 1) aNil)))) (iB gT2 (· - ·) (iOfL (lB gNZL jlrem (lCallV 12 mX12_asked (aR (rLoc 0) (aI (iK 2) (aI (iLoc 1) aNil)))) (lK 16))) (iK 1)) (iK (-1)))))
theorem kX12_least (g : GT) : MK g 6 yX12_least cX12_least 2 (some .int) mX12_least := MK.of (pcN := 99999) (pcB := 0) (pcC := 0) rfl (Sok.seq (pc1 := 5) (Sok.putI (ci := 12) (T := TX12) (NN := 27) (tt := tyX12) (j := 0) (pc1 := 1) (pc2 := 2) (ty := .int) (EokR.aload_n (q := 0) dX12_least_0) (EokI.iconst (v := 0) dX12_least_1 (by decide)) (by decide) rfl wsX12_in tyX12_ok nmX12 (by decide) flX12_1 rfl rfl dX12_least_2) (Sok.retI (pc1 := 30) (EokI.cond' (pc1 := 13) (pc2 := 29) (Cok.zero (pc1 := 10) (pcT := 13) (pcF := 29) (EokI.iCallV (pc1 := 7) (Aok.aR (pc1 := 6) (EokR.aload_n (q := 0) dX12_least_5) (Aok.aI (pc1 := 7) (EokI.iload_n (q := 1) dX12_least_6) Aok.nil)) (kX12_isHut g) rfl ykX12_isHut vkX12_264 (by decide) (by decide) dX12_least_7) (JZ.neF (tgt := 29) dX12_least_10 (by decide))) (EokI.goto (pc1 := 26) (pc2 := 30) (EokI.bin (pc1 := 24) (pc2 := 25) (EokI.l2i (pc1 := 23) (EokL.bin (pc1 := 19) (pc2 := 22) (EokL.lCallV (pc1 := 16) (Aok.aR (pc1 := 14) (EokR.aload_n (q := 0) dX12_least_13) (Aok.aI (pc1 := 15) (EokI.iconst (v := 2) dX12_least_14 (by decide)) (Aok.aI (pc1 := 16) (EokI.iload_n (q := 1) dX12_least_15) Aok.nil))) (kX12_asked g) rfl ykX12_asked vkX12_334 (by decide) (by decide) dX12_least_16) (EokL.ldc2 (v := 16) ckX12_325 dX12_least_19) (OPL.lrem dX12_least_22)) dX12_least_23) (EokI.iconst (v := 1) dX12_least_24 (by decide)) (OPI.isub dX12_least_25)) dX12_least_26 (by decide)) (EokI.iconst (v := (-1)) dX12_least_29 (by decide))) (by decide) dX12_least_30 rfl))
/-! PassHutsModel.ways(I)I -/
theorem dX12_ways_0 : decode cX12_ways 0 = .ok (.aload_n 0, 1) := by decide +kernel
theorem dX12_ways_1 : decode cX12_ways 1 = .ok (.iconst 0, 1) := by decide +kernel
theorem dX12_ways_2 : decode cX12_ways 2 = .ok (.putfield 1, 3) := by decide +kernel
theorem dX12_ways_5 : decode cX12_ways 5 = .ok (.aload_n 0, 1) := by decide +kernel
theorem dX12_ways_6 : decode cX12_ways 6 = .ok (.iload_n 1, 1) := by decide +kernel
theorem dX12_ways_7 : decode cX12_ways 7 = .ok (.invokevirtual 264, 3) := by decide +kernel
theorem dX12_ways_10 : decode cX12_ways 10 = .ok (.ifCond .eq 17, 3) := by decide +kernel
theorem dX12_ways_13 : decode cX12_ways 13 = .ok (.aload_n 0, 1) := by decide +kernel
theorem dX12_ways_14 : decode cX12_ways 14 = .ok (.iconst 2, 1) := by decide +kernel
theorem dX12_ways_15 : decode cX12_ways 15 = .ok (.iload_n 1, 1) := by decide +kernel
theorem dX12_ways_16 : decode cX12_ways 16 = .ok (.invokevirtual 334, 3) := by decide +kernel
theorem dX12_ways_19 : decode cX12_ways 19 = .ok (.ldc2_w 325, 3) := by decide +kernel
theorem dX12_ways_22 : decode cX12_ways 22 = .ok (.ldiv, 1) := by decide +kernel
theorem dX12_ways_23 : decode cX12_ways 23 = .ok (.l2i, 1) := by decide +kernel
theorem dX12_ways_24 : decode cX12_ways 24 = .ok (.goto 4, 3) := by decide +kernel
theorem dX12_ways_27 : decode cX12_ways 27 = .ok (.iconst (-1), 1) := by decide +kernel
theorem dX12_ways_28 : decode cX12_ways 28 = .ok (.ireturn, 1) := by decide +kernel
abbrev tX12_ways (k : Nat) : MT := (RX12, cX12_ways, 2, k, (some .int))
def mX12_ways : MX := bodyOf 2 (sSeq (sPutI 12 0 .int (rLoc 0) (iK 0)) (sRetI (iCond (cZ zne (iCallV 12 mX12_isHut (aR (rLoc 0) (aI (iLoc 1) aNil)))) (iOfL (lB gNZL (· / ·) (lCallV 12 mX12_asked (aR (rLoc 0) (aI (iK 2) (aI (iLoc 1) aNil)))) (lK 16))) (iK (-1)))))
theorem kX12_ways (g : GT) : MK g 6 yX12_ways cX12_ways 2 (some .int) mX12_ways := MK.of (pcN := 99999) (pcB := 0) (pcC := 0) rfl (Sok.seq (pc1 := 5) (Sok.putI (ci := 12) (T := TX12) (NN := 27) (tt := tyX12) (j := 0) (pc1 := 1) (pc2 := 2) (ty := .int) (EokR.aload_n (q := 0) dX12_ways_0) (EokI.iconst (v := 0) dX12_ways_1 (by decide)) (by decide) rfl wsX12_in tyX12_ok nmX12 (by decide) flX12_1 rfl rfl dX12_ways_2) (Sok.retI (pc1 := 28) (EokI.cond' (pc1 := 13) (pc2 := 27) (Cok.zero (pc1 := 10) (pcT := 13) (pcF := 27) (EokI.iCallV (pc1 := 7) (Aok.aR (pc1 := 6) (EokR.aload_n (q := 0) dX12_ways_5) (Aok.aI (pc1 := 7) (EokI.iload_n (q := 1) dX12_ways_6) Aok.nil)) (kX12_isHut g) rfl ykX12_isHut vkX12_264 (by decide) (by decide) dX12_ways_7) (JZ.neF (tgt := 27) dX12_ways_10 (by decide))) (EokI.goto (pc1 := 24) (pc2 := 28) (EokI.l2i (pc1 := 23) (EokL.bin (pc1 := 19) (pc2 := 22) (EokL.lCallV (pc1 := 16) (Aok.aR (pc1 := 14) (EokR.aload_n (q := 0) dX12_ways_13) (Aok.aI (pc1 := 15) (EokI.iconst (v := 2) dX12_ways_14 (by decide)) (Aok.aI (pc1 := 16) (EokI.iload_n (q := 1) dX12_ways_15) Aok.nil))) (kX12_asked g) rfl ykX12_asked vkX12_334 (by decide) (by decide) dX12_ways_16) (EokL.ldc2 (v := 16) ckX12_325 dX12_ways_19) (OPL.ldiv dX12_ways_22)) dX12_ways_23) dX12_ways_24 (by decide)) (EokI.iconst (v := (-1)) dX12_ways_27 (by decide))) (by decide) dX12_ways_28 rfl))
/-! PassHutsModel.row(II)I -/
theorem dX12_row_0 : decode cX12_row 0 = .ok (.aload_n 0, 1) := by decide +kernel
theorem dX12_row_1 : decode cX12_row 1 = .ok (.iconst 0, 1) := by decide +kernel
theorem dX12_row_2 : decode cX12_row 2 = .ok (.putfield 1, 3) := by decide +kernel
theorem dX12_row_5 : decode cX12_row 5 = .ok (.aload_n 0, 1) := by decide +kernel
theorem dX12_row_6 : decode cX12_row 6 = .ok (.iload_n 1, 1) := by decide +kernel
theorem dX12_row_7 : decode cX12_row 7 = .ok (.invokevirtual 264, 3) := by decide +kernel
theorem dX12_row_10 : decode cX12_row 10 = .ok (.ifCond .eq 25, 3) := by decide +kernel
theorem dX12_row_13 : decode cX12_row 13 = .ok (.iload_n 2, 1) := by decide +kernel
theorem dX12_row_14 : decode cX12_row 14 = .ok (.ifCond .lt 21, 3) := by decide +kernel
theorem dX12_row_17 : decode cX12_row 17 = .ok (.iload_n 2, 1) := by decide +kernel
theorem dX12_row_18 : decode cX12_row 18 = .ok (.i2l, 1) := by decide +kernel
theorem dX12_row_19 : decode cX12_row 19 = .ok (.aload_n 0, 1) := by decide +kernel
theorem dX12_row_20 : decode cX12_row 20 = .ok (.iconst 2, 1) := by decide +kernel
theorem dX12_row_21 : decode cX12_row 21 = .ok (.iload_n 1, 1) := by decide +kernel
theorem dX12_row_22 : decode cX12_row 22 = .ok (.invokevirtual 334, 3) := by decide +kernel
theorem dX12_row_25 : decode cX12_row 25 = .ok (.ldc2_w 325, 3) := by decide +kernel
theorem dX12_row_28 : decode cX12_row 28 = .ok (.lrem, 1) := by decide +kernel
theorem dX12_row_29 : decode cX12_row 29 = .ok (.lconst 1, 1) := by decide +kernel
theorem dX12_row_30 : decode cX12_row 30 = .ok (.lsub, 1) := by decide +kernel
theorem dX12_row_31 : decode cX12_row 31 = .ok (.lcmp, 1) := by decide +kernel
theorem dX12_row_32 : decode cX12_row 32 = .ok (.ifCond .lt 5, 3) := by decide +kernel
theorem dX12_row_35 : decode cX12_row 35 = .ok (.iconst (-1), 1) := by decide +kernel
theorem dX12_row_36 : decode cX12_row 36 = .ok (.ireturn, 1) := by decide +kernel
theorem dX12_row_37 : decode cX12_row 37 = .ok (.aload_n 0, 1) := by decide +kernel
theorem dX12_row_38 : decode cX12_row 38 = .ok (.invokevirtual 271, 3) := by decide +kernel
theorem dX12_row_41 : decode cX12_row 41 = .ok (.iconst (-1), 1) := by decide +kernel
theorem dX12_row_42 : decode cX12_row 42 = .ok (.istore_n 3, 1) := by decide +kernel
theorem dX12_row_43 : decode cX12_row 43 = .ok (.iconst 0, 1) := by decide +kernel
theorem dX12_row_44 : decode cX12_row 44 = .ok (.istore 4, 2) := by decide +kernel
theorem dX12_row_46 : decode cX12_row 46 = .ok (.iload 4, 2) := by decide +kernel
theorem dX12_row_48 : decode cX12_row 48 = .ok (.iload_n 2, 1) := by decide +kernel
theorem dX12_row_49 : decode cX12_row 49 = .ok (.if_icmp .gt 146, 3) := by decide +kernel
theorem dX12_row_52 : decode cX12_row 52 = .ok (.aload_n 0, 1) := by decide +kernel
theorem dX12_row_53 : decode cX12_row 53 = .ok (.getfield 103, 3) := by decide +kernel
theorem dX12_row_56 : decode cX12_row 56 = .ok (.aload_n 0, 1) := by decide +kernel
theorem dX12_row_57 : decode cX12_row 57 = .ok (.invokevirtual 309, 3) := by decide +kernel
theorem dX12_row_60 : decode cX12_row 60 = .ok (.laload, 1) := by decide +kernel
theorem dX12_row_61 : decode cX12_row 61 = .ok (.ldc2_w 325, 3) := by decide +kernel
theorem dX12_row_64 : decode cX12_row 64 = .ok (.lrem, 1) := by decide +kernel
theorem dX12_row_65 : decode cX12_row 65 = .ok (.lstore 5, 2) := by decide +kernel
theorem dX12_row_67 : decode cX12_row 67 = .ok (.iconst (-1), 1) := by decide +kernel
theorem dX12_row_68 : decode cX12_row 68 = .ok (.istore_n 3, 1) := by decide +kernel
theorem dX12_row_69 : decode cX12_row 69 = .ok (.iconst 0, 1) := by decide +kernel
theorem dX12_row_70 : decode cX12_row 70 = .ok (.istore 7, 2) := by decide +kernel
theorem dX12_row_72 : decode cX12_row 72 = .ok (.iload 7, 2) := by decide +kernel
theorem dX12_row_74 : decode cX12_row 74 = .ok (.aload_n 0, 1) := by decide +kernel
theorem dX12_row_75 : decode cX12_row 75 = .ok (.invokevirtual 215, 3) := by decide +kernel
theorem dX12_row_78 : decode cX12_row 78 = .ok (.if_icmp .ge 98, 3) := by decide +kernel
theorem dX12_row_81 : decode cX12_row 81 = .ok (.iload_n 3, 1) := by decide +kernel
theorem dX12_row_82 : decode cX12_row 82 = .ok (.ifCond .ge 94, 3) := by decide +kernel
theorem dX12_row_85 : decode cX12_row 85 = .ok (.iconst 0, 1) := by decide +kernel
theorem dX12_row_86 : decode cX12_row 86 = .ok (.istore 8, 2) := by decide +kernel
theorem dX12_row_88 : decode cX12_row 88 = .ok (.iload 8, 2) := by decide +kernel
theorem dX12_row_90 : decode cX12_row 90 = .ok (.aload_n 0, 1) := by decide +kernel
theorem dX12_row_91 : decode cX12_row 91 = .ok (.invokevirtual 215, 3) := by decide +kernel
theorem dX12_row_94 : decode cX12_row 94 = .ok (.if_icmp .ge 76, 3) := by decide +kernel
theorem dX12_row_97 : decode cX12_row 97 = .ok (.iload_n 3, 1) := by decide +kernel
theorem dX12_row_98 : decode cX12_row 98 = .ok (.ifCond .ge 72, 3) := by decide +kernel
theorem dX12_row_101 : decode cX12_row 101 = .ok (.aload_n 0, 1) := by decide +kernel
theorem dX12_row_102 : decode cX12_row 102 = .ok (.iload 7, 2) := by decide +kernel
theorem dX12_row_104 : decode cX12_row 104 = .ok (.iload 8, 2) := by decide +kernel
theorem dX12_row_106 : decode cX12_row 106 = .ok (.invokevirtual 277, 3) := by decide +kernel
theorem dX12_row_109 : decode cX12_row 109 = .ok (.ifCond .eq 55, 3) := by decide +kernel
theorem dX12_row_112 : decode cX12_row 112 = .ok (.aload_n 0, 1) := by decide +kernel
theorem dX12_row_113 : decode cX12_row 113 = .ok (.iload 7, 2) := by decide +kernel
theorem dX12_row_115 : decode cX12_row 115 = .ok (.iload 8, 2) := by decide +kernel
theorem dX12_row_117 : decode cX12_row 117 = .ok (.iconst 1, 1) := by decide +kernel
theorem dX12_row_118 : decode cX12_row 118 = .ok (.invokevirtual 284, 3) := by decide +kernel
theorem dX12_row_121 : decode cX12_row 121 = .ok (.aload_n 0, 1) := by decide +kernel
theorem dX12_row_122 : decode cX12_row 122 = .ok (.getfield 103, 3) := by decide +kernel
theorem dX12_row_125 : decode cX12_row 125 = .ok (.aload_n 0, 1) := by decide +kernel
theorem dX12_row_126 : decode cX12_row 126 = .ok (.invokevirtual 309, 3) := by decide +kernel
theorem dX12_row_129 : decode cX12_row 129 = .ok (.laload, 1) := by decide +kernel
theorem dX12_row_130 : decode cX12_row 130 = .ok (.ldc2_w 325, 3) := by decide +kernel
theorem dX12_row_133 : decode cX12_row 133 = .ok (.lrem, 1) := by decide +kernel
theorem dX12_row_134 : decode cX12_row 134 = .ok (.lload 5, 2) := by decide +kernel
theorem dX12_row_136 : decode cX12_row 136 = .ok (.lconst 1, 1) := by decide +kernel
theorem dX12_row_137 : decode cX12_row 137 = .ok (.lsub, 1) := by decide +kernel
theorem dX12_row_138 : decode cX12_row 138 = .ok (.lcmp, 1) := by decide +kernel
theorem dX12_row_139 : decode cX12_row 139 = .ok (.ifCond .ne 14, 3) := by decide +kernel
theorem dX12_row_142 : decode cX12_row 142 = .ok (.bipush 8, 2) := by decide +kernel
theorem dX12_row_144 : decode cX12_row 144 = .ok (.iload 7, 2) := by decide +kernel
theorem dX12_row_146 : decode cX12_row 146 = .ok (.imul, 1) := by decide +kernel
theorem dX12_row_147 : decode cX12_row 147 = .ok (.iload 8, 2) := by decide +kernel
theorem dX12_row_149 : decode cX12_row 149 = .ok (.iadd, 1) := by decide +kernel
theorem dX12_row_150 : decode cX12_row 150 = .ok (.goto 4, 3) := by decide +kernel
theorem dX12_row_153 : decode cX12_row 153 = .ok (.iconst (-1), 1) := by decide +kernel
theorem dX12_row_154 : decode cX12_row 154 = .ok (.istore_n 3, 1) := by decide +kernel
theorem dX12_row_155 : decode cX12_row 155 = .ok (.aload_n 0, 1) := by decide +kernel
theorem dX12_row_156 : decode cX12_row 156 = .ok (.iload 7, 2) := by decide +kernel
theorem dX12_row_158 : decode cX12_row 158 = .ok (.iload 8, 2) := by decide +kernel
theorem dX12_row_160 : decode cX12_row 160 = .ok (.iconst (-1), 1) := by decide +kernel
theorem dX12_row_161 : decode cX12_row 161 = .ok (.invokevirtual 284, 3) := by decide +kernel
theorem dX12_row_164 : decode cX12_row 164 = .ok (.iinc 8 1, 3) := by decide +kernel
theorem dX12_row_167 : decode cX12_row 167 = .ok (.goto (-79), 3) := by decide +kernel
theorem dX12_row_170 : decode cX12_row 170 = .ok (.iinc 7 1, 3) := by decide +kernel
theorem dX12_row_173 : decode cX12_row 173 = .ok (.goto (-101), 3) := by decide +kernel
theorem dX12_row_176 : decode cX12_row 176 = .ok (.aload_n 0, 1) := by decide +kernel
theorem dX12_row_177 : decode cX12_row 177 = .ok (.iload_n 3, 1) := by decide +kernel
theorem dX12_row_178 : decode cX12_row 178 = .ok (.bipush 8, 2) := by decide +kernel
theorem dX12_row_180 : decode cX12_row 180 = .ok (.idiv, 1) := by decide +kernel
theorem dX12_row_181 : decode cX12_row 181 = .ok (.iload_n 3, 1) := by decide +kernel
theorem dX12_row_182 : decode cX12_row 182 = .ok (.bipush 8, 2) := by decide +kernel
theorem dX12_row_184 : decode cX12_row 184 = .ok (.irem, 1) := by decide +kernel
theorem dX12_row_185 : decode cX12_row 185 = .ok (.iconst 1, 1) := by decide +kernel
theorem dX12_row_186 : decode cX12_row 186 = .ok (.invokevirtual 284, 3) := by decide +kernel
theorem dX12_row_189 : decode cX12_row 189 = .ok (.iinc 4 1, 3) := by decide +kernel
theorem dX12_row_192 : decode cX12_row 192 = .ok (.goto (-146), 3) := by decide +kernel
theorem dX12_row_195 : decode cX12_row 195 = .ok (.iload_n 3, 1) := by decide +kernel
theorem dX12_row_196 : decode cX12_row 196 = .ok (.ireturn, 1) := by decide +kernel
abbrev tX12_row (k : Nat) : MT := (RX12, cX12_row, 9, k, (some .int))
def lX12_row_1 : SX := (sLoop (cAnd (cB rlt (iLoc 8) (iCallV 12 mX12_huts (aR (rLoc 0) aNil))) (cZ zlt (iLoc 3))) (sIf (cZ zne (iCallV 12 mX12_mayCarry (aR (rLoc 0) (aI (iLoc 7) (aI (iLoc 8) aNil))))) (sSeq (sCallV 12 mX12_carries (aR (rLoc 0) (aI (iLoc 7) (aI (iLoc 8) (aI (iK 1) aNil))))) (sSeq (sSetI 3 (iCond (cL leq (lB gNZL jlrem (lALd (rGet 12 21 (rLoc 0)) (iCallV 12 mX12_numberNow (aR (rLoc 0) aNil))) (lK 16)) (lB gT2 (· - ·) (lLoc 5) (lK 1))) (iB gT2 (· + ·) (iB gT2 (· * ·) (iK 8) (iLoc 7)) (iLoc 8)) (iK (-1)))) (sCallV 12 mX12_carries (aR (rLoc 0) (aI (iLoc 7) (aI (iLoc 8) (aI (iK (-1)) aNil))))))) sSkip) (sInc 8 1))
def lX12_row_2 : SX := (sLoop (cAnd (cB rlt (iLoc 7) (iCallV 12 mX12_huts (aR (rLoc 0) aNil))) (cZ zlt (iLoc 3))) (sSeq (sSetI 8 (iK 0)) lX12_row_1) (sSeq (sForget 8) (sInc 7 1)))
def lX12_row_3 : SX := (sLoop (cB rle (iLoc 4) (iLoc 2)) (sSeq (sSetL 5 (lB gNZL jlrem (lALd (rGet 12 21 (rLoc 0)) (iCallV 12 mX12_numberNow (aR (rLoc 0) aNil))) (lK 16))) (sSeq (sSetI 3 (iK (-1))) (sSeq (sSeq (sSetI 7 (iK 0)) lX12_row_2) (sCallV 12 mX12_carries (aR (rLoc 0) (aI (iB gNZ (· / ·) (iLoc 3) (iK 8)) (aI (iB gNZ jrem (iLoc 3) (iK 8)) (aI (iK 1) aNil)))))))) (sSeq (sForget 5) (sInc 4 1)))
theorem olX12_row_1 (g : GT) {pcB pcC : Nat} : Sok g (tX12_row 6) 88 170 pcB pcC (lX12_row_1) := (Sok.loop (pc := 88) (pc1 := 101) (pc2 := 164) (pcN := 170) (Cok.and (pc1 := 97) (Cok.cmp (pc1 := 90) (pc2 := 94) (pcT := 97) (pcF := 170) (EokI.iload (i := 8) dX12_row_88) (EokI.iCallV (pc1 := 91) (Aok.aR (pc1 := 91) (EokR.aload_n (q := 0) dX12_row_90) Aok.nil) (kX12_huts g) rfl ykX12_huts vkX12_215 (by decide) (by decide) dX12_row_91) (JI.ltF (tgt := 170) dX12_row_94 (by decide))) (Cok.zero (pc1 := 98) (pcT := 101) (pcF := 170) (EokI.iload_n (q := 3) dX12_row_97) (JZ.ltF (tgt := 170) dX12_row_98 (by decide)))) (by decide) (Sok.ite (pc1 := 112) (pc2 := 164) (Cok.zero (pc1 := 109) (pcT := 112) (pcF := 164) (EokI.iCallV (pc1 := 106) (Aok.aR (pc1 := 102) (EokR.aload_n (q := 0) dX12_row_101) (Aok.aI (pc1 := 104) (EokI.iload (i := 7) dX12_row_102) (Aok.aI (pc1 := 106) (EokI.iload (i := 8) dX12_row_104) Aok.nil))) (kX12_mayCarry g) rfl ykX12_mayCarry vkX12_277 (by decide) (by decide) dX12_row_106) (JZ.neF (tgt := 164) dX12_row_109 (by decide))) (by decide) (Sok.seq (pc1 := 121) (Sok.sCallV (pc1 := 118) (Aok.aR (pc1 := 113) (EokR.aload_n (q := 0) dX12_row_112) (Aok.aI (pc1 := 115) (EokI.iload (i := 7) dX12_row_113) (Aok.aI (pc1 := 117) (EokI.iload (i := 8) dX12_row_115) (Aok.aI (pc1 := 118) (EokI.iconst (v := 1) dX12_row_117 (by decide)) Aok.nil)))) (by decide) (kX12_carries g) rfl ykX12_carries vkX12_284 (by decide) (by decide) dX12_row_118) (Sok.seq (pc1 := 155) (Sok.setI_n (q := 3) (pc1 := 154) (EokI.cond' (pc1 := 142) (pc2 := 153) (Cok.lcmp (pc1 := 134) (pc2 := 138) (pcT := 142) (pcF := 153) (EokL.bin (pc1 := 130) (pc2 := 133) (EokL.lALd (pc1 := 125) (pc2 := 129) (EokR.getf (pc1 := 122) (j := 21) (ci := 12) (T := TX12) (N := 27) (EokR.aload_n (q := 0) dX12_row_121) rfl wsX12_in (by decide) flX12_103 dX12_row_122) (EokI.iCallV (pc1 := 126) (Aok.aR (pc1 := 126) (EokR.aload_n (q := 0) dX12_row_125) Aok.nil) (kX12_numberNow g) rfl ykX12_numberNow vkX12_309 (by decide) (by decide) dX12_row_126) dX12_row_129) (EokL.ldc2 (v := 16) ckX12_325 dX12_row_130) (OPL.lrem dX12_row_133)) (EokL.bin (pc1 := 136) (pc2 := 137) (EokL.lload (i := 5) dX12_row_134) (EokL.lconst (v := 1) dX12_row_136 (by decide)) (OPL.lsub dX12_row_137)) (JL.eq dX12_row_138 (JZ.eqF (tgt := 153) dX12_row_139 (by decide)))) (EokI.goto (pc1 := 150) (pc2 := 154) (EokI.bin (pc1 := 147) (pc2 := 149) (EokI.bin (pc1 := 144) (pc2 := 146) (EokI.bipush (v := 8) dX12_row_142 (by decide)) (EokI.iload (i := 7) dX12_row_144) (OPI.imul dX12_row_146)) (EokI.iload (i := 8) dX12_row_147) (OPI.iadd dX12_row_149)) dX12_row_150 (by decide)) (EokI.iconst (v := (-1)) dX12_row_153 (by decide))) (by decide) dX12_row_154 (show 3 < 9 by decide)) (Sok.sCallV (pc1 := 161) (Aok.aR (pc1 := 156) (EokR.aload_n (q := 0) dX12_row_155) (Aok.aI (pc1 := 158) (EokI.iload (i := 7) dX12_row_156) (Aok.aI (pc1 := 160) (EokI.iload (i := 8) dX12_row_158) (Aok.aI (pc1 := 161) (EokI.iconst (v := (-1)) dX12_row_160 (by decide)) Aok.nil)))) (by decide) (kX12_carries g) rfl ykX12_carries vkX12_284 (by decide) (by decide) dX12_row_161))) (Sok.skip (pc := 164))) (Sok.goto (pc1 := 167) (pcN := 88) (Sok.iinc (i := 8) (v := 1) dX12_row_164 (show 8 < 9 by decide) (by decide)) dX12_row_167 (by decide)))
theorem olX12_row_2 (g : GT) {pcB pcC : Nat} : Sok g (tX12_row 6) 72 176 pcB pcC (lX12_row_2) := (Sok.loop (pc := 72) (pc1 := 85) (pc2 := 170) (pcN := 176) (Cok.and (pc1 := 81) (Cok.cmp (pc1 := 74) (pc2 := 78) (pcT := 81) (pcF := 176) (EokI.iload (i := 7) dX12_row_72) (EokI.iCallV (pc1 := 75) (Aok.aR (pc1 := 75) (EokR.aload_n (q := 0) dX12_row_74) Aok.nil) (kX12_huts g) rfl ykX12_huts vkX12_215 (by decide) (by decide) dX12_row_75) (JI.ltF (tgt := 176) dX12_row_78 (by decide))) (Cok.zero (pc1 := 82) (pcT := 85) (pcF := 176) (EokI.iload_n (q := 3) dX12_row_81) (JZ.ltF (tgt := 176) dX12_row_82 (by decide)))) (by decide) (Sok.seq (pc1 := 88) (Sok.setI (i := 8) (pc1 := 86) (EokI.iconst (v := 0) dX12_row_85 (by decide)) (by decide) dX12_row_86 (show 8 < 9 by decide)) (olX12_row_1 g )) (Sok.seq (pc1 := 170) Sok.forget (Sok.goto (pc1 := 173) (pcN := 72) (Sok.iinc (i := 7) (v := 1) dX12_row_170 (show 7 < 9 by decide) (by decide)) dX12_row_173 (by decide))))
theorem olX12_row_3 (g : GT) {pcB pcC : Nat} : Sok g (tX12_row 6) 46 195 pcB pcC (lX12_row_3) := (Sok.loop (pc := 46) (pc1 := 52) (pc2 := 189) (pcN := 195) (Cok.cmp (pc1 := 48) (pc2 := 49) (pcT := 52) (pcF := 195) (EokI.iload (i := 4) dX12_row_46) (EokI.iload_n (q := 2) dX12_row_48) (JI.leF (tgt := 195) dX12_row_49 (by decide))) (by decide) (Sok.seq (pc1 := 67) (Sok.setL (i := 5) (pc1 := 65) (EokL.bin (pc1 := 61) (pc2 := 64) (EokL.lALd (pc1 := 56) (pc2 := 60) (EokR.getf (pc1 := 53) (j := 21) (ci := 12) (T := TX12) (N := 27) (EokR.aload_n (q := 0) dX12_row_52) rfl wsX12_in (by decide) flX12_103 dX12_row_53) (EokI.iCallV (pc1 := 57) (Aok.aR (pc1 := 57) (EokR.aload_n (q := 0) dX12_row_56) Aok.nil) (kX12_numberNow g) rfl ykX12_numberNow vkX12_309 (by decide) (by decide) dX12_row_57) dX12_row_60) (EokL.ldc2 (v := 16) ckX12_325 dX12_row_61) (OPL.lrem dX12_row_64)) (by decide) dX12_row_65 (show 6 < 9 by decide)) (Sok.seq (pc1 := 69) (Sok.setI_n (q := 3) (pc1 := 68) (EokI.iconst (v := (-1)) dX12_row_67 (by decide)) (by decide) dX12_row_68 (show 3 < 9 by decide)) (Sok.seq (pc1 := 176) (Sok.seq (pc1 := 72) (Sok.setI (i := 7) (pc1 := 70) (EokI.iconst (v := 0) dX12_row_69 (by decide)) (by decide) dX12_row_70 (show 7 < 9 by decide)) (olX12_row_2 g )) (Sok.sCallV (pc1 := 186) (Aok.aR (pc1 := 177) (EokR.aload_n (q := 0) dX12_row_176) (Aok.aI (pc1 := 181) (EokI.bin (pc1 := 178) (pc2 := 180) (EokI.iload_n (q := 3) dX12_row_177) (EokI.bipush (v := 8) dX12_row_178 (by decide)) (OPI.idiv dX12_row_180)) (Aok.aI (pc1 := 185) (EokI.bin (pc1 := 182) (pc2 := 184) (EokI.iload_n (q := 3) dX12_row_181) (EokI.bipush (v := 8) dX12_row_182 (by decide)) (OPI.irem dX12_row_184)) (Aok.aI (pc1 := 186) (EokI.iconst (v := 1) dX12_row_185 (by decide)) Aok.nil)))) (by decide) (kX12_carries g) rfl ykX12_carries vkX12_284 (by decide) (by decide) dX12_row_186)))) (Sok.seq (pc1 := 189) Sok.forget (Sok.goto (pc1 := 192) (pcN := 46) (Sok.iinc (i := 4) (v := 1) dX12_row_189 (show 4 < 9 by decide) (by decide)) dX12_row_192 (by decide))))
def mX12_row : MX := bodyOf 9 (sSeq (sPutI 12 0 .int (rLoc 0) (iK 0)) (sSeq (sIf (cOr (cOr (cNot (cZ zne (iCallV 12 mX12_isHut (aR (rLoc 0) (aI (iLoc 1) aNil))))) (cZ zlt (iLoc 2))) (cL lge (lOfI (iLoc 2)) (lB gT2 (· - ·) (lB gNZL jlrem (lCallV 12 mX12_asked (aR (rLoc 0) (aI (iK 2) (aI (iLoc 1) aNil)))) (lK 16)) (lK 1)))) (sRetI (iK (-1))) sSkip) (sSeq (sCallV 12 mX12_laysNow (aR (rLoc 0) aNil)) (sSeq (sSetI 3 (iK (-1))) (sSeq (sSeq (sSeq (sSetI 4 (iK 0)) lX12_row_3) (sForget 4)) (sRetI (iLoc 3)))))))
theorem kX12_row (g : GT) : MK g 6 yX12_row cX12_row 9 (some .int) mX12_row := MK.of (pcN := 99999) (pcB := 0) (pcC := 0) rfl (Sok.seq (pc1 := 5) (Sok.putI (ci := 12) (T := TX12) (NN := 27) (tt := tyX12) (j := 0) (pc1 := 1) (pc2 := 2) (ty := .int) (EokR.aload_n (q := 0) dX12_row_0) (EokI.iconst (v := 0) dX12_row_1 (by decide)) (by decide) rfl wsX12_in tyX12_ok nmX12 (by decide) flX12_1 rfl rfl dX12_row_2) (Sok.seq (pc1 := 37) (Sok.ite (pc1 := 35) (pc2 := 37) (Cok.or (pc1 := 17) (Cok.or (pc1 := 13) (Cok.not (Cok.zero (pc1 := 10) (pcT := 13) (pcF := 35) (EokI.iCallV (pc1 := 7) (Aok.aR (pc1 := 6) (EokR.aload_n (q := 0) dX12_row_5) (Aok.aI (pc1 := 7) (EokI.iload_n (q := 1) dX12_row_6) Aok.nil)) (kX12_isHut g) rfl ykX12_isHut vkX12_264 (by decide) (by decide) dX12_row_7) (JZ.neF (tgt := 35) dX12_row_10 (by decide)))) (Cok.zero (pc1 := 14) (pcT := 35) (pcF := 17) (EokI.iload_n (q := 2) dX12_row_13) (JZ.ltT (tgt := 35) dX12_row_14 (by decide)))) (Cok.lcmp (pc1 := 19) (pc2 := 31) (pcT := 35) (pcF := 37) (EokL.i2l (pc1 := 18) (EokI.iload_n (q := 2) dX12_row_17) dX12_row_18) (EokL.bin (pc1 := 29) (pc2 := 30) (EokL.bin (pc1 := 25) (pc2 := 28) (EokL.lCallV (pc1 := 22) (Aok.aR (pc1 := 20) (EokR.aload_n (q := 0) dX12_row_19) (Aok.aI (pc1 := 21) (EokI.iconst (v := 2) dX12_row_20 (by decide)) (Aok.aI (pc1 := 22) (EokI.iload_n (q := 1) dX12_row_21) Aok.nil))) (kX12_asked g) rfl ykX12_asked vkX12_334 (by decide) (by decide) dX12_row_22) (EokL.ldc2 (v := 16) ckX12_325 dX12_row_25) (OPL.lrem dX12_row_28)) (EokL.lconst (v := 1) dX12_row_29 (by decide)) (OPL.lsub dX12_row_30)) (JL.ge dX12_row_31 (JZ.geF (tgt := 37) dX12_row_32 (by decide))))) (by decide) (Sok.retI (pc1 := 36) (EokI.iconst (v := (-1)) dX12_row_35 (by decide)) (by decide) dX12_row_36 rfl) (Sok.skip (pc := 37))) (Sok.seq (pc1 := 41) (Sok.sCallV (pc1 := 38) (Aok.aR (pc1 := 38) (EokR.aload_n (q := 0) dX12_row_37) Aok.nil) (by decide) (kX12_laysNow g) rfl ykX12_laysNow vkX12_271 (by decide) (by decide) dX12_row_38) (Sok.seq (pc1 := 43) (Sok.setI_n (q := 3) (pc1 := 42) (EokI.iconst (v := (-1)) dX12_row_41 (by decide)) (by decide) dX12_row_42 (show 3 < 9 by decide)) (Sok.seq (pc1 := 195) (Sok.seq (pc1 := 195) (Sok.seq (pc1 := 46) (Sok.setI (i := 4) (pc1 := 44) (EokI.iconst (v := 0) dX12_row_43 (by decide)) (by decide) dX12_row_44 (show 4 < 9 by decide)) (olX12_row_3 g )) (Sok.forget (pc := 195))) (Sok.retI (pc1 := 196) (EokI.iload_n (q := 3) dX12_row_195) (by decide) dX12_row_196 rfl))))))
/-! PassHutsModel.over(I)I -/
theorem dX12_over_0 : decode cX12_over 0 = .ok (.aload_n 0, 1) := by decide +kernel
theorem dX12_over_1 : decode cX12_over 1 = .ok (.iconst 0, 1) := by decide +kernel
theorem dX12_over_2 : decode cX12_over 2 = .ok (.putfield 1, 3) := by decide +kernel
theorem dX12_over_5 : decode cX12_over 5 = .ok (.aload_n 0, 1) := by decide +kernel
theorem dX12_over_6 : decode cX12_over 6 = .ok (.iload_n 1, 1) := by decide +kernel
theorem dX12_over_7 : decode cX12_over 7 = .ok (.invokevirtual 264, 3) := by decide +kernel
theorem dX12_over_10 : decode cX12_over 10 = .ok (.ifCond .eq 13, 3) := by decide +kernel
theorem dX12_over_13 : decode cX12_over 13 = .ok (.aload_n 0, 1) := by decide +kernel
theorem dX12_over_14 : decode cX12_over 14 = .ok (.iconst 4, 1) := by decide +kernel
theorem dX12_over_15 : decode cX12_over 15 = .ok (.iload_n 1, 1) := by decide +kernel
theorem dX12_over_16 : decode cX12_over 16 = .ok (.invokevirtual 334, 3) := by decide +kernel
theorem dX12_over_19 : decode cX12_over 19 = .ok (.l2i, 1) := by decide +kernel
theorem dX12_over_20 : decode cX12_over 20 = .ok (.goto 4, 3) := by decide +kernel
theorem dX12_over_23 : decode cX12_over 23 = .ok (.iconst 0, 1) := by decide +kernel
theorem dX12_over_24 : decode cX12_over 24 = .ok (.istore_n 2, 1) := by decide +kernel
theorem dX12_over_25 : decode cX12_over 25 = .ok (.iload_n 2, 1) := by decide +kernel
theorem dX12_over_26 : decode cX12_over 26 = .ok (.ifCond .ne 7, 3) := by decide +kernel
theorem dX12_over_29 : decode cX12_over 29 = .ok (.iconst (-1), 1) := by decide +kernel
theorem dX12_over_30 : decode cX12_over 30 = .ok (.goto 4, 3) := by decide +kernel
theorem dX12_over_33 : decode cX12_over 33 = .ok (.iload_n 2, 1) := by decide +kernel
theorem dX12_over_34 : decode cX12_over 34 = .ok (.ireturn, 1) := by decide +kernel
abbrev tX12_over (k : Nat) : MT := (RX12, cX12_over, 3, k, (some .int))
def mX12_over : MX := bodyOf 3 (sSeq (sPutI 12 0 .int (rLoc 0) (iK 0)) (sSeq (sSetI 2 (iCond (cZ zne (iCallV 12 mX12_isHut (aR (rLoc 0) (aI (iLoc 1) aNil)))) (iOfL (lCallV 12 mX12_asked (aR (rLoc 0) (aI (iK 4) (aI (iLoc 1) aNil))))) (iK 0))) (sRetI (iCond (cZ zeq (iLoc 2)) (iK (-1)) (iLoc 2)))))
theorem kX12_over (g : GT) : MK g 6 yX12_over cX12_over 3 (some .int) mX12_over := MK.of (pcN := 99999) (pcB := 0) (pcC := 0) rfl (Sok.seq (pc1 := 5) (Sok.putI (ci := 12) (T := TX12) (NN := 27) (tt := tyX12) (j := 0) (pc1 := 1) (pc2 := 2) (ty := .int) (EokR.aload_n (q := 0) dX12_over_0) (EokI.iconst (v := 0) dX12_over_1 (by decide)) (by decide) rfl wsX12_in tyX12_ok nmX12 (by decide) flX12_1 rfl rfl dX12_over_2) (Sok.seq (pc1 := 25) (Sok.setI_n (q := 2) (pc1 := 24) (EokI.cond' (pc1 := 13) (pc2 := 23) (Cok.zero (pc1 := 10) (pcT := 13) (pcF := 23) (EokI.iCallV (pc1 := 7) (Aok.aR (pc1 := 6) (EokR.aload_n (q := 0) dX12_over_5) (Aok.aI (pc1 := 7) (EokI.iload_n (q := 1) dX12_over_6) Aok.nil)) (kX12_isHut g) rfl ykX12_isHut vkX12_264 (by decide) (by decide) dX12_over_7) (JZ.neF (tgt := 23) dX12_over_10 (by decide))) (EokI.goto (pc1 := 20) (pc2 := 24) (EokI.l2i (pc1 := 19) (EokL.lCallV (pc1 := 16) (Aok.aR (pc1 := 14) (EokR.aload_n (q := 0) dX12_over_13) (Aok.aI (pc1 := 15) (EokI.iconst (v := 4) dX12_over_14 (by decide)) (Aok.aI (pc1 := 16) (EokI.iload_n (q := 1) dX12_over_15) Aok.nil))) (kX12_asked g) rfl ykX12_asked vkX12_334 (by decide) (by decide) dX12_over_16) dX12_over_19) dX12_over_20 (by decide)) (EokI.iconst (v := 0) dX12_over_23 (by decide))) (by decide) dX12_over_24 (show 2 < 3 by decide)) (Sok.retI (pc1 := 34) (EokI.cond' (pc1 := 29) (pc2 := 33) (Cok.zero (pc1 := 26) (pcT := 29) (pcF := 33) (EokI.iload_n (q := 2) dX12_over_25) (JZ.eqF (tgt := 33) dX12_over_26 (by decide))) (EokI.goto (pc1 := 30) (pc2 := 34) (EokI.iconst (v := (-1)) dX12_over_29 (by decide)) dX12_over_30 (by decide)) (EokI.iload_n (q := 2) dX12_over_33)) (by decide) dX12_over_34 rfl)))
/-! PassHutsModel.cover()I -/
theorem dX12_cover_0 : decode cX12_cover 0 = .ok (.aload_n 0, 1) := by decide +kernel
theorem dX12_cover_1 : decode cX12_cover 1 = .ok (.iconst 0, 1) := by decide +kernel
theorem dX12_cover_2 : decode cX12_cover 2 = .ok (.putfield 1, 3) := by decide +kernel
theorem dX12_cover_5 : decode cX12_cover 5 = .ok (.aload_n 0, 1) := by decide +kernel
theorem dX12_cover_6 : decode cX12_cover 6 = .ok (.iconst 5, 1) := by decide +kernel
theorem dX12_cover_7 : decode cX12_cover 7 = .ok (.iconst 1, 1) := by decide +kernel
theorem dX12_cover_8 : decode cX12_cover 8 = .ok (.aload_n 0, 1) := by decide +kernel
theorem dX12_cover_9 : decode cX12_cover 9 = .ok (.invokevirtual 215, 3) := by decide +kernel
theorem dX12_cover_12 : decode cX12_cover 12 = .ok (.ishl, 1) := by decide +kernel
theorem dX12_cover_13 : decode cX12_cover 13 = .ok (.iconst 1, 1) := by decide +kernel
theorem dX12_cover_14 : decode cX12_cover 14 = .ok (.isub, 1) := by decide +kernel
theorem dX12_cover_15 : decode cX12_cover 15 = .ok (.invokevirtual 334, 3) := by decide +kernel
theorem dX12_cover_18 : decode cX12_cover 18 = .ok (.l2i, 1) := by decide +kernel
theorem dX12_cover_19 : decode cX12_cover 19 = .ok (.iconst 1, 1) := by decide +kernel
theorem dX12_cover_20 : decode cX12_cover 20 = .ok (.isub, 1) := by decide +kernel
theorem dX12_cover_21 : decode cX12_cover 21 = .ok (.ireturn, 1) := by decide +kernel
abbrev tX12_cover (k : Nat) : MT := (RX12, cX12_cover, 1, k, (some .int))
def mX12_cover : MX := bodyOf 1 (sSeq (sPutI 12 0 .int (rLoc 0) (iK 0)) (sRetI (iB gT2 (· - ·) (iOfL (lCallV 12 mX12_asked (aR (rLoc 0) (aI (iK 5) (aI (iB gT2 (· - ·) (iB gT2 jshl (iK 1) (iCallV 12 mX12_huts (aR (rLoc 0) aNil))) (iK 1)) aNil))))) (iK 1))))
theorem kX12_cover (g : GT) : MK g 6 yX12_cover cX12_cover 1 (some .int) mX12_cover := MK.of (pcN := 99999) (pcB := 0) (pcC := 0) rfl (Sok.seq (pc1 := 5) (Sok.putI (ci := 12) (T := TX12) (NN := 27) (tt := tyX12) (j := 0) (pc1 := 1) (pc2 := 2) (ty := .int) (EokR.aload_n (q := 0) dX12_cover_0) (EokI.iconst (v := 0) dX12_cover_1 (by decide)) (by decide) rfl wsX12_in tyX12_ok nmX12 (by decide) flX12_1 rfl rfl dX12_cover_2) (Sok.retI (pc1 := 21) (EokI.bin (pc1 := 19) (pc2 := 20) (EokI.l2i (pc1 := 18) (EokL.lCallV (pc1 := 15) (Aok.aR (pc1 := 6) (EokR.aload_n (q := 0) dX12_cover_5) (Aok.aI (pc1 := 7) (EokI.iconst (v := 5) dX12_cover_6 (by decide)) (Aok.aI (pc1 := 15) (EokI.bin (pc1 := 13) (pc2 := 14) (EokI.bin (pc1 := 8) (pc2 := 12) (EokI.iconst (v := 1) dX12_cover_7 (by decide)) (EokI.iCallV (pc1 := 9) (Aok.aR (pc1 := 9) (EokR.aload_n (q := 0) dX12_cover_8) Aok.nil) (kX12_huts g) rfl ykX12_huts vkX12_215 (by decide) (by decide) dX12_cover_9) (OPI.ishl dX12_cover_12)) (EokI.iconst (v := 1) dX12_cover_13 (by decide)) (OPI.isub dX12_cover_14)) Aok.nil))) (kX12_asked g) rfl ykX12_asked vkX12_334 (by decide) (by decide) dX12_cover_15) dX12_cover_18) (EokI.iconst (v := 1) dX12_cover_19 (by decide)) (OPI.isub dX12_cover_20)) (by decide) dX12_cover_21 rfl))
/-! PassHutsModel.both(II)I -/
theorem dX12_both_0 : decode cX12_both 0 = .ok (.aload_n 0, 1) := by decide +kernel
theorem dX12_both_1 : decode cX12_both 1 = .ok (.iconst 0, 1) := by decide +kernel
theorem dX12_both_2 : decode cX12_both 2 = .ok (.putfield 1, 3) := by decide +kernel
theorem dX12_both_5 : decode cX12_both 5 = .ok (.aload_n 0, 1) := by decide +kernel
theorem dX12_both_6 : decode cX12_both 6 = .ok (.iload_n 1, 1) := by decide +kernel
theorem dX12_both_7 : decode cX12_both 7 = .ok (.invokevirtual 264, 3) := by decide +kernel
theorem dX12_both_10 : decode cX12_both 10 = .ok (.ifCond .eq 34, 3) := by decide +kernel
theorem dX12_both_13 : decode cX12_both 13 = .ok (.aload_n 0, 1) := by decide +kernel
theorem dX12_both_14 : decode cX12_both 14 = .ok (.iload_n 2, 1) := by decide +kernel
theorem dX12_both_15 : decode cX12_both 15 = .ok (.invokevirtual 264, 3) := by decide +kernel
theorem dX12_both_18 : decode cX12_both 18 = .ok (.ifCond .eq 26, 3) := by decide +kernel
theorem dX12_both_21 : decode cX12_both 21 = .ok (.iload_n 1, 1) := by decide +kernel
theorem dX12_both_22 : decode cX12_both 22 = .ok (.iload_n 2, 1) := by decide +kernel
theorem dX12_both_23 : decode cX12_both 23 = .ok (.if_icmp .eq 21, 3) := by decide +kernel
theorem dX12_both_26 : decode cX12_both 26 = .ok (.aload_n 0, 1) := by decide +kernel
theorem dX12_both_27 : decode cX12_both 27 = .ok (.iconst 5, 1) := by decide +kernel
theorem dX12_both_28 : decode cX12_both 28 = .ok (.iconst 1, 1) := by decide +kernel
theorem dX12_both_29 : decode cX12_both 29 = .ok (.iload_n 1, 1) := by decide +kernel
theorem dX12_both_30 : decode cX12_both 30 = .ok (.ishl, 1) := by decide +kernel
theorem dX12_both_31 : decode cX12_both 31 = .ok (.iconst 1, 1) := by decide +kernel
theorem dX12_both_32 : decode cX12_both 32 = .ok (.iload_n 2, 1) := by decide +kernel
theorem dX12_both_33 : decode cX12_both 33 = .ok (.ishl, 1) := by decide +kernel
theorem dX12_both_34 : decode cX12_both 34 = .ok (.ior, 1) := by decide +kernel
theorem dX12_both_35 : decode cX12_both 35 = .ok (.invokevirtual 334, 3) := by decide +kernel
theorem dX12_both_38 : decode cX12_both 38 = .ok (.l2i, 1) := by decide +kernel
theorem dX12_both_39 : decode cX12_both 39 = .ok (.iconst 1, 1) := by decide +kernel
theorem dX12_both_40 : decode cX12_both 40 = .ok (.isub, 1) := by decide +kernel
theorem dX12_both_41 : decode cX12_both 41 = .ok (.goto 4, 3) := by decide +kernel
theorem dX12_both_44 : decode cX12_both 44 = .ok (.iconst (-1), 1) := by decide +kernel
theorem dX12_both_45 : decode cX12_both 45 = .ok (.ireturn, 1) := by decide +kernel
abbrev tX12_both (k : Nat) : MT := (RX12, cX12_both, 3, k, (some .int))
def mX12_both : MX := bodyOf 3 (sSeq (sPutI 12 0 .int (rLoc 0) (iK 0)) (sRetI (iCond (cAnd (cAnd (cZ zne (iCallV 12 mX12_isHut (aR (rLoc 0) (aI (iLoc 1) aNil)))) (cZ zne (iCallV 12 mX12_isHut (aR (rLoc 0) (aI (iLoc 2) aNil))))) (cB rne (iLoc 1) (iLoc 2))) (iB gT2 (· - ·) (iOfL (lCallV 12 mX12_asked (aR (rLoc 0) (aI (iK 5) (aI (iB gT2 (· ||| ·) (iB gT2 jshl (iK 1) (iLoc 1)) (iB gT2 jshl (iK 1) (iLoc 2))) aNil))))) (iK 1)) (iK (-1)))))
theorem kX12_both (g : GT) : MK g 6 yX12_both cX12_both 3 (some .int) mX12_both := MK.of (pcN := 99999) (pcB := 0) (pcC := 0) rfl (Sok.seq (pc1 := 5) (Sok.putI (ci := 12) (T := TX12) (NN := 27) (tt := tyX12) (j := 0) (pc1 := 1) (pc2 := 2) (ty := .int) (EokR.aload_n (q := 0) dX12_both_0) (EokI.iconst (v := 0) dX12_both_1 (by decide)) (by decide) rfl wsX12_in tyX12_ok nmX12 (by decide) flX12_1 rfl rfl dX12_both_2) (Sok.retI (pc1 := 45) (EokI.cond' (pc1 := 26) (pc2 := 44) (Cok.and (pc1 := 21) (Cok.and (pc1 := 13) (Cok.zero (pc1 := 10) (pcT := 13) (pcF := 44) (EokI.iCallV (pc1 := 7) (Aok.aR (pc1 := 6) (EokR.aload_n (q := 0) dX12_both_5) (Aok.aI (pc1 := 7) (EokI.iload_n (q := 1) dX12_both_6) Aok.nil)) (kX12_isHut g) rfl ykX12_isHut vkX12_264 (by decide) (by decide) dX12_both_7) (JZ.neF (tgt := 44) dX12_both_10 (by decide))) (Cok.zero (pc1 := 18) (pcT := 21) (pcF := 44) (EokI.iCallV (pc1 := 15) (Aok.aR (pc1 := 14) (EokR.aload_n (q := 0) dX12_both_13) (Aok.aI (pc1 := 15) (EokI.iload_n (q := 2) dX12_both_14) Aok.nil)) (kX12_isHut g) rfl ykX12_isHut vkX12_264 (by decide) (by decide) dX12_both_15) (JZ.neF (tgt := 44) dX12_both_18 (by decide)))) (Cok.cmp (pc1 := 22) (pc2 := 23) (pcT := 26) (pcF := 44) (EokI.iload_n (q := 1) dX12_both_21) (EokI.iload_n (q := 2) dX12_both_22) (JI.neF (tgt := 44) dX12_both_23 (by decide)))) (EokI.goto (pc1 := 41) (pc2 := 45) (EokI.bin (pc1 := 39) (pc2 := 40) (EokI.l2i (pc1 := 38) (EokL.lCallV (pc1 := 35) (Aok.aR (pc1 := 27) (EokR.aload_n (q := 0) dX12_both_26) (Aok.aI (pc1 := 28) (EokI.iconst (v := 5) dX12_both_27 (by decide)) (Aok.aI (pc1 := 35) (EokI.bin (pc1 := 31) (pc2 := 34) (EokI.bin (pc1 := 29) (pc2 := 30) (EokI.iconst (v := 1) dX12_both_28 (by decide)) (EokI.iload_n (q := 1) dX12_both_29) (OPI.ishl dX12_both_30)) (EokI.bin (pc1 := 32) (pc2 := 33) (EokI.iconst (v := 1) dX12_both_31 (by decide)) (EokI.iload_n (q := 2) dX12_both_32) (OPI.ishl dX12_both_33)) (OPI.ior dX12_both_34)) Aok.nil))) (kX12_asked g) rfl ykX12_asked vkX12_334 (by decide) (by decide) dX12_both_35) dX12_both_38) (EokI.iconst (v := 1) dX12_both_39 (by decide)) (OPI.isub dX12_both_40)) dX12_both_41 (by decide)) (EokI.iconst (v := (-1)) dX12_both_44 (by decide))) (by decide) dX12_both_45 rfl))
/-! PassHutsModel.shrink(I)I -/
theorem dX12_shrink_0 : decode cX12_shrink 0 = .ok (.aload_n 0, 1) := by decide +kernel
theorem dX12_shrink_1 : decode cX12_shrink 1 = .ok (.iconst 0, 1) := by decide +kernel
theorem dX12_shrink_2 : decode cX12_shrink 2 = .ok (.putfield 1, 3) := by decide +kernel
theorem dX12_shrink_5 : decode cX12_shrink 5 = .ok (.iload_n 1, 1) := by decide +kernel
theorem dX12_shrink_6 : decode cX12_shrink 6 = .ok (.iconst 0, 1) := by decide +kernel
theorem dX12_shrink_7 : decode cX12_shrink 7 = .ok (.bipush 12, 2) := by decide +kernel
theorem dX12_shrink_9 : decode cX12_shrink 9 = .ok (.invokestatic 267, 3) := by decide +kernel
theorem dX12_shrink_12 : decode cX12_shrink 12 = .ok (.ifCond .eq 16, 3) := by decide +kernel
theorem dX12_shrink_15 : decode cX12_shrink 15 = .ok (.aload_n 0, 1) := by decide +kernel
theorem dX12_shrink_16 : decode cX12_shrink 16 = .ok (.bipush 8, 2) := by decide +kernel
theorem dX12_shrink_18 : decode cX12_shrink 18 = .ok (.iload_n 1, 1) := by decide +kernel
theorem dX12_shrink_19 : decode cX12_shrink 19 = .ok (.invokevirtual 334, 3) := by decide +kernel
theorem dX12_shrink_22 : decode cX12_shrink 22 = .ok (.l2i, 1) := by decide +kernel
theorem dX12_shrink_23 : decode cX12_shrink 23 = .ok (.iconst 1, 1) := by decide +kernel
theorem dX12_shrink_24 : decode cX12_shrink 24 = .ok (.isub, 1) := by decide +kernel
theorem dX12_shrink_25 : decode cX12_shrink 25 = .ok (.goto 4, 3) := by decide +kernel
theorem dX12_shrink_28 : decode cX12_shrink 28 = .ok (.iconst (-1), 1) := by decide +kernel
theorem dX12_shrink_29 : decode cX12_shrink 29 = .ok (.ireturn, 1) := by decide +kernel
abbrev tX12_shrink (k : Nat) : MT := (RX12, cX12_shrink, 2, k, (some .int))
def mX12_shrink : MX := bodyOf 2 (sSeq (sPutI 12 0 .int (rLoc 0) (iK 0)) (sRetI (iCond (cZ zne (iCallS mX12_within (aI (iLoc 1) (aI (iK 0) (aI (iK 12) aNil))))) (iB gT2 (· - ·) (iOfL (lCallV 12 mX12_asked (aR (rLoc 0) (aI (iK 8) (aI (iLoc 1) aNil))))) (iK 1)) (iK (-1)))))
theorem kX12_shrink (g : GT) : MK g 6 yX12_shrink cX12_shrink 2 (some .int) mX12_shrink := MK.of (pcN := 99999) (pcB := 0) (pcC := 0) rfl (Sok.seq (pc1 := 5) (Sok.putI (ci := 12) (T := TX12) (NN := 27) (tt := tyX12) (j := 0) (pc1 := 1) (pc2 := 2) (ty := .int) (EokR.aload_n (q := 0) dX12_shrink_0) (EokI.iconst (v := 0) dX12_shrink_1 (by decide)) (by decide) rfl wsX12_in tyX12_ok nmX12 (by decide) flX12_1 rfl rfl dX12_shrink_2) (Sok.retI (pc1 := 29) (EokI.cond' (pc1 := 15) (pc2 := 28) (Cok.zero (pc1 := 12) (pcT := 15) (pcF := 28) (EokI.iCallS (pc1 := 9) (Aok.aI (pc1 := 6) (EokI.iload_n (q := 1) dX12_shrink_5) (Aok.aI (pc1 := 7) (EokI.iconst (v := 0) dX12_shrink_6 (by decide)) (Aok.aI (pc1 := 9) (EokI.bipush (v := 12) dX12_shrink_7 (by decide)) Aok.nil))) (kX12_within g) ykX12_within skX12_267 (by decide) (by decide) dX12_shrink_9) (JZ.neF (tgt := 28) dX12_shrink_12 (by decide))) (EokI.goto (pc1 := 25) (pc2 := 29) (EokI.bin (pc1 := 23) (pc2 := 24) (EokI.l2i (pc1 := 22) (EokL.lCallV (pc1 := 19) (Aok.aR (pc1 := 16) (EokR.aload_n (q := 0) dX12_shrink_15) (Aok.aI (pc1 := 18) (EokI.bipush (v := 8) dX12_shrink_16 (by decide)) (Aok.aI (pc1 := 19) (EokI.iload_n (q := 1) dX12_shrink_18) Aok.nil))) (kX12_asked g) rfl ykX12_asked vkX12_334 (by decide) (by decide) dX12_shrink_19) dX12_shrink_22) (EokI.iconst (v := 1) dX12_shrink_23 (by decide)) (OPI.isub dX12_shrink_24)) dX12_shrink_25 (by decide)) (EokI.iconst (v := (-1)) dX12_shrink_28 (by decide))) (by decide) dX12_shrink_29 rfl))
/-! PassHutsModel.stuck()Z -/
theorem dX12_stuck_0 : decode cX12_stuck 0 = .ok (.aload_n 0, 1) := by decide +kernel
theorem dX12_stuck_1 : decode cX12_stuck 1 = .ok (.iconst 0, 1) := by decide +kernel
theorem dX12_stuck_2 : decode cX12_stuck 2 = .ok (.putfield 1, 3) := by decide +kernel
theorem dX12_stuck_5 : decode cX12_stuck 5 = .ok (.aload_n 0, 1) := by decide +kernel
theorem dX12_stuck_6 : decode cX12_stuck 6 = .ok (.bipush 6, 2) := by decide +kernel
theorem dX12_stuck_8 : decode cX12_stuck 8 = .ok (.iconst 0, 1) := by decide +kernel
theorem dX12_stuck_9 : decode cX12_stuck 9 = .ok (.invokevirtual 334, 3) := by decide +kernel
theorem dX12_stuck_12 : decode cX12_stuck 12 = .ok (.lconst 0, 1) := by decide +kernel
theorem dX12_stuck_13 : decode cX12_stuck 13 = .ok (.lcmp, 1) := by decide +kernel
theorem dX12_stuck_14 : decode cX12_stuck 14 = .ok (.ifCond .ne 7, 3) := by decide +kernel
theorem dX12_stuck_17 : decode cX12_stuck 17 = .ok (.iconst 1, 1) := by decide +kernel
theorem dX12_stuck_18 : decode cX12_stuck 18 = .ok (.goto 4, 3) := by decide +kernel
theorem dX12_stuck_21 : decode cX12_stuck 21 = .ok (.iconst 0, 1) := by decide +kernel
theorem dX12_stuck_22 : decode cX12_stuck 22 = .ok (.ireturn, 1) := by decide +kernel
abbrev tX12_stuck (k : Nat) : MT := (RX12, cX12_stuck, 1, k, (some .boolean))
def mX12_stuck : MX := bodyOf 1 (sSeq (sPutI 12 0 .int (rLoc 0) (iK 0)) (sRetZ (iBool (cL leq (lCallV 12 mX12_asked (aR (rLoc 0) (aI (iK 6) (aI (iK 0) aNil)))) (lK 0)))))
theorem kX12_stuck (g : GT) : MK g 6 yX12_stuck cX12_stuck 1 (some .boolean) mX12_stuck := MK.of (pcN := 99999) (pcB := 0) (pcC := 0) rfl (Sok.seq (pc1 := 5) (Sok.putI (ci := 12) (T := TX12) (NN := 27) (tt := tyX12) (j := 0) (pc1 := 1) (pc2 := 2) (ty := .int) (EokR.aload_n (q := 0) dX12_stuck_0) (EokI.iconst (v := 0) dX12_stuck_1 (by decide)) (by decide) rfl wsX12_in tyX12_ok nmX12 (by decide) flX12_1 rfl rfl dX12_stuck_2) (Sok.retZ (pc1 := 22) (EokI.cond' (pc1 := 17) (pc2 := 21) (Cok.lcmp (pc1 := 12) (pc2 := 13) (pcT := 17) (pcF := 21) (EokL.lCallV (pc1 := 9) (Aok.aR (pc1 := 6) (EokR.aload_n (q := 0) dX12_stuck_5) (Aok.aI (pc1 := 8) (EokI.bipush (v := 6) dX12_stuck_6 (by decide)) (Aok.aI (pc1 := 9) (EokI.iconst (v := 0) dX12_stuck_8 (by decide)) Aok.nil))) (kX12_asked g) rfl ykX12_asked vkX12_334 (by decide) (by decide) dX12_stuck_9) (EokL.lconst (v := 0) dX12_stuck_12 (by decide)) (JL.eq dX12_stuck_13 (JZ.eqF (tgt := 21) dX12_stuck_14 (by decide)))) (EokI.goto (pc1 := 18) (pc2 := 22) (EokI.iconst (v := 1) dX12_stuck_17 (by decide)) dX12_stuck_18 (by decide)) (EokI.iconst (v := 0) dX12_stuck_21 (by decide))) (by decide) dX12_stuck_22 rfl))
/-! PassHutsModel.longest()I -/
theorem dX12_longest_0 : decode cX12_longest 0 = .ok (.aload_n 0, 1) := by decide +kernel
theorem dX12_longest_1 : decode cX12_longest 1 = .ok (.iconst 0, 1) := by decide +kernel
theorem dX12_longest_2 : decode cX12_longest 2 = .ok (.putfield 1, 3) := by decide +kernel
theorem dX12_longest_5 : decode cX12_longest 5 = .ok (.aload_n 0, 1) := by decide +kernel
theorem dX12_longest_6 : decode cX12_longest 6 = .ok (.bipush 6, 2) := by decide +kernel
theorem dX12_longest_8 : decode cX12_longest 8 = .ok (.iconst 0, 1) := by decide +kernel
theorem dX12_longest_9 : decode cX12_longest 9 = .ok (.invokevirtual 334, 3) := by decide +kernel
theorem dX12_longest_12 : decode cX12_longest 12 = .ok (.l2i, 1) := by decide +kernel
theorem dX12_longest_13 : decode cX12_longest 13 = .ok (.ireturn, 1) := by decide +kernel
abbrev tX12_longest (k : Nat) : MT := (RX12, cX12_longest, 1, k, (some .int))
def mX12_longest : MX := bodyOf 1 (sSeq (sPutI 12 0 .int (rLoc 0) (iK 0)) (sRetI (iOfL (lCallV 12 mX12_asked (aR (rLoc 0) (aI (iK 6) (aI (iK 0) aNil)))))))
theorem kX12_longest (g : GT) : MK g 6 yX12_longest cX12_longest 1 (some .int) mX12_longest := MK.of (pcN := 99999) (pcB := 0) (pcC := 0) rfl (Sok.seq (pc1 := 5) (Sok.putI (ci := 12) (T := TX12) (NN := 27) (tt := tyX12) (j := 0) (pc1 := 1) (pc2 := 2) (ty := .int) (EokR.aload_n (q := 0) dX12_longest_0) (EokI.iconst (v := 0) dX12_longest_1 (by decide)) (by decide) rfl wsX12_in tyX12_ok nmX12 (by decide) flX12_1 rfl rfl dX12_longest_2) (Sok.retI (pc1 := 13) (EokI.l2i (pc1 := 12) (EokL.lCallV (pc1 := 9) (Aok.aR (pc1 := 6) (EokR.aload_n (q := 0) dX12_longest_5) (Aok.aI (pc1 := 8) (EokI.bipush (v := 6) dX12_longest_6 (by decide)) (Aok.aI (pc1 := 9) (EokI.iconst (v := 0) dX12_longest_8 (by decide)) Aok.nil))) (kX12_asked g) rfl ykX12_asked vkX12_334 (by decide) (by decide) dX12_longest_9) dX12_longest_12) (by decide) dX12_longest_13 rfl))
/-! PassHutsModel.marksOn()Z -/
theorem dX12_marksOn_0 : decode cX12_marksOn 0 = .ok (.iconst 0, 1) := by decide +kernel
theorem dX12_marksOn_1 : decode cX12_marksOn 1 = .ok (.istore_n 1, 1) := by decide +kernel
theorem dX12_marksOn_2 : decode cX12_marksOn 2 = .ok (.iconst 0, 1) := by decide +kernel
theorem dX12_marksOn_3 : decode cX12_marksOn 3 = .ok (.istore_n 2, 1) := by decide +kernel
theorem dX12_marksOn_4 : decode cX12_marksOn 4 = .ok (.iload_n 2, 1) := by decide +kernel
theorem dX12_marksOn_5 : decode cX12_marksOn 5 = .ok (.aload_n 0, 1) := by decide +kernel
theorem dX12_marksOn_6 : decode cX12_marksOn 6 = .ok (.invokevirtual 215, 3) := by decide +kernel
theorem dX12_marksOn_9 : decode cX12_marksOn 9 = .ok (.if_icmp .ge 60, 3) := by decide +kernel
theorem dX12_marksOn_12 : decode cX12_marksOn 12 = .ok (.iconst 0, 1) := by decide +kernel
theorem dX12_marksOn_13 : decode cX12_marksOn 13 = .ok (.istore_n 3, 1) := by decide +kernel
theorem dX12_marksOn_14 : decode cX12_marksOn 14 = .ok (.iload_n 3, 1) := by decide +kernel
theorem dX12_marksOn_15 : decode cX12_marksOn 15 = .ok (.aload_n 0, 1) := by decide +kernel
theorem dX12_marksOn_16 : decode cX12_marksOn 16 = .ok (.invokevirtual 215, 3) := by decide +kernel
theorem dX12_marksOn_19 : decode cX12_marksOn 19 = .ok (.if_icmp .ge 44, 3) := by decide +kernel
theorem dX12_marksOn_22 : decode cX12_marksOn 22 = .ok (.aload_n 0, 1) := by decide +kernel
theorem dX12_marksOn_23 : decode cX12_marksOn 23 = .ok (.iload_n 2, 1) := by decide +kernel
theorem dX12_marksOn_24 : decode cX12_marksOn 24 = .ok (.iload_n 3, 1) := by decide +kernel
theorem dX12_marksOn_25 : decode cX12_marksOn 25 = .ok (.invokevirtual 277, 3) := by decide +kernel
theorem dX12_marksOn_28 : decode cX12_marksOn 28 = .ok (.ifCond .eq 29, 3) := by decide +kernel
theorem dX12_marksOn_31 : decode cX12_marksOn 31 = .ok (.aload_n 0, 1) := by decide +kernel
theorem dX12_marksOn_32 : decode cX12_marksOn 32 = .ok (.iload_n 2, 1) := by decide +kernel
theorem dX12_marksOn_33 : decode cX12_marksOn 33 = .ok (.iload_n 3, 1) := by decide +kernel
theorem dX12_marksOn_34 : decode cX12_marksOn 34 = .ok (.iconst 1, 1) := by decide +kernel
theorem dX12_marksOn_35 : decode cX12_marksOn 35 = .ok (.invokevirtual 284, 3) := by decide +kernel
theorem dX12_marksOn_38 : decode cX12_marksOn 38 = .ok (.aload_n 0, 1) := by decide +kernel
theorem dX12_marksOn_39 : decode cX12_marksOn 39 = .ok (.getfield 103, 3) := by decide +kernel
theorem dX12_marksOn_42 : decode cX12_marksOn 42 = .ok (.aload_n 0, 1) := by decide +kernel
theorem dX12_marksOn_43 : decode cX12_marksOn 43 = .ok (.invokevirtual 309, 3) := by decide +kernel
theorem dX12_marksOn_46 : decode cX12_marksOn 46 = .ok (.lconst 1, 1) := by decide +kernel
theorem dX12_marksOn_47 : decode cX12_marksOn 47 = .ok (.lastore, 1) := by decide +kernel
theorem dX12_marksOn_48 : decode cX12_marksOn 48 = .ok (.aload_n 0, 1) := by decide +kernel
theorem dX12_marksOn_49 : decode cX12_marksOn 49 = .ok (.iload_n 2, 1) := by decide +kernel
theorem dX12_marksOn_50 : decode cX12_marksOn 50 = .ok (.iload_n 3, 1) := by decide +kernel
theorem dX12_marksOn_51 : decode cX12_marksOn 51 = .ok (.iconst (-1), 1) := by decide +kernel
theorem dX12_marksOn_52 : decode cX12_marksOn 52 = .ok (.invokevirtual 284, 3) := by decide +kernel
theorem dX12_marksOn_55 : decode cX12_marksOn 55 = .ok (.iconst 1, 1) := by decide +kernel
theorem dX12_marksOn_56 : decode cX12_marksOn 56 = .ok (.istore_n 1, 1) := by decide +kernel
theorem dX12_marksOn_57 : decode cX12_marksOn 57 = .ok (.iinc 3 1, 3) := by decide +kernel
theorem dX12_marksOn_60 : decode cX12_marksOn 60 = .ok (.goto (-46), 3) := by decide +kernel
theorem dX12_marksOn_63 : decode cX12_marksOn 63 = .ok (.iinc 2 1, 3) := by decide +kernel
theorem dX12_marksOn_66 : decode cX12_marksOn 66 = .ok (.goto (-62), 3) := by decide +kernel
theorem dX12_marksOn_69 : decode cX12_marksOn 69 = .ok (.iload_n 1, 1) := by decide +kernel
theorem dX12_marksOn_70 : decode cX12_marksOn 70 = .ok (.ireturn, 1) := by decide +kernel
abbrev tX12_marksOn (k : Nat) : MT := (RX12, cX12_marksOn, 4, k, (some .boolean))
def lX12_marksOn_1 : SX := (sLoop (cB rlt (iLoc 3) (iCallV 12 mX12_huts (aR (rLoc 0) aNil))) (sIf (cZ zne (iCallV 12 mX12_mayCarry (aR (rLoc 0) (aI (iLoc 2) (aI (iLoc 3) aNil))))) (sSeq (sCallV 12 mX12_carries (aR (rLoc 0) (aI (iLoc 2) (aI (iLoc 3) (aI (iK 1) aNil))))) (sSeq (sAStL (rGet 12 21 (rLoc 0)) (iCallV 12 mX12_numberNow (aR (rLoc 0) aNil)) (lK 1)) (sSeq (sCallV 12 mX12_carries (aR (rLoc 0) (aI (iLoc 2) (aI (iLoc 3) (aI (iK (-1)) aNil))))) (sSetI 1 (iK 1))))) sSkip) (sInc 3 1))
def lX12_marksOn_2 : SX := (sLoop (cB rlt (iLoc 2) (iCallV 12 mX12_huts (aR (rLoc 0) aNil))) (sSeq (sSetI 3 (iK 0)) lX12_marksOn_1) (sSeq (sForget 3) (sInc 2 1)))
theorem olX12_marksOn_1 (g : GT) {pcB pcC : Nat} : Sok g (tX12_marksOn 3) 14 63 pcB pcC (lX12_marksOn_1) := (Sok.loop (pc := 14) (pc1 := 22) (pc2 := 57) (pcN := 63) (Cok.cmp (pc1 := 15) (pc2 := 19) (pcT := 22) (pcF := 63) (EokI.iload_n (q := 3) dX12_marksOn_14) (EokI.iCallV (pc1 := 16) (Aok.aR (pc1 := 16) (EokR.aload_n (q := 0) dX12_marksOn_15) Aok.nil) (kX12_huts g) rfl ykX12_huts vkX12_215 (by decide) (by decide) dX12_marksOn_16) (JI.ltF (tgt := 63) dX12_marksOn_19 (by decide))) (by decide) (Sok.ite (pc1 := 31) (pc2 := 57) (Cok.zero (pc1 := 28) (pcT := 31) (pcF := 57) (EokI.iCallV (pc1 := 25) (Aok.aR (pc1 := 23) (EokR.aload_n (q := 0) dX12_marksOn_22) (Aok.aI (pc1 := 24) (EokI.iload_n (q := 2) dX12_marksOn_23) (Aok.aI (pc1 := 25) (EokI.iload_n (q := 3) dX12_marksOn_24) Aok.nil))) (kX12_mayCarry g) rfl ykX12_mayCarry vkX12_277 (by decide) (by decide) dX12_marksOn_25) (JZ.neF (tgt := 57) dX12_marksOn_28 (by decide))) (by decide) (Sok.seq (pc1 := 38) (Sok.sCallV (pc1 := 35) (Aok.aR (pc1 := 32) (EokR.aload_n (q := 0) dX12_marksOn_31) (Aok.aI (pc1 := 33) (EokI.iload_n (q := 2) dX12_marksOn_32) (Aok.aI (pc1 := 34) (EokI.iload_n (q := 3) dX12_marksOn_33) (Aok.aI (pc1 := 35) (EokI.iconst (v := 1) dX12_marksOn_34 (by decide)) Aok.nil)))) (by decide) (kX12_carries g) rfl ykX12_carries vkX12_284 (by decide) (by decide) dX12_marksOn_35) (Sok.seq (pc1 := 48) (Sok.lASt (pc1 := 42) (pc2 := 46) (pc3 := 47) (EokR.getf (pc1 := 39) (j := 21) (ci := 12) (T := TX12) (N := 27) (EokR.aload_n (q := 0) dX12_marksOn_38) rfl wsX12_in (by decide) flX12_103 dX12_marksOn_39) (EokI.iCallV (pc1 := 43) (Aok.aR (pc1 := 43) (EokR.aload_n (q := 0) dX12_marksOn_42) Aok.nil) (kX12_numberNow g) rfl ykX12_numberNow vkX12_309 (by decide) (by decide) dX12_marksOn_43) (EokL.lconst (v := 1) dX12_marksOn_46 (by decide)) (by decide) dX12_marksOn_47) (Sok.seq (pc1 := 55) (Sok.sCallV (pc1 := 52) (Aok.aR (pc1 := 49) (EokR.aload_n (q := 0) dX12_marksOn_48) (Aok.aI (pc1 := 50) (EokI.iload_n (q := 2) dX12_marksOn_49) (Aok.aI (pc1 := 51) (EokI.iload_n (q := 3) dX12_marksOn_50) (Aok.aI (pc1 := 52) (EokI.iconst (v := (-1)) dX12_marksOn_51 (by decide)) Aok.nil)))) (by decide) (kX12_carries g) rfl ykX12_carries vkX12_284 (by decide) (by decide) dX12_marksOn_52) (Sok.setI_n (q := 1) (pc1 := 56) (EokI.iconst (v := 1) dX12_marksOn_55 (by decide)) (by decide) dX12_marksOn_56 (show 1 < 4 by decide))))) (Sok.skip (pc := 57))) (Sok.goto (pc1 := 60) (pcN := 14) (Sok.iinc (i := 3) (v := 1) dX12_marksOn_57 (show 3 < 4 by decide) (by decide)) dX12_marksOn_60 (by decide)))
theorem olX12_marksOn_2 (g : GT) {pcB pcC : Nat} : Sok g (tX12_marksOn 3) 4 69 pcB pcC (lX12_marksOn_2) := (Sok.loop (pc := 4) (pc1 := 12) (pc2 := 63) (pcN := 69) (Cok.cmp (pc1 := 5) (pc2 := 9) (pcT := 12) (pcF := 69) (EokI.iload_n (q := 2) dX12_marksOn_4) (EokI.iCallV (pc1 := 6) (Aok.aR (pc1 := 6) (EokR.aload_n (q := 0) dX12_marksOn_5) Aok.nil) (kX12_huts g) rfl ykX12_huts vkX12_215 (by decide) (by decide) dX12_marksOn_6) (JI.ltF (tgt := 69) dX12_marksOn_9 (by decide))) (by decide) (Sok.seq (pc1 := 14) (Sok.setI_n (q := 3) (pc1 := 13) (EokI.iconst (v := 0) dX12_marksOn_12 (by decide)) (by decide) dX12_marksOn_13 (show 3 < 4 by decide)) (olX12_marksOn_1 g )) (Sok.seq (pc1 := 63) Sok.forget (Sok.goto (pc1 := 66) (pcN := 4) (Sok.iinc (i := 2) (v := 1) dX12_marksOn_63 (show 2 < 4 by decide) (by decide)) dX12_marksOn_66 (by decide))))
def mX12_marksOn : MX := bodyOf 4 (sSeq (sSetI 1 (iK 0)) (sSeq (sSeq (sSeq (sSetI 2 (iK 0)) lX12_marksOn_2) (sForget 2)) (sRetZ (iLoc 1))))
theorem kX12_marksOn (g : GT) : MK g 3 yX12_marksOn cX12_marksOn 4 (some .boolean) mX12_marksOn := MK.of (pcN := 99999) (pcB := 0) (pcC := 0) rfl (Sok.seq (pc1 := 2) (Sok.setI_n (q := 1) (pc1 := 1) (EokI.iconst (v := 0) dX12_marksOn_0 (by decide)) (by decide) dX12_marksOn_1 (show 1 < 4 by decide)) (Sok.seq (pc1 := 69) (Sok.seq (pc1 := 69) (Sok.seq (pc1 := 4) (Sok.setI_n (q := 2) (pc1 := 3) (EokI.iconst (v := 0) dX12_marksOn_2 (by decide)) (by decide) dX12_marksOn_3 (show 2 < 4 by decide)) (olX12_marksOn_2 g )) (Sok.forget (pc := 69))) (Sok.retZ (pc1 := 70) (EokI.iload_n (q := 1) dX12_marksOn_69) (by decide) dX12_marksOn_70 rfl)))
/-! PassHutsModel.ends()I -/
theorem dX12_ends_0 : decode cX12_ends 0 = .ok (.aload_n 0, 1) := by decide +kernel
theorem dX12_ends_1 : decode cX12_ends 1 = .ok (.iconst 0, 1) := by decide +kernel
theorem dX12_ends_2 : decode cX12_ends 2 = .ok (.putfield 1, 3) := by decide +kernel
theorem dX12_ends_5 : decode cX12_ends 5 = .ok (.aload_n 0, 1) := by decide +kernel
theorem dX12_ends_6 : decode cX12_ends 6 = .ok (.iconst 0, 1) := by decide +kernel
theorem dX12_ends_7 : decode cX12_ends 7 = .ok (.putfield 245, 3) := by decide +kernel
theorem dX12_ends_10 : decode cX12_ends 10 = .ok (.iconst 0, 1) := by decide +kernel
theorem dX12_ends_11 : decode cX12_ends 11 = .ok (.istore_n 1, 1) := by decide +kernel
theorem dX12_ends_12 : decode cX12_ends 12 = .ok (.iload_n 1, 1) := by decide +kernel
theorem dX12_ends_13 : decode cX12_ends 13 = .ok (.aload_n 0, 1) := by decide +kernel
theorem dX12_ends_14 : decode cX12_ends 14 = .ok (.invokevirtual 296, 3) := by decide +kernel
theorem dX12_ends_17 : decode cX12_ends 17 = .ok (.if_icmp .ge 16, 3) := by decide +kernel
theorem dX12_ends_20 : decode cX12_ends 20 = .ok (.aload_n 0, 1) := by decide +kernel
theorem dX12_ends_21 : decode cX12_ends 21 = .ok (.getfield 103, 3) := by decide +kernel
theorem dX12_ends_24 : decode cX12_ends 24 = .ok (.iload_n 1, 1) := by decide +kernel
theorem dX12_ends_25 : decode cX12_ends 25 = .ok (.lconst 0, 1) := by decide +kernel
theorem dX12_ends_26 : decode cX12_ends 26 = .ok (.lastore, 1) := by decide +kernel
theorem dX12_ends_27 : decode cX12_ends 27 = .ok (.iinc 1 1, 3) := by decide +kernel
theorem dX12_ends_30 : decode cX12_ends 30 = .ok (.goto (-18), 3) := by decide +kernel
theorem dX12_ends_33 : decode cX12_ends 33 = .ok (.aload_n 0, 1) := by decide +kernel
theorem dX12_ends_34 : decode cX12_ends 34 = .ok (.invokevirtual 271, 3) := by decide +kernel
theorem dX12_ends_37 : decode cX12_ends 37 = .ok (.aload_n 0, 1) := by decide +kernel
theorem dX12_ends_38 : decode cX12_ends 38 = .ok (.getfield 103, 3) := by decide +kernel
theorem dX12_ends_41 : decode cX12_ends 41 = .ok (.aload_n 0, 1) := by decide +kernel
theorem dX12_ends_42 : decode cX12_ends 42 = .ok (.invokevirtual 309, 3) := by decide +kernel
theorem dX12_ends_45 : decode cX12_ends 45 = .ok (.lconst 1, 1) := by decide +kernel
theorem dX12_ends_46 : decode cX12_ends 46 = .ok (.lastore, 1) := by decide +kernel
theorem dX12_ends_47 : decode cX12_ends 47 = .ok (.iconst 0, 1) := by decide +kernel
theorem dX12_ends_48 : decode cX12_ends 48 = .ok (.istore_n 1, 1) := by decide +kernel
theorem dX12_ends_49 : decode cX12_ends 49 = .ok (.bipush 12, 2) := by decide +kernel
theorem dX12_ends_51 : decode cX12_ends 51 = .ok (.istore_n 2, 1) := by decide +kernel
theorem dX12_ends_52 : decode cX12_ends 52 = .ok (.iload_n 2, 1) := by decide +kernel
theorem dX12_ends_53 : decode cX12_ends 53 = .ok (.ifCond .lt 64, 3) := by decide +kernel
theorem dX12_ends_56 : decode cX12_ends 56 = .ok (.iconst 0, 1) := by decide +kernel
theorem dX12_ends_57 : decode cX12_ends 57 = .ok (.istore_n 3, 1) := by decide +kernel
theorem dX12_ends_58 : decode cX12_ends 58 = .ok (.iload_n 3, 1) := by decide +kernel
theorem dX12_ends_59 : decode cX12_ends 59 = .ok (.aload_n 0, 1) := by decide +kernel
theorem dX12_ends_60 : decode cX12_ends 60 = .ok (.invokevirtual 296, 3) := by decide +kernel
theorem dX12_ends_63 : decode cX12_ends 63 = .ok (.if_icmp .ge 48, 3) := by decide +kernel
theorem dX12_ends_66 : decode cX12_ends 66 = .ok (.aload_n 0, 1) := by decide +kernel
theorem dX12_ends_67 : decode cX12_ends 67 = .ok (.iload_n 3, 1) := by decide +kernel
theorem dX12_ends_68 : decode cX12_ends 68 = .ok (.invokevirtual 299, 3) := by decide +kernel
theorem dX12_ends_71 : decode cX12_ends 71 = .ok (.iload_n 1, 1) := by decide +kernel
theorem dX12_ends_72 : decode cX12_ends 72 = .ok (.aload_n 0, 1) := by decide +kernel
theorem dX12_ends_73 : decode cX12_ends 73 = .ok (.getfield 103, 3) := by decide +kernel
theorem dX12_ends_76 : decode cX12_ends 76 = .ok (.iload_n 3, 1) := by decide +kernel
theorem dX12_ends_77 : decode cX12_ends 77 = .ok (.laload, 1) := by decide +kernel
theorem dX12_ends_78 : decode cX12_ends 78 = .ok (.lconst 1, 1) := by decide +kernel
theorem dX12_ends_79 : decode cX12_ends 79 = .ok (.lcmp, 1) := by decide +kernel
theorem dX12_ends_80 : decode cX12_ends 80 = .ok (.ifCond .ne 22, 3) := by decide +kernel
theorem dX12_ends_83 : decode cX12_ends 83 = .ok (.aload_n 0, 1) := by decide +kernel
theorem dX12_ends_84 : decode cX12_ends 84 = .ok (.invokevirtual 258, 3) := by decide +kernel
theorem dX12_ends_87 : decode cX12_ends 87 = .ok (.iload_n 2, 1) := by decide +kernel
theorem dX12_ends_88 : decode cX12_ends 88 = .ok (.if_icmp .ne 14, 3) := by decide +kernel
theorem dX12_ends_91 : decode cX12_ends 91 = .ok (.aload_n 0, 1) := by decide +kernel
theorem dX12_ends_92 : decode cX12_ends 92 = .ok (.invokevirtual 337, 3) := by decide +kernel
theorem dX12_ends_95 : decode cX12_ends 95 = .ok (.ifCond .ne 7, 3) := by decide +kernel
theorem dX12_ends_98 : decode cX12_ends 98 = .ok (.iconst 1, 1) := by decide +kernel
theorem dX12_ends_99 : decode cX12_ends 99 = .ok (.goto 4, 3) := by decide +kernel
theorem dX12_ends_102 : decode cX12_ends 102 = .ok (.iconst 0, 1) := by decide +kernel
theorem dX12_ends_103 : decode cX12_ends 103 = .ok (.iadd, 1) := by decide +kernel
theorem dX12_ends_104 : decode cX12_ends 104 = .ok (.istore_n 1, 1) := by decide +kernel
theorem dX12_ends_105 : decode cX12_ends 105 = .ok (.iinc 3 1, 3) := by decide +kernel
theorem dX12_ends_108 : decode cX12_ends 108 = .ok (.goto (-50), 3) := by decide +kernel
theorem dX12_ends_111 : decode cX12_ends 111 = .ok (.iinc 2 (-1), 3) := by decide +kernel
theorem dX12_ends_114 : decode cX12_ends 114 = .ok (.goto (-62), 3) := by decide +kernel
theorem dX12_ends_117 : decode cX12_ends 117 = .ok (.iload_n 1, 1) := by decide +kernel
theorem dX12_ends_118 : decode cX12_ends 118 = .ok (.ireturn, 1) := by decide +kernel
abbrev tX12_ends (k : Nat) : MT := (RX12, cX12_ends, 4, k, (some .int))
def lX12_ends_1 : SX := (sLoop (cB rlt (iLoc 1) (iCallV 12 mX12_allWays (aR (rLoc 0) aNil))) (sAStL (rGet 12 21 (rLoc 0)) (iLoc 1) (lK 0)) (sInc 1 1))
def lX12_ends_2 : SX := (sLoop (cB rlt (iLoc 3) (iCallV 12 mX12_allWays (aR (rLoc 0) aNil))) (sSeq (sCallV 12 mX12_lays (aR (rLoc 0) (aI (iLoc 3) aNil))) (sSetI 1 (iB gT2 (· + ·) (iLoc 1) (iCond (cAnd (cAnd (cL leq (lALd (rGet 12 21 (rLoc 0)) (iLoc 3)) (lK 1)) (cB req (iCallV 12 mX12_allLoads (aR (rLoc 0) aNil)) (iLoc 2))) (cNot (cZ zne (iCallV 12 mX12_marksOn (aR (rLoc 0) aNil))))) (iK 1) (iK 0))))) (sInc 3 1))
def lX12_ends_3 : SX := (sLoop (cZ zge (iLoc 2)) (sSeq (sSetI 3 (iK 0)) lX12_ends_2) (sSeq (sForget 3) (sInc 2 (-1))))
theorem olX12_ends_2 (g : GT) {pcB pcC : Nat} : Sok g (tX12_ends 4) 58 111 pcB pcC (lX12_ends_2) := (Sok.loop (pc := 58) (pc1 := 66) (pc2 := 105) (pcN := 111) (Cok.cmp (pc1 := 59) (pc2 := 63) (pcT := 66) (pcF := 111) (EokI.iload_n (q := 3) dX12_ends_58) (EokI.iCallV (pc1 := 60) (Aok.aR (pc1 := 60) (EokR.aload_n (q := 0) dX12_ends_59) Aok.nil) (kX12_allWays g) rfl ykX12_allWays vkX12_296 (by decide) (by decide) dX12_ends_60) (JI.ltF (tgt := 111) dX12_ends_63 (by decide))) (by decide) (Sok.seq (pc1 := 71) (Sok.sCallV (pc1 := 68) (Aok.aR (pc1 := 67) (EokR.aload_n (q := 0) dX12_ends_66) (Aok.aI (pc1 := 68) (EokI.iload_n (q := 3) dX12_ends_67) Aok.nil)) (by decide) (kX12_lays g) rfl ykX12_lays vkX12_299 (by decide) (by decide) dX12_ends_68) (Sok.setI_n (q := 1) (pc1 := 104) (EokI.bin (pc1 := 72) (pc2 := 103) (EokI.iload_n (q := 1) dX12_ends_71) (EokI.cond' (pc1 := 98) (pc2 := 102) (Cok.and (pc1 := 91) (Cok.and (pc1 := 83) (Cok.lcmp (pc1 := 78) (pc2 := 79) (pcT := 83) (pcF := 102) (EokL.lALd (pc1 := 76) (pc2 := 77) (EokR.getf (pc1 := 73) (j := 21) (ci := 12) (T := TX12) (N := 27) (EokR.aload_n (q := 0) dX12_ends_72) rfl wsX12_in (by decide) flX12_103 dX12_ends_73) (EokI.iload_n (q := 3) dX12_ends_76) dX12_ends_77) (EokL.lconst (v := 1) dX12_ends_78 (by decide)) (JL.eq dX12_ends_79 (JZ.eqF (tgt := 102) dX12_ends_80 (by decide)))) (Cok.cmp (pc1 := 87) (pc2 := 88) (pcT := 91) (pcF := 102) (EokI.iCallV (pc1 := 84) (Aok.aR (pc1 := 84) (EokR.aload_n (q := 0) dX12_ends_83) Aok.nil) (kX12_allLoads g) rfl ykX12_allLoads vkX12_258 (by decide) (by decide) dX12_ends_84) (EokI.iload_n (q := 2) dX12_ends_87) (JI.eqF (tgt := 102) dX12_ends_88 (by decide)))) (Cok.not (Cok.zero (pc1 := 95) (pcT := 102) (pcF := 98) (EokI.iCallV (pc1 := 92) (Aok.aR (pc1 := 92) (EokR.aload_n (q := 0) dX12_ends_91) Aok.nil) (kX12_marksOn g) rfl ykX12_marksOn vkX12_337 (by decide) (by decide) dX12_ends_92) (JZ.neT (tgt := 102) dX12_ends_95 (by decide))))) (EokI.goto (pc1 := 99) (pc2 := 103) (EokI.iconst (v := 1) dX12_ends_98 (by decide)) dX12_ends_99 (by decide)) (EokI.iconst (v := 0) dX12_ends_102 (by decide))) (OPI.iadd dX12_ends_103)) (by decide) dX12_ends_104 (show 1 < 4 by decide))) (Sok.goto (pc1 := 108) (pcN := 58) (Sok.iinc (i := 3) (v := 1) dX12_ends_105 (show 3 < 4 by decide) (by decide)) dX12_ends_108 (by decide)))
theorem olX12_ends_3 (g : GT) {pcB pcC : Nat} : Sok g (tX12_ends 4) 52 117 pcB pcC (lX12_ends_3) := (Sok.loop (pc := 52) (pc1 := 56) (pc2 := 111) (pcN := 117) (Cok.zero (pc1 := 53) (pcT := 56) (pcF := 117) (EokI.iload_n (q := 2) dX12_ends_52) (JZ.geF (tgt := 117) dX12_ends_53 (by decide))) (by decide) (Sok.seq (pc1 := 58) (Sok.setI_n (q := 3) (pc1 := 57) (EokI.iconst (v := 0) dX12_ends_56 (by decide)) (by decide) dX12_ends_57 (show 3 < 4 by decide)) (olX12_ends_2 g )) (Sok.seq (pc1 := 111) Sok.forget (Sok.goto (pc1 := 114) (pcN := 52) (Sok.iinc (i := 2) (v := (-1)) dX12_ends_111 (show 2 < 4 by decide) (by decide)) dX12_ends_114 (by decide))))
theorem olX12_ends_1 (g : GT) {pcB pcC : Nat} : Sok g (tX12_ends 4) 12 33 pcB pcC (lX12_ends_1) := (Sok.loop (pc := 12) (pc1 := 20) (pc2 := 27) (pcN := 33) (Cok.cmp (pc1 := 13) (pc2 := 17) (pcT := 20) (pcF := 33) (EokI.iload_n (q := 1) dX12_ends_12) (EokI.iCallV (pc1 := 14) (Aok.aR (pc1 := 14) (EokR.aload_n (q := 0) dX12_ends_13) Aok.nil) (kX12_allWays g) rfl ykX12_allWays vkX12_296 (by decide) (by decide) dX12_ends_14) (JI.ltF (tgt := 33) dX12_ends_17 (by decide))) (by decide) (Sok.lASt (pc1 := 24) (pc2 := 25) (pc3 := 26) (EokR.getf (pc1 := 21) (j := 21) (ci := 12) (T := TX12) (N := 27) (EokR.aload_n (q := 0) dX12_ends_20) rfl wsX12_in (by decide) flX12_103 dX12_ends_21) (EokI.iload_n (q := 1) dX12_ends_24) (EokL.lconst (v := 0) dX12_ends_25 (by decide)) (by decide) dX12_ends_26) (Sok.goto (pc1 := 30) (pcN := 12) (Sok.iinc (i := 1) (v := 1) dX12_ends_27 (show 1 < 4 by decide) (by decide)) dX12_ends_30 (by decide)))
def mX12_ends : MX := bodyOf 4 (sSeq (sPutI 12 0 .int (rLoc 0) (iK 0)) (sSeq (sPutI 12 22 .int (rLoc 0) (iK 0)) (sSeq (sSeq (sSeq (sSetI 1 (iK 0)) lX12_ends_1) (sForget 1)) (sSeq (sCallV 12 mX12_laysNow (aR (rLoc 0) aNil)) (sSeq (sAStL (rGet 12 21 (rLoc 0)) (iCallV 12 mX12_numberNow (aR (rLoc 0) aNil)) (lK 1)) (sSeq (sSetI 1 (iK 0)) (sSeq (sSeq (sSeq (sSetI 2 (iK 12)) lX12_ends_3) (sForget 2)) (sRetI (iLoc 1)))))))))
theorem kX12_ends (g : GT) : MK g 4 yX12_ends cX12_ends 4 (some .int) mX12_ends := MK.of (pcN := 99999) (pcB := 0) (pcC := 0) rfl (Sok.seq (pc1 := 5) (Sok.putI (ci := 12) (T := TX12) (NN := 27) (tt := tyX12) (j := 0) (pc1 := 1) (pc2 := 2) (ty := .int) (EokR.aload_n (q := 0) dX12_ends_0) (EokI.iconst (v := 0) dX12_ends_1 (by decide)) (by decide) rfl wsX12_in tyX12_ok nmX12 (by decide) flX12_1 rfl rfl dX12_ends_2) (Sok.seq (pc1 := 10) (Sok.putI (ci := 12) (T := TX12) (NN := 27) (tt := tyX12) (j := 22) (pc1 := 6) (pc2 := 7) (ty := .int) (EokR.aload_n (q := 0) dX12_ends_5) (EokI.iconst (v := 0) dX12_ends_6 (by decide)) (by decide) rfl wsX12_in tyX12_ok nmX12 (by decide) flX12_245 rfl rfl dX12_ends_7) (Sok.seq (pc1 := 33) (Sok.seq (pc1 := 33) (Sok.seq (pc1 := 12) (Sok.setI_n (q := 1) (pc1 := 11) (EokI.iconst (v := 0) dX12_ends_10 (by decide)) (by decide) dX12_ends_11 (show 1 < 4 by decide)) (olX12_ends_1 g )) (Sok.forget (pc := 33))) (Sok.seq (pc1 := 37) (Sok.sCallV (pc1 := 34) (Aok.aR (pc1 := 34) (EokR.aload_n (q := 0) dX12_ends_33) Aok.nil) (by decide) (kX12_laysNow g) rfl ykX12_laysNow vkX12_271 (by decide) (by decide) dX12_ends_34) (Sok.seq (pc1 := 47) (Sok.lASt (pc1 := 41) (pc2 := 45) (pc3 := 46) (EokR.getf (pc1 := 38) (j := 21) (ci := 12) (T := TX12) (N := 27) (EokR.aload_n (q := 0) dX12_ends_37) rfl wsX12_in (by decide) flX12_103 dX12_ends_38) (EokI.iCallV (pc1 := 42) (Aok.aR (pc1 := 42) (EokR.aload_n (q := 0) dX12_ends_41) Aok.nil) (kX12_numberNow g) rfl ykX12_numberNow vkX12_309 (by decide) (by decide) dX12_ends_42) (EokL.lconst (v := 1) dX12_ends_45 (by decide)) (by decide) dX12_ends_46) (Sok.seq (pc1 := 49) (Sok.setI_n (q := 1) (pc1 := 48) (EokI.iconst (v := 0) dX12_ends_47 (by decide)) (by decide) dX12_ends_48 (show 1 < 4 by decide)) (Sok.seq (pc1 := 117) (Sok.seq (pc1 := 117) (Sok.seq (pc1 := 52) (Sok.setI_n (q := 2) (pc1 := 51) (EokI.bipush (v := 12) dX12_ends_49 (by decide)) (by decide) dX12_ends_51 (show 2 < 4 by decide)) (olX12_ends_3 g )) (Sok.forget (pc := 117))) (Sok.retI (pc1 := 118) (EokI.iload_n (q := 1) dX12_ends_117) (by decide) dX12_ends_118 rfl))))))))
/-! PassHutsModel.laysAlone(I)V -/
theorem dX12_laysAlone_0 : decode cX12_laysAlone 0 = .ok (.aload_n 0, 1) := by decide +kernel
theorem dX12_laysAlone_1 : decode cX12_laysAlone 1 = .ok (.invokevirtual 271, 3) := by decide +kernel
theorem dX12_laysAlone_4 : decode cX12_laysAlone 4 = .ok (.iconst 0, 1) := by decide +kernel
theorem dX12_laysAlone_5 : decode cX12_laysAlone 5 = .ok (.istore_n 2, 1) := by decide +kernel
theorem dX12_laysAlone_6 : decode cX12_laysAlone 6 = .ok (.iload_n 2, 1) := by decide +kernel
theorem dX12_laysAlone_7 : decode cX12_laysAlone 7 = .ok (.iconst 5, 1) := by decide +kernel
theorem dX12_laysAlone_8 : decode cX12_laysAlone 8 = .ok (.if_icmp .ge 30, 3) := by decide +kernel
theorem dX12_laysAlone_11 : decode cX12_laysAlone 11 = .ok (.aload_n 0, 1) := by decide +kernel
theorem dX12_laysAlone_12 : decode cX12_laysAlone 12 = .ok (.getfield 100, 3) := by decide +kernel
theorem dX12_laysAlone_15 : decode cX12_laysAlone 15 = .ok (.iload_n 2, 1) := by decide +kernel
theorem dX12_laysAlone_16 : decode cX12_laysAlone 16 = .ok (.iload_n 2, 1) := by decide +kernel
theorem dX12_laysAlone_17 : decode cX12_laysAlone 17 = .ok (.iload_n 1, 1) := by decide +kernel
theorem dX12_laysAlone_18 : decode cX12_laysAlone 18 = .ok (.if_icmp .ne 12, 3) := by decide +kernel
theorem dX12_laysAlone_21 : decode cX12_laysAlone 21 = .ok (.aload_n 0, 1) := by decide +kernel
theorem dX12_laysAlone_22 : decode cX12_laysAlone 22 = .ok (.getfield 100, 3) := by decide +kernel
theorem dX12_laysAlone_25 : decode cX12_laysAlone 25 = .ok (.iload_n 2, 1) := by decide +kernel
theorem dX12_laysAlone_26 : decode cX12_laysAlone 26 = .ok (.iaload, 1) := by decide +kernel
theorem dX12_laysAlone_27 : decode cX12_laysAlone 27 = .ok (.goto 4, 3) := by decide +kernel
theorem dX12_laysAlone_30 : decode cX12_laysAlone 30 = .ok (.iconst 0, 1) := by decide +kernel
theorem dX12_laysAlone_31 : decode cX12_laysAlone 31 = .ok (.iastore, 1) := by decide +kernel
theorem dX12_laysAlone_32 : decode cX12_laysAlone 32 = .ok (.iinc 2 1, 3) := by decide +kernel
theorem dX12_laysAlone_35 : decode cX12_laysAlone 35 = .ok (.goto (-29), 3) := by decide +kernel
theorem dX12_laysAlone_38 : decode cX12_laysAlone 38 = .ok (.return_, 1) := by decide +kernel
abbrev tX12_laysAlone (k : Nat) : MT := (RX12, cX12_laysAlone, 3, k, none)
def lX12_laysAlone_1 : SX := (sLoop (cB rlt (iLoc 2) (iK 5)) (sASt 0 narI (rGet 12 20 (rLoc 0)) (iLoc 2) (iCond (cB req (iLoc 2) (iLoc 1)) (iALd (rGet 12 20 (rLoc 0)) (iLoc 2)) (iK 0))) (sInc 2 1))
theorem olX12_laysAlone_1 (g : GT) {pcB pcC : Nat} : Sok g (tX12_laysAlone 1) 6 38 pcB pcC (lX12_laysAlone_1) := (Sok.loop (pc := 6) (pc1 := 11) (pc2 := 32) (pcN := 38) (Cok.cmp (pc1 := 7) (pc2 := 8) (pcT := 11) (pcF := 38) (EokI.iload_n (q := 2) dX12_laysAlone_6) (EokI.iconst (v := 5) dX12_laysAlone_7 (by decide)) (JI.ltF (tgt := 38) dX12_laysAlone_8 (by decide))) (by decide) (Sok.iASt (pc1 := 15) (pc2 := 16) (pc3 := 31) (EokR.getf (pc1 := 12) (j := 20) (ci := 12) (T := TX12) (N := 27) (EokR.aload_n (q := 0) dX12_laysAlone_11) rfl wsX12_in (by decide) flX12_100 dX12_laysAlone_12) (EokI.iload_n (q := 2) dX12_laysAlone_15) (EokI.cond' (pc1 := 21) (pc2 := 30) (Cok.cmp (pc1 := 17) (pc2 := 18) (pcT := 21) (pcF := 30) (EokI.iload_n (q := 2) dX12_laysAlone_16) (EokI.iload_n (q := 1) dX12_laysAlone_17) (JI.eqF (tgt := 30) dX12_laysAlone_18 (by decide))) (EokI.goto (pc1 := 27) (pc2 := 31) (EokI.iALd (pc1 := 25) (pc2 := 26) (EokR.getf (pc1 := 22) (j := 20) (ci := 12) (T := TX12) (N := 27) (EokR.aload_n (q := 0) dX12_laysAlone_21) rfl wsX12_in (by decide) flX12_100 dX12_laysAlone_22) (EokI.iload_n (q := 2) dX12_laysAlone_25) dX12_laysAlone_26) dX12_laysAlone_27 (by decide)) (EokI.iconst (v := 0) dX12_laysAlone_30 (by decide))) (by decide) dX12_laysAlone_31) (Sok.goto (pc1 := 35) (pcN := 6) (Sok.iinc (i := 2) (v := 1) dX12_laysAlone_32 (show 2 < 3 by decide) (by decide)) dX12_laysAlone_35 (by decide)))
def mX12_laysAlone : MX := bodyOf 3 (sSeq (sSeq (sCallV 12 mX12_laysNow (aR (rLoc 0) aNil)) (sSeq (sSeq (sSetI 2 (iK 0)) lX12_laysAlone_1) (sForget 2))) sRetV)
theorem kX12_laysAlone (g : GT) : MK g 1 yX12_laysAlone cX12_laysAlone 3 none mX12_laysAlone := MK.of (pcN := 99999) (pcB := 0) (pcC := 0) rfl (Sok.seq (pc1 := 38) (Sok.seq (pc1 := 4) (Sok.sCallV (pc1 := 1) (Aok.aR (pc1 := 1) (EokR.aload_n (q := 0) dX12_laysAlone_0) Aok.nil) (by decide) (kX12_laysNow g) rfl ykX12_laysNow vkX12_271 (by decide) (by decide) dX12_laysAlone_1) (Sok.seq (pc1 := 38) (Sok.seq (pc1 := 6) (Sok.setI_n (q := 2) (pc1 := 5) (EokI.iconst (v := 0) dX12_laysAlone_4 (by decide)) (by decide) dX12_laysAlone_5 (show 2 < 3 by decide)) (olX12_laysAlone_1 g )) (Sok.forget (pc := 38)))) (Sok.retV dX12_laysAlone_38 rfl))
/-! PassHutsModel.alone(II)I -/
theorem dX12_alone_0 : decode cX12_alone 0 = .ok (.aload_n 0, 1) := by decide +kernel
theorem dX12_alone_1 : decode cX12_alone 1 = .ok (.iconst 0, 1) := by decide +kernel
theorem dX12_alone_2 : decode cX12_alone 2 = .ok (.putfield 1, 3) := by decide +kernel
theorem dX12_alone_5 : decode cX12_alone 5 = .ok (.aload_n 0, 1) := by decide +kernel
theorem dX12_alone_6 : decode cX12_alone 6 = .ok (.iload_n 1, 1) := by decide +kernel
theorem dX12_alone_7 : decode cX12_alone 7 = .ok (.invokevirtual 264, 3) := by decide +kernel
theorem dX12_alone_10 : decode cX12_alone 10 = .ok (.ifCond .eq 11, 3) := by decide +kernel
theorem dX12_alone_13 : decode cX12_alone 13 = .ok (.aload_n 0, 1) := by decide +kernel
theorem dX12_alone_14 : decode cX12_alone 14 = .ok (.iload_n 2, 1) := by decide +kernel
theorem dX12_alone_15 : decode cX12_alone 15 = .ok (.invokevirtual 264, 3) := by decide +kernel
theorem dX12_alone_18 : decode cX12_alone 18 = .ok (.ifCond .ne 5, 3) := by decide +kernel
theorem dX12_alone_21 : decode cX12_alone 21 = .ok (.iconst (-1), 1) := by decide +kernel
theorem dX12_alone_22 : decode cX12_alone 22 = .ok (.ireturn, 1) := by decide +kernel
theorem dX12_alone_23 : decode cX12_alone 23 = .ok (.aload_n 0, 1) := by decide +kernel
theorem dX12_alone_24 : decode cX12_alone 24 = .ok (.iconst 3, 1) := by decide +kernel
theorem dX12_alone_25 : decode cX12_alone 25 = .ok (.iload_n 2, 1) := by decide +kernel
theorem dX12_alone_26 : decode cX12_alone 26 = .ok (.invokevirtual 331, 3) := by decide +kernel
theorem dX12_alone_29 : decode cX12_alone 29 = .ok (.aload_n 0, 1) := by decide +kernel
theorem dX12_alone_30 : decode cX12_alone 30 = .ok (.iload_n 1, 1) := by decide +kernel
theorem dX12_alone_31 : decode cX12_alone 31 = .ok (.invokevirtual 340, 3) := by decide +kernel
theorem dX12_alone_34 : decode cX12_alone 34 = .ok (.aload_n 0, 1) := by decide +kernel
theorem dX12_alone_35 : decode cX12_alone 35 = .ok (.getfield 103, 3) := by decide +kernel
theorem dX12_alone_38 : decode cX12_alone 38 = .ok (.aload_n 0, 1) := by decide +kernel
theorem dX12_alone_39 : decode cX12_alone 39 = .ok (.invokevirtual 309, 3) := by decide +kernel
theorem dX12_alone_42 : decode cX12_alone 42 = .ok (.laload, 1) := by decide +kernel
theorem dX12_alone_43 : decode cX12_alone 43 = .ok (.l2i, 1) := by decide +kernel
theorem dX12_alone_44 : decode cX12_alone 44 = .ok (.ireturn, 1) := by decide +kernel
abbrev tX12_alone (k : Nat) : MT := (RX12, cX12_alone, 3, k, (some .int))
def mX12_alone : MX := bodyOf 3 (sSeq (sPutI 12 0 .int (rLoc 0) (iK 0)) (sSeq (sIf (cOr (cNot (cZ zne (iCallV 12 mX12_isHut (aR (rLoc 0) (aI (iLoc 1) aNil))))) (cNot (cZ zne (iCallV 12 mX12_isHut (aR (rLoc 0) (aI (iLoc 2) aNil)))))) (sRetI (iK (-1))) sSkip) (sSeq (sCallV 12 mX12_fills (aR (rLoc 0) (aI (iK 3) (aI (iLoc 2) aNil)))) (sSeq (sCallV 12 mX12_laysAlone (aR (rLoc 0) (aI (iLoc 1) aNil))) (sRetI (iOfL (lALd (rGet 12 21 (rLoc 0)) (iCallV 12 mX12_numberNow (aR (rLoc 0) aNil)))))))))
theorem kX12_alone (g : GT) : MK g 5 yX12_alone cX12_alone 3 (some .int) mX12_alone := MK.of (pcN := 99999) (pcB := 0) (pcC := 0) rfl (Sok.seq (pc1 := 5) (Sok.putI (ci := 12) (T := TX12) (NN := 27) (tt := tyX12) (j := 0) (pc1 := 1) (pc2 := 2) (ty := .int) (EokR.aload_n (q := 0) dX12_alone_0) (EokI.iconst (v := 0) dX12_alone_1 (by decide)) (by decide) rfl wsX12_in tyX12_ok nmX12 (by decide) flX12_1 rfl rfl dX12_alone_2) (Sok.seq (pc1 := 23) (Sok.ite (pc1 := 21) (pc2 := 23) (Cok.or (pc1 := 13) (Cok.not (Cok.zero (pc1 := 10) (pcT := 13) (pcF := 21) (EokI.iCallV (pc1 := 7) (Aok.aR (pc1 := 6) (EokR.aload_n (q := 0) dX12_alone_5) (Aok.aI (pc1 := 7) (EokI.iload_n (q := 1) dX12_alone_6) Aok.nil)) (kX12_isHut g) rfl ykX12_isHut vkX12_264 (by decide) (by decide) dX12_alone_7) (JZ.neF (tgt := 21) dX12_alone_10 (by decide)))) (Cok.not (Cok.zero (pc1 := 18) (pcT := 23) (pcF := 21) (EokI.iCallV (pc1 := 15) (Aok.aR (pc1 := 14) (EokR.aload_n (q := 0) dX12_alone_13) (Aok.aI (pc1 := 15) (EokI.iload_n (q := 2) dX12_alone_14) Aok.nil)) (kX12_isHut g) rfl ykX12_isHut vkX12_264 (by decide) (by decide) dX12_alone_15) (JZ.neT (tgt := 23) dX12_alone_18 (by decide))))) (by decide) (Sok.retI (pc1 := 22) (EokI.iconst (v := (-1)) dX12_alone_21 (by decide)) (by decide) dX12_alone_22 rfl) (Sok.skip (pc := 23))) (Sok.seq (pc1 := 29) (Sok.sCallV (pc1 := 26) (Aok.aR (pc1 := 24) (EokR.aload_n (q := 0) dX12_alone_23) (Aok.aI (pc1 := 25) (EokI.iconst (v := 3) dX12_alone_24 (by decide)) (Aok.aI (pc1 := 26) (EokI.iload_n (q := 2) dX12_alone_25) Aok.nil))) (by decide) (kX12_fills g) rfl ykX12_fills vkX12_331 (by decide) (by decide) dX12_alone_26) (Sok.seq (pc1 := 34) (Sok.sCallV (pc1 := 31) (Aok.aR (pc1 := 30) (EokR.aload_n (q := 0) dX12_alone_29) (Aok.aI (pc1 := 31) (EokI.iload_n (q := 1) dX12_alone_30) Aok.nil)) (by decide) (kX12_laysAlone g) rfl ykX12_laysAlone vkX12_340 (by decide) (by decide) dX12_alone_31) (Sok.retI (pc1 := 44) (EokI.l2i (pc1 := 43) (EokL.lALd (pc1 := 38) (pc2 := 42) (EokR.getf (pc1 := 35) (j := 21) (ci := 12) (T := TX12) (N := 27) (EokR.aload_n (q := 0) dX12_alone_34) rfl wsX12_in (by decide) flX12_103 dX12_alone_35) (EokI.iCallV (pc1 := 39) (Aok.aR (pc1 := 39) (EokR.aload_n (q := 0) dX12_alone_38) Aok.nil) (kX12_numberNow g) rfl ykX12_numberNow vkX12_309 (by decide) (by decide) dX12_alone_39) dX12_alone_42) dX12_alone_43) (by decide) dX12_alone_44 rfl)))))
/-! PassHutsModel.comesTo()I -/
theorem dX12_comesTo_0 : decode cX12_comesTo 0 = .ok (.aload_n 0, 1) := by decide +kernel
theorem dX12_comesTo_1 : decode cX12_comesTo 1 = .ok (.getfield 103, 3) := by decide +kernel
theorem dX12_comesTo_4 : decode cX12_comesTo 4 = .ok (.aload_n 0, 1) := by decide +kernel
theorem dX12_comesTo_5 : decode cX12_comesTo 5 = .ok (.invokevirtual 309, 3) := by decide +kernel
theorem dX12_comesTo_8 : decode cX12_comesTo 8 = .ok (.laload, 1) := by decide +kernel
theorem dX12_comesTo_9 : decode cX12_comesTo 9 = .ok (.l2i, 1) := by decide +kernel
theorem dX12_comesTo_10 : decode cX12_comesTo 10 = .ok (.ireturn, 1) := by decide +kernel
abbrev tX12_comesTo (k : Nat) : MT := (RX12, cX12_comesTo, 1, k, (some .int))
def mX12_comesTo : MX := bodyOf 1 (sRetI (iOfL (lALd (rGet 12 21 (rLoc 0)) (iCallV 12 mX12_numberNow (aR (rLoc 0) aNil)))))
theorem kX12_comesTo (g : GT) : MK g 2 yX12_comesTo cX12_comesTo 1 (some .int) mX12_comesTo := MK.of (pcN := 99999) (pcB := 0) (pcC := 0) rfl (Sok.retI (pc1 := 10) (EokI.l2i (pc1 := 9) (EokL.lALd (pc1 := 4) (pc2 := 8) (EokR.getf (pc1 := 1) (j := 21) (ci := 12) (T := TX12) (N := 27) (EokR.aload_n (q := 0) dX12_comesTo_0) rfl wsX12_in (by decide) flX12_103 dX12_comesTo_1) (EokI.iCallV (pc1 := 5) (Aok.aR (pc1 := 5) (EokR.aload_n (q := 0) dX12_comesTo_4) Aok.nil) (kX12_numberNow g) rfl ykX12_numberNow vkX12_309 (by decide) (by decide) dX12_comesTo_5) dX12_comesTo_8) dX12_comesTo_9) (by decide) dX12_comesTo_10 rfl)
/-! PassHutsModel.needed(I)I -/
theorem dX12_needed_0 : decode cX12_needed 0 = .ok (.aload_n 0, 1) := by decide +kernel
theorem dX12_needed_1 : decode cX12_needed 1 = .ok (.iconst 0, 1) := by decide +kernel
theorem dX12_needed_2 : decode cX12_needed 2 = .ok (.putfield 1, 3) := by decide +kernel
theorem dX12_needed_5 : decode cX12_needed 5 = .ok (.aload_n 0, 1) := by decide +kernel
theorem dX12_needed_6 : decode cX12_needed 6 = .ok (.iload_n 1, 1) := by decide +kernel
theorem dX12_needed_7 : decode cX12_needed 7 = .ok (.invokevirtual 264, 3) := by decide +kernel
theorem dX12_needed_10 : decode cX12_needed 10 = .ok (.ifCond .ne 5, 3) := by decide +kernel
theorem dX12_needed_13 : decode cX12_needed 13 = .ok (.iconst (-1), 1) := by decide +kernel
theorem dX12_needed_14 : decode cX12_needed 14 = .ok (.ireturn, 1) := by decide +kernel
theorem dX12_needed_15 : decode cX12_needed 15 = .ok (.aload_n 0, 1) := by decide +kernel
theorem dX12_needed_16 : decode cX12_needed 16 = .ok (.iconst 1, 1) := by decide +kernel
theorem dX12_needed_17 : decode cX12_needed 17 = .ok (.iconst 0, 1) := by decide +kernel
theorem dX12_needed_18 : decode cX12_needed 18 = .ok (.invokevirtual 331, 3) := by decide +kernel
theorem dX12_needed_21 : decode cX12_needed 21 = .ok (.aload_n 0, 1) := by decide +kernel
theorem dX12_needed_22 : decode cX12_needed 22 = .ok (.invokevirtual 271, 3) := by decide +kernel
theorem dX12_needed_25 : decode cX12_needed 25 = .ok (.aload_n 0, 1) := by decide +kernel
theorem dX12_needed_26 : decode cX12_needed 26 = .ok (.invokevirtual 343, 3) := by decide +kernel
theorem dX12_needed_29 : decode cX12_needed 29 = .ok (.iload_n 1, 1) := by decide +kernel
theorem dX12_needed_30 : decode cX12_needed 30 = .ok (.ishr, 1) := by decide +kernel
theorem dX12_needed_31 : decode cX12_needed 31 = .ok (.iconst 1, 1) := by decide +kernel
theorem dX12_needed_32 : decode cX12_needed 32 = .ok (.iand, 1) := by decide +kernel
theorem dX12_needed_33 : decode cX12_needed 33 = .ok (.ifCond .ne 5, 3) := by decide +kernel
theorem dX12_needed_36 : decode cX12_needed 36 = .ok (.iconst (-1), 1) := by decide +kernel
theorem dX12_needed_37 : decode cX12_needed 37 = .ok (.ireturn, 1) := by decide +kernel
theorem dX12_needed_38 : decode cX12_needed 38 = .ok (.iconst 0, 1) := by decide +kernel
theorem dX12_needed_39 : decode cX12_needed 39 = .ok (.istore_n 2, 1) := by decide +kernel
theorem dX12_needed_40 : decode cX12_needed 40 = .ok (.iconst 0, 1) := by decide +kernel
theorem dX12_needed_41 : decode cX12_needed 41 = .ok (.istore_n 3, 1) := by decide +kernel
theorem dX12_needed_42 : decode cX12_needed 42 = .ok (.iload_n 3, 1) := by decide +kernel
theorem dX12_needed_43 : decode cX12_needed 43 = .ok (.aload_n 0, 1) := by decide +kernel
theorem dX12_needed_44 : decode cX12_needed 44 = .ok (.invokevirtual 215, 3) := by decide +kernel
theorem dX12_needed_47 : decode cX12_needed 47 = .ok (.if_icmp .ge 59, 3) := by decide +kernel
theorem dX12_needed_50 : decode cX12_needed 50 = .ok (.aload_n 0, 1) := by decide +kernel
theorem dX12_needed_51 : decode cX12_needed 51 = .ok (.getfield 100, 3) := by decide +kernel
theorem dX12_needed_54 : decode cX12_needed 54 = .ok (.iload_n 3, 1) := by decide +kernel
theorem dX12_needed_55 : decode cX12_needed 55 = .ok (.iaload, 1) := by decide +kernel
theorem dX12_needed_56 : decode cX12_needed 56 = .ok (.ifCond .le 44, 3) := by decide +kernel
theorem dX12_needed_59 : decode cX12_needed 59 = .ok (.aload_n 0, 1) := by decide +kernel
theorem dX12_needed_60 : decode cX12_needed 60 = .ok (.getfield 100, 3) := by decide +kernel
theorem dX12_needed_63 : decode cX12_needed 63 = .ok (.iload_n 3, 1) := by decide +kernel
theorem dX12_needed_64 : decode cX12_needed 64 = .ok (.dup2, 1) := by decide +kernel
theorem dX12_needed_65 : decode cX12_needed 65 = .ok (.iaload, 1) := by decide +kernel
theorem dX12_needed_66 : decode cX12_needed 66 = .ok (.iconst 1, 1) := by decide +kernel
theorem dX12_needed_67 : decode cX12_needed 67 = .ok (.isub, 1) := by decide +kernel
theorem dX12_needed_68 : decode cX12_needed 68 = .ok (.iastore, 1) := by decide +kernel
theorem dX12_needed_69 : decode cX12_needed 69 = .ok (.iload_n 2, 1) := by decide +kernel
theorem dX12_needed_70 : decode cX12_needed 70 = .ok (.aload_n 0, 1) := by decide +kernel
theorem dX12_needed_71 : decode cX12_needed 71 = .ok (.invokevirtual 343, 3) := by decide +kernel
theorem dX12_needed_74 : decode cX12_needed 74 = .ok (.iload_n 1, 1) := by decide +kernel
theorem dX12_needed_75 : decode cX12_needed 75 = .ok (.ishr, 1) := by decide +kernel
theorem dX12_needed_76 : decode cX12_needed 76 = .ok (.iconst 1, 1) := by decide +kernel
theorem dX12_needed_77 : decode cX12_needed 77 = .ok (.iand, 1) := by decide +kernel
theorem dX12_needed_78 : decode cX12_needed 78 = .ok (.ifCond .ne 9, 3) := by decide +kernel
theorem dX12_needed_81 : decode cX12_needed 81 = .ok (.iconst 1, 1) := by decide +kernel
theorem dX12_needed_82 : decode cX12_needed 82 = .ok (.iload_n 3, 1) := by decide +kernel
theorem dX12_needed_83 : decode cX12_needed 83 = .ok (.ishl, 1) := by decide +kernel
theorem dX12_needed_84 : decode cX12_needed 84 = .ok (.goto 4, 3) := by decide +kernel
theorem dX12_needed_87 : decode cX12_needed 87 = .ok (.iconst 0, 1) := by decide +kernel
theorem dX12_needed_88 : decode cX12_needed 88 = .ok (.ior, 1) := by decide +kernel
theorem dX12_needed_89 : decode cX12_needed 89 = .ok (.istore_n 2, 1) := by decide +kernel
theorem dX12_needed_90 : decode cX12_needed 90 = .ok (.aload_n 0, 1) := by decide +kernel
theorem dX12_needed_91 : decode cX12_needed 91 = .ok (.getfield 100, 3) := by decide +kernel
theorem dX12_needed_94 : decode cX12_needed 94 = .ok (.iload_n 3, 1) := by decide +kernel
theorem dX12_needed_95 : decode cX12_needed 95 = .ok (.dup2, 1) := by decide +kernel
theorem dX12_needed_96 : decode cX12_needed 96 = .ok (.iaload, 1) := by decide +kernel
theorem dX12_needed_97 : decode cX12_needed 97 = .ok (.iconst 1, 1) := by decide +kernel
theorem dX12_needed_98 : decode cX12_needed 98 = .ok (.iadd, 1) := by decide +kernel
theorem dX12_needed_99 : decode cX12_needed 99 = .ok (.iastore, 1) := by decide +kernel
theorem dX12_needed_100 : decode cX12_needed 100 = .ok (.iinc 3 1, 3) := by decide +kernel
theorem dX12_needed_103 : decode cX12_needed 103 = .ok (.goto (-61), 3) := by decide +kernel
theorem dX12_needed_106 : decode cX12_needed 106 = .ok (.iload_n 2, 1) := by decide +kernel
theorem dX12_needed_107 : decode cX12_needed 107 = .ok (.ireturn, 1) := by decide +kernel
abbrev tX12_needed (k : Nat) : MT := (RX12, cX12_needed, 4, k, (some .int))
def lX12_needed_1 : SX := (sLoop (cB rlt (iLoc 3) (iCallV 12 mX12_huts (aR (rLoc 0) aNil))) (sIf (cZ zgt (iALd (rGet 12 20 (rLoc 0)) (iLoc 3))) (sSeq (sAUpd gT2 (· - ·) (rGet 12 20 (rLoc 0)) (iLoc 3) (iK 1)) (sSeq (sSetI 2 (iB gT2 (· ||| ·) (iLoc 2) (iCond (cZ zeq (iB gT2 (· &&& ·) (iB gT2 jshr (iCallV 12 mX12_comesTo (aR (rLoc 0) aNil)) (iLoc 1)) (iK 1))) (iB gT2 jshl (iK 1) (iLoc 3)) (iK 0)))) (sAUpd gT2 (· + ·) (rGet 12 20 (rLoc 0)) (iLoc 3) (iK 1)))) sSkip) (sInc 3 1))
theorem olX12_needed_1 (g : GT) {pcB pcC : Nat} : Sok g (tX12_needed 5) 42 106 pcB pcC (lX12_needed_1) := (Sok.loop (pc := 42) (pc1 := 50) (pc2 := 100) (pcN := 106) (Cok.cmp (pc1 := 43) (pc2 := 47) (pcT := 50) (pcF := 106) (EokI.iload_n (q := 3) dX12_needed_42) (EokI.iCallV (pc1 := 44) (Aok.aR (pc1 := 44) (EokR.aload_n (q := 0) dX12_needed_43) Aok.nil) (kX12_huts g) rfl ykX12_huts vkX12_215 (by decide) (by decide) dX12_needed_44) (JI.ltF (tgt := 106) dX12_needed_47 (by decide))) (by decide) (Sok.ite (pc1 := 59) (pc2 := 100) (Cok.zero (pc1 := 56) (pcT := 59) (pcF := 100) (EokI.iALd (pc1 := 54) (pc2 := 55) (EokR.getf (pc1 := 51) (j := 20) (ci := 12) (T := TX12) (N := 27) (EokR.aload_n (q := 0) dX12_needed_50) rfl wsX12_in (by decide) flX12_100 dX12_needed_51) (EokI.iload_n (q := 3) dX12_needed_54) dX12_needed_55) (JZ.gtF (tgt := 100) dX12_needed_56 (by decide))) (by decide) (Sok.seq (pc1 := 69) (Sok.aupd (pc1 := 63) (pc2 := 64) (pc3 := 67) (EokR.getf (pc1 := 60) (j := 20) (ci := 12) (T := TX12) (N := 27) (EokR.aload_n (q := 0) dX12_needed_59) rfl wsX12_in (by decide) flX12_100 dX12_needed_60) (EokI.iload_n (q := 3) dX12_needed_63) dX12_needed_64 dX12_needed_65 (EokI.iconst (v := 1) dX12_needed_66 (by decide)) (OPI.isub dX12_needed_67) (by decide) dX12_needed_68) (Sok.seq (pc1 := 90) (Sok.setI_n (q := 2) (pc1 := 89) (EokI.bin (pc1 := 70) (pc2 := 88) (EokI.iload_n (q := 2) dX12_needed_69) (EokI.cond' (pc1 := 81) (pc2 := 87) (Cok.zero (pc1 := 78) (pcT := 81) (pcF := 87) (EokI.bin (pc1 := 76) (pc2 := 77) (EokI.bin (pc1 := 74) (pc2 := 75) (EokI.iCallV (pc1 := 71) (Aok.aR (pc1 := 71) (EokR.aload_n (q := 0) dX12_needed_70) Aok.nil) (kX12_comesTo g) rfl ykX12_comesTo vkX12_343 (by decide) (by decide) dX12_needed_71) (EokI.iload_n (q := 1) dX12_needed_74) (OPI.ishr dX12_needed_75)) (EokI.iconst (v := 1) dX12_needed_76 (by decide)) (OPI.iand dX12_needed_77)) (JZ.eqF (tgt := 87) dX12_needed_78 (by decide))) (EokI.goto (pc1 := 84) (pc2 := 88) (EokI.bin (pc1 := 82) (pc2 := 83) (EokI.iconst (v := 1) dX12_needed_81 (by decide)) (EokI.iload_n (q := 3) dX12_needed_82) (OPI.ishl dX12_needed_83)) dX12_needed_84 (by decide)) (EokI.iconst (v := 0) dX12_needed_87 (by decide))) (OPI.ior dX12_needed_88)) (by decide) dX12_needed_89 (show 2 < 4 by decide)) (Sok.aupd (pc1 := 94) (pc2 := 95) (pc3 := 98) (EokR.getf (pc1 := 91) (j := 20) (ci := 12) (T := TX12) (N := 27) (EokR.aload_n (q := 0) dX12_needed_90) rfl wsX12_in (by decide) flX12_100 dX12_needed_91) (EokI.iload_n (q := 3) dX12_needed_94) dX12_needed_95 dX12_needed_96 (EokI.iconst (v := 1) dX12_needed_97 (by decide)) (OPI.iadd dX12_needed_98) (by decide) dX12_needed_99))) (Sok.skip (pc := 100))) (Sok.goto (pc1 := 103) (pcN := 42) (Sok.iinc (i := 3) (v := 1) dX12_needed_100 (show 3 < 4 by decide) (by decide)) dX12_needed_103 (by decide)))
def mX12_needed : MX := bodyOf 4 (sSeq (sPutI 12 0 .int (rLoc 0) (iK 0)) (sSeq (sIf (cNot (cZ zne (iCallV 12 mX12_isHut (aR (rLoc 0) (aI (iLoc 1) aNil))))) (sRetI (iK (-1))) sSkip) (sSeq (sCallV 12 mX12_fills (aR (rLoc 0) (aI (iK 1) (aI (iK 0) aNil)))) (sSeq (sCallV 12 mX12_laysNow (aR (rLoc 0) aNil)) (sSeq (sIf (cZ zeq (iB gT2 (· &&& ·) (iB gT2 jshr (iCallV 12 mX12_comesTo (aR (rLoc 0) aNil)) (iLoc 1)) (iK 1))) (sRetI (iK (-1))) sSkip) (sSeq (sSetI 2 (iK 0)) (sSeq (sSeq (sSeq (sSetI 3 (iK 0)) lX12_needed_1) (sForget 3)) (sRetI (iLoc 2)))))))))
theorem kX12_needed (g : GT) : MK g 5 yX12_needed cX12_needed 4 (some .int) mX12_needed := MK.of (pcN := 99999) (pcB := 0) (pcC := 0) rfl (Sok.seq (pc1 := 5) (Sok.putI (ci := 12) (T := TX12) (NN := 27) (tt := tyX12) (j := 0) (pc1 := 1) (pc2 := 2) (ty := .int) (EokR.aload_n (q := 0) dX12_needed_0) (EokI.iconst (v := 0) dX12_needed_1 (by decide)) (by decide) rfl wsX12_in tyX12_ok nmX12 (by decide) flX12_1 rfl rfl dX12_needed_2) (Sok.seq (pc1 := 15) (Sok.ite (pc1 := 13) (pc2 := 15) (Cok.not (Cok.zero (pc1 := 10) (pcT := 15) (pcF := 13) (EokI.iCallV (pc1 := 7) (Aok.aR (pc1 := 6) (EokR.aload_n (q := 0) dX12_needed_5) (Aok.aI (pc1 := 7) (EokI.iload_n (q := 1) dX12_needed_6) Aok.nil)) (kX12_isHut g) rfl ykX12_isHut vkX12_264 (by decide) (by decide) dX12_needed_7) (JZ.neT (tgt := 15) dX12_needed_10 (by decide)))) (by decide) (Sok.retI (pc1 := 14) (EokI.iconst (v := (-1)) dX12_needed_13 (by decide)) (by decide) dX12_needed_14 rfl) (Sok.skip (pc := 15))) (Sok.seq (pc1 := 21) (Sok.sCallV (pc1 := 18) (Aok.aR (pc1 := 16) (EokR.aload_n (q := 0) dX12_needed_15) (Aok.aI (pc1 := 17) (EokI.iconst (v := 1) dX12_needed_16 (by decide)) (Aok.aI (pc1 := 18) (EokI.iconst (v := 0) dX12_needed_17 (by decide)) Aok.nil))) (by decide) (kX12_fills g) rfl ykX12_fills vkX12_331 (by decide) (by decide) dX12_needed_18) (Sok.seq (pc1 := 25) (Sok.sCallV (pc1 := 22) (Aok.aR (pc1 := 22) (EokR.aload_n (q := 0) dX12_needed_21) Aok.nil) (by decide) (kX12_laysNow g) rfl ykX12_laysNow vkX12_271 (by decide) (by decide) dX12_needed_22) (Sok.seq (pc1 := 38) (Sok.ite (pc1 := 36) (pc2 := 38) (Cok.zero (pc1 := 33) (pcT := 36) (pcF := 38) (EokI.bin (pc1 := 31) (pc2 := 32) (EokI.bin (pc1 := 29) (pc2 := 30) (EokI.iCallV (pc1 := 26) (Aok.aR (pc1 := 26) (EokR.aload_n (q := 0) dX12_needed_25) Aok.nil) (kX12_comesTo g) rfl ykX12_comesTo vkX12_343 (by decide) (by decide) dX12_needed_26) (EokI.iload_n (q := 1) dX12_needed_29) (OPI.ishr dX12_needed_30)) (EokI.iconst (v := 1) dX12_needed_31 (by decide)) (OPI.iand dX12_needed_32)) (JZ.eqF (tgt := 38) dX12_needed_33 (by decide))) (by decide) (Sok.retI (pc1 := 37) (EokI.iconst (v := (-1)) dX12_needed_36 (by decide)) (by decide) dX12_needed_37 rfl) (Sok.skip (pc := 38))) (Sok.seq (pc1 := 40) (Sok.setI_n (q := 2) (pc1 := 39) (EokI.iconst (v := 0) dX12_needed_38 (by decide)) (by decide) dX12_needed_39 (show 2 < 4 by decide)) (Sok.seq (pc1 := 106) (Sok.seq (pc1 := 106) (Sok.seq (pc1 := 42) (Sok.setI_n (q := 3) (pc1 := 41) (EokI.iconst (v := 0) dX12_needed_40 (by decide)) (by decide) dX12_needed_41 (show 3 < 4 by decide)) (olX12_needed_1 g )) (Sok.forget (pc := 106))) (Sok.retI (pc1 := 107) (EokI.iload_n (q := 2) dX12_needed_106) (by decide) dX12_needed_107 rfl))))))))
/-! PassHutsModel.brings(I)I -/
theorem dX12_brings_0 : decode cX12_brings 0 = .ok (.aload_n 0, 1) := by decide +kernel
theorem dX12_brings_1 : decode cX12_brings 1 = .ok (.iconst 0, 1) := by decide +kernel
theorem dX12_brings_2 : decode cX12_brings 2 = .ok (.putfield 1, 3) := by decide +kernel
theorem dX12_brings_5 : decode cX12_brings 5 = .ok (.aload_n 0, 1) := by decide +kernel
theorem dX12_brings_6 : decode cX12_brings 6 = .ok (.iload_n 1, 1) := by decide +kernel
theorem dX12_brings_7 : decode cX12_brings 7 = .ok (.invokevirtual 264, 3) := by decide +kernel
theorem dX12_brings_10 : decode cX12_brings 10 = .ok (.ifCond .ne 5, 3) := by decide +kernel
theorem dX12_brings_13 : decode cX12_brings 13 = .ok (.iconst (-1), 1) := by decide +kernel
theorem dX12_brings_14 : decode cX12_brings 14 = .ok (.ireturn, 1) := by decide +kernel
theorem dX12_brings_15 : decode cX12_brings 15 = .ok (.aload_n 0, 1) := by decide +kernel
theorem dX12_brings_16 : decode cX12_brings 16 = .ok (.iconst 1, 1) := by decide +kernel
theorem dX12_brings_17 : decode cX12_brings 17 = .ok (.iconst 0, 1) := by decide +kernel
theorem dX12_brings_18 : decode cX12_brings 18 = .ok (.invokevirtual 331, 3) := by decide +kernel
theorem dX12_brings_21 : decode cX12_brings 21 = .ok (.aload_n 0, 1) := by decide +kernel
theorem dX12_brings_22 : decode cX12_brings 22 = .ok (.iload_n 1, 1) := by decide +kernel
theorem dX12_brings_23 : decode cX12_brings 23 = .ok (.invokevirtual 340, 3) := by decide +kernel
theorem dX12_brings_26 : decode cX12_brings 26 = .ok (.aload_n 0, 1) := by decide +kernel
theorem dX12_brings_27 : decode cX12_brings 27 = .ok (.invokevirtual 343, 3) := by decide +kernel
theorem dX12_brings_30 : decode cX12_brings 30 = .ok (.ireturn, 1) := by decide +kernel
abbrev tX12_brings (k : Nat) : MT := (RX12, cX12_brings, 2, k, (some .int))
def mX12_brings : MX := bodyOf 2 (sSeq (sPutI 12 0 .int (rLoc 0) (iK 0)) (sSeq (sIf (cNot (cZ zne (iCallV 12 mX12_isHut (aR (rLoc 0) (aI (iLoc 1) aNil))))) (sRetI (iK (-1))) sSkip) (sSeq (sCallV 12 mX12_fills (aR (rLoc 0) (aI (iK 1) (aI (iK 0) aNil)))) (sSeq (sCallV 12 mX12_laysAlone (aR (rLoc 0) (aI (iLoc 1) aNil))) (sRetI (iCallV 12 mX12_comesTo (aR (rLoc 0) aNil)))))))
theorem kX12_brings (g : GT) : MK g 5 yX12_brings cX12_brings 2 (some .int) mX12_brings := MK.of (pcN := 99999) (pcB := 0) (pcC := 0) rfl (Sok.seq (pc1 := 5) (Sok.putI (ci := 12) (T := TX12) (NN := 27) (tt := tyX12) (j := 0) (pc1 := 1) (pc2 := 2) (ty := .int) (EokR.aload_n (q := 0) dX12_brings_0) (EokI.iconst (v := 0) dX12_brings_1 (by decide)) (by decide) rfl wsX12_in tyX12_ok nmX12 (by decide) flX12_1 rfl rfl dX12_brings_2) (Sok.seq (pc1 := 15) (Sok.ite (pc1 := 13) (pc2 := 15) (Cok.not (Cok.zero (pc1 := 10) (pcT := 15) (pcF := 13) (EokI.iCallV (pc1 := 7) (Aok.aR (pc1 := 6) (EokR.aload_n (q := 0) dX12_brings_5) (Aok.aI (pc1 := 7) (EokI.iload_n (q := 1) dX12_brings_6) Aok.nil)) (kX12_isHut g) rfl ykX12_isHut vkX12_264 (by decide) (by decide) dX12_brings_7) (JZ.neT (tgt := 15) dX12_brings_10 (by decide)))) (by decide) (Sok.retI (pc1 := 14) (EokI.iconst (v := (-1)) dX12_brings_13 (by decide)) (by decide) dX12_brings_14 rfl) (Sok.skip (pc := 15))) (Sok.seq (pc1 := 21) (Sok.sCallV (pc1 := 18) (Aok.aR (pc1 := 16) (EokR.aload_n (q := 0) dX12_brings_15) (Aok.aI (pc1 := 17) (EokI.iconst (v := 1) dX12_brings_16 (by decide)) (Aok.aI (pc1 := 18) (EokI.iconst (v := 0) dX12_brings_17 (by decide)) Aok.nil))) (by decide) (kX12_fills g) rfl ykX12_fills vkX12_331 (by decide) (by decide) dX12_brings_18) (Sok.seq (pc1 := 26) (Sok.sCallV (pc1 := 23) (Aok.aR (pc1 := 22) (EokR.aload_n (q := 0) dX12_brings_21) (Aok.aI (pc1 := 23) (EokI.iload_n (q := 1) dX12_brings_22) Aok.nil)) (by decide) (kX12_laysAlone g) rfl ykX12_laysAlone vkX12_340 (by decide) (by decide) dX12_brings_23) (Sok.retI (pc1 := 30) (EokI.iCallV (pc1 := 27) (Aok.aR (pc1 := 27) (EokR.aload_n (q := 0) dX12_brings_26) Aok.nil) (kX12_comesTo g) rfl ykX12_comesTo vkX12_343 (by decide) (by decide) dX12_brings_27) (by decide) dX12_brings_30 rfl)))))
/-! PassHutsModel.reachOf(I)I -/
theorem dX12_reachOf_0 : decode cX12_reachOf 0 = .ok (.iconst 1, 1) := by decide +kernel
theorem dX12_reachOf_1 : decode cX12_reachOf 1 = .ok (.iload_n 1, 1) := by decide +kernel
theorem dX12_reachOf_2 : decode cX12_reachOf 2 = .ok (.ishl, 1) := by decide +kernel
theorem dX12_reachOf_3 : decode cX12_reachOf 3 = .ok (.istore_n 2, 1) := by decide +kernel
theorem dX12_reachOf_4 : decode cX12_reachOf 4 = .ok (.iconst 0, 1) := by decide +kernel
theorem dX12_reachOf_5 : decode cX12_reachOf 5 = .ok (.istore_n 3, 1) := by decide +kernel
theorem dX12_reachOf_6 : decode cX12_reachOf 6 = .ok (.iload_n 3, 1) := by decide +kernel
theorem dX12_reachOf_7 : decode cX12_reachOf 7 = .ok (.iconst 5, 1) := by decide +kernel
theorem dX12_reachOf_8 : decode cX12_reachOf 8 = .ok (.if_icmp .ge 50, 3) := by decide +kernel
theorem dX12_reachOf_11 : decode cX12_reachOf 11 = .ok (.iconst 0, 1) := by decide +kernel
theorem dX12_reachOf_12 : decode cX12_reachOf 12 = .ok (.istore 4, 2) := by decide +kernel
theorem dX12_reachOf_14 : decode cX12_reachOf 14 = .ok (.iload 4, 2) := by decide +kernel
theorem dX12_reachOf_16 : decode cX12_reachOf 16 = .ok (.aload_n 0, 1) := by decide +kernel
theorem dX12_reachOf_17 : decode cX12_reachOf 17 = .ok (.invokevirtual 215, 3) := by decide +kernel
theorem dX12_reachOf_20 : decode cX12_reachOf 20 = .ok (.if_icmp .ge 32, 3) := by decide +kernel
theorem dX12_reachOf_23 : decode cX12_reachOf 23 = .ok (.iload_n 2, 1) := by decide +kernel
theorem dX12_reachOf_24 : decode cX12_reachOf 24 = .ok (.iload_n 2, 1) := by decide +kernel
theorem dX12_reachOf_25 : decode cX12_reachOf 25 = .ok (.iload 4, 2) := by decide +kernel
theorem dX12_reachOf_27 : decode cX12_reachOf 27 = .ok (.ishr, 1) := by decide +kernel
theorem dX12_reachOf_28 : decode cX12_reachOf 28 = .ok (.iconst 1, 1) := by decide +kernel
theorem dX12_reachOf_29 : decode cX12_reachOf 29 = .ok (.iand, 1) := by decide +kernel
theorem dX12_reachOf_30 : decode cX12_reachOf 30 = .ok (.iconst 1, 1) := by decide +kernel
theorem dX12_reachOf_31 : decode cX12_reachOf 31 = .ok (.if_icmp .ne 12, 3) := by decide +kernel
theorem dX12_reachOf_34 : decode cX12_reachOf 34 = .ok (.aload_n 0, 1) := by decide +kernel
theorem dX12_reachOf_35 : decode cX12_reachOf 35 = .ok (.iload 4, 2) := by decide +kernel
theorem dX12_reachOf_37 : decode cX12_reachOf 37 = .ok (.invokevirtual 274, 3) := by decide +kernel
theorem dX12_reachOf_40 : decode cX12_reachOf 40 = .ok (.goto 4, 3) := by decide +kernel
theorem dX12_reachOf_43 : decode cX12_reachOf 43 = .ok (.iconst 0, 1) := by decide +kernel
theorem dX12_reachOf_44 : decode cX12_reachOf 44 = .ok (.ior, 1) := by decide +kernel
theorem dX12_reachOf_45 : decode cX12_reachOf 45 = .ok (.istore_n 2, 1) := by decide +kernel
theorem dX12_reachOf_46 : decode cX12_reachOf 46 = .ok (.iinc 4 1, 3) := by decide +kernel
theorem dX12_reachOf_49 : decode cX12_reachOf 49 = .ok (.goto (-35), 3) := by decide +kernel
theorem dX12_reachOf_52 : decode cX12_reachOf 52 = .ok (.iinc 3 1, 3) := by decide +kernel
theorem dX12_reachOf_55 : decode cX12_reachOf 55 = .ok (.goto (-49), 3) := by decide +kernel
theorem dX12_reachOf_58 : decode cX12_reachOf 58 = .ok (.iload_n 2, 1) := by decide +kernel
theorem dX12_reachOf_59 : decode cX12_reachOf 59 = .ok (.ireturn, 1) := by decide +kernel
abbrev tX12_reachOf (k : Nat) : MT := (RX12, cX12_reachOf, 5, k, (some .int))
def lX12_reachOf_1 : SX := (sLoop (cB rlt (iLoc 4) (iCallV 12 mX12_huts (aR (rLoc 0) aNil))) (sSetI 2 (iB gT2 (· ||| ·) (iLoc 2) (iCond (cB req (iB gT2 (· &&& ·) (iB gT2 jshr (iLoc 2) (iLoc 4)) (iK 1)) (iK 1)) (iCallV 12 mX12_pathsFrom (aR (rLoc 0) (aI (iLoc 4) aNil))) (iK 0)))) (sInc 4 1))
def lX12_reachOf_2 : SX := (sLoop (cB rlt (iLoc 3) (iK 5)) (sSeq (sSetI 4 (iK 0)) lX12_reachOf_1) (sSeq (sForget 4) (sInc 3 1)))
theorem olX12_reachOf_1 (g : GT) {pcB pcC : Nat} : Sok g (tX12_reachOf 2) 14 52 pcB pcC (lX12_reachOf_1) := (Sok.loop (pc := 14) (pc1 := 23) (pc2 := 46) (pcN := 52) (Cok.cmp (pc1 := 16) (pc2 := 20) (pcT := 23) (pcF := 52) (EokI.iload (i := 4) dX12_reachOf_14) (EokI.iCallV (pc1 := 17) (Aok.aR (pc1 := 17) (EokR.aload_n (q := 0) dX12_reachOf_16) Aok.nil) (kX12_huts g) rfl ykX12_huts vkX12_215 (by decide) (by decide) dX12_reachOf_17) (JI.ltF (tgt := 52) dX12_reachOf_20 (by decide))) (by decide) (Sok.setI_n (q := 2) (pc1 := 45) (EokI.bin (pc1 := 24) (pc2 := 44) (EokI.iload_n (q := 2) dX12_reachOf_23) (EokI.cond' (pc1 := 34) (pc2 := 43) (Cok.cmp (pc1 := 30) (pc2 := 31) (pcT := 34) (pcF := 43) (EokI.bin (pc1 := 28) (pc2 := 29) (EokI.bin (pc1 := 25) (pc2 := 27) (EokI.iload_n (q := 2) dX12_reachOf_24) (EokI.iload (i := 4) dX12_reachOf_25) (OPI.ishr dX12_reachOf_27)) (EokI.iconst (v := 1) dX12_reachOf_28 (by decide)) (OPI.iand dX12_reachOf_29)) (EokI.iconst (v := 1) dX12_reachOf_30 (by decide)) (JI.eqF (tgt := 43) dX12_reachOf_31 (by decide))) (EokI.goto (pc1 := 40) (pc2 := 44) (EokI.iCallV (pc1 := 37) (Aok.aR (pc1 := 35) (EokR.aload_n (q := 0) dX12_reachOf_34) (Aok.aI (pc1 := 37) (EokI.iload (i := 4) dX12_reachOf_35) Aok.nil)) (kX12_pathsFrom g) rfl ykX12_pathsFrom vkX12_274 (by decide) (by decide) dX12_reachOf_37) dX12_reachOf_40 (by decide)) (EokI.iconst (v := 0) dX12_reachOf_43 (by decide))) (OPI.ior dX12_reachOf_44)) (by decide) dX12_reachOf_45 (show 2 < 5 by decide)) (Sok.goto (pc1 := 49) (pcN := 14) (Sok.iinc (i := 4) (v := 1) dX12_reachOf_46 (show 4 < 5 by decide) (by decide)) dX12_reachOf_49 (by decide)))
theorem olX12_reachOf_2 (g : GT) {pcB pcC : Nat} : Sok g (tX12_reachOf 2) 6 58 pcB pcC (lX12_reachOf_2) := (Sok.loop (pc := 6) (pc1 := 11) (pc2 := 52) (pcN := 58) (Cok.cmp (pc1 := 7) (pc2 := 8) (pcT := 11) (pcF := 58) (EokI.iload_n (q := 3) dX12_reachOf_6) (EokI.iconst (v := 5) dX12_reachOf_7 (by decide)) (JI.ltF (tgt := 58) dX12_reachOf_8 (by decide))) (by decide) (Sok.seq (pc1 := 14) (Sok.setI (i := 4) (pc1 := 12) (EokI.iconst (v := 0) dX12_reachOf_11 (by decide)) (by decide) dX12_reachOf_12 (show 4 < 5 by decide)) (olX12_reachOf_1 g )) (Sok.seq (pc1 := 52) Sok.forget (Sok.goto (pc1 := 55) (pcN := 6) (Sok.iinc (i := 3) (v := 1) dX12_reachOf_52 (show 3 < 5 by decide) (by decide)) dX12_reachOf_55 (by decide))))
def mX12_reachOf : MX := bodyOf 5 (sSeq (sSetI 2 (iB gT2 jshl (iK 1) (iLoc 1))) (sSeq (sSeq (sSeq (sSetI 3 (iK 0)) lX12_reachOf_2) (sForget 3)) (sRetI (iLoc 2))))
theorem kX12_reachOf (g : GT) : MK g 2 yX12_reachOf cX12_reachOf 5 (some .int) mX12_reachOf := MK.of (pcN := 99999) (pcB := 0) (pcC := 0) rfl (Sok.seq (pc1 := 4) (Sok.setI_n (q := 2) (pc1 := 3) (EokI.bin (pc1 := 1) (pc2 := 2) (EokI.iconst (v := 1) dX12_reachOf_0 (by decide)) (EokI.iload_n (q := 1) dX12_reachOf_1) (OPI.ishl dX12_reachOf_2)) (by decide) dX12_reachOf_3 (show 2 < 5 by decide)) (Sok.seq (pc1 := 58) (Sok.seq (pc1 := 58) (Sok.seq (pc1 := 6) (Sok.setI_n (q := 3) (pc1 := 5) (EokI.iconst (v := 0) dX12_reachOf_4 (by decide)) (by decide) dX12_reachOf_5 (show 3 < 5 by decide)) (olX12_reachOf_2 g )) (Sok.forget (pc := 58))) (Sok.retI (pc1 := 59) (EokI.iload_n (q := 2) dX12_reachOf_58) (by decide) dX12_reachOf_59 rfl)))
/-! PassHutsModel.reach(I)I -/
theorem dX12_reach_0 : decode cX12_reach 0 = .ok (.aload_n 0, 1) := by decide +kernel
theorem dX12_reach_1 : decode cX12_reach 1 = .ok (.iconst 0, 1) := by decide +kernel
theorem dX12_reach_2 : decode cX12_reach 2 = .ok (.putfield 1, 3) := by decide +kernel
theorem dX12_reach_5 : decode cX12_reach 5 = .ok (.aload_n 0, 1) := by decide +kernel
theorem dX12_reach_6 : decode cX12_reach 6 = .ok (.iload_n 1, 1) := by decide +kernel
theorem dX12_reach_7 : decode cX12_reach 7 = .ok (.invokevirtual 264, 3) := by decide +kernel
theorem dX12_reach_10 : decode cX12_reach 10 = .ok (.ifCond .eq 11, 3) := by decide +kernel
theorem dX12_reach_13 : decode cX12_reach 13 = .ok (.aload_n 0, 1) := by decide +kernel
theorem dX12_reach_14 : decode cX12_reach 14 = .ok (.iload_n 1, 1) := by decide +kernel
theorem dX12_reach_15 : decode cX12_reach 15 = .ok (.invokevirtual 346, 3) := by decide +kernel
theorem dX12_reach_18 : decode cX12_reach 18 = .ok (.goto 4, 3) := by decide +kernel
theorem dX12_reach_21 : decode cX12_reach 21 = .ok (.iconst (-1), 1) := by decide +kernel
theorem dX12_reach_22 : decode cX12_reach 22 = .ok (.ireturn, 1) := by decide +kernel
abbrev tX12_reach (k : Nat) : MT := (RX12, cX12_reach, 2, k, (some .int))
def mX12_reach : MX := bodyOf 2 (sSeq (sPutI 12 0 .int (rLoc 0) (iK 0)) (sRetI (iCond (cZ zne (iCallV 12 mX12_isHut (aR (rLoc 0) (aI (iLoc 1) aNil)))) (iCallV 12 mX12_reachOf (aR (rLoc 0) (aI (iLoc 1) aNil))) (iK (-1)))))
theorem kX12_reach (g : GT) : MK g 3 yX12_reach cX12_reach 2 (some .int) mX12_reach := MK.of (pcN := 99999) (pcB := 0) (pcC := 0) rfl (Sok.seq (pc1 := 5) (Sok.putI (ci := 12) (T := TX12) (NN := 27) (tt := tyX12) (j := 0) (pc1 := 1) (pc2 := 2) (ty := .int) (EokR.aload_n (q := 0) dX12_reach_0) (EokI.iconst (v := 0) dX12_reach_1 (by decide)) (by decide) rfl wsX12_in tyX12_ok nmX12 (by decide) flX12_1 rfl rfl dX12_reach_2) (Sok.retI (pc1 := 22) (EokI.cond' (pc1 := 13) (pc2 := 21) (Cok.zero (pc1 := 10) (pcT := 13) (pcF := 21) (EokI.iCallV (pc1 := 7) (Aok.aR (pc1 := 6) (EokR.aload_n (q := 0) dX12_reach_5) (Aok.aI (pc1 := 7) (EokI.iload_n (q := 1) dX12_reach_6) Aok.nil)) (kX12_isHut g) rfl ykX12_isHut vkX12_264 (by decide) (by decide) dX12_reach_7) (JZ.neF (tgt := 21) dX12_reach_10 (by decide))) (EokI.goto (pc1 := 18) (pc2 := 22) (EokI.iCallV (pc1 := 15) (Aok.aR (pc1 := 14) (EokR.aload_n (q := 0) dX12_reach_13) (Aok.aI (pc1 := 15) (EokI.iload_n (q := 1) dX12_reach_14) Aok.nil)) (kX12_reachOf g) rfl ykX12_reachOf vkX12_346 (by decide) (by decide) dX12_reach_15) dX12_reach_18 (by decide)) (EokI.iconst (v := (-1)) dX12_reach_21 (by decide))) (by decide) dX12_reach_22 rfl))
/-! PassHutsModel.far(II)I -/
theorem dX12_far_0 : decode cX12_far 0 = .ok (.aload_n 0, 1) := by decide +kernel
theorem dX12_far_1 : decode cX12_far 1 = .ok (.iconst 0, 1) := by decide +kernel
theorem dX12_far_2 : decode cX12_far 2 = .ok (.putfield 1, 3) := by decide +kernel
theorem dX12_far_5 : decode cX12_far 5 = .ok (.aload_n 0, 1) := by decide +kernel
theorem dX12_far_6 : decode cX12_far 6 = .ok (.iload_n 1, 1) := by decide +kernel
theorem dX12_far_7 : decode cX12_far 7 = .ok (.invokevirtual 264, 3) := by decide +kernel
theorem dX12_far_10 : decode cX12_far 10 = .ok (.ifCond .eq 11, 3) := by decide +kernel
theorem dX12_far_13 : decode cX12_far 13 = .ok (.aload_n 0, 1) := by decide +kernel
theorem dX12_far_14 : decode cX12_far 14 = .ok (.iload_n 2, 1) := by decide +kernel
theorem dX12_far_15 : decode cX12_far 15 = .ok (.invokevirtual 264, 3) := by decide +kernel
theorem dX12_far_18 : decode cX12_far 18 = .ok (.ifCond .ne 5, 3) := by decide +kernel
theorem dX12_far_21 : decode cX12_far 21 = .ok (.iconst (-1), 1) := by decide +kernel
theorem dX12_far_22 : decode cX12_far 22 = .ok (.ireturn, 1) := by decide +kernel
theorem dX12_far_23 : decode cX12_far 23 = .ok (.iconst 1, 1) := by decide +kernel
theorem dX12_far_24 : decode cX12_far 24 = .ok (.iload_n 1, 1) := by decide +kernel
theorem dX12_far_25 : decode cX12_far 25 = .ok (.ishl, 1) := by decide +kernel
theorem dX12_far_26 : decode cX12_far 26 = .ok (.istore_n 3, 1) := by decide +kernel
theorem dX12_far_27 : decode cX12_far 27 = .ok (.iconst 0, 1) := by decide +kernel
theorem dX12_far_28 : decode cX12_far 28 = .ok (.istore 4, 2) := by decide +kernel
theorem dX12_far_30 : decode cX12_far 30 = .ok (.iload 4, 2) := by decide +kernel
theorem dX12_far_32 : decode cX12_far 32 = .ok (.iconst 5, 1) := by decide +kernel
theorem dX12_far_33 : decode cX12_far 33 = .ok (.if_icmp .ge 70, 3) := by decide +kernel
theorem dX12_far_36 : decode cX12_far 36 = .ok (.iload_n 3, 1) := by decide +kernel
theorem dX12_far_37 : decode cX12_far 37 = .ok (.iload_n 2, 1) := by decide +kernel
theorem dX12_far_38 : decode cX12_far 38 = .ok (.ishr, 1) := by decide +kernel
theorem dX12_far_39 : decode cX12_far 39 = .ok (.iconst 1, 1) := by decide +kernel
theorem dX12_far_40 : decode cX12_far 40 = .ok (.iand, 1) := by decide +kernel
theorem dX12_far_41 : decode cX12_far 41 = .ok (.iconst 1, 1) := by decide +kernel
theorem dX12_far_42 : decode cX12_far 42 = .ok (.if_icmp .ne 6, 3) := by decide +kernel
theorem dX12_far_45 : decode cX12_far 45 = .ok (.iload 4, 2) := by decide +kernel
theorem dX12_far_47 : decode cX12_far 47 = .ok (.ireturn, 1) := by decide +kernel
theorem dX12_far_48 : decode cX12_far 48 = .ok (.iload_n 3, 1) := by decide +kernel
theorem dX12_far_49 : decode cX12_far 49 = .ok (.istore 5, 2) := by decide +kernel
theorem dX12_far_51 : decode cX12_far 51 = .ok (.iconst 0, 1) := by decide +kernel
theorem dX12_far_52 : decode cX12_far 52 = .ok (.istore 6, 2) := by decide +kernel
theorem dX12_far_54 : decode cX12_far 54 = .ok (.iload 6, 2) := by decide +kernel
theorem dX12_far_56 : decode cX12_far 56 = .ok (.aload_n 0, 1) := by decide +kernel
theorem dX12_far_57 : decode cX12_far 57 = .ok (.invokevirtual 215, 3) := by decide +kernel
theorem dX12_far_60 : decode cX12_far 60 = .ok (.if_icmp .ge 34, 3) := by decide +kernel
theorem dX12_far_63 : decode cX12_far 63 = .ok (.iload 5, 2) := by decide +kernel
theorem dX12_far_65 : decode cX12_far 65 = .ok (.iload_n 3, 1) := by decide +kernel
theorem dX12_far_66 : decode cX12_far 66 = .ok (.iload 6, 2) := by decide +kernel
theorem dX12_far_68 : decode cX12_far 68 = .ok (.ishr, 1) := by decide +kernel
theorem dX12_far_69 : decode cX12_far 69 = .ok (.iconst 1, 1) := by decide +kernel
theorem dX12_far_70 : decode cX12_far 70 = .ok (.iand, 1) := by decide +kernel
theorem dX12_far_71 : decode cX12_far 71 = .ok (.iconst 1, 1) := by decide +kernel
theorem dX12_far_72 : decode cX12_far 72 = .ok (.if_icmp .ne 12, 3) := by decide +kernel
theorem dX12_far_75 : decode cX12_far 75 = .ok (.aload_n 0, 1) := by decide +kernel
theorem dX12_far_76 : decode cX12_far 76 = .ok (.iload 6, 2) := by decide +kernel
theorem dX12_far_78 : decode cX12_far 78 = .ok (.invokevirtual 274, 3) := by decide +kernel
theorem dX12_far_81 : decode cX12_far 81 = .ok (.goto 4, 3) := by decide +kernel
theorem dX12_far_84 : decode cX12_far 84 = .ok (.iconst 0, 1) := by decide +kernel
theorem dX12_far_85 : decode cX12_far 85 = .ok (.ior, 1) := by decide +kernel
theorem dX12_far_86 : decode cX12_far 86 = .ok (.istore 5, 2) := by decide +kernel
theorem dX12_far_88 : decode cX12_far 88 = .ok (.iinc 6 1, 3) := by decide +kernel
theorem dX12_far_91 : decode cX12_far 91 = .ok (.goto (-37), 3) := by decide +kernel
theorem dX12_far_94 : decode cX12_far 94 = .ok (.iload 5, 2) := by decide +kernel
theorem dX12_far_96 : decode cX12_far 96 = .ok (.istore_n 3, 1) := by decide +kernel
theorem dX12_far_97 : decode cX12_far 97 = .ok (.iinc 4 1, 3) := by decide +kernel
theorem dX12_far_100 : decode cX12_far 100 = .ok (.goto (-70), 3) := by decide +kernel
theorem dX12_far_103 : decode cX12_far 103 = .ok (.iconst (-1), 1) := by decide +kernel
theorem dX12_far_104 : decode cX12_far 104 = .ok (.ireturn, 1) := by decide +kernel
abbrev tX12_far (k : Nat) : MT := (RX12, cX12_far, 7, k, (some .int))
def lX12_far_1 : SX := (sLoop (cB rlt (iLoc 6) (iCallV 12 mX12_huts (aR (rLoc 0) aNil))) (sSetI 5 (iB gT2 (· ||| ·) (iLoc 5) (iCond (cB req (iB gT2 (· &&& ·) (iB gT2 jshr (iLoc 3) (iLoc 6)) (iK 1)) (iK 1)) (iCallV 12 mX12_pathsFrom (aR (rLoc 0) (aI (iLoc 6) aNil))) (iK 0)))) (sInc 6 1))
def lX12_far_2 : SX := (sLoop (cB rlt (iLoc 4) (iK 5)) (sSeq (sIf (cB req (iB gT2 (· &&& ·) (iB gT2 jshr (iLoc 3) (iLoc 2)) (iK 1)) (iK 1)) (sRetI (iLoc 4)) sSkip) (sSeq (sSetI 5 (iLoc 3)) (sSeq (sSeq (sSetI 6 (iK 0)) lX12_far_1) (sSetI 3 (iLoc 5))))) (sSeq (sForget 5) (sInc 4 1)))
theorem olX12_far_1 (g : GT) {pcB pcC : Nat} : Sok g (tX12_far 2) 54 94 pcB pcC (lX12_far_1) := (Sok.loop (pc := 54) (pc1 := 63) (pc2 := 88) (pcN := 94) (Cok.cmp (pc1 := 56) (pc2 := 60) (pcT := 63) (pcF := 94) (EokI.iload (i := 6) dX12_far_54) (EokI.iCallV (pc1 := 57) (Aok.aR (pc1 := 57) (EokR.aload_n (q := 0) dX12_far_56) Aok.nil) (kX12_huts g) rfl ykX12_huts vkX12_215 (by decide) (by decide) dX12_far_57) (JI.ltF (tgt := 94) dX12_far_60 (by decide))) (by decide) (Sok.setI (i := 5) (pc1 := 86) (EokI.bin (pc1 := 65) (pc2 := 85) (EokI.iload (i := 5) dX12_far_63) (EokI.cond' (pc1 := 75) (pc2 := 84) (Cok.cmp (pc1 := 71) (pc2 := 72) (pcT := 75) (pcF := 84) (EokI.bin (pc1 := 69) (pc2 := 70) (EokI.bin (pc1 := 66) (pc2 := 68) (EokI.iload_n (q := 3) dX12_far_65) (EokI.iload (i := 6) dX12_far_66) (OPI.ishr dX12_far_68)) (EokI.iconst (v := 1) dX12_far_69 (by decide)) (OPI.iand dX12_far_70)) (EokI.iconst (v := 1) dX12_far_71 (by decide)) (JI.eqF (tgt := 84) dX12_far_72 (by decide))) (EokI.goto (pc1 := 81) (pc2 := 85) (EokI.iCallV (pc1 := 78) (Aok.aR (pc1 := 76) (EokR.aload_n (q := 0) dX12_far_75) (Aok.aI (pc1 := 78) (EokI.iload (i := 6) dX12_far_76) Aok.nil)) (kX12_pathsFrom g) rfl ykX12_pathsFrom vkX12_274 (by decide) (by decide) dX12_far_78) dX12_far_81 (by decide)) (EokI.iconst (v := 0) dX12_far_84 (by decide))) (OPI.ior dX12_far_85)) (by decide) dX12_far_86 (show 5 < 7 by decide)) (Sok.goto (pc1 := 91) (pcN := 54) (Sok.iinc (i := 6) (v := 1) dX12_far_88 (show 6 < 7 by decide) (by decide)) dX12_far_91 (by decide)))
theorem olX12_far_2 (g : GT) {pcB pcC : Nat} : Sok g (tX12_far 2) 30 103 pcB pcC (lX12_far_2) := (Sok.loop (pc := 30) (pc1 := 36) (pc2 := 97) (pcN := 103) (Cok.cmp (pc1 := 32) (pc2 := 33) (pcT := 36) (pcF := 103) (EokI.iload (i := 4) dX12_far_30) (EokI.iconst (v := 5) dX12_far_32 (by decide)) (JI.ltF (tgt := 103) dX12_far_33 (by decide))) (by decide) (Sok.seq (pc1 := 48) (Sok.ite (pc1 := 45) (pc2 := 48) (Cok.cmp (pc1 := 41) (pc2 := 42) (pcT := 45) (pcF := 48) (EokI.bin (pc1 := 39) (pc2 := 40) (EokI.bin (pc1 := 37) (pc2 := 38) (EokI.iload_n (q := 3) dX12_far_36) (EokI.iload_n (q := 2) dX12_far_37) (OPI.ishr dX12_far_38)) (EokI.iconst (v := 1) dX12_far_39 (by decide)) (OPI.iand dX12_far_40)) (EokI.iconst (v := 1) dX12_far_41 (by decide)) (JI.eqF (tgt := 48) dX12_far_42 (by decide))) (by decide) (Sok.retI (pc1 := 47) (EokI.iload (i := 4) dX12_far_45) (by decide) dX12_far_47 rfl) (Sok.skip (pc := 48))) (Sok.seq (pc1 := 51) (Sok.setI (i := 5) (pc1 := 49) (EokI.iload_n (q := 3) dX12_far_48) (by decide) dX12_far_49 (show 5 < 7 by decide)) (Sok.seq (pc1 := 94) (Sok.seq (pc1 := 54) (Sok.setI (i := 6) (pc1 := 52) (EokI.iconst (v := 0) dX12_far_51 (by decide)) (by decide) dX12_far_52 (show 6 < 7 by decide)) (olX12_far_1 g )) (Sok.setI_n (q := 3) (pc1 := 96) (EokI.iload (i := 5) dX12_far_94) (by decide) dX12_far_96 (show 3 < 7 by decide))))) (Sok.seq (pc1 := 97) Sok.forget (Sok.goto (pc1 := 100) (pcN := 30) (Sok.iinc (i := 4) (v := 1) dX12_far_97 (show 4 < 7 by decide) (by decide)) dX12_far_100 (by decide))))
def mX12_far : MX := bodyOf 7 (sSeq (sPutI 12 0 .int (rLoc 0) (iK 0)) (sSeq (sIf (cOr (cNot (cZ zne (iCallV 12 mX12_isHut (aR (rLoc 0) (aI (iLoc 1) aNil))))) (cNot (cZ zne (iCallV 12 mX12_isHut (aR (rLoc 0) (aI (iLoc 2) aNil)))))) (sRetI (iK (-1))) sSkip) (sSeq (sSetI 3 (iB gT2 jshl (iK 1) (iLoc 1))) (sSeq (sSeq (sSeq (sSetI 4 (iK 0)) lX12_far_2) (sForget 4)) (sRetI (iK (-1)))))))
theorem kX12_far (g : GT) : MK g 2 yX12_far cX12_far 7 (some .int) mX12_far := MK.of (pcN := 99999) (pcB := 0) (pcC := 0) rfl (Sok.seq (pc1 := 5) (Sok.putI (ci := 12) (T := TX12) (NN := 27) (tt := tyX12) (j := 0) (pc1 := 1) (pc2 := 2) (ty := .int) (EokR.aload_n (q := 0) dX12_far_0) (EokI.iconst (v := 0) dX12_far_1 (by decide)) (by decide) rfl wsX12_in tyX12_ok nmX12 (by decide) flX12_1 rfl rfl dX12_far_2) (Sok.seq (pc1 := 23) (Sok.ite (pc1 := 21) (pc2 := 23) (Cok.or (pc1 := 13) (Cok.not (Cok.zero (pc1 := 10) (pcT := 13) (pcF := 21) (EokI.iCallV (pc1 := 7) (Aok.aR (pc1 := 6) (EokR.aload_n (q := 0) dX12_far_5) (Aok.aI (pc1 := 7) (EokI.iload_n (q := 1) dX12_far_6) Aok.nil)) (kX12_isHut g) rfl ykX12_isHut vkX12_264 (by decide) (by decide) dX12_far_7) (JZ.neF (tgt := 21) dX12_far_10 (by decide)))) (Cok.not (Cok.zero (pc1 := 18) (pcT := 23) (pcF := 21) (EokI.iCallV (pc1 := 15) (Aok.aR (pc1 := 14) (EokR.aload_n (q := 0) dX12_far_13) (Aok.aI (pc1 := 15) (EokI.iload_n (q := 2) dX12_far_14) Aok.nil)) (kX12_isHut g) rfl ykX12_isHut vkX12_264 (by decide) (by decide) dX12_far_15) (JZ.neT (tgt := 23) dX12_far_18 (by decide))))) (by decide) (Sok.retI (pc1 := 22) (EokI.iconst (v := (-1)) dX12_far_21 (by decide)) (by decide) dX12_far_22 rfl) (Sok.skip (pc := 23))) (Sok.seq (pc1 := 27) (Sok.setI_n (q := 3) (pc1 := 26) (EokI.bin (pc1 := 24) (pc2 := 25) (EokI.iconst (v := 1) dX12_far_23 (by decide)) (EokI.iload_n (q := 1) dX12_far_24) (OPI.ishl dX12_far_25)) (by decide) dX12_far_26 (show 3 < 7 by decide)) (Sok.seq (pc1 := 103) (Sok.seq (pc1 := 103) (Sok.seq (pc1 := 30) (Sok.setI (i := 4) (pc1 := 28) (EokI.iconst (v := 0) dX12_far_27 (by decide)) (by decide) dX12_far_28 (show 4 < 7 by decide)) (olX12_far_2 g )) (Sok.forget (pc := 103))) (Sok.retI (pc1 := 104) (EokI.iconst (v := (-1)) dX12_far_103 (by decide)) (by decide) dX12_far_104 rfl)))))
/-! PassHutsModel.rich()I -/
theorem dX12_rich_0 : decode cX12_rich 0 = .ok (.aload_n 0, 1) := by decide +kernel
theorem dX12_rich_1 : decode cX12_rich 1 = .ok (.iconst 0, 1) := by decide +kernel
theorem dX12_rich_2 : decode cX12_rich 2 = .ok (.putfield 1, 3) := by decide +kernel
theorem dX12_rich_5 : decode cX12_rich 5 = .ok (.iconst (-1), 1) := by decide +kernel
theorem dX12_rich_6 : decode cX12_rich 6 = .ok (.istore_n 1, 1) := by decide +kernel
theorem dX12_rich_7 : decode cX12_rich 7 = .ok (.iconst 0, 1) := by decide +kernel
theorem dX12_rich_8 : decode cX12_rich 8 = .ok (.istore_n 2, 1) := by decide +kernel
theorem dX12_rich_9 : decode cX12_rich 9 = .ok (.iload_n 2, 1) := by decide +kernel
theorem dX12_rich_10 : decode cX12_rich 10 = .ok (.aload_n 0, 1) := by decide +kernel
theorem dX12_rich_11 : decode cX12_rich 11 = .ok (.invokevirtual 215, 3) := by decide +kernel
theorem dX12_rich_14 : decode cX12_rich 14 = .ok (.if_icmp .ge 34, 3) := by decide +kernel
theorem dX12_rich_17 : decode cX12_rich 17 = .ok (.iload_n 1, 1) := by decide +kernel
theorem dX12_rich_18 : decode cX12_rich 18 = .ok (.ifCond .lt 18, 3) := by decide +kernel
theorem dX12_rich_21 : decode cX12_rich 21 = .ok (.aload_n 0, 1) := by decide +kernel
theorem dX12_rich_22 : decode cX12_rich 22 = .ok (.getfield 93, 3) := by decide +kernel
theorem dX12_rich_25 : decode cX12_rich 25 = .ok (.iload_n 2, 1) := by decide +kernel
theorem dX12_rich_26 : decode cX12_rich 26 = .ok (.iaload, 1) := by decide +kernel
theorem dX12_rich_27 : decode cX12_rich 27 = .ok (.aload_n 0, 1) := by decide +kernel
theorem dX12_rich_28 : decode cX12_rich 28 = .ok (.getfield 93, 3) := by decide +kernel
theorem dX12_rich_31 : decode cX12_rich 31 = .ok (.iload_n 1, 1) := by decide +kernel
theorem dX12_rich_32 : decode cX12_rich 32 = .ok (.iaload, 1) := by decide +kernel
theorem dX12_rich_33 : decode cX12_rich 33 = .ok (.if_icmp .le 7, 3) := by decide +kernel
theorem dX12_rich_36 : decode cX12_rich 36 = .ok (.iload_n 2, 1) := by decide +kernel
theorem dX12_rich_37 : decode cX12_rich 37 = .ok (.goto 4, 3) := by decide +kernel
theorem dX12_rich_40 : decode cX12_rich 40 = .ok (.iload_n 1, 1) := by decide +kernel
theorem dX12_rich_41 : decode cX12_rich 41 = .ok (.istore_n 1, 1) := by decide +kernel
theorem dX12_rich_42 : decode cX12_rich 42 = .ok (.iinc 2 1, 3) := by decide +kernel
theorem dX12_rich_45 : decode cX12_rich 45 = .ok (.goto (-36), 3) := by decide +kernel
theorem dX12_rich_48 : decode cX12_rich 48 = .ok (.iload_n 1, 1) := by decide +kernel
theorem dX12_rich_49 : decode cX12_rich 49 = .ok (.ireturn, 1) := by decide +kernel
abbrev tX12_rich (k : Nat) : MT := (RX12, cX12_rich, 3, k, (some .int))
def lX12_rich_1 : SX := (sLoop (cB rlt (iLoc 2) (iCallV 12 mX12_huts (aR (rLoc 0) aNil))) (sSetI 1 (iCond (cOr (cZ zlt (iLoc 1)) (cB rgt (iALd (rGet 12 17 (rLoc 0)) (iLoc 2)) (iALd (rGet 12 17 (rLoc 0)) (iLoc 1)))) (iLoc 2) (iLoc 1))) (sInc 2 1))
theorem olX12_rich_1 (g : GT) {pcB pcC : Nat} : Sok g (tX12_rich 1) 9 48 pcB pcC (lX12_rich_1) := (Sok.loop (pc := 9) (pc1 := 17) (pc2 := 42) (pcN := 48) (Cok.cmp (pc1 := 10) (pc2 := 14) (pcT := 17) (pcF := 48) (EokI.iload_n (q := 2) dX12_rich_9) (EokI.iCallV (pc1 := 11) (Aok.aR (pc1 := 11) (EokR.aload_n (q := 0) dX12_rich_10) Aok.nil) (kX12_huts g) rfl ykX12_huts vkX12_215 (by decide) (by decide) dX12_rich_11) (JI.ltF (tgt := 48) dX12_rich_14 (by decide))) (by decide) (Sok.setI_n (q := 1) (pc1 := 41) (EokI.cond' (pc1 := 36) (pc2 := 40) (Cok.or (pc1 := 21) (Cok.zero (pc1 := 18) (pcT := 36) (pcF := 21) (EokI.iload_n (q := 1) dX12_rich_17) (JZ.ltT (tgt := 36) dX12_rich_18 (by decide))) (Cok.cmp (pc1 := 27) (pc2 := 33) (pcT := 36) (pcF := 40) (EokI.iALd (pc1 := 25) (pc2 := 26) (EokR.getf (pc1 := 22) (j := 17) (ci := 12) (T := TX12) (N := 27) (EokR.aload_n (q := 0) dX12_rich_21) rfl wsX12_in (by decide) flX12_93 dX12_rich_22) (EokI.iload_n (q := 2) dX12_rich_25) dX12_rich_26) (EokI.iALd (pc1 := 31) (pc2 := 32) (EokR.getf (pc1 := 28) (j := 17) (ci := 12) (T := TX12) (N := 27) (EokR.aload_n (q := 0) dX12_rich_27) rfl wsX12_in (by decide) flX12_93 dX12_rich_28) (EokI.iload_n (q := 1) dX12_rich_31) dX12_rich_32) (JI.gtF (tgt := 40) dX12_rich_33 (by decide)))) (EokI.goto (pc1 := 37) (pc2 := 41) (EokI.iload_n (q := 2) dX12_rich_36) dX12_rich_37 (by decide)) (EokI.iload_n (q := 1) dX12_rich_40)) (by decide) dX12_rich_41 (show 1 < 3 by decide)) (Sok.goto (pc1 := 45) (pcN := 9) (Sok.iinc (i := 2) (v := 1) dX12_rich_42 (show 2 < 3 by decide) (by decide)) dX12_rich_45 (by decide)))
def mX12_rich : MX := bodyOf 3 (sSeq (sPutI 12 0 .int (rLoc 0) (iK 0)) (sSeq (sSetI 1 (iK (-1))) (sSeq (sSeq (sSeq (sSetI 2 (iK 0)) lX12_rich_1) (sForget 2)) (sRetI (iLoc 1)))))
theorem kX12_rich (g : GT) : MK g 1 yX12_rich cX12_rich 3 (some .int) mX12_rich := MK.of (pcN := 99999) (pcB := 0) (pcC := 0) rfl (Sok.seq (pc1 := 5) (Sok.putI (ci := 12) (T := TX12) (NN := 27) (tt := tyX12) (j := 0) (pc1 := 1) (pc2 := 2) (ty := .int) (EokR.aload_n (q := 0) dX12_rich_0) (EokI.iconst (v := 0) dX12_rich_1 (by decide)) (by decide) rfl wsX12_in tyX12_ok nmX12 (by decide) flX12_1 rfl rfl dX12_rich_2) (Sok.seq (pc1 := 7) (Sok.setI_n (q := 1) (pc1 := 6) (EokI.iconst (v := (-1)) dX12_rich_5 (by decide)) (by decide) dX12_rich_6 (show 1 < 3 by decide)) (Sok.seq (pc1 := 48) (Sok.seq (pc1 := 48) (Sok.seq (pc1 := 9) (Sok.setI_n (q := 2) (pc1 := 8) (EokI.iconst (v := 0) dX12_rich_7 (by decide)) (by decide) dX12_rich_8 (show 2 < 3 by decide)) (olX12_rich_1 g )) (Sok.forget (pc := 48))) (Sok.retI (pc1 := 49) (EokI.iload_n (q := 1) dX12_rich_48) (by decide) dX12_rich_49 rfl))))
/-! PassHutsModel.cheap(II)I -/
theorem dX12_cheap_0 : decode cX12_cheap 0 = .ok (.aload_n 0, 1) := by decide +kernel
theorem dX12_cheap_1 : decode cX12_cheap 1 = .ok (.iconst 0, 1) := by decide +kernel
theorem dX12_cheap_2 : decode cX12_cheap 2 = .ok (.putfield 1, 3) := by decide +kernel
theorem dX12_cheap_5 : decode cX12_cheap 5 = .ok (.aload_n 0, 1) := by decide +kernel
theorem dX12_cheap_6 : decode cX12_cheap 6 = .ok (.iload_n 1, 1) := by decide +kernel
theorem dX12_cheap_7 : decode cX12_cheap 7 = .ok (.invokevirtual 264, 3) := by decide +kernel
theorem dX12_cheap_10 : decode cX12_cheap 10 = .ok (.ifCond .eq 11, 3) := by decide +kernel
theorem dX12_cheap_13 : decode cX12_cheap 13 = .ok (.aload_n 0, 1) := by decide +kernel
theorem dX12_cheap_14 : decode cX12_cheap 14 = .ok (.iload_n 2, 1) := by decide +kernel
theorem dX12_cheap_15 : decode cX12_cheap 15 = .ok (.invokevirtual 264, 3) := by decide +kernel
theorem dX12_cheap_18 : decode cX12_cheap 18 = .ok (.ifCond .ne 5, 3) := by decide +kernel
theorem dX12_cheap_21 : decode cX12_cheap 21 = .ok (.iconst (-1), 1) := by decide +kernel
theorem dX12_cheap_22 : decode cX12_cheap 22 = .ok (.ireturn, 1) := by decide +kernel
theorem dX12_cheap_23 : decode cX12_cheap 23 = .ok (.iconst 0, 1) := by decide +kernel
theorem dX12_cheap_24 : decode cX12_cheap 24 = .ok (.istore_n 3, 1) := by decide +kernel
theorem dX12_cheap_25 : decode cX12_cheap 25 = .ok (.iload_n 3, 1) := by decide +kernel
theorem dX12_cheap_26 : decode cX12_cheap 26 = .ok (.iconst 5, 1) := by decide +kernel
theorem dX12_cheap_27 : decode cX12_cheap 27 = .ok (.if_icmp .ge 25, 3) := by decide +kernel
theorem dX12_cheap_30 : decode cX12_cheap 30 = .ok (.aload_n 0, 1) := by decide +kernel
theorem dX12_cheap_31 : decode cX12_cheap 31 = .ok (.getfield 106, 3) := by decide +kernel
theorem dX12_cheap_34 : decode cX12_cheap 34 = .ok (.iload_n 3, 1) := by decide +kernel
theorem dX12_cheap_35 : decode cX12_cheap 35 = .ok (.iload_n 3, 1) := by decide +kernel
theorem dX12_cheap_36 : decode cX12_cheap 36 = .ok (.iload_n 1, 1) := by decide +kernel
theorem dX12_cheap_37 : decode cX12_cheap 37 = .ok (.if_icmp .ne 7, 3) := by decide +kernel
theorem dX12_cheap_40 : decode cX12_cheap 40 = .ok (.iconst 1, 1) := by decide +kernel
theorem dX12_cheap_41 : decode cX12_cheap 41 = .ok (.goto 4, 3) := by decide +kernel
theorem dX12_cheap_44 : decode cX12_cheap 44 = .ok (.iconst 0, 1) := by decide +kernel
theorem dX12_cheap_45 : decode cX12_cheap 45 = .ok (.iastore, 1) := by decide +kernel
theorem dX12_cheap_46 : decode cX12_cheap 46 = .ok (.iinc 3 1, 3) := by decide +kernel
theorem dX12_cheap_49 : decode cX12_cheap 49 = .ok (.goto (-24), 3) := by decide +kernel
theorem dX12_cheap_52 : decode cX12_cheap 52 = .ok (.iconst 0, 1) := by decide +kernel
theorem dX12_cheap_53 : decode cX12_cheap 53 = .ok (.istore_n 3, 1) := by decide +kernel
theorem dX12_cheap_54 : decode cX12_cheap 54 = .ok (.iload_n 3, 1) := by decide +kernel
theorem dX12_cheap_55 : decode cX12_cheap 55 = .ok (.iconst 5, 1) := by decide +kernel
theorem dX12_cheap_56 : decode cX12_cheap 56 = .ok (.if_icmp .ge 109, 3) := by decide +kernel
theorem dX12_cheap_59 : decode cX12_cheap 59 = .ok (.iconst 0, 1) := by decide +kernel
theorem dX12_cheap_60 : decode cX12_cheap 60 = .ok (.istore 4, 2) := by decide +kernel
theorem dX12_cheap_62 : decode cX12_cheap 62 = .ok (.iload 4, 2) := by decide +kernel
theorem dX12_cheap_64 : decode cX12_cheap 64 = .ok (.aload_n 0, 1) := by decide +kernel
theorem dX12_cheap_65 : decode cX12_cheap 65 = .ok (.invokevirtual 215, 3) := by decide +kernel
theorem dX12_cheap_68 : decode cX12_cheap 68 = .ok (.if_icmp .ge 91, 3) := by decide +kernel
theorem dX12_cheap_71 : decode cX12_cheap 71 = .ok (.iconst 0, 1) := by decide +kernel
theorem dX12_cheap_72 : decode cX12_cheap 72 = .ok (.istore 5, 2) := by decide +kernel
theorem dX12_cheap_74 : decode cX12_cheap 74 = .ok (.iload 5, 2) := by decide +kernel
theorem dX12_cheap_76 : decode cX12_cheap 76 = .ok (.aload_n 0, 1) := by decide +kernel
theorem dX12_cheap_77 : decode cX12_cheap 77 = .ok (.invokevirtual 215, 3) := by decide +kernel
theorem dX12_cheap_80 : decode cX12_cheap 80 = .ok (.if_icmp .ge 73, 3) := by decide +kernel
theorem dX12_cheap_83 : decode cX12_cheap 83 = .ok (.aload_n 0, 1) := by decide +kernel
theorem dX12_cheap_84 : decode cX12_cheap 84 = .ok (.getfield 106, 3) := by decide +kernel
theorem dX12_cheap_87 : decode cX12_cheap 87 = .ok (.iload 4, 2) := by decide +kernel
theorem dX12_cheap_89 : decode cX12_cheap 89 = .ok (.iaload, 1) := by decide +kernel
theorem dX12_cheap_90 : decode cX12_cheap 90 = .ok (.aload_n 0, 1) := by decide +kernel
theorem dX12_cheap_91 : decode cX12_cheap 91 = .ok (.iload 4, 2) := by decide +kernel
theorem dX12_cheap_93 : decode cX12_cheap 93 = .ok (.iload 5, 2) := by decide +kernel
theorem dX12_cheap_95 : decode cX12_cheap 95 = .ok (.invokevirtual 252, 3) := by decide +kernel
theorem dX12_cheap_98 : decode cX12_cheap 98 = .ok (.imul, 1) := by decide +kernel
theorem dX12_cheap_99 : decode cX12_cheap 99 = .ok (.istore 6, 2) := by decide +kernel
theorem dX12_cheap_101 : decode cX12_cheap 101 = .ok (.aload_n 0, 1) := by decide +kernel
theorem dX12_cheap_102 : decode cX12_cheap 102 = .ok (.getfield 106, 3) := by decide +kernel
theorem dX12_cheap_105 : decode cX12_cheap 105 = .ok (.iload 5, 2) := by decide +kernel
theorem dX12_cheap_107 : decode cX12_cheap 107 = .ok (.iload 6, 2) := by decide +kernel
theorem dX12_cheap_109 : decode cX12_cheap 109 = .ok (.ifCond .le 30, 3) := by decide +kernel
theorem dX12_cheap_112 : decode cX12_cheap 112 = .ok (.aload_n 0, 1) := by decide +kernel
theorem dX12_cheap_113 : decode cX12_cheap 113 = .ok (.getfield 106, 3) := by decide +kernel
theorem dX12_cheap_116 : decode cX12_cheap 116 = .ok (.iload 5, 2) := by decide +kernel
theorem dX12_cheap_118 : decode cX12_cheap 118 = .ok (.iaload, 1) := by decide +kernel
theorem dX12_cheap_119 : decode cX12_cheap 119 = .ok (.ifCond .eq 15, 3) := by decide +kernel
theorem dX12_cheap_122 : decode cX12_cheap 122 = .ok (.iload 6, 2) := by decide +kernel
theorem dX12_cheap_124 : decode cX12_cheap 124 = .ok (.aload_n 0, 1) := by decide +kernel
theorem dX12_cheap_125 : decode cX12_cheap 125 = .ok (.getfield 106, 3) := by decide +kernel
theorem dX12_cheap_128 : decode cX12_cheap 128 = .ok (.iload 5, 2) := by decide +kernel
theorem dX12_cheap_130 : decode cX12_cheap 130 = .ok (.iaload, 1) := by decide +kernel
theorem dX12_cheap_131 : decode cX12_cheap 131 = .ok (.if_icmp .ge 8, 3) := by decide +kernel
theorem dX12_cheap_134 : decode cX12_cheap 134 = .ok (.iload 6, 2) := by decide +kernel
theorem dX12_cheap_136 : decode cX12_cheap 136 = .ok (.goto 10, 3) := by decide +kernel
theorem dX12_cheap_139 : decode cX12_cheap 139 = .ok (.aload_n 0, 1) := by decide +kernel
theorem dX12_cheap_140 : decode cX12_cheap 140 = .ok (.getfield 106, 3) := by decide +kernel
theorem dX12_cheap_143 : decode cX12_cheap 143 = .ok (.iload 5, 2) := by decide +kernel
theorem dX12_cheap_145 : decode cX12_cheap 145 = .ok (.iaload, 1) := by decide +kernel
theorem dX12_cheap_146 : decode cX12_cheap 146 = .ok (.iastore, 1) := by decide +kernel
theorem dX12_cheap_147 : decode cX12_cheap 147 = .ok (.iinc 5 1, 3) := by decide +kernel
theorem dX12_cheap_150 : decode cX12_cheap 150 = .ok (.goto (-76), 3) := by decide +kernel
theorem dX12_cheap_153 : decode cX12_cheap 153 = .ok (.iinc 4 1, 3) := by decide +kernel
theorem dX12_cheap_156 : decode cX12_cheap 156 = .ok (.goto (-94), 3) := by decide +kernel
theorem dX12_cheap_159 : decode cX12_cheap 159 = .ok (.iinc 3 1, 3) := by decide +kernel
theorem dX12_cheap_162 : decode cX12_cheap 162 = .ok (.goto (-108), 3) := by decide +kernel
theorem dX12_cheap_165 : decode cX12_cheap 165 = .ok (.aload_n 0, 1) := by decide +kernel
theorem dX12_cheap_166 : decode cX12_cheap 166 = .ok (.getfield 106, 3) := by decide +kernel
theorem dX12_cheap_169 : decode cX12_cheap 169 = .ok (.iload_n 2, 1) := by decide +kernel
theorem dX12_cheap_170 : decode cX12_cheap 170 = .ok (.iaload, 1) := by decide +kernel
theorem dX12_cheap_171 : decode cX12_cheap 171 = .ok (.ifCond .ne 7, 3) := by decide +kernel
theorem dX12_cheap_174 : decode cX12_cheap 174 = .ok (.iconst (-1), 1) := by decide +kernel
theorem dX12_cheap_175 : decode cX12_cheap 175 = .ok (.goto 9, 3) := by decide +kernel
theorem dX12_cheap_178 : decode cX12_cheap 178 = .ok (.aload_n 0, 1) := by decide +kernel
theorem dX12_cheap_179 : decode cX12_cheap 179 = .ok (.getfield 106, 3) := by decide +kernel
theorem dX12_cheap_182 : decode cX12_cheap 182 = .ok (.iload_n 2, 1) := by decide +kernel
theorem dX12_cheap_183 : decode cX12_cheap 183 = .ok (.iaload, 1) := by decide +kernel
theorem dX12_cheap_184 : decode cX12_cheap 184 = .ok (.ireturn, 1) := by decide +kernel
abbrev tX12_cheap (k : Nat) : MT := (RX12, cX12_cheap, 7, k, (some .int))
def lX12_cheap_1 : SX := (sLoop (cB rlt (iLoc 3) (iK 5)) (sASt 0 narI (rGet 12 23 (rLoc 0)) (iLoc 3) (iCond (cB req (iLoc 3) (iLoc 1)) (iK 1) (iK 0))) (sInc 3 1))
def lX12_cheap_2 : SX := (sLoop (cB rlt (iLoc 5) (iCallV 12 mX12_huts (aR (rLoc 0) aNil))) (sSeq (sSetI 6 (iB gT2 (· * ·) (iALd (rGet 12 23 (rLoc 0)) (iLoc 4)) (iCallV 12 mX12_priceOf (aR (rLoc 0) (aI (iLoc 4) (aI (iLoc 5) aNil)))))) (sASt 0 narI (rGet 12 23 (rLoc 0)) (iLoc 5) (iCond (cAnd (cZ zgt (iLoc 6)) (cOr (cZ zeq (iALd (rGet 12 23 (rLoc 0)) (iLoc 5))) (cB rlt (iLoc 6) (iALd (rGet 12 23 (rLoc 0)) (iLoc 5))))) (iLoc 6) (iALd (rGet 12 23 (rLoc 0)) (iLoc 5))))) (sSeq (sForget 6) (sInc 5 1)))
def lX12_cheap_3 : SX := (sLoop (cB rlt (iLoc 4) (iCallV 12 mX12_huts (aR (rLoc 0) aNil))) (sSeq (sSetI 5 (iK 0)) lX12_cheap_2) (sSeq (sForget 5) (sInc 4 1)))
def lX12_cheap_4 : SX := (sLoop (cB rlt (iLoc 3) (iK 5)) (sSeq (sSetI 4 (iK 0)) lX12_cheap_3) (sSeq (sForget 4) (sInc 3 1)))
theorem olX12_cheap_2 (g : GT) {pcB pcC : Nat} : Sok g (tX12_cheap 2) 74 153 pcB pcC (lX12_cheap_2) := (Sok.loop (pc := 74) (pc1 := 83) (pc2 := 147) (pcN := 153) (Cok.cmp (pc1 := 76) (pc2 := 80) (pcT := 83) (pcF := 153) (EokI.iload (i := 5) dX12_cheap_74) (EokI.iCallV (pc1 := 77) (Aok.aR (pc1 := 77) (EokR.aload_n (q := 0) dX12_cheap_76) Aok.nil) (kX12_huts g) rfl ykX12_huts vkX12_215 (by decide) (by decide) dX12_cheap_77) (JI.ltF (tgt := 153) dX12_cheap_80 (by decide))) (by decide) (Sok.seq (pc1 := 101) (Sok.setI (i := 6) (pc1 := 99) (EokI.bin (pc1 := 90) (pc2 := 98) (EokI.iALd (pc1 := 87) (pc2 := 89) (EokR.getf (pc1 := 84) (j := 23) (ci := 12) (T := TX12) (N := 27) (EokR.aload_n (q := 0) dX12_cheap_83) rfl wsX12_in (by decide) flX12_106 dX12_cheap_84) (EokI.iload (i := 4) dX12_cheap_87) dX12_cheap_89) (EokI.iCallV (pc1 := 95) (Aok.aR (pc1 := 91) (EokR.aload_n (q := 0) dX12_cheap_90) (Aok.aI (pc1 := 93) (EokI.iload (i := 4) dX12_cheap_91) (Aok.aI (pc1 := 95) (EokI.iload (i := 5) dX12_cheap_93) Aok.nil))) (kX12_priceOf g) rfl ykX12_priceOf vkX12_252 (by decide) (by decide) dX12_cheap_95) (OPI.imul dX12_cheap_98)) (by decide) dX12_cheap_99 (show 6 < 7 by decide)) (Sok.iASt (pc1 := 105) (pc2 := 107) (pc3 := 146) (EokR.getf (pc1 := 102) (j := 23) (ci := 12) (T := TX12) (N := 27) (EokR.aload_n (q := 0) dX12_cheap_101) rfl wsX12_in (by decide) flX12_106 dX12_cheap_102) (EokI.iload (i := 5) dX12_cheap_105) (EokI.cond' (pc1 := 134) (pc2 := 139) (Cok.and (pc1 := 112) (Cok.zero (pc1 := 109) (pcT := 112) (pcF := 139) (EokI.iload (i := 6) dX12_cheap_107) (JZ.gtF (tgt := 139) dX12_cheap_109 (by decide))) (Cok.or (pc1 := 122) (Cok.zero (pc1 := 119) (pcT := 134) (pcF := 122) (EokI.iALd (pc1 := 116) (pc2 := 118) (EokR.getf (pc1 := 113) (j := 23) (ci := 12) (T := TX12) (N := 27) (EokR.aload_n (q := 0) dX12_cheap_112) rfl wsX12_in (by decide) flX12_106 dX12_cheap_113) (EokI.iload (i := 5) dX12_cheap_116) dX12_cheap_118) (JZ.eqT (tgt := 134) dX12_cheap_119 (by decide))) (Cok.cmp (pc1 := 124) (pc2 := 131) (pcT := 134) (pcF := 139) (EokI.iload (i := 6) dX12_cheap_122) (EokI.iALd (pc1 := 128) (pc2 := 130) (EokR.getf (pc1 := 125) (j := 23) (ci := 12) (T := TX12) (N := 27) (EokR.aload_n (q := 0) dX12_cheap_124) rfl wsX12_in (by decide) flX12_106 dX12_cheap_125) (EokI.iload (i := 5) dX12_cheap_128) dX12_cheap_130) (JI.ltF (tgt := 139) dX12_cheap_131 (by decide))))) (EokI.goto (pc1 := 136) (pc2 := 146) (EokI.iload (i := 6) dX12_cheap_134) dX12_cheap_136 (by decide)) (EokI.iALd (pc1 := 143) (pc2 := 145) (EokR.getf (pc1 := 140) (j := 23) (ci := 12) (T := TX12) (N := 27) (EokR.aload_n (q := 0) dX12_cheap_139) rfl wsX12_in (by decide) flX12_106 dX12_cheap_140) (EokI.iload (i := 5) dX12_cheap_143) dX12_cheap_145)) (by decide) dX12_cheap_146)) (Sok.seq (pc1 := 147) Sok.forget (Sok.goto (pc1 := 150) (pcN := 74) (Sok.iinc (i := 5) (v := 1) dX12_cheap_147 (show 5 < 7 by decide) (by decide)) dX12_cheap_150 (by decide))))
theorem olX12_cheap_3 (g : GT) {pcB pcC : Nat} : Sok g (tX12_cheap 2) 62 159 pcB pcC (lX12_cheap_3) := (Sok.loop (pc := 62) (pc1 := 71) (pc2 := 153) (pcN := 159) (Cok.cmp (pc1 := 64) (pc2 := 68) (pcT := 71) (pcF := 159) (EokI.iload (i := 4) dX12_cheap_62) (EokI.iCallV (pc1 := 65) (Aok.aR (pc1 := 65) (EokR.aload_n (q := 0) dX12_cheap_64) Aok.nil) (kX12_huts g) rfl ykX12_huts vkX12_215 (by decide) (by decide) dX12_cheap_65) (JI.ltF (tgt := 159) dX12_cheap_68 (by decide))) (by decide) (Sok.seq (pc1 := 74) (Sok.setI (i := 5) (pc1 := 72) (EokI.iconst (v := 0) dX12_cheap_71 (by decide)) (by decide) dX12_cheap_72 (show 5 < 7 by decide)) (olX12_cheap_2 g )) (Sok.seq (pc1 := 153) Sok.forget (Sok.goto (pc1 := 156) (pcN := 62) (Sok.iinc (i := 4) (v := 1) dX12_cheap_153 (show 4 < 7 by decide) (by decide)) dX12_cheap_156 (by decide))))
theorem olX12_cheap_4 (g : GT) {pcB pcC : Nat} : Sok g (tX12_cheap 2) 54 165 pcB pcC (lX12_cheap_4) := (Sok.loop (pc := 54) (pc1 := 59) (pc2 := 159) (pcN := 165) (Cok.cmp (pc1 := 55) (pc2 := 56) (pcT := 59) (pcF := 165) (EokI.iload_n (q := 3) dX12_cheap_54) (EokI.iconst (v := 5) dX12_cheap_55 (by decide)) (JI.ltF (tgt := 165) dX12_cheap_56 (by decide))) (by decide) (Sok.seq (pc1 := 62) (Sok.setI (i := 4) (pc1 := 60) (EokI.iconst (v := 0) dX12_cheap_59 (by decide)) (by decide) dX12_cheap_60 (show 4 < 7 by decide)) (olX12_cheap_3 g )) (Sok.seq (pc1 := 159) Sok.forget (Sok.goto (pc1 := 162) (pcN := 54) (Sok.iinc (i := 3) (v := 1) dX12_cheap_159 (show 3 < 7 by decide) (by decide)) dX12_cheap_162 (by decide))))
theorem olX12_cheap_1 (g : GT) {pcB pcC : Nat} : Sok g (tX12_cheap 2) 25 52 pcB pcC (lX12_cheap_1) := (Sok.loop (pc := 25) (pc1 := 30) (pc2 := 46) (pcN := 52) (Cok.cmp (pc1 := 26) (pc2 := 27) (pcT := 30) (pcF := 52) (EokI.iload_n (q := 3) dX12_cheap_25) (EokI.iconst (v := 5) dX12_cheap_26 (by decide)) (JI.ltF (tgt := 52) dX12_cheap_27 (by decide))) (by decide) (Sok.iASt (pc1 := 34) (pc2 := 35) (pc3 := 45) (EokR.getf (pc1 := 31) (j := 23) (ci := 12) (T := TX12) (N := 27) (EokR.aload_n (q := 0) dX12_cheap_30) rfl wsX12_in (by decide) flX12_106 dX12_cheap_31) (EokI.iload_n (q := 3) dX12_cheap_34) (EokI.cond' (pc1 := 40) (pc2 := 44) (Cok.cmp (pc1 := 36) (pc2 := 37) (pcT := 40) (pcF := 44) (EokI.iload_n (q := 3) dX12_cheap_35) (EokI.iload_n (q := 1) dX12_cheap_36) (JI.eqF (tgt := 44) dX12_cheap_37 (by decide))) (EokI.goto (pc1 := 41) (pc2 := 45) (EokI.iconst (v := 1) dX12_cheap_40 (by decide)) dX12_cheap_41 (by decide)) (EokI.iconst (v := 0) dX12_cheap_44 (by decide))) (by decide) dX12_cheap_45) (Sok.goto (pc1 := 49) (pcN := 25) (Sok.iinc (i := 3) (v := 1) dX12_cheap_46 (show 3 < 7 by decide) (by decide)) dX12_cheap_49 (by decide)))
def mX12_cheap : MX := bodyOf 7 (sSeq (sPutI 12 0 .int (rLoc 0) (iK 0)) (sSeq (sIf (cOr (cNot (cZ zne (iCallV 12 mX12_isHut (aR (rLoc 0) (aI (iLoc 1) aNil))))) (cNot (cZ zne (iCallV 12 mX12_isHut (aR (rLoc 0) (aI (iLoc 2) aNil)))))) (sRetI (iK (-1))) sSkip) (sSeq (sSeq (sSeq (sSetI 3 (iK 0)) lX12_cheap_1) (sForget 3)) (sSeq (sSeq (sSeq (sSetI 3 (iK 0)) lX12_cheap_4) (sForget 3)) (sRetI (iCond (cZ zeq (iALd (rGet 12 23 (rLoc 0)) (iLoc 2))) (iK (-1)) (iALd (rGet 12 23 (rLoc 0)) (iLoc 2))))))))
theorem kX12_cheap (g : GT) : MK g 2 yX12_cheap cX12_cheap 7 (some .int) mX12_cheap := MK.of (pcN := 99999) (pcB := 0) (pcC := 0) rfl (Sok.seq (pc1 := 5) (Sok.putI (ci := 12) (T := TX12) (NN := 27) (tt := tyX12) (j := 0) (pc1 := 1) (pc2 := 2) (ty := .int) (EokR.aload_n (q := 0) dX12_cheap_0) (EokI.iconst (v := 0) dX12_cheap_1 (by decide)) (by decide) rfl wsX12_in tyX12_ok nmX12 (by decide) flX12_1 rfl rfl dX12_cheap_2) (Sok.seq (pc1 := 23) (Sok.ite (pc1 := 21) (pc2 := 23) (Cok.or (pc1 := 13) (Cok.not (Cok.zero (pc1 := 10) (pcT := 13) (pcF := 21) (EokI.iCallV (pc1 := 7) (Aok.aR (pc1 := 6) (EokR.aload_n (q := 0) dX12_cheap_5) (Aok.aI (pc1 := 7) (EokI.iload_n (q := 1) dX12_cheap_6) Aok.nil)) (kX12_isHut g) rfl ykX12_isHut vkX12_264 (by decide) (by decide) dX12_cheap_7) (JZ.neF (tgt := 21) dX12_cheap_10 (by decide)))) (Cok.not (Cok.zero (pc1 := 18) (pcT := 23) (pcF := 21) (EokI.iCallV (pc1 := 15) (Aok.aR (pc1 := 14) (EokR.aload_n (q := 0) dX12_cheap_13) (Aok.aI (pc1 := 15) (EokI.iload_n (q := 2) dX12_cheap_14) Aok.nil)) (kX12_isHut g) rfl ykX12_isHut vkX12_264 (by decide) (by decide) dX12_cheap_15) (JZ.neT (tgt := 23) dX12_cheap_18 (by decide))))) (by decide) (Sok.retI (pc1 := 22) (EokI.iconst (v := (-1)) dX12_cheap_21 (by decide)) (by decide) dX12_cheap_22 rfl) (Sok.skip (pc := 23))) (Sok.seq (pc1 := 52) (Sok.seq (pc1 := 52) (Sok.seq (pc1 := 25) (Sok.setI_n (q := 3) (pc1 := 24) (EokI.iconst (v := 0) dX12_cheap_23 (by decide)) (by decide) dX12_cheap_24 (show 3 < 7 by decide)) (olX12_cheap_1 g )) (Sok.forget (pc := 52))) (Sok.seq (pc1 := 165) (Sok.seq (pc1 := 165) (Sok.seq (pc1 := 54) (Sok.setI_n (q := 3) (pc1 := 53) (EokI.iconst (v := 0) dX12_cheap_52 (by decide)) (by decide) dX12_cheap_53 (show 3 < 7 by decide)) (olX12_cheap_4 g )) (Sok.forget (pc := 165))) (Sok.retI (pc1 := 184) (EokI.cond' (pc1 := 174) (pc2 := 178) (Cok.zero (pc1 := 171) (pcT := 174) (pcF := 178) (EokI.iALd (pc1 := 169) (pc2 := 170) (EokR.getf (pc1 := 166) (j := 23) (ci := 12) (T := TX12) (N := 27) (EokR.aload_n (q := 0) dX12_cheap_165) rfl wsX12_in (by decide) flX12_106 dX12_cheap_166) (EokI.iload_n (q := 2) dX12_cheap_169) dX12_cheap_170) (JZ.eqF (tgt := 178) dX12_cheap_171 (by decide))) (EokI.goto (pc1 := 175) (pc2 := 184) (EokI.iconst (v := (-1)) dX12_cheap_174 (by decide)) dX12_cheap_175 (by decide)) (EokI.iALd (pc1 := 182) (pc2 := 183) (EokR.getf (pc1 := 179) (j := 23) (ci := 12) (T := TX12) (N := 27) (EokR.aload_n (q := 0) dX12_cheap_178) rfl wsX12_in (by decide) flX12_106 dX12_cheap_179) (EokI.iload_n (q := 2) dX12_cheap_182) dX12_cheap_183)) (by decide) dX12_cheap_184 rfl)))))
/-! PassHutsModel.isWay()Z -/
theorem dX12_isWay_0 : decode cX12_isWay 0 = .ok (.iconst 1, 1) := by decide +kernel
theorem dX12_isWay_1 : decode cX12_isWay 1 = .ok (.istore_n 1, 1) := by decide +kernel
theorem dX12_isWay_2 : decode cX12_isWay 2 = .ok (.iconst 0, 1) := by decide +kernel
theorem dX12_isWay_3 : decode cX12_isWay 3 = .ok (.istore_n 2, 1) := by decide +kernel
theorem dX12_isWay_4 : decode cX12_isWay 4 = .ok (.iload_n 2, 1) := by decide +kernel
theorem dX12_isWay_5 : decode cX12_isWay 5 = .ok (.aload_n 0, 1) := by decide +kernel
theorem dX12_isWay_6 : decode cX12_isWay 6 = .ok (.invokevirtual 215, 3) := by decide +kernel
theorem dX12_isWay_9 : decode cX12_isWay 9 = .ok (.if_icmp .ge 48, 3) := by decide +kernel
theorem dX12_isWay_12 : decode cX12_isWay 12 = .ok (.iload_n 1, 1) := by decide +kernel
theorem dX12_isWay_13 : decode cX12_isWay 13 = .ok (.ifCond .eq 36, 3) := by decide +kernel
theorem dX12_isWay_16 : decode cX12_isWay 16 = .ok (.aload_n 0, 1) := by decide +kernel
theorem dX12_isWay_17 : decode cX12_isWay 17 = .ok (.getfield 100, 3) := by decide +kernel
theorem dX12_isWay_20 : decode cX12_isWay 20 = .ok (.iload_n 2, 1) := by decide +kernel
theorem dX12_isWay_21 : decode cX12_isWay 21 = .ok (.iaload, 1) := by decide +kernel
theorem dX12_isWay_22 : decode cX12_isWay 22 = .ok (.ifCond .lt 27, 3) := by decide +kernel
theorem dX12_isWay_25 : decode cX12_isWay 25 = .ok (.aload_n 0, 1) := by decide +kernel
theorem dX12_isWay_26 : decode cX12_isWay 26 = .ok (.iload_n 2, 1) := by decide +kernel
theorem dX12_isWay_27 : decode cX12_isWay 27 = .ok (.iconst 0, 1) := by decide +kernel
theorem dX12_isWay_28 : decode cX12_isWay 28 = .ok (.invokevirtual 236, 3) := by decide +kernel
theorem dX12_isWay_31 : decode cX12_isWay 31 = .ok (.iconst 3, 1) := by decide +kernel
theorem dX12_isWay_32 : decode cX12_isWay 32 = .ok (.if_icmp .ne 13, 3) := by decide +kernel
theorem dX12_isWay_35 : decode cX12_isWay 35 = .ok (.aload_n 0, 1) := by decide +kernel
theorem dX12_isWay_36 : decode cX12_isWay 36 = .ok (.getfield 100, 3) := by decide +kernel
theorem dX12_isWay_39 : decode cX12_isWay 39 = .ok (.iload_n 2, 1) := by decide +kernel
theorem dX12_isWay_40 : decode cX12_isWay 40 = .ok (.iaload, 1) := by decide +kernel
theorem dX12_isWay_41 : decode cX12_isWay 41 = .ok (.iconst 3, 1) := by decide +kernel
theorem dX12_isWay_42 : decode cX12_isWay 42 = .ok (.if_icmp .gt 7, 3) := by decide +kernel
theorem dX12_isWay_45 : decode cX12_isWay 45 = .ok (.iconst 1, 1) := by decide +kernel
theorem dX12_isWay_46 : decode cX12_isWay 46 = .ok (.goto 4, 3) := by decide +kernel
theorem dX12_isWay_49 : decode cX12_isWay 49 = .ok (.iconst 0, 1) := by decide +kernel
theorem dX12_isWay_50 : decode cX12_isWay 50 = .ok (.istore_n 1, 1) := by decide +kernel
theorem dX12_isWay_51 : decode cX12_isWay 51 = .ok (.iinc 2 1, 3) := by decide +kernel
theorem dX12_isWay_54 : decode cX12_isWay 54 = .ok (.goto (-50), 3) := by decide +kernel
theorem dX12_isWay_57 : decode cX12_isWay 57 = .ok (.iload_n 1, 1) := by decide +kernel
theorem dX12_isWay_58 : decode cX12_isWay 58 = .ok (.ifCond .eq 16, 3) := by decide +kernel
theorem dX12_isWay_61 : decode cX12_isWay 61 = .ok (.aload_n 0, 1) := by decide +kernel
theorem dX12_isWay_62 : decode cX12_isWay 62 = .ok (.invokevirtual 258, 3) := by decide +kernel
theorem dX12_isWay_65 : decode cX12_isWay 65 = .ok (.bipush 12, 2) := by decide +kernel
theorem dX12_isWay_67 : decode cX12_isWay 67 = .ok (.if_icmp .gt 7, 3) := by decide +kernel
theorem dX12_isWay_70 : decode cX12_isWay 70 = .ok (.iconst 1, 1) := by decide +kernel
theorem dX12_isWay_71 : decode cX12_isWay 71 = .ok (.goto 4, 3) := by decide +kernel
theorem dX12_isWay_74 : decode cX12_isWay 74 = .ok (.iconst 0, 1) := by decide +kernel
theorem dX12_isWay_75 : decode cX12_isWay 75 = .ok (.ireturn, 1) := by decide +kernel
abbrev tX12_isWay (k : Nat) : MT := (RX12, cX12_isWay, 3, k, (some .boolean))
def lX12_isWay_1 : SX := (sLoop (cB rlt (iLoc 2) (iCallV 12 mX12_huts (aR (rLoc 0) aNil))) (sSetI 1 (iBool (cAnd (cAnd (cZ zne (iLoc 1)) (cZ zge (iALd (rGet 12 20 (rLoc 0)) (iLoc 2)))) (cNot (cAnd (cB req (iCallV 12 mX12_hutOf (aR (rLoc 0) (aI (iLoc 2) (aI (iK 0) aNil)))) (iK 3)) (cB rgt (iALd (rGet 12 20 (rLoc 0)) (iLoc 2)) (iK 3))))))) (sInc 2 1))
theorem olX12_isWay_1 (g : GT) {pcB pcC : Nat} : Sok g (tX12_isWay 1) 4 57 pcB pcC (lX12_isWay_1) := (Sok.loop (pc := 4) (pc1 := 12) (pc2 := 51) (pcN := 57) (Cok.cmp (pc1 := 5) (pc2 := 9) (pcT := 12) (pcF := 57) (EokI.iload_n (q := 2) dX12_isWay_4) (EokI.iCallV (pc1 := 6) (Aok.aR (pc1 := 6) (EokR.aload_n (q := 0) dX12_isWay_5) Aok.nil) (kX12_huts g) rfl ykX12_huts vkX12_215 (by decide) (by decide) dX12_isWay_6) (JI.ltF (tgt := 57) dX12_isWay_9 (by decide))) (by decide) (Sok.setI_n (q := 1) (pc1 := 50) (EokI.cond' (pc1 := 45) (pc2 := 49) (Cok.and (pc1 := 25) (Cok.and (pc1 := 16) (Cok.zero (pc1 := 13) (pcT := 16) (pcF := 49) (EokI.iload_n (q := 1) dX12_isWay_12) (JZ.neF (tgt := 49) dX12_isWay_13 (by decide))) (Cok.zero (pc1 := 22) (pcT := 25) (pcF := 49) (EokI.iALd (pc1 := 20) (pc2 := 21) (EokR.getf (pc1 := 17) (j := 20) (ci := 12) (T := TX12) (N := 27) (EokR.aload_n (q := 0) dX12_isWay_16) rfl wsX12_in (by decide) flX12_100 dX12_isWay_17) (EokI.iload_n (q := 2) dX12_isWay_20) dX12_isWay_21) (JZ.geF (tgt := 49) dX12_isWay_22 (by decide)))) (Cok.not (Cok.and (pc1 := 35) (Cok.cmp (pc1 := 31) (pc2 := 32) (pcT := 35) (pcF := 45) (EokI.iCallV (pc1 := 28) (Aok.aR (pc1 := 26) (EokR.aload_n (q := 0) dX12_isWay_25) (Aok.aI (pc1 := 27) (EokI.iload_n (q := 2) dX12_isWay_26) (Aok.aI (pc1 := 28) (EokI.iconst (v := 0) dX12_isWay_27 (by decide)) Aok.nil))) (kX12_hutOf g) rfl ykX12_hutOf vkX12_236 (by decide) (by decide) dX12_isWay_28) (EokI.iconst (v := 3) dX12_isWay_31 (by decide)) (JI.eqF (tgt := 45) dX12_isWay_32 (by decide))) (Cok.cmp (pc1 := 41) (pc2 := 42) (pcT := 49) (pcF := 45) (EokI.iALd (pc1 := 39) (pc2 := 40) (EokR.getf (pc1 := 36) (j := 20) (ci := 12) (T := TX12) (N := 27) (EokR.aload_n (q := 0) dX12_isWay_35) rfl wsX12_in (by decide) flX12_100 dX12_isWay_36) (EokI.iload_n (q := 2) dX12_isWay_39) dX12_isWay_40) (EokI.iconst (v := 3) dX12_isWay_41 (by decide)) (JI.gtT (tgt := 49) dX12_isWay_42 (by decide)))))) (EokI.goto (pc1 := 46) (pc2 := 50) (EokI.iconst (v := 1) dX12_isWay_45 (by decide)) dX12_isWay_46 (by decide)) (EokI.iconst (v := 0) dX12_isWay_49 (by decide))) (by decide) dX12_isWay_50 (show 1 < 3 by decide)) (Sok.goto (pc1 := 54) (pcN := 4) (Sok.iinc (i := 2) (v := 1) dX12_isWay_51 (show 2 < 3 by decide) (by decide)) dX12_isWay_54 (by decide)))
def mX12_isWay : MX := bodyOf 3 (sSeq (sSetI 1 (iK 1)) (sSeq (sSeq (sSeq (sSetI 2 (iK 0)) lX12_isWay_1) (sForget 2)) (sRetZ (iBool (cAnd (cZ zne (iLoc 1)) (cB rle (iCallV 12 mX12_allLoads (aR (rLoc 0) aNil)) (iK 12)))))))
theorem kX12_isWay (g : GT) : MK g 1 yX12_isWay cX12_isWay 3 (some .boolean) mX12_isWay := MK.of (pcN := 99999) (pcB := 0) (pcC := 0) rfl (Sok.seq (pc1 := 2) (Sok.setI_n (q := 1) (pc1 := 1) (EokI.iconst (v := 1) dX12_isWay_0 (by decide)) (by decide) dX12_isWay_1 (show 1 < 3 by decide)) (Sok.seq (pc1 := 57) (Sok.seq (pc1 := 57) (Sok.seq (pc1 := 4) (Sok.setI_n (q := 2) (pc1 := 3) (EokI.iconst (v := 0) dX12_isWay_2 (by decide)) (by decide) dX12_isWay_3 (show 2 < 3 by decide)) (olX12_isWay_1 g )) (Sok.forget (pc := 57))) (Sok.retZ (pc1 := 75) (EokI.cond' (pc1 := 70) (pc2 := 74) (Cok.and (pc1 := 61) (Cok.zero (pc1 := 58) (pcT := 61) (pcF := 74) (EokI.iload_n (q := 1) dX12_isWay_57) (JZ.neF (tgt := 74) dX12_isWay_58 (by decide))) (Cok.cmp (pc1 := 65) (pc2 := 67) (pcT := 70) (pcF := 74) (EokI.iCallV (pc1 := 62) (Aok.aR (pc1 := 62) (EokR.aload_n (q := 0) dX12_isWay_61) Aok.nil) (kX12_allLoads g) rfl ykX12_allLoads vkX12_258 (by decide) (by decide) dX12_isWay_62) (EokI.bipush (v := 12) dX12_isWay_65 (by decide)) (JI.leF (tgt := 74) dX12_isWay_67 (by decide)))) (EokI.goto (pc1 := 71) (pc2 := 75) (EokI.iconst (v := 1) dX12_isWay_70 (by decide)) dX12_isWay_71 (by decide)) (EokI.iconst (v := 0) dX12_isWay_74 (by decide))) (by decide) dX12_isWay_75 rfl)))
/-! PassHutsModel.beforeNow()I -/
theorem dX12_beforeNow_0 : decode cX12_beforeNow 0 = .ok (.iconst 0, 1) := by decide +kernel
theorem dX12_beforeNow_1 : decode cX12_beforeNow 1 = .ok (.istore_n 1, 1) := by decide +kernel
theorem dX12_beforeNow_2 : decode cX12_beforeNow 2 = .ok (.iconst 0, 1) := by decide +kernel
theorem dX12_beforeNow_3 : decode cX12_beforeNow 3 = .ok (.istore_n 2, 1) := by decide +kernel
theorem dX12_beforeNow_4 : decode cX12_beforeNow 4 = .ok (.iload_n 2, 1) := by decide +kernel
theorem dX12_beforeNow_5 : decode cX12_beforeNow 5 = .ok (.aload_n 0, 1) := by decide +kernel
theorem dX12_beforeNow_6 : decode cX12_beforeNow 6 = .ok (.invokevirtual 215, 3) := by decide +kernel
theorem dX12_beforeNow_9 : decode cX12_beforeNow 9 = .ok (.if_icmp .ge 72, 3) := by decide +kernel
theorem dX12_beforeNow_12 : decode cX12_beforeNow 12 = .ok (.iconst 0, 1) := by decide +kernel
theorem dX12_beforeNow_13 : decode cX12_beforeNow 13 = .ok (.istore_n 3, 1) := by decide +kernel
theorem dX12_beforeNow_14 : decode cX12_beforeNow 14 = .ok (.iload_n 3, 1) := by decide +kernel
theorem dX12_beforeNow_15 : decode cX12_beforeNow 15 = .ok (.aload_n 0, 1) := by decide +kernel
theorem dX12_beforeNow_16 : decode cX12_beforeNow 16 = .ok (.invokevirtual 215, 3) := by decide +kernel
theorem dX12_beforeNow_19 : decode cX12_beforeNow 19 = .ok (.if_icmp .ge 56, 3) := by decide +kernel
theorem dX12_beforeNow_22 : decode cX12_beforeNow 22 = .ok (.aload_n 0, 1) := by decide +kernel
theorem dX12_beforeNow_23 : decode cX12_beforeNow 23 = .ok (.iload_n 2, 1) := by decide +kernel
theorem dX12_beforeNow_24 : decode cX12_beforeNow 24 = .ok (.iload_n 3, 1) := by decide +kernel
theorem dX12_beforeNow_25 : decode cX12_beforeNow 25 = .ok (.invokevirtual 252, 3) := by decide +kernel
theorem dX12_beforeNow_28 : decode cX12_beforeNow 28 = .ok (.ifCond .le 41, 3) := by decide +kernel
theorem dX12_beforeNow_31 : decode cX12_beforeNow 31 = .ok (.aload_n 0, 1) := by decide +kernel
theorem dX12_beforeNow_32 : decode cX12_beforeNow 32 = .ok (.iload_n 2, 1) := by decide +kernel
theorem dX12_beforeNow_33 : decode cX12_beforeNow 33 = .ok (.iload_n 3, 1) := by decide +kernel
theorem dX12_beforeNow_34 : decode cX12_beforeNow 34 = .ok (.iconst (-1), 1) := by decide +kernel
theorem dX12_beforeNow_35 : decode cX12_beforeNow 35 = .ok (.invokevirtual 284, 3) := by decide +kernel
theorem dX12_beforeNow_38 : decode cX12_beforeNow 38 = .ok (.iload_n 1, 1) := by decide +kernel
theorem dX12_beforeNow_39 : decode cX12_beforeNow 39 = .ok (.aload_n 0, 1) := by decide +kernel
theorem dX12_beforeNow_40 : decode cX12_beforeNow 40 = .ok (.invokevirtual 349, 3) := by decide +kernel
theorem dX12_beforeNow_43 : decode cX12_beforeNow 43 = .ok (.ifCond .eq 16, 3) := by decide +kernel
theorem dX12_beforeNow_46 : decode cX12_beforeNow 46 = .ok (.aload_n 0, 1) := by decide +kernel
theorem dX12_beforeNow_47 : decode cX12_beforeNow 47 = .ok (.iload_n 2, 1) := by decide +kernel
theorem dX12_beforeNow_48 : decode cX12_beforeNow 48 = .ok (.iload_n 3, 1) := by decide +kernel
theorem dX12_beforeNow_49 : decode cX12_beforeNow 49 = .ok (.invokevirtual 277, 3) := by decide +kernel
theorem dX12_beforeNow_52 : decode cX12_beforeNow 52 = .ok (.ifCond .eq 7, 3) := by decide +kernel
theorem dX12_beforeNow_55 : decode cX12_beforeNow 55 = .ok (.iconst 1, 1) := by decide +kernel
theorem dX12_beforeNow_56 : decode cX12_beforeNow 56 = .ok (.goto 4, 3) := by decide +kernel
theorem dX12_beforeNow_59 : decode cX12_beforeNow 59 = .ok (.iconst 0, 1) := by decide +kernel
theorem dX12_beforeNow_60 : decode cX12_beforeNow 60 = .ok (.iadd, 1) := by decide +kernel
theorem dX12_beforeNow_61 : decode cX12_beforeNow 61 = .ok (.istore_n 1, 1) := by decide +kernel
theorem dX12_beforeNow_62 : decode cX12_beforeNow 62 = .ok (.aload_n 0, 1) := by decide +kernel
theorem dX12_beforeNow_63 : decode cX12_beforeNow 63 = .ok (.iload_n 2, 1) := by decide +kernel
theorem dX12_beforeNow_64 : decode cX12_beforeNow 64 = .ok (.iload_n 3, 1) := by decide +kernel
theorem dX12_beforeNow_65 : decode cX12_beforeNow 65 = .ok (.iconst 1, 1) := by decide +kernel
theorem dX12_beforeNow_66 : decode cX12_beforeNow 66 = .ok (.invokevirtual 284, 3) := by decide +kernel
theorem dX12_beforeNow_69 : decode cX12_beforeNow 69 = .ok (.iinc 3 1, 3) := by decide +kernel
theorem dX12_beforeNow_72 : decode cX12_beforeNow 72 = .ok (.goto (-58), 3) := by decide +kernel
theorem dX12_beforeNow_75 : decode cX12_beforeNow 75 = .ok (.iinc 2 1, 3) := by decide +kernel
theorem dX12_beforeNow_78 : decode cX12_beforeNow 78 = .ok (.goto (-74), 3) := by decide +kernel
theorem dX12_beforeNow_81 : decode cX12_beforeNow 81 = .ok (.iload_n 1, 1) := by decide +kernel
theorem dX12_beforeNow_82 : decode cX12_beforeNow 82 = .ok (.ireturn, 1) := by decide +kernel
abbrev tX12_beforeNow (k : Nat) : MT := (RX12, cX12_beforeNow, 4, k, (some .int))
def lX12_beforeNow_1 : SX := (sLoop (cB rlt (iLoc 3) (iCallV 12 mX12_huts (aR (rLoc 0) aNil))) (sIf (cZ zgt (iCallV 12 mX12_priceOf (aR (rLoc 0) (aI (iLoc 2) (aI (iLoc 3) aNil))))) (sSeq (sCallV 12 mX12_carries (aR (rLoc 0) (aI (iLoc 2) (aI (iLoc 3) (aI (iK (-1)) aNil))))) (sSeq (sSetI 1 (iB gT2 (· + ·) (iLoc 1) (iCond (cAnd (cZ zne (iCallV 12 mX12_isWay (aR (rLoc 0) aNil))) (cZ zne (iCallV 12 mX12_mayCarry (aR (rLoc 0) (aI (iLoc 2) (aI (iLoc 3) aNil)))))) (iK 1) (iK 0)))) (sCallV 12 mX12_carries (aR (rLoc 0) (aI (iLoc 2) (aI (iLoc 3) (aI (iK 1) aNil))))))) sSkip) (sInc 3 1))
def lX12_beforeNow_2 : SX := (sLoop (cB rlt (iLoc 2) (iCallV 12 mX12_huts (aR (rLoc 0) aNil))) (sSeq (sSetI 3 (iK 0)) lX12_beforeNow_1) (sSeq (sForget 3) (sInc 2 1)))
theorem olX12_beforeNow_1 (g : GT) {pcB pcC : Nat} : Sok g (tX12_beforeNow 3) 14 75 pcB pcC (lX12_beforeNow_1) := (Sok.loop (pc := 14) (pc1 := 22) (pc2 := 69) (pcN := 75) (Cok.cmp (pc1 := 15) (pc2 := 19) (pcT := 22) (pcF := 75) (EokI.iload_n (q := 3) dX12_beforeNow_14) (EokI.iCallV (pc1 := 16) (Aok.aR (pc1 := 16) (EokR.aload_n (q := 0) dX12_beforeNow_15) Aok.nil) (kX12_huts g) rfl ykX12_huts vkX12_215 (by decide) (by decide) dX12_beforeNow_16) (JI.ltF (tgt := 75) dX12_beforeNow_19 (by decide))) (by decide) (Sok.ite (pc1 := 31) (pc2 := 69) (Cok.zero (pc1 := 28) (pcT := 31) (pcF := 69) (EokI.iCallV (pc1 := 25) (Aok.aR (pc1 := 23) (EokR.aload_n (q := 0) dX12_beforeNow_22) (Aok.aI (pc1 := 24) (EokI.iload_n (q := 2) dX12_beforeNow_23) (Aok.aI (pc1 := 25) (EokI.iload_n (q := 3) dX12_beforeNow_24) Aok.nil))) (kX12_priceOf g) rfl ykX12_priceOf vkX12_252 (by decide) (by decide) dX12_beforeNow_25) (JZ.gtF (tgt := 69) dX12_beforeNow_28 (by decide))) (by decide) (Sok.seq (pc1 := 38) (Sok.sCallV (pc1 := 35) (Aok.aR (pc1 := 32) (EokR.aload_n (q := 0) dX12_beforeNow_31) (Aok.aI (pc1 := 33) (EokI.iload_n (q := 2) dX12_beforeNow_32) (Aok.aI (pc1 := 34) (EokI.iload_n (q := 3) dX12_beforeNow_33) (Aok.aI (pc1 := 35) (EokI.iconst (v := (-1)) dX12_beforeNow_34 (by decide)) Aok.nil)))) (by decide) (kX12_carries g) rfl ykX12_carries vkX12_284 (by decide) (by decide) dX12_beforeNow_35) (Sok.seq (pc1 := 62) (Sok.setI_n (q := 1) (pc1 := 61) (EokI.bin (pc1 := 39) (pc2 := 60) (EokI.iload_n (q := 1) dX12_beforeNow_38) (EokI.cond' (pc1 := 55) (pc2 := 59) (Cok.and (pc1 := 46) (Cok.zero (pc1 := 43) (pcT := 46) (pcF := 59) (EokI.iCallV (pc1 := 40) (Aok.aR (pc1 := 40) (EokR.aload_n (q := 0) dX12_beforeNow_39) Aok.nil) (kX12_isWay g) rfl ykX12_isWay vkX12_349 (by decide) (by decide) dX12_beforeNow_40) (JZ.neF (tgt := 59) dX12_beforeNow_43 (by decide))) (Cok.zero (pc1 := 52) (pcT := 55) (pcF := 59) (EokI.iCallV (pc1 := 49) (Aok.aR (pc1 := 47) (EokR.aload_n (q := 0) dX12_beforeNow_46) (Aok.aI (pc1 := 48) (EokI.iload_n (q := 2) dX12_beforeNow_47) (Aok.aI (pc1 := 49) (EokI.iload_n (q := 3) dX12_beforeNow_48) Aok.nil))) (kX12_mayCarry g) rfl ykX12_mayCarry vkX12_277 (by decide) (by decide) dX12_beforeNow_49) (JZ.neF (tgt := 59) dX12_beforeNow_52 (by decide)))) (EokI.goto (pc1 := 56) (pc2 := 60) (EokI.iconst (v := 1) dX12_beforeNow_55 (by decide)) dX12_beforeNow_56 (by decide)) (EokI.iconst (v := 0) dX12_beforeNow_59 (by decide))) (OPI.iadd dX12_beforeNow_60)) (by decide) dX12_beforeNow_61 (show 1 < 4 by decide)) (Sok.sCallV (pc1 := 66) (Aok.aR (pc1 := 63) (EokR.aload_n (q := 0) dX12_beforeNow_62) (Aok.aI (pc1 := 64) (EokI.iload_n (q := 2) dX12_beforeNow_63) (Aok.aI (pc1 := 65) (EokI.iload_n (q := 3) dX12_beforeNow_64) (Aok.aI (pc1 := 66) (EokI.iconst (v := 1) dX12_beforeNow_65 (by decide)) Aok.nil)))) (by decide) (kX12_carries g) rfl ykX12_carries vkX12_284 (by decide) (by decide) dX12_beforeNow_66))) (Sok.skip (pc := 69))) (Sok.goto (pc1 := 72) (pcN := 14) (Sok.iinc (i := 3) (v := 1) dX12_beforeNow_69 (show 3 < 4 by decide) (by decide)) dX12_beforeNow_72 (by decide)))
theorem olX12_beforeNow_2 (g : GT) {pcB pcC : Nat} : Sok g (tX12_beforeNow 3) 4 81 pcB pcC (lX12_beforeNow_2) := (Sok.loop (pc := 4) (pc1 := 12) (pc2 := 75) (pcN := 81) (Cok.cmp (pc1 := 5) (pc2 := 9) (pcT := 12) (pcF := 81) (EokI.iload_n (q := 2) dX12_beforeNow_4) (EokI.iCallV (pc1 := 6) (Aok.aR (pc1 := 6) (EokR.aload_n (q := 0) dX12_beforeNow_5) Aok.nil) (kX12_huts g) rfl ykX12_huts vkX12_215 (by decide) (by decide) dX12_beforeNow_6) (JI.ltF (tgt := 81) dX12_beforeNow_9 (by decide))) (by decide) (Sok.seq (pc1 := 14) (Sok.setI_n (q := 3) (pc1 := 13) (EokI.iconst (v := 0) dX12_beforeNow_12 (by decide)) (by decide) dX12_beforeNow_13 (show 3 < 4 by decide)) (olX12_beforeNow_1 g )) (Sok.seq (pc1 := 75) Sok.forget (Sok.goto (pc1 := 78) (pcN := 4) (Sok.iinc (i := 2) (v := 1) dX12_beforeNow_75 (show 2 < 4 by decide) (by decide)) dX12_beforeNow_78 (by decide))))
def mX12_beforeNow : MX := bodyOf 4 (sSeq (sSetI 1 (iK 0)) (sSeq (sSeq (sSeq (sSetI 2 (iK 0)) lX12_beforeNow_2) (sForget 2)) (sRetI (iLoc 1))))
theorem kX12_beforeNow (g : GT) : MK g 3 yX12_beforeNow cX12_beforeNow 4 (some .int) mX12_beforeNow := MK.of (pcN := 99999) (pcB := 0) (pcC := 0) rfl (Sok.seq (pc1 := 2) (Sok.setI_n (q := 1) (pc1 := 1) (EokI.iconst (v := 0) dX12_beforeNow_0 (by decide)) (by decide) dX12_beforeNow_1 (show 1 < 4 by decide)) (Sok.seq (pc1 := 81) (Sok.seq (pc1 := 81) (Sok.seq (pc1 := 4) (Sok.setI_n (q := 2) (pc1 := 3) (EokI.iconst (v := 0) dX12_beforeNow_2 (by decide)) (by decide) dX12_beforeNow_3 (show 2 < 4 by decide)) (olX12_beforeNow_2 g )) (Sok.forget (pc := 81))) (Sok.retI (pc1 := 82) (EokI.iload_n (q := 1) dX12_beforeNow_81) (by decide) dX12_beforeNow_82 rfl)))
/-! PassHutsModel.before()I -/
theorem dX12_before_0 : decode cX12_before 0 = .ok (.aload_n 0, 1) := by decide +kernel
theorem dX12_before_1 : decode cX12_before 1 = .ok (.iconst 0, 1) := by decide +kernel
theorem dX12_before_2 : decode cX12_before 2 = .ok (.putfield 1, 3) := by decide +kernel
theorem dX12_before_5 : decode cX12_before 5 = .ok (.aload_n 0, 1) := by decide +kernel
theorem dX12_before_6 : decode cX12_before 6 = .ok (.invokevirtual 271, 3) := by decide +kernel
theorem dX12_before_9 : decode cX12_before 9 = .ok (.aload_n 0, 1) := by decide +kernel
theorem dX12_before_10 : decode cX12_before 10 = .ok (.invokevirtual 352, 3) := by decide +kernel
theorem dX12_before_13 : decode cX12_before 13 = .ok (.ireturn, 1) := by decide +kernel
abbrev tX12_before (k : Nat) : MT := (RX12, cX12_before, 1, k, (some .int))
def mX12_before : MX := bodyOf 1 (sSeq (sPutI 12 0 .int (rLoc 0) (iK 0)) (sSeq (sCallV 12 mX12_laysNow (aR (rLoc 0) aNil)) (sRetI (iCallV 12 mX12_beforeNow (aR (rLoc 0) aNil)))))
theorem kX12_before (g : GT) : MK g 4 yX12_before cX12_before 1 (some .int) mX12_before := MK.of (pcN := 99999) (pcB := 0) (pcC := 0) rfl (Sok.seq (pc1 := 5) (Sok.putI (ci := 12) (T := TX12) (NN := 27) (tt := tyX12) (j := 0) (pc1 := 1) (pc2 := 2) (ty := .int) (EokR.aload_n (q := 0) dX12_before_0) (EokI.iconst (v := 0) dX12_before_1 (by decide)) (by decide) rfl wsX12_in tyX12_ok nmX12 (by decide) flX12_1 rfl rfl dX12_before_2) (Sok.seq (pc1 := 9) (Sok.sCallV (pc1 := 6) (Aok.aR (pc1 := 6) (EokR.aload_n (q := 0) dX12_before_5) Aok.nil) (by decide) (kX12_laysNow g) rfl ykX12_laysNow vkX12_271 (by decide) (by decide) dX12_before_6) (Sok.retI (pc1 := 13) (EokI.iCallV (pc1 := 10) (Aok.aR (pc1 := 10) (EokR.aload_n (q := 0) dX12_before_9) Aok.nil) (kX12_beforeNow g) rfl ykX12_beforeNow vkX12_352 (by decide) (by decide) dX12_before_10) (by decide) dX12_before_13 rfl)))
/-! PassHutsModel.lackOf(I)I -/
theorem dX12_lackOf_0 : decode cX12_lackOf 0 = .ok (.aload_n 0, 1) := by decide +kernel
theorem dX12_lackOf_1 : decode cX12_lackOf 1 = .ok (.iconst 1, 1) := by decide +kernel
theorem dX12_lackOf_2 : decode cX12_lackOf 2 = .ok (.iconst 0, 1) := by decide +kernel
theorem dX12_lackOf_3 : decode cX12_lackOf 3 = .ok (.invokevirtual 331, 3) := by decide +kernel
theorem dX12_lackOf_6 : decode cX12_lackOf 6 = .ok (.aload_n 0, 1) := by decide +kernel
theorem dX12_lackOf_7 : decode cX12_lackOf 7 = .ok (.invokevirtual 271, 3) := by decide +kernel
theorem dX12_lackOf_10 : decode cX12_lackOf 10 = .ok (.bipush 12, 2) := by decide +kernel
theorem dX12_lackOf_12 : decode cX12_lackOf 12 = .ok (.aload_n 0, 1) := by decide +kernel
theorem dX12_lackOf_13 : decode cX12_lackOf 13 = .ok (.invokevirtual 258, 3) := by decide +kernel
theorem dX12_lackOf_16 : decode cX12_lackOf 16 = .ok (.isub, 1) := by decide +kernel
theorem dX12_lackOf_17 : decode cX12_lackOf 17 = .ok (.istore_n 2, 1) := by decide +kernel
theorem dX12_lackOf_18 : decode cX12_lackOf 18 = .ok (.iconst 0, 1) := by decide +kernel
theorem dX12_lackOf_19 : decode cX12_lackOf 19 = .ok (.istore_n 3, 1) := by decide +kernel
theorem dX12_lackOf_20 : decode cX12_lackOf 20 = .ok (.iload_n 3, 1) := by decide +kernel
theorem dX12_lackOf_21 : decode cX12_lackOf 21 = .ok (.iload_n 2, 1) := by decide +kernel
theorem dX12_lackOf_22 : decode cX12_lackOf 22 = .ok (.if_icmp .gt 108, 3) := by decide +kernel
theorem dX12_lackOf_25 : decode cX12_lackOf 25 = .ok (.iconst 0, 1) := by decide +kernel
theorem dX12_lackOf_26 : decode cX12_lackOf 26 = .ok (.istore 4, 2) := by decide +kernel
theorem dX12_lackOf_28 : decode cX12_lackOf 28 = .ok (.iload 4, 2) := by decide +kernel
theorem dX12_lackOf_30 : decode cX12_lackOf 30 = .ok (.aload_n 0, 1) := by decide +kernel
theorem dX12_lackOf_31 : decode cX12_lackOf 31 = .ok (.invokevirtual 296, 3) := by decide +kernel
theorem dX12_lackOf_34 : decode cX12_lackOf 34 = .ok (.if_icmp .ge 90, 3) := by decide +kernel
theorem dX12_lackOf_37 : decode cX12_lackOf 37 = .ok (.aload_n 0, 1) := by decide +kernel
theorem dX12_lackOf_38 : decode cX12_lackOf 38 = .ok (.iload 4, 2) := by decide +kernel
theorem dX12_lackOf_40 : decode cX12_lackOf 40 = .ok (.invokevirtual 299, 3) := by decide +kernel
theorem dX12_lackOf_43 : decode cX12_lackOf 43 = .ok (.aload_n 0, 1) := by decide +kernel
theorem dX12_lackOf_44 : decode cX12_lackOf 44 = .ok (.invokevirtual 258, 3) := by decide +kernel
theorem dX12_lackOf_47 : decode cX12_lackOf 47 = .ok (.iload_n 3, 1) := by decide +kernel
theorem dX12_lackOf_48 : decode cX12_lackOf 48 = .ok (.if_icmp .ne 70, 3) := by decide +kernel
theorem dX12_lackOf_51 : decode cX12_lackOf 51 = .ok (.iconst 0, 1) := by decide +kernel
theorem dX12_lackOf_52 : decode cX12_lackOf 52 = .ok (.istore 5, 2) := by decide +kernel
theorem dX12_lackOf_54 : decode cX12_lackOf 54 = .ok (.iload 5, 2) := by decide +kernel
theorem dX12_lackOf_56 : decode cX12_lackOf 56 = .ok (.iconst 5, 1) := by decide +kernel
theorem dX12_lackOf_57 : decode cX12_lackOf 57 = .ok (.if_icmp .ge 40, 3) := by decide +kernel
theorem dX12_lackOf_60 : decode cX12_lackOf 60 = .ok (.aload_n 0, 1) := by decide +kernel
theorem dX12_lackOf_61 : decode cX12_lackOf 61 = .ok (.getfield 109, 3) := by decide +kernel
theorem dX12_lackOf_64 : decode cX12_lackOf 64 = .ok (.iload 5, 2) := by decide +kernel
theorem dX12_lackOf_66 : decode cX12_lackOf 66 = .ok (.aload_n 0, 1) := by decide +kernel
theorem dX12_lackOf_67 : decode cX12_lackOf 67 = .ok (.getfield 100, 3) := by decide +kernel
theorem dX12_lackOf_70 : decode cX12_lackOf 70 = .ok (.iload 5, 2) := by decide +kernel
theorem dX12_lackOf_72 : decode cX12_lackOf 72 = .ok (.iaload, 1) := by decide +kernel
theorem dX12_lackOf_73 : decode cX12_lackOf 73 = .ok (.iastore, 1) := by decide +kernel
theorem dX12_lackOf_74 : decode cX12_lackOf 74 = .ok (.aload_n 0, 1) := by decide +kernel
theorem dX12_lackOf_75 : decode cX12_lackOf 75 = .ok (.getfield 100, 3) := by decide +kernel
theorem dX12_lackOf_78 : decode cX12_lackOf 78 = .ok (.iload 5, 2) := by decide +kernel
theorem dX12_lackOf_80 : decode cX12_lackOf 80 = .ok (.dup2, 1) := by decide +kernel
theorem dX12_lackOf_81 : decode cX12_lackOf 81 = .ok (.iaload, 1) := by decide +kernel
theorem dX12_lackOf_82 : decode cX12_lackOf 82 = .ok (.aload_n 0, 1) := by decide +kernel
theorem dX12_lackOf_83 : decode cX12_lackOf 83 = .ok (.getfield 93, 3) := by decide +kernel
theorem dX12_lackOf_86 : decode cX12_lackOf 86 = .ok (.iload 5, 2) := by decide +kernel
theorem dX12_lackOf_88 : decode cX12_lackOf 88 = .ok (.iaload, 1) := by decide +kernel
theorem dX12_lackOf_89 : decode cX12_lackOf 89 = .ok (.iadd, 1) := by decide +kernel
theorem dX12_lackOf_90 : decode cX12_lackOf 90 = .ok (.iastore, 1) := by decide +kernel
theorem dX12_lackOf_91 : decode cX12_lackOf 91 = .ok (.iinc 5 1, 3) := by decide +kernel
theorem dX12_lackOf_94 : decode cX12_lackOf 94 = .ok (.goto (-40), 3) := by decide +kernel
theorem dX12_lackOf_97 : decode cX12_lackOf 97 = .ok (.aload_n 0, 1) := by decide +kernel
theorem dX12_lackOf_98 : decode cX12_lackOf 98 = .ok (.invokevirtual 349, 3) := by decide +kernel
theorem dX12_lackOf_101 : decode cX12_lackOf 101 = .ok (.ifCond .eq 17, 3) := by decide +kernel
theorem dX12_lackOf_104 : decode cX12_lackOf 104 = .ok (.aload_n 0, 1) := by decide +kernel
theorem dX12_lackOf_105 : decode cX12_lackOf 105 = .ok (.invokevirtual 343, 3) := by decide +kernel
theorem dX12_lackOf_108 : decode cX12_lackOf 108 = .ok (.iload_n 1, 1) := by decide +kernel
theorem dX12_lackOf_109 : decode cX12_lackOf 109 = .ok (.ishr, 1) := by decide +kernel
theorem dX12_lackOf_110 : decode cX12_lackOf 110 = .ok (.iconst 1, 1) := by decide +kernel
theorem dX12_lackOf_111 : decode cX12_lackOf 111 = .ok (.iand, 1) := by decide +kernel
theorem dX12_lackOf_112 : decode cX12_lackOf 112 = .ok (.iconst 1, 1) := by decide +kernel
theorem dX12_lackOf_113 : decode cX12_lackOf 113 = .ok (.if_icmp .ne 5, 3) := by decide +kernel
theorem dX12_lackOf_116 : decode cX12_lackOf 116 = .ok (.iload_n 3, 1) := by decide +kernel
theorem dX12_lackOf_117 : decode cX12_lackOf 117 = .ok (.ireturn, 1) := by decide +kernel
theorem dX12_lackOf_118 : decode cX12_lackOf 118 = .ok (.iinc 4 1, 3) := by decide +kernel
theorem dX12_lackOf_121 : decode cX12_lackOf 121 = .ok (.goto (-93), 3) := by decide +kernel
theorem dX12_lackOf_124 : decode cX12_lackOf 124 = .ok (.iinc 3 1, 3) := by decide +kernel
theorem dX12_lackOf_127 : decode cX12_lackOf 127 = .ok (.goto (-107), 3) := by decide +kernel
theorem dX12_lackOf_130 : decode cX12_lackOf 130 = .ok (.iconst (-1), 1) := by decide +kernel
theorem dX12_lackOf_131 : decode cX12_lackOf 131 = .ok (.ireturn, 1) := by decide +kernel
abbrev tX12_lackOf (k : Nat) : MT := (RX12, cX12_lackOf, 6, k, (some .int))
def lX12_lackOf_1 : SX := (sLoop (cB rlt (iLoc 5) (iK 5)) (sSeq (sASt 0 narI (rGet 12 24 (rLoc 0)) (iLoc 5) (iALd (rGet 12 20 (rLoc 0)) (iLoc 5))) (sAUpd gT2 (· + ·) (rGet 12 20 (rLoc 0)) (iLoc 5) (iALd (rGet 12 17 (rLoc 0)) (iLoc 5)))) (sInc 5 1))
def lX12_lackOf_2 : SX := (sLoop (cB rlt (iLoc 4) (iCallV 12 mX12_allWays (aR (rLoc 0) aNil))) (sSeq (sCallV 12 mX12_lays (aR (rLoc 0) (aI (iLoc 4) aNil))) (sIf (cB req (iCallV 12 mX12_allLoads (aR (rLoc 0) aNil)) (iLoc 3)) (sSeq (sSeq (sSetI 5 (iK 0)) lX12_lackOf_1) (sIf (cAnd (cZ zne (iCallV 12 mX12_isWay (aR (rLoc 0) aNil))) (cB req (iB gT2 (· &&& ·) (iB gT2 jshr (iCallV 12 mX12_comesTo (aR (rLoc 0) aNil)) (iLoc 1)) (iK 1)) (iK 1))) (sRetI (iLoc 3)) sSkip)) sSkip)) (sSeq (sForget 5) (sInc 4 1)))
def lX12_lackOf_3 : SX := (sLoop (cB rle (iLoc 3) (iLoc 2)) (sSeq (sSetI 4 (iK 0)) lX12_lackOf_2) (sSeq (sForget 4) (sInc 3 1)))
theorem olX12_lackOf_1 (g : GT) {pcB pcC : Nat} : Sok g (tX12_lackOf 5) 54 97 pcB pcC (lX12_lackOf_1) := (Sok.loop (pc := 54) (pc1 := 60) (pc2 := 91) (pcN := 97) (Cok.cmp (pc1 := 56) (pc2 := 57) (pcT := 60) (pcF := 97) (EokI.iload (i := 5) dX12_lackOf_54) (EokI.iconst (v := 5) dX12_lackOf_56 (by decide)) (JI.ltF (tgt := 97) dX12_lackOf_57 (by decide))) (by decide) (Sok.seq (pc1 := 74) (Sok.iASt (pc1 := 64) (pc2 := 66) (pc3 := 73) (EokR.getf (pc1 := 61) (j := 24) (ci := 12) (T := TX12) (N := 27) (EokR.aload_n (q := 0) dX12_lackOf_60) rfl wsX12_in (by decide) flX12_109 dX12_lackOf_61) (EokI.iload (i := 5) dX12_lackOf_64) (EokI.iALd (pc1 := 70) (pc2 := 72) (EokR.getf (pc1 := 67) (j := 20) (ci := 12) (T := TX12) (N := 27) (EokR.aload_n (q := 0) dX12_lackOf_66) rfl wsX12_in (by decide) flX12_100 dX12_lackOf_67) (EokI.iload (i := 5) dX12_lackOf_70) dX12_lackOf_72) (by decide) dX12_lackOf_73) (Sok.aupd (pc1 := 78) (pc2 := 80) (pc3 := 89) (EokR.getf (pc1 := 75) (j := 20) (ci := 12) (T := TX12) (N := 27) (EokR.aload_n (q := 0) dX12_lackOf_74) rfl wsX12_in (by decide) flX12_100 dX12_lackOf_75) (EokI.iload (i := 5) dX12_lackOf_78) dX12_lackOf_80 dX12_lackOf_81 (EokI.iALd (pc1 := 86) (pc2 := 88) (EokR.getf (pc1 := 83) (j := 17) (ci := 12) (T := TX12) (N := 27) (EokR.aload_n (q := 0) dX12_lackOf_82) rfl wsX12_in (by decide) flX12_93 dX12_lackOf_83) (EokI.iload (i := 5) dX12_lackOf_86) dX12_lackOf_88) (OPI.iadd dX12_lackOf_89) (by decide) dX12_lackOf_90)) (Sok.goto (pc1 := 94) (pcN := 54) (Sok.iinc (i := 5) (v := 1) dX12_lackOf_91 (show 5 < 6 by decide) (by decide)) dX12_lackOf_94 (by decide)))
theorem olX12_lackOf_2 (g : GT) {pcB pcC : Nat} : Sok g (tX12_lackOf 5) 28 124 pcB pcC (lX12_lackOf_2) := (Sok.loop (pc := 28) (pc1 := 37) (pc2 := 118) (pcN := 124) (Cok.cmp (pc1 := 30) (pc2 := 34) (pcT := 37) (pcF := 124) (EokI.iload (i := 4) dX12_lackOf_28) (EokI.iCallV (pc1 := 31) (Aok.aR (pc1 := 31) (EokR.aload_n (q := 0) dX12_lackOf_30) Aok.nil) (kX12_allWays g) rfl ykX12_allWays vkX12_296 (by decide) (by decide) dX12_lackOf_31) (JI.ltF (tgt := 124) dX12_lackOf_34 (by decide))) (by decide) (Sok.seq (pc1 := 43) (Sok.sCallV (pc1 := 40) (Aok.aR (pc1 := 38) (EokR.aload_n (q := 0) dX12_lackOf_37) (Aok.aI (pc1 := 40) (EokI.iload (i := 4) dX12_lackOf_38) Aok.nil)) (by decide) (kX12_lays g) rfl ykX12_lays vkX12_299 (by decide) (by decide) dX12_lackOf_40) (Sok.ite (pc1 := 51) (pc2 := 118) (Cok.cmp (pc1 := 47) (pc2 := 48) (pcT := 51) (pcF := 118) (EokI.iCallV (pc1 := 44) (Aok.aR (pc1 := 44) (EokR.aload_n (q := 0) dX12_lackOf_43) Aok.nil) (kX12_allLoads g) rfl ykX12_allLoads vkX12_258 (by decide) (by decide) dX12_lackOf_44) (EokI.iload_n (q := 3) dX12_lackOf_47) (JI.eqF (tgt := 118) dX12_lackOf_48 (by decide))) (by decide) (Sok.seq (pc1 := 97) (Sok.seq (pc1 := 54) (Sok.setI (i := 5) (pc1 := 52) (EokI.iconst (v := 0) dX12_lackOf_51 (by decide)) (by decide) dX12_lackOf_52 (show 5 < 6 by decide)) (olX12_lackOf_1 g )) (Sok.ite (pc1 := 116) (pc2 := 118) (Cok.and (pc1 := 104) (Cok.zero (pc1 := 101) (pcT := 104) (pcF := 118) (EokI.iCallV (pc1 := 98) (Aok.aR (pc1 := 98) (EokR.aload_n (q := 0) dX12_lackOf_97) Aok.nil) (kX12_isWay g) rfl ykX12_isWay vkX12_349 (by decide) (by decide) dX12_lackOf_98) (JZ.neF (tgt := 118) dX12_lackOf_101 (by decide))) (Cok.cmp (pc1 := 112) (pc2 := 113) (pcT := 116) (pcF := 118) (EokI.bin (pc1 := 110) (pc2 := 111) (EokI.bin (pc1 := 108) (pc2 := 109) (EokI.iCallV (pc1 := 105) (Aok.aR (pc1 := 105) (EokR.aload_n (q := 0) dX12_lackOf_104) Aok.nil) (kX12_comesTo g) rfl ykX12_comesTo vkX12_343 (by decide) (by decide) dX12_lackOf_105) (EokI.iload_n (q := 1) dX12_lackOf_108) (OPI.ishr dX12_lackOf_109)) (EokI.iconst (v := 1) dX12_lackOf_110 (by decide)) (OPI.iand dX12_lackOf_111)) (EokI.iconst (v := 1) dX12_lackOf_112 (by decide)) (JI.eqF (tgt := 118) dX12_lackOf_113 (by decide)))) (by decide) (Sok.retI (pc1 := 117) (EokI.iload_n (q := 3) dX12_lackOf_116) (by decide) dX12_lackOf_117 rfl) (Sok.skip (pc := 118)))) (Sok.skip (pc := 118)))) (Sok.seq (pc1 := 118) Sok.forget (Sok.goto (pc1 := 121) (pcN := 28) (Sok.iinc (i := 4) (v := 1) dX12_lackOf_118 (show 4 < 6 by decide) (by decide)) dX12_lackOf_121 (by decide))))
theorem olX12_lackOf_3 (g : GT) {pcB pcC : Nat} : Sok g (tX12_lackOf 5) 20 130 pcB pcC (lX12_lackOf_3) := (Sok.loop (pc := 20) (pc1 := 25) (pc2 := 124) (pcN := 130) (Cok.cmp (pc1 := 21) (pc2 := 22) (pcT := 25) (pcF := 130) (EokI.iload_n (q := 3) dX12_lackOf_20) (EokI.iload_n (q := 2) dX12_lackOf_21) (JI.leF (tgt := 130) dX12_lackOf_22 (by decide))) (by decide) (Sok.seq (pc1 := 28) (Sok.setI (i := 4) (pc1 := 26) (EokI.iconst (v := 0) dX12_lackOf_25 (by decide)) (by decide) dX12_lackOf_26 (show 4 < 6 by decide)) (olX12_lackOf_2 g )) (Sok.seq (pc1 := 124) Sok.forget (Sok.goto (pc1 := 127) (pcN := 20) (Sok.iinc (i := 3) (v := 1) dX12_lackOf_124 (show 3 < 6 by decide) (by decide)) dX12_lackOf_127 (by decide))))
def mX12_lackOf : MX := bodyOf 6 (sSeq (sCallV 12 mX12_fills (aR (rLoc 0) (aI (iK 1) (aI (iK 0) aNil)))) (sSeq (sCallV 12 mX12_laysNow (aR (rLoc 0) aNil)) (sSeq (sSetI 2 (iB gT2 (· - ·) (iK 12) (iCallV 12 mX12_allLoads (aR (rLoc 0) aNil)))) (sSeq (sSeq (sSeq (sSetI 3 (iK 0)) lX12_lackOf_3) (sForget 3)) (sRetI (iK (-1)))))))
theorem kX12_lackOf (g : GT) : MK g 5 yX12_lackOf cX12_lackOf 6 (some .int) mX12_lackOf := MK.of (pcN := 99999) (pcB := 0) (pcC := 0) rfl (Sok.seq (pc1 := 6) (Sok.sCallV (pc1 := 3) (Aok.aR (pc1 := 1) (EokR.aload_n (q := 0) dX12_lackOf_0) (Aok.aI (pc1 := 2) (EokI.iconst (v := 1) dX12_lackOf_1 (by decide)) (Aok.aI (pc1 := 3) (EokI.iconst (v := 0) dX12_lackOf_2 (by decide)) Aok.nil))) (by decide) (kX12_fills g) rfl ykX12_fills vkX12_331 (by decide) (by decide) dX12_lackOf_3) (Sok.seq (pc1 := 10) (Sok.sCallV (pc1 := 7) (Aok.aR (pc1 := 7) (EokR.aload_n (q := 0) dX12_lackOf_6) Aok.nil) (by decide) (kX12_laysNow g) rfl ykX12_laysNow vkX12_271 (by decide) (by decide) dX12_lackOf_7) (Sok.seq (pc1 := 18) (Sok.setI_n (q := 2) (pc1 := 17) (EokI.bin (pc1 := 12) (pc2 := 16) (EokI.bipush (v := 12) dX12_lackOf_10 (by decide)) (EokI.iCallV (pc1 := 13) (Aok.aR (pc1 := 13) (EokR.aload_n (q := 0) dX12_lackOf_12) Aok.nil) (kX12_allLoads g) rfl ykX12_allLoads vkX12_258 (by decide) (by decide) dX12_lackOf_13) (OPI.isub dX12_lackOf_16)) (by decide) dX12_lackOf_17 (show 2 < 6 by decide)) (Sok.seq (pc1 := 130) (Sok.seq (pc1 := 130) (Sok.seq (pc1 := 20) (Sok.setI_n (q := 3) (pc1 := 19) (EokI.iconst (v := 0) dX12_lackOf_18 (by decide)) (by decide) dX12_lackOf_19 (show 3 < 6 by decide)) (olX12_lackOf_3 g )) (Sok.forget (pc := 130))) (Sok.retI (pc1 := 131) (EokI.iconst (v := (-1)) dX12_lackOf_130 (by decide)) (by decide) dX12_lackOf_131 rfl)))))
/-! PassHutsModel.lack(II)I -/
theorem dX12_lack_0 : decode cX12_lack 0 = .ok (.aload_n 0, 1) := by decide +kernel
theorem dX12_lack_1 : decode cX12_lack 1 = .ok (.iconst 0, 1) := by decide +kernel
theorem dX12_lack_2 : decode cX12_lack 2 = .ok (.putfield 1, 3) := by decide +kernel
theorem dX12_lack_5 : decode cX12_lack 5 = .ok (.aload_n 0, 1) := by decide +kernel
theorem dX12_lack_6 : decode cX12_lack 6 = .ok (.iload_n 1, 1) := by decide +kernel
theorem dX12_lack_7 : decode cX12_lack 7 = .ok (.invokevirtual 264, 3) := by decide +kernel
theorem dX12_lack_10 : decode cX12_lack 10 = .ok (.ifCond .eq 16, 3) := by decide +kernel
theorem dX12_lack_13 : decode cX12_lack 13 = .ok (.iload_n 2, 1) := by decide +kernel
theorem dX12_lack_14 : decode cX12_lack 14 = .ok (.iconst (-1), 1) := by decide +kernel
theorem dX12_lack_15 : decode cX12_lack 15 = .ok (.if_icmp .eq 14, 3) := by decide +kernel
theorem dX12_lack_18 : decode cX12_lack 18 = .ok (.aload_n 0, 1) := by decide +kernel
theorem dX12_lack_19 : decode cX12_lack 19 = .ok (.iload_n 2, 1) := by decide +kernel
theorem dX12_lack_20 : decode cX12_lack 20 = .ok (.invokevirtual 264, 3) := by decide +kernel
theorem dX12_lack_23 : decode cX12_lack 23 = .ok (.ifCond .ne 6, 3) := by decide +kernel
theorem dX12_lack_26 : decode cX12_lack 26 = .ok (.bipush (-2), 2) := by decide +kernel
theorem dX12_lack_28 : decode cX12_lack 28 = .ok (.ireturn, 1) := by decide +kernel
theorem dX12_lack_29 : decode cX12_lack 29 = .ok (.aload_n 0, 1) := by decide +kernel
theorem dX12_lack_30 : decode cX12_lack 30 = .ok (.iload_n 1, 1) := by decide +kernel
theorem dX12_lack_31 : decode cX12_lack 31 = .ok (.invokevirtual 355, 3) := by decide +kernel
theorem dX12_lack_34 : decode cX12_lack 34 = .ok (.istore_n 3, 1) := by decide +kernel
theorem dX12_lack_35 : decode cX12_lack 35 = .ok (.iload_n 3, 1) := by decide +kernel
theorem dX12_lack_36 : decode cX12_lack 36 = .ok (.ifCond .ge 8, 3) := by decide +kernel
theorem dX12_lack_39 : decode cX12_lack 39 = .ok (.bipush (-2), 2) := by decide +kernel
theorem dX12_lack_41 : decode cX12_lack 41 = .ok (.goto 17, 3) := by decide +kernel
theorem dX12_lack_44 : decode cX12_lack 44 = .ok (.iload_n 2, 1) := by decide +kernel
theorem dX12_lack_45 : decode cX12_lack 45 = .ok (.ifCond .ge 7, 3) := by decide +kernel
theorem dX12_lack_48 : decode cX12_lack 48 = .ok (.iload_n 3, 1) := by decide +kernel
theorem dX12_lack_49 : decode cX12_lack 49 = .ok (.goto 9, 3) := by decide +kernel
theorem dX12_lack_52 : decode cX12_lack 52 = .ok (.aload_n 0, 1) := by decide +kernel
theorem dX12_lack_53 : decode cX12_lack 53 = .ok (.getfield 109, 3) := by decide +kernel
theorem dX12_lack_56 : decode cX12_lack 56 = .ok (.iload_n 2, 1) := by decide +kernel
theorem dX12_lack_57 : decode cX12_lack 57 = .ok (.iaload, 1) := by decide +kernel
theorem dX12_lack_58 : decode cX12_lack 58 = .ok (.ireturn, 1) := by decide +kernel
abbrev tX12_lack (k : Nat) : MT := (RX12, cX12_lack, 4, k, (some .int))
def mX12_lack : MX := bodyOf 4 (sSeq (sPutI 12 0 .int (rLoc 0) (iK 0)) (sSeq (sIf (cOr (cNot (cZ zne (iCallV 12 mX12_isHut (aR (rLoc 0) (aI (iLoc 1) aNil))))) (cAnd (cB rne (iLoc 2) (iK (-1))) (cNot (cZ zne (iCallV 12 mX12_isHut (aR (rLoc 0) (aI (iLoc 2) aNil))))))) (sRetI (iK (-2))) sSkip) (sSeq (sSetI 3 (iCallV 12 mX12_lackOf (aR (rLoc 0) (aI (iLoc 1) aNil)))) (sRetI (iCond (cZ zlt (iLoc 3)) (iK (-2)) (iCond (cZ zlt (iLoc 2)) (iLoc 3) (iALd (rGet 12 24 (rLoc 0)) (iLoc 2))))))))
theorem kX12_lack (g : GT) : MK g 6 yX12_lack cX12_lack 4 (some .int) mX12_lack := MK.of (pcN := 99999) (pcB := 0) (pcC := 0) rfl (Sok.seq (pc1 := 5) (Sok.putI (ci := 12) (T := TX12) (NN := 27) (tt := tyX12) (j := 0) (pc1 := 1) (pc2 := 2) (ty := .int) (EokR.aload_n (q := 0) dX12_lack_0) (EokI.iconst (v := 0) dX12_lack_1 (by decide)) (by decide) rfl wsX12_in tyX12_ok nmX12 (by decide) flX12_1 rfl rfl dX12_lack_2) (Sok.seq (pc1 := 29) (Sok.ite (pc1 := 26) (pc2 := 29) (Cok.or (pc1 := 13) (Cok.not (Cok.zero (pc1 := 10) (pcT := 13) (pcF := 26) (EokI.iCallV (pc1 := 7) (Aok.aR (pc1 := 6) (EokR.aload_n (q := 0) dX12_lack_5) (Aok.aI (pc1 := 7) (EokI.iload_n (q := 1) dX12_lack_6) Aok.nil)) (kX12_isHut g) rfl ykX12_isHut vkX12_264 (by decide) (by decide) dX12_lack_7) (JZ.neF (tgt := 26) dX12_lack_10 (by decide)))) (Cok.and (pc1 := 18) (Cok.cmp (pc1 := 14) (pc2 := 15) (pcT := 18) (pcF := 29) (EokI.iload_n (q := 2) dX12_lack_13) (EokI.iconst (v := (-1)) dX12_lack_14 (by decide)) (JI.neF (tgt := 29) dX12_lack_15 (by decide))) (Cok.not (Cok.zero (pc1 := 23) (pcT := 29) (pcF := 26) (EokI.iCallV (pc1 := 20) (Aok.aR (pc1 := 19) (EokR.aload_n (q := 0) dX12_lack_18) (Aok.aI (pc1 := 20) (EokI.iload_n (q := 2) dX12_lack_19) Aok.nil)) (kX12_isHut g) rfl ykX12_isHut vkX12_264 (by decide) (by decide) dX12_lack_20) (JZ.neT (tgt := 29) dX12_lack_23 (by decide)))))) (by decide) (Sok.retI (pc1 := 28) (EokI.bipush (v := (-2)) dX12_lack_26 (by decide)) (by decide) dX12_lack_28 rfl) (Sok.skip (pc := 29))) (Sok.seq (pc1 := 35) (Sok.setI_n (q := 3) (pc1 := 34) (EokI.iCallV (pc1 := 31) (Aok.aR (pc1 := 30) (EokR.aload_n (q := 0) dX12_lack_29) (Aok.aI (pc1 := 31) (EokI.iload_n (q := 1) dX12_lack_30) Aok.nil)) (kX12_lackOf g) rfl ykX12_lackOf vkX12_355 (by decide) (by decide) dX12_lack_31) (by decide) dX12_lack_34 (show 3 < 4 by decide)) (Sok.retI (pc1 := 58) (EokI.cond' (pc1 := 39) (pc2 := 44) (Cok.zero (pc1 := 36) (pcT := 39) (pcF := 44) (EokI.iload_n (q := 3) dX12_lack_35) (JZ.ltF (tgt := 44) dX12_lack_36 (by decide))) (EokI.goto (pc1 := 41) (pc2 := 58) (EokI.bipush (v := (-2)) dX12_lack_39 (by decide)) dX12_lack_41 (by decide)) (EokI.cond' (pc1 := 48) (pc2 := 52) (Cok.zero (pc1 := 45) (pcT := 48) (pcF := 52) (EokI.iload_n (q := 2) dX12_lack_44) (JZ.ltF (tgt := 52) dX12_lack_45 (by decide))) (EokI.goto (pc1 := 49) (pc2 := 58) (EokI.iload_n (q := 3) dX12_lack_48) dX12_lack_49 (by decide)) (EokI.iALd (pc1 := 56) (pc2 := 57) (EokR.getf (pc1 := 53) (j := 24) (ci := 12) (T := TX12) (N := 27) (EokR.aload_n (q := 0) dX12_lack_52) rfl wsX12_in (by decide) flX12_109 dX12_lack_53) (EokI.iload_n (q := 2) dX12_lack_56) dX12_lack_57))) (by decide) dX12_lack_58 rfl))))
/-! PassHutsModel.guardOf(I)I -/
theorem dX12_guardOf_0 : decode cX12_guardOf 0 = .ok (.aload_n 0, 1) := by decide +kernel
theorem dX12_guardOf_1 : decode cX12_guardOf 1 = .ok (.iconst 1, 1) := by decide +kernel
theorem dX12_guardOf_2 : decode cX12_guardOf 2 = .ok (.iconst 0, 1) := by decide +kernel
theorem dX12_guardOf_3 : decode cX12_guardOf 3 = .ok (.invokevirtual 331, 3) := by decide +kernel
theorem dX12_guardOf_6 : decode cX12_guardOf 6 = .ok (.aload_n 0, 1) := by decide +kernel
theorem dX12_guardOf_7 : decode cX12_guardOf 7 = .ok (.invokevirtual 271, 3) := by decide +kernel
theorem dX12_guardOf_10 : decode cX12_guardOf 10 = .ok (.aload_n 0, 1) := by decide +kernel
theorem dX12_guardOf_11 : decode cX12_guardOf 11 = .ok (.invokevirtual 258, 3) := by decide +kernel
theorem dX12_guardOf_14 : decode cX12_guardOf 14 = .ok (.istore_n 2, 1) := by decide +kernel
theorem dX12_guardOf_15 : decode cX12_guardOf 15 = .ok (.iconst 0, 1) := by decide +kernel
theorem dX12_guardOf_16 : decode cX12_guardOf 16 = .ok (.istore_n 3, 1) := by decide +kernel
theorem dX12_guardOf_17 : decode cX12_guardOf 17 = .ok (.iload_n 3, 1) := by decide +kernel
theorem dX12_guardOf_18 : decode cX12_guardOf 18 = .ok (.iload_n 2, 1) := by decide +kernel
theorem dX12_guardOf_19 : decode cX12_guardOf 19 = .ok (.if_icmp .gt 123, 3) := by decide +kernel
theorem dX12_guardOf_22 : decode cX12_guardOf 22 = .ok (.iconst 0, 1) := by decide +kernel
theorem dX12_guardOf_23 : decode cX12_guardOf 23 = .ok (.istore 4, 2) := by decide +kernel
theorem dX12_guardOf_25 : decode cX12_guardOf 25 = .ok (.iload 4, 2) := by decide +kernel
theorem dX12_guardOf_27 : decode cX12_guardOf 27 = .ok (.aload_n 0, 1) := by decide +kernel
theorem dX12_guardOf_28 : decode cX12_guardOf 28 = .ok (.invokevirtual 296, 3) := by decide +kernel
theorem dX12_guardOf_31 : decode cX12_guardOf 31 = .ok (.if_icmp .ge 105, 3) := by decide +kernel
theorem dX12_guardOf_34 : decode cX12_guardOf 34 = .ok (.aload_n 0, 1) := by decide +kernel
theorem dX12_guardOf_35 : decode cX12_guardOf 35 = .ok (.iload 4, 2) := by decide +kernel
theorem dX12_guardOf_37 : decode cX12_guardOf 37 = .ok (.invokevirtual 299, 3) := by decide +kernel
theorem dX12_guardOf_40 : decode cX12_guardOf 40 = .ok (.aload_n 0, 1) := by decide +kernel
theorem dX12_guardOf_41 : decode cX12_guardOf 41 = .ok (.invokevirtual 258, 3) := by decide +kernel
theorem dX12_guardOf_44 : decode cX12_guardOf 44 = .ok (.iload_n 2, 1) := by decide +kernel
theorem dX12_guardOf_45 : decode cX12_guardOf 45 = .ok (.iload_n 3, 1) := by decide +kernel
theorem dX12_guardOf_46 : decode cX12_guardOf 46 = .ok (.isub, 1) := by decide +kernel
theorem dX12_guardOf_47 : decode cX12_guardOf 47 = .ok (.if_icmp .ne 83, 3) := by decide +kernel
theorem dX12_guardOf_50 : decode cX12_guardOf 50 = .ok (.aload_n 0, 1) := by decide +kernel
theorem dX12_guardOf_51 : decode cX12_guardOf 51 = .ok (.invokevirtual 343, 3) := by decide +kernel
theorem dX12_guardOf_54 : decode cX12_guardOf 54 = .ok (.iload_n 1, 1) := by decide +kernel
theorem dX12_guardOf_55 : decode cX12_guardOf 55 = .ok (.ishr, 1) := by decide +kernel
theorem dX12_guardOf_56 : decode cX12_guardOf 56 = .ok (.iconst 1, 1) := by decide +kernel
theorem dX12_guardOf_57 : decode cX12_guardOf 57 = .ok (.iand, 1) := by decide +kernel
theorem dX12_guardOf_58 : decode cX12_guardOf 58 = .ok (.ifCond .ne 72, 3) := by decide +kernel
theorem dX12_guardOf_61 : decode cX12_guardOf 61 = .ok (.iconst 1, 1) := by decide +kernel
theorem dX12_guardOf_62 : decode cX12_guardOf 62 = .ok (.istore 5, 2) := by decide +kernel
theorem dX12_guardOf_64 : decode cX12_guardOf 64 = .ok (.iconst 0, 1) := by decide +kernel
theorem dX12_guardOf_65 : decode cX12_guardOf 65 = .ok (.istore 6, 2) := by decide +kernel
theorem dX12_guardOf_67 : decode cX12_guardOf 67 = .ok (.iload 6, 2) := by decide +kernel
theorem dX12_guardOf_69 : decode cX12_guardOf 69 = .ok (.iconst 5, 1) := by decide +kernel
theorem dX12_guardOf_70 : decode cX12_guardOf 70 = .ok (.if_icmp .ge 53, 3) := by decide +kernel
theorem dX12_guardOf_73 : decode cX12_guardOf 73 = .ok (.aload_n 0, 1) := by decide +kernel
theorem dX12_guardOf_74 : decode cX12_guardOf 74 = .ok (.getfield 109, 3) := by decide +kernel
theorem dX12_guardOf_77 : decode cX12_guardOf 77 = .ok (.iload 6, 2) := by decide +kernel
theorem dX12_guardOf_79 : decode cX12_guardOf 79 = .ok (.aload_n 0, 1) := by decide +kernel
theorem dX12_guardOf_80 : decode cX12_guardOf 80 = .ok (.getfield 93, 3) := by decide +kernel
theorem dX12_guardOf_83 : decode cX12_guardOf 83 = .ok (.iload 6, 2) := by decide +kernel
theorem dX12_guardOf_85 : decode cX12_guardOf 85 = .ok (.iaload, 1) := by decide +kernel
theorem dX12_guardOf_86 : decode cX12_guardOf 86 = .ok (.aload_n 0, 1) := by decide +kernel
theorem dX12_guardOf_87 : decode cX12_guardOf 87 = .ok (.getfield 100, 3) := by decide +kernel
theorem dX12_guardOf_90 : decode cX12_guardOf 90 = .ok (.iload 6, 2) := by decide +kernel
theorem dX12_guardOf_92 : decode cX12_guardOf 92 = .ok (.iaload, 1) := by decide +kernel
theorem dX12_guardOf_93 : decode cX12_guardOf 93 = .ok (.isub, 1) := by decide +kernel
theorem dX12_guardOf_94 : decode cX12_guardOf 94 = .ok (.iastore, 1) := by decide +kernel
theorem dX12_guardOf_95 : decode cX12_guardOf 95 = .ok (.iload 5, 2) := by decide +kernel
theorem dX12_guardOf_97 : decode cX12_guardOf 97 = .ok (.ifCond .eq 17, 3) := by decide +kernel
theorem dX12_guardOf_100 : decode cX12_guardOf 100 = .ok (.aload_n 0, 1) := by decide +kernel
theorem dX12_guardOf_101 : decode cX12_guardOf 101 = .ok (.getfield 109, 3) := by decide +kernel
theorem dX12_guardOf_104 : decode cX12_guardOf 104 = .ok (.iload 6, 2) := by decide +kernel
theorem dX12_guardOf_106 : decode cX12_guardOf 106 = .ok (.iaload, 1) := by decide +kernel
theorem dX12_guardOf_107 : decode cX12_guardOf 107 = .ok (.ifCond .lt 7, 3) := by decide +kernel
theorem dX12_guardOf_110 : decode cX12_guardOf 110 = .ok (.iconst 1, 1) := by decide +kernel
theorem dX12_guardOf_111 : decode cX12_guardOf 111 = .ok (.goto 4, 3) := by decide +kernel
theorem dX12_guardOf_114 : decode cX12_guardOf 114 = .ok (.iconst 0, 1) := by decide +kernel
theorem dX12_guardOf_115 : decode cX12_guardOf 115 = .ok (.istore 5, 2) := by decide +kernel
theorem dX12_guardOf_117 : decode cX12_guardOf 117 = .ok (.iinc 6 1, 3) := by decide +kernel
theorem dX12_guardOf_120 : decode cX12_guardOf 120 = .ok (.goto (-53), 3) := by decide +kernel
theorem dX12_guardOf_123 : decode cX12_guardOf 123 = .ok (.iload 5, 2) := by decide +kernel
theorem dX12_guardOf_125 : decode cX12_guardOf 125 = .ok (.ifCond .eq 5, 3) := by decide +kernel
theorem dX12_guardOf_128 : decode cX12_guardOf 128 = .ok (.iload_n 3, 1) := by decide +kernel
theorem dX12_guardOf_129 : decode cX12_guardOf 129 = .ok (.ireturn, 1) := by decide +kernel
theorem dX12_guardOf_130 : decode cX12_guardOf 130 = .ok (.iinc 4 1, 3) := by decide +kernel
theorem dX12_guardOf_133 : decode cX12_guardOf 133 = .ok (.goto (-108), 3) := by decide +kernel
theorem dX12_guardOf_136 : decode cX12_guardOf 136 = .ok (.iinc 3 1, 3) := by decide +kernel
theorem dX12_guardOf_139 : decode cX12_guardOf 139 = .ok (.goto (-122), 3) := by decide +kernel
theorem dX12_guardOf_142 : decode cX12_guardOf 142 = .ok (.iconst (-1), 1) := by decide +kernel
theorem dX12_guardOf_143 : decode cX12_guardOf 143 = .ok (.ireturn, 1) := by decide +kernel
abbrev tX12_guardOf (k : Nat) : MT := (RX12, cX12_guardOf, 7, k, (some .int))
def lX12_guardOf_1 : SX := (sLoop (cB rlt (iLoc 6) (iK 5)) (sSeq (sASt 0 narI (rGet 12 24 (rLoc 0)) (iLoc 6) (iB gT2 (· - ·) (iALd (rGet 12 17 (rLoc 0)) (iLoc 6)) (iALd (rGet 12 20 (rLoc 0)) (iLoc 6)))) (sSetI 5 (iBool (cAnd (cZ zne (iLoc 5)) (cZ zge (iALd (rGet 12 24 (rLoc 0)) (iLoc 6))))))) (sInc 6 1))
def lX12_guardOf_2 : SX := (sLoop (cB rlt (iLoc 4) (iCallV 12 mX12_allWays (aR (rLoc 0) aNil))) (sSeq (sCallV 12 mX12_lays (aR (rLoc 0) (aI (iLoc 4) aNil))) (sIf (cAnd (cB req (iCallV 12 mX12_allLoads (aR (rLoc 0) aNil)) (iB gT2 (· - ·) (iLoc 2) (iLoc 3))) (cZ zeq (iB gT2 (· &&& ·) (iB gT2 jshr (iCallV 12 mX12_comesTo (aR (rLoc 0) aNil)) (iLoc 1)) (iK 1)))) (sSeq (sSetI 5 (iK 1)) (sSeq (sSeq (sSetI 6 (iK 0)) lX12_guardOf_1) (sIf (cZ zne (iLoc 5)) (sRetI (iLoc 3)) sSkip))) sSkip)) (sSeq (sForget 5) (sInc 4 1)))
def lX12_guardOf_3 : SX := (sLoop (cB rle (iLoc 3) (iLoc 2)) (sSeq (sSetI 4 (iK 0)) lX12_guardOf_2) (sSeq (sForget 4) (sInc 3 1)))
theorem olX12_guardOf_1 (g : GT) {pcB pcC : Nat} : Sok g (tX12_guardOf 5) 67 123 pcB pcC (lX12_guardOf_1) := (Sok.loop (pc := 67) (pc1 := 73) (pc2 := 117) (pcN := 123) (Cok.cmp (pc1 := 69) (pc2 := 70) (pcT := 73) (pcF := 123) (EokI.iload (i := 6) dX12_guardOf_67) (EokI.iconst (v := 5) dX12_guardOf_69 (by decide)) (JI.ltF (tgt := 123) dX12_guardOf_70 (by decide))) (by decide) (Sok.seq (pc1 := 95) (Sok.iASt (pc1 := 77) (pc2 := 79) (pc3 := 94) (EokR.getf (pc1 := 74) (j := 24) (ci := 12) (T := TX12) (N := 27) (EokR.aload_n (q := 0) dX12_guardOf_73) rfl wsX12_in (by decide) flX12_109 dX12_guardOf_74) (EokI.iload (i := 6) dX12_guardOf_77) (EokI.bin (pc1 := 86) (pc2 := 93) (EokI.iALd (pc1 := 83) (pc2 := 85) (EokR.getf (pc1 := 80) (j := 17) (ci := 12) (T := TX12) (N := 27) (EokR.aload_n (q := 0) dX12_guardOf_79) rfl wsX12_in (by decide) flX12_93 dX12_guardOf_80) (EokI.iload (i := 6) dX12_guardOf_83) dX12_guardOf_85) (EokI.iALd (pc1 := 90) (pc2 := 92) (EokR.getf (pc1 := 87) (j := 20) (ci := 12) (T := TX12) (N := 27) (EokR.aload_n (q := 0) dX12_guardOf_86) rfl wsX12_in (by decide) flX12_100 dX12_guardOf_87) (EokI.iload (i := 6) dX12_guardOf_90) dX12_guardOf_92) (OPI.isub dX12_guardOf_93)) (by decide) dX12_guardOf_94) (Sok.setI (i := 5) (pc1 := 115) (EokI.cond' (pc1 := 110) (pc2 := 114) (Cok.and (pc1 := 100) (Cok.zero (pc1 := 97) (pcT := 100) (pcF := 114) (EokI.iload (i := 5) dX12_guardOf_95) (JZ.neF (tgt := 114) dX12_guardOf_97 (by decide))) (Cok.zero (pc1 := 107) (pcT := 110) (pcF := 114) (EokI.iALd (pc1 := 104) (pc2 := 106) (EokR.getf (pc1 := 101) (j := 24) (ci := 12) (T := TX12) (N := 27) (EokR.aload_n (q := 0) dX12_guardOf_100) rfl wsX12_in (by decide) flX12_109 dX12_guardOf_101) (EokI.iload (i := 6) dX12_guardOf_104) dX12_guardOf_106) (JZ.geF (tgt := 114) dX12_guardOf_107 (by decide)))) (EokI.goto (pc1 := 111) (pc2 := 115) (EokI.iconst (v := 1) dX12_guardOf_110 (by decide)) dX12_guardOf_111 (by decide)) (EokI.iconst (v := 0) dX12_guardOf_114 (by decide))) (by decide) dX12_guardOf_115 (show 5 < 7 by decide))) (Sok.goto (pc1 := 120) (pcN := 67) (Sok.iinc (i := 6) (v := 1) dX12_guardOf_117 (show 6 < 7 by decide) (by decide)) dX12_guardOf_120 (by decide)))
theorem olX12_guardOf_2 (g : GT) {pcB pcC : Nat} : Sok g (tX12_guardOf 5) 25 136 pcB pcC (lX12_guardOf_2) := (Sok.loop (pc := 25) (pc1 := 34) (pc2 := 130) (pcN := 136) (Cok.cmp (pc1 := 27) (pc2 := 31) (pcT := 34) (pcF := 136) (EokI.iload (i := 4) dX12_guardOf_25) (EokI.iCallV (pc1 := 28) (Aok.aR (pc1 := 28) (EokR.aload_n (q := 0) dX12_guardOf_27) Aok.nil) (kX12_allWays g) rfl ykX12_allWays vkX12_296 (by decide) (by decide) dX12_guardOf_28) (JI.ltF (tgt := 136) dX12_guardOf_31 (by decide))) (by decide) (Sok.seq (pc1 := 40) (Sok.sCallV (pc1 := 37) (Aok.aR (pc1 := 35) (EokR.aload_n (q := 0) dX12_guardOf_34) (Aok.aI (pc1 := 37) (EokI.iload (i := 4) dX12_guardOf_35) Aok.nil)) (by decide) (kX12_lays g) rfl ykX12_lays vkX12_299 (by decide) (by decide) dX12_guardOf_37) (Sok.ite (pc1 := 61) (pc2 := 130) (Cok.and (pc1 := 50) (Cok.cmp (pc1 := 44) (pc2 := 47) (pcT := 50) (pcF := 130) (EokI.iCallV (pc1 := 41) (Aok.aR (pc1 := 41) (EokR.aload_n (q := 0) dX12_guardOf_40) Aok.nil) (kX12_allLoads g) rfl ykX12_allLoads vkX12_258 (by decide) (by decide) dX12_guardOf_41) (EokI.bin (pc1 := 45) (pc2 := 46) (EokI.iload_n (q := 2) dX12_guardOf_44) (EokI.iload_n (q := 3) dX12_guardOf_45) (OPI.isub dX12_guardOf_46)) (JI.eqF (tgt := 130) dX12_guardOf_47 (by decide))) (Cok.zero (pc1 := 58) (pcT := 61) (pcF := 130) (EokI.bin (pc1 := 56) (pc2 := 57) (EokI.bin (pc1 := 54) (pc2 := 55) (EokI.iCallV (pc1 := 51) (Aok.aR (pc1 := 51) (EokR.aload_n (q := 0) dX12_guardOf_50) Aok.nil) (kX12_comesTo g) rfl ykX12_comesTo vkX12_343 (by decide) (by decide) dX12_guardOf_51) (EokI.iload_n (q := 1) dX12_guardOf_54) (OPI.ishr dX12_guardOf_55)) (EokI.iconst (v := 1) dX12_guardOf_56 (by decide)) (OPI.iand dX12_guardOf_57)) (JZ.eqF (tgt := 130) dX12_guardOf_58 (by decide)))) (by decide) (Sok.seq (pc1 := 64) (Sok.setI (i := 5) (pc1 := 62) (EokI.iconst (v := 1) dX12_guardOf_61 (by decide)) (by decide) dX12_guardOf_62 (show 5 < 7 by decide)) (Sok.seq (pc1 := 123) (Sok.seq (pc1 := 67) (Sok.setI (i := 6) (pc1 := 65) (EokI.iconst (v := 0) dX12_guardOf_64 (by decide)) (by decide) dX12_guardOf_65 (show 6 < 7 by decide)) (olX12_guardOf_1 g )) (Sok.ite (pc1 := 128) (pc2 := 130) (Cok.zero (pc1 := 125) (pcT := 128) (pcF := 130) (EokI.iload (i := 5) dX12_guardOf_123) (JZ.neF (tgt := 130) dX12_guardOf_125 (by decide))) (by decide) (Sok.retI (pc1 := 129) (EokI.iload_n (q := 3) dX12_guardOf_128) (by decide) dX12_guardOf_129 rfl) (Sok.skip (pc := 130))))) (Sok.skip (pc := 130)))) (Sok.seq (pc1 := 130) Sok.forget (Sok.goto (pc1 := 133) (pcN := 25) (Sok.iinc (i := 4) (v := 1) dX12_guardOf_130 (show 4 < 7 by decide) (by decide)) dX12_guardOf_133 (by decide))))
theorem olX12_guardOf_3 (g : GT) {pcB pcC : Nat} : Sok g (tX12_guardOf 5) 17 142 pcB pcC (lX12_guardOf_3) := (Sok.loop (pc := 17) (pc1 := 22) (pc2 := 136) (pcN := 142) (Cok.cmp (pc1 := 18) (pc2 := 19) (pcT := 22) (pcF := 142) (EokI.iload_n (q := 3) dX12_guardOf_17) (EokI.iload_n (q := 2) dX12_guardOf_18) (JI.leF (tgt := 142) dX12_guardOf_19 (by decide))) (by decide) (Sok.seq (pc1 := 25) (Sok.setI (i := 4) (pc1 := 23) (EokI.iconst (v := 0) dX12_guardOf_22 (by decide)) (by decide) dX12_guardOf_23 (show 4 < 7 by decide)) (olX12_guardOf_2 g )) (Sok.seq (pc1 := 136) Sok.forget (Sok.goto (pc1 := 139) (pcN := 17) (Sok.iinc (i := 3) (v := 1) dX12_guardOf_136 (show 3 < 7 by decide) (by decide)) dX12_guardOf_139 (by decide))))
def mX12_guardOf : MX := bodyOf 7 (sSeq (sCallV 12 mX12_fills (aR (rLoc 0) (aI (iK 1) (aI (iK 0) aNil)))) (sSeq (sCallV 12 mX12_laysNow (aR (rLoc 0) aNil)) (sSeq (sSetI 2 (iCallV 12 mX12_allLoads (aR (rLoc 0) aNil))) (sSeq (sSeq (sSeq (sSetI 3 (iK 0)) lX12_guardOf_3) (sForget 3)) (sRetI (iK (-1)))))))
theorem kX12_guardOf (g : GT) : MK g 5 yX12_guardOf cX12_guardOf 7 (some .int) mX12_guardOf := MK.of (pcN := 99999) (pcB := 0) (pcC := 0) rfl (Sok.seq (pc1 := 6) (Sok.sCallV (pc1 := 3) (Aok.aR (pc1 := 1) (EokR.aload_n (q := 0) dX12_guardOf_0) (Aok.aI (pc1 := 2) (EokI.iconst (v := 1) dX12_guardOf_1 (by decide)) (Aok.aI (pc1 := 3) (EokI.iconst (v := 0) dX12_guardOf_2 (by decide)) Aok.nil))) (by decide) (kX12_fills g) rfl ykX12_fills vkX12_331 (by decide) (by decide) dX12_guardOf_3) (Sok.seq (pc1 := 10) (Sok.sCallV (pc1 := 7) (Aok.aR (pc1 := 7) (EokR.aload_n (q := 0) dX12_guardOf_6) Aok.nil) (by decide) (kX12_laysNow g) rfl ykX12_laysNow vkX12_271 (by decide) (by decide) dX12_guardOf_7) (Sok.seq (pc1 := 15) (Sok.setI_n (q := 2) (pc1 := 14) (EokI.iCallV (pc1 := 11) (Aok.aR (pc1 := 11) (EokR.aload_n (q := 0) dX12_guardOf_10) Aok.nil) (kX12_allLoads g) rfl ykX12_allLoads vkX12_258 (by decide) (by decide) dX12_guardOf_11) (by decide) dX12_guardOf_14 (show 2 < 7 by decide)) (Sok.seq (pc1 := 142) (Sok.seq (pc1 := 142) (Sok.seq (pc1 := 17) (Sok.setI_n (q := 3) (pc1 := 16) (EokI.iconst (v := 0) dX12_guardOf_15 (by decide)) (by decide) dX12_guardOf_16 (show 3 < 7 by decide)) (olX12_guardOf_3 g )) (Sok.forget (pc := 142))) (Sok.retI (pc1 := 143) (EokI.iconst (v := (-1)) dX12_guardOf_142 (by decide)) (by decide) dX12_guardOf_143 rfl)))))
/-! PassHutsModel.guard(II)I -/
theorem dX12_guard_0 : decode cX12_guard 0 = .ok (.aload_n 0, 1) := by decide +kernel
theorem dX12_guard_1 : decode cX12_guard 1 = .ok (.iconst 0, 1) := by decide +kernel
theorem dX12_guard_2 : decode cX12_guard 2 = .ok (.putfield 1, 3) := by decide +kernel
theorem dX12_guard_5 : decode cX12_guard 5 = .ok (.aload_n 0, 1) := by decide +kernel
theorem dX12_guard_6 : decode cX12_guard 6 = .ok (.iload_n 1, 1) := by decide +kernel
theorem dX12_guard_7 : decode cX12_guard 7 = .ok (.invokevirtual 264, 3) := by decide +kernel
theorem dX12_guard_10 : decode cX12_guard 10 = .ok (.ifCond .eq 16, 3) := by decide +kernel
theorem dX12_guard_13 : decode cX12_guard 13 = .ok (.iload_n 2, 1) := by decide +kernel
theorem dX12_guard_14 : decode cX12_guard 14 = .ok (.iconst (-1), 1) := by decide +kernel
theorem dX12_guard_15 : decode cX12_guard 15 = .ok (.if_icmp .eq 14, 3) := by decide +kernel
theorem dX12_guard_18 : decode cX12_guard 18 = .ok (.aload_n 0, 1) := by decide +kernel
theorem dX12_guard_19 : decode cX12_guard 19 = .ok (.iload_n 2, 1) := by decide +kernel
theorem dX12_guard_20 : decode cX12_guard 20 = .ok (.invokevirtual 264, 3) := by decide +kernel
theorem dX12_guard_23 : decode cX12_guard 23 = .ok (.ifCond .ne 6, 3) := by decide +kernel
theorem dX12_guard_26 : decode cX12_guard 26 = .ok (.bipush (-2), 2) := by decide +kernel
theorem dX12_guard_28 : decode cX12_guard 28 = .ok (.ireturn, 1) := by decide +kernel
theorem dX12_guard_29 : decode cX12_guard 29 = .ok (.aload_n 0, 1) := by decide +kernel
theorem dX12_guard_30 : decode cX12_guard 30 = .ok (.iload_n 1, 1) := by decide +kernel
theorem dX12_guard_31 : decode cX12_guard 31 = .ok (.invokevirtual 358, 3) := by decide +kernel
theorem dX12_guard_34 : decode cX12_guard 34 = .ok (.istore_n 3, 1) := by decide +kernel
theorem dX12_guard_35 : decode cX12_guard 35 = .ok (.iload_n 3, 1) := by decide +kernel
theorem dX12_guard_36 : decode cX12_guard 36 = .ok (.ifCond .ge 8, 3) := by decide +kernel
theorem dX12_guard_39 : decode cX12_guard 39 = .ok (.bipush (-2), 2) := by decide +kernel
theorem dX12_guard_41 : decode cX12_guard 41 = .ok (.goto 17, 3) := by decide +kernel
theorem dX12_guard_44 : decode cX12_guard 44 = .ok (.iload_n 2, 1) := by decide +kernel
theorem dX12_guard_45 : decode cX12_guard 45 = .ok (.ifCond .ge 7, 3) := by decide +kernel
theorem dX12_guard_48 : decode cX12_guard 48 = .ok (.iload_n 3, 1) := by decide +kernel
theorem dX12_guard_49 : decode cX12_guard 49 = .ok (.goto 9, 3) := by decide +kernel
theorem dX12_guard_52 : decode cX12_guard 52 = .ok (.aload_n 0, 1) := by decide +kernel
theorem dX12_guard_53 : decode cX12_guard 53 = .ok (.getfield 109, 3) := by decide +kernel
theorem dX12_guard_56 : decode cX12_guard 56 = .ok (.iload_n 2, 1) := by decide +kernel
theorem dX12_guard_57 : decode cX12_guard 57 = .ok (.iaload, 1) := by decide +kernel
theorem dX12_guard_58 : decode cX12_guard 58 = .ok (.ireturn, 1) := by decide +kernel
abbrev tX12_guard (k : Nat) : MT := (RX12, cX12_guard, 4, k, (some .int))
def mX12_guard : MX := bodyOf 4 (sSeq (sPutI 12 0 .int (rLoc 0) (iK 0)) (sSeq (sIf (cOr (cNot (cZ zne (iCallV 12 mX12_isHut (aR (rLoc 0) (aI (iLoc 1) aNil))))) (cAnd (cB rne (iLoc 2) (iK (-1))) (cNot (cZ zne (iCallV 12 mX12_isHut (aR (rLoc 0) (aI (iLoc 2) aNil))))))) (sRetI (iK (-2))) sSkip) (sSeq (sSetI 3 (iCallV 12 mX12_guardOf (aR (rLoc 0) (aI (iLoc 1) aNil)))) (sRetI (iCond (cZ zlt (iLoc 3)) (iK (-2)) (iCond (cZ zlt (iLoc 2)) (iLoc 3) (iALd (rGet 12 24 (rLoc 0)) (iLoc 2))))))))
theorem kX12_guard (g : GT) : MK g 6 yX12_guard cX12_guard 4 (some .int) mX12_guard := MK.of (pcN := 99999) (pcB := 0) (pcC := 0) rfl (Sok.seq (pc1 := 5) (Sok.putI (ci := 12) (T := TX12) (NN := 27) (tt := tyX12) (j := 0) (pc1 := 1) (pc2 := 2) (ty := .int) (EokR.aload_n (q := 0) dX12_guard_0) (EokI.iconst (v := 0) dX12_guard_1 (by decide)) (by decide) rfl wsX12_in tyX12_ok nmX12 (by decide) flX12_1 rfl rfl dX12_guard_2) (Sok.seq (pc1 := 29) (Sok.ite (pc1 := 26) (pc2 := 29) (Cok.or (pc1 := 13) (Cok.not (Cok.zero (pc1 := 10) (pcT := 13) (pcF := 26) (EokI.iCallV (pc1 := 7) (Aok.aR (pc1 := 6) (EokR.aload_n (q := 0) dX12_guard_5) (Aok.aI (pc1 := 7) (EokI.iload_n (q := 1) dX12_guard_6) Aok.nil)) (kX12_isHut g) rfl ykX12_isHut vkX12_264 (by decide) (by decide) dX12_guard_7) (JZ.neF (tgt := 26) dX12_guard_10 (by decide)))) (Cok.and (pc1 := 18) (Cok.cmp (pc1 := 14) (pc2 := 15) (pcT := 18) (pcF := 29) (EokI.iload_n (q := 2) dX12_guard_13) (EokI.iconst (v := (-1)) dX12_guard_14 (by decide)) (JI.neF (tgt := 29) dX12_guard_15 (by decide))) (Cok.not (Cok.zero (pc1 := 23) (pcT := 29) (pcF := 26) (EokI.iCallV (pc1 := 20) (Aok.aR (pc1 := 19) (EokR.aload_n (q := 0) dX12_guard_18) (Aok.aI (pc1 := 20) (EokI.iload_n (q := 2) dX12_guard_19) Aok.nil)) (kX12_isHut g) rfl ykX12_isHut vkX12_264 (by decide) (by decide) dX12_guard_20) (JZ.neT (tgt := 29) dX12_guard_23 (by decide)))))) (by decide) (Sok.retI (pc1 := 28) (EokI.bipush (v := (-2)) dX12_guard_26 (by decide)) (by decide) dX12_guard_28 rfl) (Sok.skip (pc := 29))) (Sok.seq (pc1 := 35) (Sok.setI_n (q := 3) (pc1 := 34) (EokI.iCallV (pc1 := 31) (Aok.aR (pc1 := 30) (EokR.aload_n (q := 0) dX12_guard_29) (Aok.aI (pc1 := 31) (EokI.iload_n (q := 1) dX12_guard_30) Aok.nil)) (kX12_guardOf g) rfl ykX12_guardOf vkX12_358 (by decide) (by decide) dX12_guard_31) (by decide) dX12_guard_34 (show 3 < 4 by decide)) (Sok.retI (pc1 := 58) (EokI.cond' (pc1 := 39) (pc2 := 44) (Cok.zero (pc1 := 36) (pcT := 39) (pcF := 44) (EokI.iload_n (q := 3) dX12_guard_35) (JZ.ltF (tgt := 44) dX12_guard_36 (by decide))) (EokI.goto (pc1 := 41) (pc2 := 58) (EokI.bipush (v := (-2)) dX12_guard_39 (by decide)) dX12_guard_41 (by decide)) (EokI.cond' (pc1 := 48) (pc2 := 52) (Cok.zero (pc1 := 45) (pcT := 48) (pcF := 52) (EokI.iload_n (q := 2) dX12_guard_44) (JZ.ltF (tgt := 52) dX12_guard_45 (by decide))) (EokI.goto (pc1 := 49) (pc2 := 58) (EokI.iload_n (q := 3) dX12_guard_48) dX12_guard_49 (by decide)) (EokI.iALd (pc1 := 56) (pc2 := 57) (EokR.getf (pc1 := 53) (j := 24) (ci := 12) (T := TX12) (N := 27) (EokR.aload_n (q := 0) dX12_guard_52) rfl wsX12_in (by decide) flX12_109 dX12_guard_53) (EokI.iload_n (q := 2) dX12_guard_56) dX12_guard_57))) (by decide) dX12_guard_58 rfl))))
/-! PassHutsModel.comesBy(II)I -/
theorem dX12_comesBy_0 : decode cX12_comesBy 0 = .ok (.iconst 0, 1) := by decide +kernel
theorem dX12_comesBy_1 : decode cX12_comesBy 1 = .ok (.istore_n 3, 1) := by decide +kernel
theorem dX12_comesBy_2 : decode cX12_comesBy 2 = .ok (.iconst 0, 1) := by decide +kernel
theorem dX12_comesBy_3 : decode cX12_comesBy 3 = .ok (.istore 4, 2) := by decide +kernel
theorem dX12_comesBy_5 : decode cX12_comesBy 5 = .ok (.iload 4, 2) := by decide +kernel
theorem dX12_comesBy_7 : decode cX12_comesBy 7 = .ok (.aload_n 0, 1) := by decide +kernel
theorem dX12_comesBy_8 : decode cX12_comesBy 8 = .ok (.invokevirtual 296, 3) := by decide +kernel
theorem dX12_comesBy_11 : decode cX12_comesBy 11 = .ok (.if_icmp .ge 48, 3) := by decide +kernel
theorem dX12_comesBy_14 : decode cX12_comesBy 14 = .ok (.aload_n 0, 1) := by decide +kernel
theorem dX12_comesBy_15 : decode cX12_comesBy 15 = .ok (.iload 4, 2) := by decide +kernel
theorem dX12_comesBy_17 : decode cX12_comesBy 17 = .ok (.invokevirtual 299, 3) := by decide +kernel
theorem dX12_comesBy_20 : decode cX12_comesBy 20 = .ok (.iload_n 3, 1) := by decide +kernel
theorem dX12_comesBy_21 : decode cX12_comesBy 21 = .ok (.aload_n 0, 1) := by decide +kernel
theorem dX12_comesBy_22 : decode cX12_comesBy 22 = .ok (.invokevirtual 258, 3) := by decide +kernel
theorem dX12_comesBy_25 : decode cX12_comesBy 25 = .ok (.iload_n 2, 1) := by decide +kernel
theorem dX12_comesBy_26 : decode cX12_comesBy 26 = .ok (.if_icmp .ne 24, 3) := by decide +kernel
theorem dX12_comesBy_29 : decode cX12_comesBy 29 = .ok (.aload_n 0, 1) := by decide +kernel
theorem dX12_comesBy_30 : decode cX12_comesBy 30 = .ok (.invokevirtual 349, 3) := by decide +kernel
theorem dX12_comesBy_33 : decode cX12_comesBy 33 = .ok (.ifCond .eq 17, 3) := by decide +kernel
theorem dX12_comesBy_36 : decode cX12_comesBy 36 = .ok (.aload_n 0, 1) := by decide +kernel
theorem dX12_comesBy_37 : decode cX12_comesBy 37 = .ok (.invokevirtual 343, 3) := by decide +kernel
theorem dX12_comesBy_40 : decode cX12_comesBy 40 = .ok (.iload_n 1, 1) := by decide +kernel
theorem dX12_comesBy_41 : decode cX12_comesBy 41 = .ok (.iand, 1) := by decide +kernel
theorem dX12_comesBy_42 : decode cX12_comesBy 42 = .ok (.iload_n 1, 1) := by decide +kernel
theorem dX12_comesBy_43 : decode cX12_comesBy 43 = .ok (.if_icmp .ne 7, 3) := by decide +kernel
theorem dX12_comesBy_46 : decode cX12_comesBy 46 = .ok (.iconst 1, 1) := by decide +kernel
theorem dX12_comesBy_47 : decode cX12_comesBy 47 = .ok (.goto 4, 3) := by decide +kernel
theorem dX12_comesBy_50 : decode cX12_comesBy 50 = .ok (.iconst 0, 1) := by decide +kernel
theorem dX12_comesBy_51 : decode cX12_comesBy 51 = .ok (.iadd, 1) := by decide +kernel
theorem dX12_comesBy_52 : decode cX12_comesBy 52 = .ok (.istore_n 3, 1) := by decide +kernel
theorem dX12_comesBy_53 : decode cX12_comesBy 53 = .ok (.iinc 4 1, 3) := by decide +kernel
theorem dX12_comesBy_56 : decode cX12_comesBy 56 = .ok (.goto (-51), 3) := by decide +kernel
theorem dX12_comesBy_59 : decode cX12_comesBy 59 = .ok (.iload_n 3, 1) := by decide +kernel
theorem dX12_comesBy_60 : decode cX12_comesBy 60 = .ok (.ireturn, 1) := by decide +kernel
abbrev tX12_comesBy (k : Nat) : MT := (RX12, cX12_comesBy, 5, k, (some .int))
def lX12_comesBy_1 : SX := (sLoop (cB rlt (iLoc 4) (iCallV 12 mX12_allWays (aR (rLoc 0) aNil))) (sSeq (sCallV 12 mX12_lays (aR (rLoc 0) (aI (iLoc 4) aNil))) (sSetI 3 (iB gT2 (· + ·) (iLoc 3) (iCond (cAnd (cAnd (cB req (iCallV 12 mX12_allLoads (aR (rLoc 0) aNil)) (iLoc 2)) (cZ zne (iCallV 12 mX12_isWay (aR (rLoc 0) aNil)))) (cB req (iB gT2 (· &&& ·) (iCallV 12 mX12_comesTo (aR (rLoc 0) aNil)) (iLoc 1)) (iLoc 1))) (iK 1) (iK 0))))) (sInc 4 1))
theorem olX12_comesBy_1 (g : GT) {pcB pcC : Nat} : Sok g (tX12_comesBy 3) 5 59 pcB pcC (lX12_comesBy_1) := (Sok.loop (pc := 5) (pc1 := 14) (pc2 := 53) (pcN := 59) (Cok.cmp (pc1 := 7) (pc2 := 11) (pcT := 14) (pcF := 59) (EokI.iload (i := 4) dX12_comesBy_5) (EokI.iCallV (pc1 := 8) (Aok.aR (pc1 := 8) (EokR.aload_n (q := 0) dX12_comesBy_7) Aok.nil) (kX12_allWays g) rfl ykX12_allWays vkX12_296 (by decide) (by decide) dX12_comesBy_8) (JI.ltF (tgt := 59) dX12_comesBy_11 (by decide))) (by decide) (Sok.seq (pc1 := 20) (Sok.sCallV (pc1 := 17) (Aok.aR (pc1 := 15) (EokR.aload_n (q := 0) dX12_comesBy_14) (Aok.aI (pc1 := 17) (EokI.iload (i := 4) dX12_comesBy_15) Aok.nil)) (by decide) (kX12_lays g) rfl ykX12_lays vkX12_299 (by decide) (by decide) dX12_comesBy_17) (Sok.setI_n (q := 3) (pc1 := 52) (EokI.bin (pc1 := 21) (pc2 := 51) (EokI.iload_n (q := 3) dX12_comesBy_20) (EokI.cond' (pc1 := 46) (pc2 := 50) (Cok.and (pc1 := 36) (Cok.and (pc1 := 29) (Cok.cmp (pc1 := 25) (pc2 := 26) (pcT := 29) (pcF := 50) (EokI.iCallV (pc1 := 22) (Aok.aR (pc1 := 22) (EokR.aload_n (q := 0) dX12_comesBy_21) Aok.nil) (kX12_allLoads g) rfl ykX12_allLoads vkX12_258 (by decide) (by decide) dX12_comesBy_22) (EokI.iload_n (q := 2) dX12_comesBy_25) (JI.eqF (tgt := 50) dX12_comesBy_26 (by decide))) (Cok.zero (pc1 := 33) (pcT := 36) (pcF := 50) (EokI.iCallV (pc1 := 30) (Aok.aR (pc1 := 30) (EokR.aload_n (q := 0) dX12_comesBy_29) Aok.nil) (kX12_isWay g) rfl ykX12_isWay vkX12_349 (by decide) (by decide) dX12_comesBy_30) (JZ.neF (tgt := 50) dX12_comesBy_33 (by decide)))) (Cok.cmp (pc1 := 42) (pc2 := 43) (pcT := 46) (pcF := 50) (EokI.bin (pc1 := 40) (pc2 := 41) (EokI.iCallV (pc1 := 37) (Aok.aR (pc1 := 37) (EokR.aload_n (q := 0) dX12_comesBy_36) Aok.nil) (kX12_comesTo g) rfl ykX12_comesTo vkX12_343 (by decide) (by decide) dX12_comesBy_37) (EokI.iload_n (q := 1) dX12_comesBy_40) (OPI.iand dX12_comesBy_41)) (EokI.iload_n (q := 1) dX12_comesBy_42) (JI.eqF (tgt := 50) dX12_comesBy_43 (by decide)))) (EokI.goto (pc1 := 47) (pc2 := 51) (EokI.iconst (v := 1) dX12_comesBy_46 (by decide)) dX12_comesBy_47 (by decide)) (EokI.iconst (v := 0) dX12_comesBy_50 (by decide))) (OPI.iadd dX12_comesBy_51)) (by decide) dX12_comesBy_52 (show 3 < 5 by decide))) (Sok.goto (pc1 := 56) (pcN := 5) (Sok.iinc (i := 4) (v := 1) dX12_comesBy_53 (show 4 < 5 by decide) (by decide)) dX12_comesBy_56 (by decide)))
def mX12_comesBy : MX := bodyOf 5 (sSeq (sSetI 3 (iK 0)) (sSeq (sSeq (sSeq (sSetI 4 (iK 0)) lX12_comesBy_1) (sForget 4)) (sRetI (iLoc 3))))
theorem kX12_comesBy (g : GT) : MK g 3 yX12_comesBy cX12_comesBy 5 (some .int) mX12_comesBy := MK.of (pcN := 99999) (pcB := 0) (pcC := 0) rfl (Sok.seq (pc1 := 2) (Sok.setI_n (q := 3) (pc1 := 1) (EokI.iconst (v := 0) dX12_comesBy_0 (by decide)) (by decide) dX12_comesBy_1 (show 3 < 5 by decide)) (Sok.seq (pc1 := 59) (Sok.seq (pc1 := 59) (Sok.seq (pc1 := 5) (Sok.setI (i := 4) (pc1 := 3) (EokI.iconst (v := 0) dX12_comesBy_2 (by decide)) (by decide) dX12_comesBy_3 (show 4 < 5 by decide)) (olX12_comesBy_1 g )) (Sok.forget (pc := 59))) (Sok.retI (pc1 := 60) (EokI.iload_n (q := 3) dX12_comesBy_59) (by decide) dX12_comesBy_60 rfl)))
/-! PassHutsModel.layings(I)I -/
theorem dX12_layings_0 : decode cX12_layings 0 = .ok (.aload_n 0, 1) := by decide +kernel
theorem dX12_layings_1 : decode cX12_layings 1 = .ok (.iconst 0, 1) := by decide +kernel
theorem dX12_layings_2 : decode cX12_layings 2 = .ok (.putfield 1, 3) := by decide +kernel
theorem dX12_layings_5 : decode cX12_layings 5 = .ok (.iload_n 1, 1) := by decide +kernel
theorem dX12_layings_6 : decode cX12_layings 6 = .ok (.iconst 0, 1) := by decide +kernel
theorem dX12_layings_7 : decode cX12_layings 7 = .ok (.bipush 12, 2) := by decide +kernel
theorem dX12_layings_9 : decode cX12_layings 9 = .ok (.invokestatic 267, 3) := by decide +kernel
theorem dX12_layings_12 : decode cX12_layings 12 = .ok (.ifCond .eq 12, 3) := by decide +kernel
theorem dX12_layings_15 : decode cX12_layings 15 = .ok (.aload_n 0, 1) := by decide +kernel
theorem dX12_layings_16 : decode cX12_layings 16 = .ok (.iconst 0, 1) := by decide +kernel
theorem dX12_layings_17 : decode cX12_layings 17 = .ok (.iload_n 1, 1) := by decide +kernel
theorem dX12_layings_18 : decode cX12_layings 18 = .ok (.invokevirtual 361, 3) := by decide +kernel
theorem dX12_layings_21 : decode cX12_layings 21 = .ok (.goto 4, 3) := by decide +kernel
theorem dX12_layings_24 : decode cX12_layings 24 = .ok (.iconst (-1), 1) := by decide +kernel
theorem dX12_layings_25 : decode cX12_layings 25 = .ok (.ireturn, 1) := by decide +kernel
abbrev tX12_layings (k : Nat) : MT := (RX12, cX12_layings, 2, k, (some .int))
def mX12_layings : MX := bodyOf 2 (sSeq (sPutI 12 0 .int (rLoc 0) (iK 0)) (sRetI (iCond (cZ zne (iCallS mX12_within (aI (iLoc 1) (aI (iK 0) (aI (iK 12) aNil))))) (iCallV 12 mX12_comesBy (aR (rLoc 0) (aI (iK 0) (aI (iLoc 1) aNil)))) (iK (-1)))))
theorem kX12_layings (g : GT) : MK g 4 yX12_layings cX12_layings 2 (some .int) mX12_layings := MK.of (pcN := 99999) (pcB := 0) (pcC := 0) rfl (Sok.seq (pc1 := 5) (Sok.putI (ci := 12) (T := TX12) (NN := 27) (tt := tyX12) (j := 0) (pc1 := 1) (pc2 := 2) (ty := .int) (EokR.aload_n (q := 0) dX12_layings_0) (EokI.iconst (v := 0) dX12_layings_1 (by decide)) (by decide) rfl wsX12_in tyX12_ok nmX12 (by decide) flX12_1 rfl rfl dX12_layings_2) (Sok.retI (pc1 := 25) (EokI.cond' (pc1 := 15) (pc2 := 24) (Cok.zero (pc1 := 12) (pcT := 15) (pcF := 24) (EokI.iCallS (pc1 := 9) (Aok.aI (pc1 := 6) (EokI.iload_n (q := 1) dX12_layings_5) (Aok.aI (pc1 := 7) (EokI.iconst (v := 0) dX12_layings_6 (by decide)) (Aok.aI (pc1 := 9) (EokI.bipush (v := 12) dX12_layings_7 (by decide)) Aok.nil))) (kX12_within g) ykX12_within skX12_267 (by decide) (by decide) dX12_layings_9) (JZ.neF (tgt := 24) dX12_layings_12 (by decide))) (EokI.goto (pc1 := 21) (pc2 := 25) (EokI.iCallV (pc1 := 18) (Aok.aR (pc1 := 16) (EokR.aload_n (q := 0) dX12_layings_15) (Aok.aI (pc1 := 17) (EokI.iconst (v := 0) dX12_layings_16 (by decide)) (Aok.aI (pc1 := 18) (EokI.iload_n (q := 1) dX12_layings_17) Aok.nil))) (kX12_comesBy g) rfl ykX12_comesBy vkX12_361 (by decide) (by decide) dX12_layings_18) dX12_layings_21 (by decide)) (EokI.iconst (v := (-1)) dX12_layings_24 (by decide))) (by decide) dX12_layings_25 rfl))
/-! PassHutsModel.comes(II)I -/
theorem dX12_comes_0 : decode cX12_comes 0 = .ok (.aload_n 0, 1) := by decide +kernel
theorem dX12_comes_1 : decode cX12_comes 1 = .ok (.iconst 0, 1) := by decide +kernel
theorem dX12_comes_2 : decode cX12_comes 2 = .ok (.putfield 1, 3) := by decide +kernel
theorem dX12_comes_5 : decode cX12_comes 5 = .ok (.aload_n 0, 1) := by decide +kernel
theorem dX12_comes_6 : decode cX12_comes 6 = .ok (.iload_n 1, 1) := by decide +kernel
theorem dX12_comes_7 : decode cX12_comes 7 = .ok (.invokevirtual 264, 3) := by decide +kernel
theorem dX12_comes_10 : decode cX12_comes 10 = .ok (.ifCond .eq 13, 3) := by decide +kernel
theorem dX12_comes_13 : decode cX12_comes 13 = .ok (.iload_n 2, 1) := by decide +kernel
theorem dX12_comes_14 : decode cX12_comes 14 = .ok (.iconst 0, 1) := by decide +kernel
theorem dX12_comes_15 : decode cX12_comes 15 = .ok (.bipush 12, 2) := by decide +kernel
theorem dX12_comes_17 : decode cX12_comes 17 = .ok (.invokestatic 267, 3) := by decide +kernel
theorem dX12_comes_20 : decode cX12_comes 20 = .ok (.ifCond .ne 5, 3) := by decide +kernel
theorem dX12_comes_23 : decode cX12_comes 23 = .ok (.iconst (-1), 1) := by decide +kernel
theorem dX12_comes_24 : decode cX12_comes 24 = .ok (.ireturn, 1) := by decide +kernel
theorem dX12_comes_25 : decode cX12_comes 25 = .ok (.aload_n 0, 1) := by decide +kernel
theorem dX12_comes_26 : decode cX12_comes 26 = .ok (.iconst 1, 1) := by decide +kernel
theorem dX12_comes_27 : decode cX12_comes 27 = .ok (.iconst 0, 1) := by decide +kernel
theorem dX12_comes_28 : decode cX12_comes 28 = .ok (.invokevirtual 331, 3) := by decide +kernel
theorem dX12_comes_31 : decode cX12_comes 31 = .ok (.aload_n 0, 1) := by decide +kernel
theorem dX12_comes_32 : decode cX12_comes 32 = .ok (.iconst 1, 1) := by decide +kernel
theorem dX12_comes_33 : decode cX12_comes 33 = .ok (.iload_n 1, 1) := by decide +kernel
theorem dX12_comes_34 : decode cX12_comes 34 = .ok (.ishl, 1) := by decide +kernel
theorem dX12_comes_35 : decode cX12_comes 35 = .ok (.iload_n 2, 1) := by decide +kernel
theorem dX12_comes_36 : decode cX12_comes 36 = .ok (.invokevirtual 361, 3) := by decide +kernel
theorem dX12_comes_39 : decode cX12_comes 39 = .ok (.ireturn, 1) := by decide +kernel
abbrev tX12_comes (k : Nat) : MT := (RX12, cX12_comes, 3, k, (some .int))
def mX12_comes : MX := bodyOf 3 (sSeq (sPutI 12 0 .int (rLoc 0) (iK 0)) (sSeq (sIf (cOr (cNot (cZ zne (iCallV 12 mX12_isHut (aR (rLoc 0) (aI (iLoc 1) aNil))))) (cNot (cZ zne (iCallS mX12_within (aI (iLoc 2) (aI (iK 0) (aI (iK 12) aNil))))))) (sRetI (iK (-1))) sSkip) (sSeq (sCallV 12 mX12_fills (aR (rLoc 0) (aI (iK 1) (aI (iK 0) aNil)))) (sRetI (iCallV 12 mX12_comesBy (aR (rLoc 0) (aI (iB gT2 jshl (iK 1) (iLoc 1)) (aI (iLoc 2) aNil))))))))
theorem kX12_comes (g : GT) : MK g 5 yX12_comes cX12_comes 3 (some .int) mX12_comes := MK.of (pcN := 99999) (pcB := 0) (pcC := 0) rfl (Sok.seq (pc1 := 5) (Sok.putI (ci := 12) (T := TX12) (NN := 27) (tt := tyX12) (j := 0) (pc1 := 1) (pc2 := 2) (ty := .int) (EokR.aload_n (q := 0) dX12_comes_0) (EokI.iconst (v := 0) dX12_comes_1 (by decide)) (by decide) rfl wsX12_in tyX12_ok nmX12 (by decide) flX12_1 rfl rfl dX12_comes_2) (Sok.seq (pc1 := 25) (Sok.ite (pc1 := 23) (pc2 := 25) (Cok.or (pc1 := 13) (Cok.not (Cok.zero (pc1 := 10) (pcT := 13) (pcF := 23) (EokI.iCallV (pc1 := 7) (Aok.aR (pc1 := 6) (EokR.aload_n (q := 0) dX12_comes_5) (Aok.aI (pc1 := 7) (EokI.iload_n (q := 1) dX12_comes_6) Aok.nil)) (kX12_isHut g) rfl ykX12_isHut vkX12_264 (by decide) (by decide) dX12_comes_7) (JZ.neF (tgt := 23) dX12_comes_10 (by decide)))) (Cok.not (Cok.zero (pc1 := 20) (pcT := 25) (pcF := 23) (EokI.iCallS (pc1 := 17) (Aok.aI (pc1 := 14) (EokI.iload_n (q := 2) dX12_comes_13) (Aok.aI (pc1 := 15) (EokI.iconst (v := 0) dX12_comes_14 (by decide)) (Aok.aI (pc1 := 17) (EokI.bipush (v := 12) dX12_comes_15 (by decide)) Aok.nil))) (kX12_within g) ykX12_within skX12_267 (by decide) (by decide) dX12_comes_17) (JZ.neT (tgt := 25) dX12_comes_20 (by decide))))) (by decide) (Sok.retI (pc1 := 24) (EokI.iconst (v := (-1)) dX12_comes_23 (by decide)) (by decide) dX12_comes_24 rfl) (Sok.skip (pc := 25))) (Sok.seq (pc1 := 31) (Sok.sCallV (pc1 := 28) (Aok.aR (pc1 := 26) (EokR.aload_n (q := 0) dX12_comes_25) (Aok.aI (pc1 := 27) (EokI.iconst (v := 1) dX12_comes_26 (by decide)) (Aok.aI (pc1 := 28) (EokI.iconst (v := 0) dX12_comes_27 (by decide)) Aok.nil))) (by decide) (kX12_fills g) rfl ykX12_fills vkX12_331 (by decide) (by decide) dX12_comes_28) (Sok.retI (pc1 := 39) (EokI.iCallV (pc1 := 36) (Aok.aR (pc1 := 32) (EokR.aload_n (q := 0) dX12_comes_31) (Aok.aI (pc1 := 35) (EokI.bin (pc1 := 33) (pc2 := 34) (EokI.iconst (v := 1) dX12_comes_32 (by decide)) (EokI.iload_n (q := 1) dX12_comes_33) (OPI.ishl dX12_comes_34)) (Aok.aI (pc1 := 36) (EokI.iload_n (q := 2) dX12_comes_35) Aok.nil))) (kX12_comesBy g) rfl ykX12_comesBy vkX12_361 (by decide) (by decide) dX12_comes_36) (by decide) dX12_comes_39 rfl))))
/-! PassHutsModel.eden(I)I -/
theorem dX12_eden_0 : decode cX12_eden 0 = .ok (.aload_n 0, 1) := by decide +kernel
theorem dX12_eden_1 : decode cX12_eden 1 = .ok (.iconst 0, 1) := by decide +kernel
theorem dX12_eden_2 : decode cX12_eden 2 = .ok (.putfield 1, 3) := by decide +kernel
theorem dX12_eden_5 : decode cX12_eden 5 = .ok (.iload_n 1, 1) := by decide +kernel
theorem dX12_eden_6 : decode cX12_eden 6 = .ok (.iconst 0, 1) := by decide +kernel
theorem dX12_eden_7 : decode cX12_eden 7 = .ok (.bipush 12, 2) := by decide +kernel
theorem dX12_eden_9 : decode cX12_eden 9 = .ok (.invokestatic 267, 3) := by decide +kernel
theorem dX12_eden_12 : decode cX12_eden 12 = .ok (.ifCond .ne 5, 3) := by decide +kernel
theorem dX12_eden_15 : decode cX12_eden 15 = .ok (.iconst (-1), 1) := by decide +kernel
theorem dX12_eden_16 : decode cX12_eden 16 = .ok (.ireturn, 1) := by decide +kernel
theorem dX12_eden_17 : decode cX12_eden 17 = .ok (.iconst 0, 1) := by decide +kernel
theorem dX12_eden_18 : decode cX12_eden 18 = .ok (.istore_n 2, 1) := by decide +kernel
theorem dX12_eden_19 : decode cX12_eden 19 = .ok (.iconst 0, 1) := by decide +kernel
theorem dX12_eden_20 : decode cX12_eden 20 = .ok (.istore_n 3, 1) := by decide +kernel
theorem dX12_eden_21 : decode cX12_eden 21 = .ok (.iload_n 3, 1) := by decide +kernel
theorem dX12_eden_22 : decode cX12_eden 22 = .ok (.aload_n 0, 1) := by decide +kernel
theorem dX12_eden_23 : decode cX12_eden 23 = .ok (.invokevirtual 296, 3) := by decide +kernel
theorem dX12_eden_26 : decode cX12_eden 26 = .ok (.if_icmp .ge 44, 3) := by decide +kernel
theorem dX12_eden_29 : decode cX12_eden 29 = .ok (.aload_n 0, 1) := by decide +kernel
theorem dX12_eden_30 : decode cX12_eden 30 = .ok (.iload_n 3, 1) := by decide +kernel
theorem dX12_eden_31 : decode cX12_eden 31 = .ok (.invokevirtual 299, 3) := by decide +kernel
theorem dX12_eden_34 : decode cX12_eden 34 = .ok (.iload_n 2, 1) := by decide +kernel
theorem dX12_eden_35 : decode cX12_eden 35 = .ok (.aload_n 0, 1) := by decide +kernel
theorem dX12_eden_36 : decode cX12_eden 36 = .ok (.invokevirtual 258, 3) := by decide +kernel
theorem dX12_eden_39 : decode cX12_eden 39 = .ok (.iload_n 1, 1) := by decide +kernel
theorem dX12_eden_40 : decode cX12_eden 40 = .ok (.if_icmp .ne 21, 3) := by decide +kernel
theorem dX12_eden_43 : decode cX12_eden 43 = .ok (.aload_n 0, 1) := by decide +kernel
theorem dX12_eden_44 : decode cX12_eden 44 = .ok (.invokevirtual 349, 3) := by decide +kernel
theorem dX12_eden_47 : decode cX12_eden 47 = .ok (.ifCond .eq 14, 3) := by decide +kernel
theorem dX12_eden_50 : decode cX12_eden 50 = .ok (.aload_n 0, 1) := by decide +kernel
theorem dX12_eden_51 : decode cX12_eden 51 = .ok (.invokevirtual 352, 3) := by decide +kernel
theorem dX12_eden_54 : decode cX12_eden 54 = .ok (.ifCond .ne 7, 3) := by decide +kernel
theorem dX12_eden_57 : decode cX12_eden 57 = .ok (.iconst 1, 1) := by decide +kernel
theorem dX12_eden_58 : decode cX12_eden 58 = .ok (.goto 4, 3) := by decide +kernel
theorem dX12_eden_61 : decode cX12_eden 61 = .ok (.iconst 0, 1) := by decide +kernel
theorem dX12_eden_62 : decode cX12_eden 62 = .ok (.iadd, 1) := by decide +kernel
theorem dX12_eden_63 : decode cX12_eden 63 = .ok (.istore_n 2, 1) := by decide +kernel
theorem dX12_eden_64 : decode cX12_eden 64 = .ok (.iinc 3 1, 3) := by decide +kernel
theorem dX12_eden_67 : decode cX12_eden 67 = .ok (.goto (-46), 3) := by decide +kernel
theorem dX12_eden_70 : decode cX12_eden 70 = .ok (.iload_n 2, 1) := by decide +kernel
theorem dX12_eden_71 : decode cX12_eden 71 = .ok (.ireturn, 1) := by decide +kernel
abbrev tX12_eden (k : Nat) : MT := (RX12, cX12_eden, 4, k, (some .int))
def lX12_eden_1 : SX := (sLoop (cB rlt (iLoc 3) (iCallV 12 mX12_allWays (aR (rLoc 0) aNil))) (sSeq (sCallV 12 mX12_lays (aR (rLoc 0) (aI (iLoc 3) aNil))) (sSetI 2 (iB gT2 (· + ·) (iLoc 2) (iCond (cAnd (cAnd (cB req (iCallV 12 mX12_allLoads (aR (rLoc 0) aNil)) (iLoc 1)) (cZ zne (iCallV 12 mX12_isWay (aR (rLoc 0) aNil)))) (cZ zeq (iCallV 12 mX12_beforeNow (aR (rLoc 0) aNil)))) (iK 1) (iK 0))))) (sInc 3 1))
theorem olX12_eden_1 (g : GT) {pcB pcC : Nat} : Sok g (tX12_eden 4) 21 70 pcB pcC (lX12_eden_1) := (Sok.loop (pc := 21) (pc1 := 29) (pc2 := 64) (pcN := 70) (Cok.cmp (pc1 := 22) (pc2 := 26) (pcT := 29) (pcF := 70) (EokI.iload_n (q := 3) dX12_eden_21) (EokI.iCallV (pc1 := 23) (Aok.aR (pc1 := 23) (EokR.aload_n (q := 0) dX12_eden_22) Aok.nil) (kX12_allWays g) rfl ykX12_allWays vkX12_296 (by decide) (by decide) dX12_eden_23) (JI.ltF (tgt := 70) dX12_eden_26 (by decide))) (by decide) (Sok.seq (pc1 := 34) (Sok.sCallV (pc1 := 31) (Aok.aR (pc1 := 30) (EokR.aload_n (q := 0) dX12_eden_29) (Aok.aI (pc1 := 31) (EokI.iload_n (q := 3) dX12_eden_30) Aok.nil)) (by decide) (kX12_lays g) rfl ykX12_lays vkX12_299 (by decide) (by decide) dX12_eden_31) (Sok.setI_n (q := 2) (pc1 := 63) (EokI.bin (pc1 := 35) (pc2 := 62) (EokI.iload_n (q := 2) dX12_eden_34) (EokI.cond' (pc1 := 57) (pc2 := 61) (Cok.and (pc1 := 50) (Cok.and (pc1 := 43) (Cok.cmp (pc1 := 39) (pc2 := 40) (pcT := 43) (pcF := 61) (EokI.iCallV (pc1 := 36) (Aok.aR (pc1 := 36) (EokR.aload_n (q := 0) dX12_eden_35) Aok.nil) (kX12_allLoads g) rfl ykX12_allLoads vkX12_258 (by decide) (by decide) dX12_eden_36) (EokI.iload_n (q := 1) dX12_eden_39) (JI.eqF (tgt := 61) dX12_eden_40 (by decide))) (Cok.zero (pc1 := 47) (pcT := 50) (pcF := 61) (EokI.iCallV (pc1 := 44) (Aok.aR (pc1 := 44) (EokR.aload_n (q := 0) dX12_eden_43) Aok.nil) (kX12_isWay g) rfl ykX12_isWay vkX12_349 (by decide) (by decide) dX12_eden_44) (JZ.neF (tgt := 61) dX12_eden_47 (by decide)))) (Cok.zero (pc1 := 54) (pcT := 57) (pcF := 61) (EokI.iCallV (pc1 := 51) (Aok.aR (pc1 := 51) (EokR.aload_n (q := 0) dX12_eden_50) Aok.nil) (kX12_beforeNow g) rfl ykX12_beforeNow vkX12_352 (by decide) (by decide) dX12_eden_51) (JZ.eqF (tgt := 61) dX12_eden_54 (by decide)))) (EokI.goto (pc1 := 58) (pc2 := 62) (EokI.iconst (v := 1) dX12_eden_57 (by decide)) dX12_eden_58 (by decide)) (EokI.iconst (v := 0) dX12_eden_61 (by decide))) (OPI.iadd dX12_eden_62)) (by decide) dX12_eden_63 (show 2 < 4 by decide))) (Sok.goto (pc1 := 67) (pcN := 21) (Sok.iinc (i := 3) (v := 1) dX12_eden_64 (show 3 < 4 by decide) (by decide)) dX12_eden_67 (by decide)))
def mX12_eden : MX := bodyOf 4 (sSeq (sPutI 12 0 .int (rLoc 0) (iK 0)) (sSeq (sIf (cNot (cZ zne (iCallS mX12_within (aI (iLoc 1) (aI (iK 0) (aI (iK 12) aNil)))))) (sRetI (iK (-1))) sSkip) (sSeq (sSetI 2 (iK 0)) (sSeq (sSeq (sSeq (sSetI 3 (iK 0)) lX12_eden_1) (sForget 3)) (sRetI (iLoc 2))))))
theorem kX12_eden (g : GT) : MK g 4 yX12_eden cX12_eden 4 (some .int) mX12_eden := MK.of (pcN := 99999) (pcB := 0) (pcC := 0) rfl (Sok.seq (pc1 := 5) (Sok.putI (ci := 12) (T := TX12) (NN := 27) (tt := tyX12) (j := 0) (pc1 := 1) (pc2 := 2) (ty := .int) (EokR.aload_n (q := 0) dX12_eden_0) (EokI.iconst (v := 0) dX12_eden_1 (by decide)) (by decide) rfl wsX12_in tyX12_ok nmX12 (by decide) flX12_1 rfl rfl dX12_eden_2) (Sok.seq (pc1 := 17) (Sok.ite (pc1 := 15) (pc2 := 17) (Cok.not (Cok.zero (pc1 := 12) (pcT := 17) (pcF := 15) (EokI.iCallS (pc1 := 9) (Aok.aI (pc1 := 6) (EokI.iload_n (q := 1) dX12_eden_5) (Aok.aI (pc1 := 7) (EokI.iconst (v := 0) dX12_eden_6 (by decide)) (Aok.aI (pc1 := 9) (EokI.bipush (v := 12) dX12_eden_7 (by decide)) Aok.nil))) (kX12_within g) ykX12_within skX12_267 (by decide) (by decide) dX12_eden_9) (JZ.neT (tgt := 17) dX12_eden_12 (by decide)))) (by decide) (Sok.retI (pc1 := 16) (EokI.iconst (v := (-1)) dX12_eden_15 (by decide)) (by decide) dX12_eden_16 rfl) (Sok.skip (pc := 17))) (Sok.seq (pc1 := 19) (Sok.setI_n (q := 2) (pc1 := 18) (EokI.iconst (v := 0) dX12_eden_17 (by decide)) (by decide) dX12_eden_18 (show 2 < 4 by decide)) (Sok.seq (pc1 := 70) (Sok.seq (pc1 := 70) (Sok.seq (pc1 := 21) (Sok.setI_n (q := 3) (pc1 := 20) (EokI.iconst (v := 0) dX12_eden_19 (by decide)) (by decide) dX12_eden_20 (show 3 < 4 by decide)) (olX12_eden_1 g )) (Sok.forget (pc := 70))) (Sok.retI (pc1 := 71) (EokI.iload_n (q := 2) dX12_eden_70) (by decide) dX12_eden_71 rfl)))))
/-! PassHutsModel.sureOf(I)I -/
theorem dX12_sureOf_0 : decode cX12_sureOf 0 = .ok (.aload_n 0, 1) := by decide +kernel
theorem dX12_sureOf_1 : decode cX12_sureOf 1 = .ok (.iconst 1, 1) := by decide +kernel
theorem dX12_sureOf_2 : decode cX12_sureOf 2 = .ok (.iconst 0, 1) := by decide +kernel
theorem dX12_sureOf_3 : decode cX12_sureOf 3 = .ok (.invokevirtual 331, 3) := by decide +kernel
theorem dX12_sureOf_6 : decode cX12_sureOf 6 = .ok (.iconst (-1), 1) := by decide +kernel
theorem dX12_sureOf_7 : decode cX12_sureOf 7 = .ok (.istore_n 2, 1) := by decide +kernel
theorem dX12_sureOf_8 : decode cX12_sureOf 8 = .ok (.bipush 12, 2) := by decide +kernel
theorem dX12_sureOf_10 : decode cX12_sureOf 10 = .ok (.istore_n 3, 1) := by decide +kernel
theorem dX12_sureOf_11 : decode cX12_sureOf 11 = .ok (.iload_n 3, 1) := by decide +kernel
theorem dX12_sureOf_12 : decode cX12_sureOf 12 = .ok (.iconst 1, 1) := by decide +kernel
theorem dX12_sureOf_13 : decode cX12_sureOf 13 = .ok (.if_icmp .lt 26, 3) := by decide +kernel
theorem dX12_sureOf_16 : decode cX12_sureOf 16 = .ok (.aload_n 0, 1) := by decide +kernel
theorem dX12_sureOf_17 : decode cX12_sureOf 17 = .ok (.iload_n 1, 1) := by decide +kernel
theorem dX12_sureOf_18 : decode cX12_sureOf 18 = .ok (.iload_n 3, 1) := by decide +kernel
theorem dX12_sureOf_19 : decode cX12_sureOf 19 = .ok (.invokevirtual 361, 3) := by decide +kernel
theorem dX12_sureOf_22 : decode cX12_sureOf 22 = .ok (.aload_n 0, 1) := by decide +kernel
theorem dX12_sureOf_23 : decode cX12_sureOf 23 = .ok (.iconst 0, 1) := by decide +kernel
theorem dX12_sureOf_24 : decode cX12_sureOf 24 = .ok (.iload_n 3, 1) := by decide +kernel
theorem dX12_sureOf_25 : decode cX12_sureOf 25 = .ok (.invokevirtual 361, 3) := by decide +kernel
theorem dX12_sureOf_28 : decode cX12_sureOf 28 = .ok (.if_icmp .ne 11, 3) := by decide +kernel
theorem dX12_sureOf_31 : decode cX12_sureOf 31 = .ok (.iload_n 3, 1) := by decide +kernel
theorem dX12_sureOf_32 : decode cX12_sureOf 32 = .ok (.istore_n 2, 1) := by decide +kernel
theorem dX12_sureOf_33 : decode cX12_sureOf 33 = .ok (.iinc 3 (-1), 3) := by decide +kernel
theorem dX12_sureOf_36 : decode cX12_sureOf 36 = .ok (.goto (-25), 3) := by decide +kernel
theorem dX12_sureOf_39 : decode cX12_sureOf 39 = .ok (.iload_n 2, 1) := by decide +kernel
theorem dX12_sureOf_40 : decode cX12_sureOf 40 = .ok (.ireturn, 1) := by decide +kernel
abbrev tX12_sureOf (k : Nat) : MT := (RX12, cX12_sureOf, 4, k, (some .int))
def lX12_sureOf_1 : SX := (sLoop (cAnd (cB rge (iLoc 3) (iK 1)) (cB req (iCallV 12 mX12_comesBy (aR (rLoc 0) (aI (iLoc 1) (aI (iLoc 3) aNil)))) (iCallV 12 mX12_comesBy (aR (rLoc 0) (aI (iK 0) (aI (iLoc 3) aNil)))))) (sSetI 2 (iLoc 3)) (sInc 3 (-1)))
theorem olX12_sureOf_1 (g : GT) {pcB pcC : Nat} : Sok g (tX12_sureOf 5) 11 39 pcB pcC (lX12_sureOf_1) := (Sok.loop (pc := 11) (pc1 := 31) (pc2 := 33) (pcN := 39) (Cok.and (pc1 := 16) (Cok.cmp (pc1 := 12) (pc2 := 13) (pcT := 16) (pcF := 39) (EokI.iload_n (q := 3) dX12_sureOf_11) (EokI.iconst (v := 1) dX12_sureOf_12 (by decide)) (JI.geF (tgt := 39) dX12_sureOf_13 (by decide))) (Cok.cmp (pc1 := 22) (pc2 := 28) (pcT := 31) (pcF := 39) (EokI.iCallV (pc1 := 19) (Aok.aR (pc1 := 17) (EokR.aload_n (q := 0) dX12_sureOf_16) (Aok.aI (pc1 := 18) (EokI.iload_n (q := 1) dX12_sureOf_17) (Aok.aI (pc1 := 19) (EokI.iload_n (q := 3) dX12_sureOf_18) Aok.nil))) (kX12_comesBy g) rfl ykX12_comesBy vkX12_361 (by decide) (by decide) dX12_sureOf_19) (EokI.iCallV (pc1 := 25) (Aok.aR (pc1 := 23) (EokR.aload_n (q := 0) dX12_sureOf_22) (Aok.aI (pc1 := 24) (EokI.iconst (v := 0) dX12_sureOf_23 (by decide)) (Aok.aI (pc1 := 25) (EokI.iload_n (q := 3) dX12_sureOf_24) Aok.nil))) (kX12_comesBy g) rfl ykX12_comesBy vkX12_361 (by decide) (by decide) dX12_sureOf_25) (JI.eqF (tgt := 39) dX12_sureOf_28 (by decide)))) (by decide) (Sok.setI_n (q := 2) (pc1 := 32) (EokI.iload_n (q := 3) dX12_sureOf_31) (by decide) dX12_sureOf_32 (show 2 < 4 by decide)) (Sok.goto (pc1 := 36) (pcN := 11) (Sok.iinc (i := 3) (v := (-1)) dX12_sureOf_33 (show 3 < 4 by decide) (by decide)) dX12_sureOf_36 (by decide)))
def mX12_sureOf : MX := bodyOf 4 (sSeq (sCallV 12 mX12_fills (aR (rLoc 0) (aI (iK 1) (aI (iK 0) aNil)))) (sSeq (sSetI 2 (iK (-1))) (sSeq (sSeq (sSeq (sSetI 3 (iK 12)) lX12_sureOf_1) (sForget 3)) (sRetI (iLoc 2)))))
theorem kX12_sureOf (g : GT) : MK g 5 yX12_sureOf cX12_sureOf 4 (some .int) mX12_sureOf := MK.of (pcN := 99999) (pcB := 0) (pcC := 0) rfl (Sok.seq (pc1 := 6) (Sok.sCallV (pc1 := 3) (Aok.aR (pc1 := 1) (EokR.aload_n (q := 0) dX12_sureOf_0) (Aok.aI (pc1 := 2) (EokI.iconst (v := 1) dX12_sureOf_1 (by decide)) (Aok.aI (pc1 := 3) (EokI.iconst (v := 0) dX12_sureOf_2 (by decide)) Aok.nil))) (by decide) (kX12_fills g) rfl ykX12_fills vkX12_331 (by decide) (by decide) dX12_sureOf_3) (Sok.seq (pc1 := 8) (Sok.setI_n (q := 2) (pc1 := 7) (EokI.iconst (v := (-1)) dX12_sureOf_6 (by decide)) (by decide) dX12_sureOf_7 (show 2 < 4 by decide)) (Sok.seq (pc1 := 39) (Sok.seq (pc1 := 39) (Sok.seq (pc1 := 11) (Sok.setI_n (q := 3) (pc1 := 10) (EokI.bipush (v := 12) dX12_sureOf_8 (by decide)) (by decide) dX12_sureOf_10 (show 3 < 4 by decide)) (olX12_sureOf_1 g )) (Sok.forget (pc := 39))) (Sok.retI (pc1 := 40) (EokI.iload_n (q := 2) dX12_sureOf_39) (by decide) dX12_sureOf_40 rfl))))
/-! PassHutsModel.sure(I)I -/
theorem dX12_sure_0 : decode cX12_sure 0 = .ok (.aload_n 0, 1) := by decide +kernel
theorem dX12_sure_1 : decode cX12_sure 1 = .ok (.iconst 0, 1) := by decide +kernel
theorem dX12_sure_2 : decode cX12_sure 2 = .ok (.putfield 1, 3) := by decide +kernel
theorem dX12_sure_5 : decode cX12_sure 5 = .ok (.aload_n 0, 1) := by decide +kernel
theorem dX12_sure_6 : decode cX12_sure 6 = .ok (.iload_n 1, 1) := by decide +kernel
theorem dX12_sure_7 : decode cX12_sure 7 = .ok (.invokevirtual 264, 3) := by decide +kernel
theorem dX12_sure_10 : decode cX12_sure 10 = .ok (.ifCond .eq 13, 3) := by decide +kernel
theorem dX12_sure_13 : decode cX12_sure 13 = .ok (.aload_n 0, 1) := by decide +kernel
theorem dX12_sure_14 : decode cX12_sure 14 = .ok (.iconst 1, 1) := by decide +kernel
theorem dX12_sure_15 : decode cX12_sure 15 = .ok (.iload_n 1, 1) := by decide +kernel
theorem dX12_sure_16 : decode cX12_sure 16 = .ok (.ishl, 1) := by decide +kernel
theorem dX12_sure_17 : decode cX12_sure 17 = .ok (.invokevirtual 364, 3) := by decide +kernel
theorem dX12_sure_20 : decode cX12_sure 20 = .ok (.goto 4, 3) := by decide +kernel
theorem dX12_sure_23 : decode cX12_sure 23 = .ok (.iconst (-1), 1) := by decide +kernel
theorem dX12_sure_24 : decode cX12_sure 24 = .ok (.ireturn, 1) := by decide +kernel
abbrev tX12_sure (k : Nat) : MT := (RX12, cX12_sure, 2, k, (some .int))
def mX12_sure : MX := bodyOf 2 (sSeq (sPutI 12 0 .int (rLoc 0) (iK 0)) (sRetI (iCond (cZ zne (iCallV 12 mX12_isHut (aR (rLoc 0) (aI (iLoc 1) aNil)))) (iCallV 12 mX12_sureOf (aR (rLoc 0) (aI (iB gT2 jshl (iK 1) (iLoc 1)) aNil))) (iK (-1)))))
theorem kX12_sure (g : GT) : MK g 6 yX12_sure cX12_sure 2 (some .int) mX12_sure := MK.of (pcN := 99999) (pcB := 0) (pcC := 0) rfl (Sok.seq (pc1 := 5) (Sok.putI (ci := 12) (T := TX12) (NN := 27) (tt := tyX12) (j := 0) (pc1 := 1) (pc2 := 2) (ty := .int) (EokR.aload_n (q := 0) dX12_sure_0) (EokI.iconst (v := 0) dX12_sure_1 (by decide)) (by decide) rfl wsX12_in tyX12_ok nmX12 (by decide) flX12_1 rfl rfl dX12_sure_2) (Sok.retI (pc1 := 24) (EokI.cond' (pc1 := 13) (pc2 := 23) (Cok.zero (pc1 := 10) (pcT := 13) (pcF := 23) (EokI.iCallV (pc1 := 7) (Aok.aR (pc1 := 6) (EokR.aload_n (q := 0) dX12_sure_5) (Aok.aI (pc1 := 7) (EokI.iload_n (q := 1) dX12_sure_6) Aok.nil)) (kX12_isHut g) rfl ykX12_isHut vkX12_264 (by decide) (by decide) dX12_sure_7) (JZ.neF (tgt := 23) dX12_sure_10 (by decide))) (EokI.goto (pc1 := 20) (pc2 := 24) (EokI.iCallV (pc1 := 17) (Aok.aR (pc1 := 14) (EokR.aload_n (q := 0) dX12_sure_13) (Aok.aI (pc1 := 17) (EokI.bin (pc1 := 15) (pc2 := 16) (EokI.iconst (v := 1) dX12_sure_14 (by decide)) (EokI.iload_n (q := 1) dX12_sure_15) (OPI.ishl dX12_sure_16)) Aok.nil)) (kX12_sureOf g) rfl ykX12_sureOf vkX12_364 (by decide) (by decide) dX12_sure_17) dX12_sure_20 (by decide)) (EokI.iconst (v := (-1)) dX12_sure_23 (by decide))) (by decide) dX12_sure_24 rfl))
/-! PassHutsModel.always()I -/
theorem dX12_always_0 : decode cX12_always 0 = .ok (.aload_n 0, 1) := by decide +kernel
theorem dX12_always_1 : decode cX12_always 1 = .ok (.iconst 0, 1) := by decide +kernel
theorem dX12_always_2 : decode cX12_always 2 = .ok (.putfield 1, 3) := by decide +kernel
theorem dX12_always_5 : decode cX12_always 5 = .ok (.aload_n 0, 1) := by decide +kernel
theorem dX12_always_6 : decode cX12_always 6 = .ok (.invokevirtual 215, 3) := by decide +kernel
theorem dX12_always_9 : decode cX12_always 9 = .ok (.ifCond .ne 7, 3) := by decide +kernel
theorem dX12_always_12 : decode cX12_always 12 = .ok (.iconst (-1), 1) := by decide +kernel
theorem dX12_always_13 : decode cX12_always 13 = .ok (.goto 15, 3) := by decide +kernel
theorem dX12_always_16 : decode cX12_always 16 = .ok (.aload_n 0, 1) := by decide +kernel
theorem dX12_always_17 : decode cX12_always 17 = .ok (.iconst 1, 1) := by decide +kernel
theorem dX12_always_18 : decode cX12_always 18 = .ok (.aload_n 0, 1) := by decide +kernel
theorem dX12_always_19 : decode cX12_always 19 = .ok (.invokevirtual 215, 3) := by decide +kernel
theorem dX12_always_22 : decode cX12_always 22 = .ok (.ishl, 1) := by decide +kernel
theorem dX12_always_23 : decode cX12_always 23 = .ok (.iconst 1, 1) := by decide +kernel
theorem dX12_always_24 : decode cX12_always 24 = .ok (.isub, 1) := by decide +kernel
theorem dX12_always_25 : decode cX12_always 25 = .ok (.invokevirtual 364, 3) := by decide +kernel
theorem dX12_always_28 : decode cX12_always 28 = .ok (.ireturn, 1) := by decide +kernel
abbrev tX12_always (k : Nat) : MT := (RX12, cX12_always, 1, k, (some .int))
def mX12_always : MX := bodyOf 1 (sSeq (sPutI 12 0 .int (rLoc 0) (iK 0)) (sRetI (iCond (cZ zeq (iCallV 12 mX12_huts (aR (rLoc 0) aNil))) (iK (-1)) (iCallV 12 mX12_sureOf (aR (rLoc 0) (aI (iB gT2 (· - ·) (iB gT2 jshl (iK 1) (iCallV 12 mX12_huts (aR (rLoc 0) aNil))) (iK 1)) aNil))))))
theorem kX12_always (g : GT) : MK g 6 yX12_always cX12_always 1 (some .int) mX12_always := MK.of (pcN := 99999) (pcB := 0) (pcC := 0) rfl (Sok.seq (pc1 := 5) (Sok.putI (ci := 12) (T := TX12) (NN := 27) (tt := tyX12) (j := 0) (pc1 := 1) (pc2 := 2) (ty := .int) (EokR.aload_n (q := 0) dX12_always_0) (EokI.iconst (v := 0) dX12_always_1 (by decide)) (by decide) rfl wsX12_in tyX12_ok nmX12 (by decide) flX12_1 rfl rfl dX12_always_2) (Sok.retI (pc1 := 28) (EokI.cond' (pc1 := 12) (pc2 := 16) (Cok.zero (pc1 := 9) (pcT := 12) (pcF := 16) (EokI.iCallV (pc1 := 6) (Aok.aR (pc1 := 6) (EokR.aload_n (q := 0) dX12_always_5) Aok.nil) (kX12_huts g) rfl ykX12_huts vkX12_215 (by decide) (by decide) dX12_always_6) (JZ.eqF (tgt := 16) dX12_always_9 (by decide))) (EokI.goto (pc1 := 13) (pc2 := 28) (EokI.iconst (v := (-1)) dX12_always_12 (by decide)) dX12_always_13 (by decide)) (EokI.iCallV (pc1 := 25) (Aok.aR (pc1 := 17) (EokR.aload_n (q := 0) dX12_always_16) (Aok.aI (pc1 := 25) (EokI.bin (pc1 := 23) (pc2 := 24) (EokI.bin (pc1 := 18) (pc2 := 22) (EokI.iconst (v := 1) dX12_always_17 (by decide)) (EokI.iCallV (pc1 := 19) (Aok.aR (pc1 := 19) (EokR.aload_n (q := 0) dX12_always_18) Aok.nil) (kX12_huts g) rfl ykX12_huts vkX12_215 (by decide) (by decide) dX12_always_19) (OPI.ishl dX12_always_22)) (EokI.iconst (v := 1) dX12_always_23 (by decide)) (OPI.isub dX12_always_24)) Aok.nil)) (kX12_sureOf g) rfl ykX12_sureOf vkX12_364 (by decide) (by decide) dX12_always_25)) (by decide) dX12_always_28 rfl))
/-! PassHutsModel.worst(III)I -/
theorem dX12_worst_0 : decode cX12_worst 0 = .ok (.aload_n 0, 1) := by decide +kernel
theorem dX12_worst_1 : decode cX12_worst 1 = .ok (.iconst 0, 1) := by decide +kernel
theorem dX12_worst_2 : decode cX12_worst 2 = .ok (.putfield 1, 3) := by decide +kernel
theorem dX12_worst_5 : decode cX12_worst 5 = .ok (.aload_n 0, 1) := by decide +kernel
theorem dX12_worst_6 : decode cX12_worst 6 = .ok (.iload_n 1, 1) := by decide +kernel
theorem dX12_worst_7 : decode cX12_worst 7 = .ok (.invokevirtual 264, 3) := by decide +kernel
theorem dX12_worst_10 : decode cX12_worst 10 = .ok (.ifCond .eq 21, 3) := by decide +kernel
theorem dX12_worst_13 : decode cX12_worst 13 = .ok (.iload_n 2, 1) := by decide +kernel
theorem dX12_worst_14 : decode cX12_worst 14 = .ok (.iconst 0, 1) := by decide +kernel
theorem dX12_worst_15 : decode cX12_worst 15 = .ok (.bipush 12, 2) := by decide +kernel
theorem dX12_worst_17 : decode cX12_worst 17 = .ok (.invokestatic 267, 3) := by decide +kernel
theorem dX12_worst_20 : decode cX12_worst 20 = .ok (.ifCond .eq 11, 3) := by decide +kernel
theorem dX12_worst_23 : decode cX12_worst 23 = .ok (.aload_n 0, 1) := by decide +kernel
theorem dX12_worst_24 : decode cX12_worst 24 = .ok (.iload_n 3, 1) := by decide +kernel
theorem dX12_worst_25 : decode cX12_worst 25 = .ok (.invokevirtual 264, 3) := by decide +kernel
theorem dX12_worst_28 : decode cX12_worst 28 = .ok (.ifCond .ne 5, 3) := by decide +kernel
theorem dX12_worst_31 : decode cX12_worst 31 = .ok (.iconst (-1), 1) := by decide +kernel
theorem dX12_worst_32 : decode cX12_worst 32 = .ok (.ireturn, 1) := by decide +kernel
theorem dX12_worst_33 : decode cX12_worst 33 = .ok (.aload_n 0, 1) := by decide +kernel
theorem dX12_worst_34 : decode cX12_worst 34 = .ok (.iconst 1, 1) := by decide +kernel
theorem dX12_worst_35 : decode cX12_worst 35 = .ok (.iconst 0, 1) := by decide +kernel
theorem dX12_worst_36 : decode cX12_worst 36 = .ok (.invokevirtual 331, 3) := by decide +kernel
theorem dX12_worst_39 : decode cX12_worst 39 = .ok (.iconst 0, 1) := by decide +kernel
theorem dX12_worst_40 : decode cX12_worst 40 = .ok (.istore 4, 2) := by decide +kernel
theorem dX12_worst_42 : decode cX12_worst 42 = .ok (.iload 4, 2) := by decide +kernel
theorem dX12_worst_44 : decode cX12_worst 44 = .ok (.aload_n 0, 1) := by decide +kernel
theorem dX12_worst_45 : decode cX12_worst 45 = .ok (.invokevirtual 296, 3) := by decide +kernel
theorem dX12_worst_48 : decode cX12_worst 48 = .ok (.if_icmp .ge 48, 3) := by decide +kernel
theorem dX12_worst_51 : decode cX12_worst 51 = .ok (.aload_n 0, 1) := by decide +kernel
theorem dX12_worst_52 : decode cX12_worst 52 = .ok (.iload 4, 2) := by decide +kernel
theorem dX12_worst_54 : decode cX12_worst 54 = .ok (.invokevirtual 299, 3) := by decide +kernel
theorem dX12_worst_57 : decode cX12_worst 57 = .ok (.aload_n 0, 1) := by decide +kernel
theorem dX12_worst_58 : decode cX12_worst 58 = .ok (.invokevirtual 258, 3) := by decide +kernel
theorem dX12_worst_61 : decode cX12_worst 61 = .ok (.iload_n 2, 1) := by decide +kernel
theorem dX12_worst_62 : decode cX12_worst 62 = .ok (.if_icmp .ne 28, 3) := by decide +kernel
theorem dX12_worst_65 : decode cX12_worst 65 = .ok (.aload_n 0, 1) := by decide +kernel
theorem dX12_worst_66 : decode cX12_worst 66 = .ok (.invokevirtual 349, 3) := by decide +kernel
theorem dX12_worst_69 : decode cX12_worst 69 = .ok (.ifCond .eq 21, 3) := by decide +kernel
theorem dX12_worst_72 : decode cX12_worst 72 = .ok (.aload_n 0, 1) := by decide +kernel
theorem dX12_worst_73 : decode cX12_worst 73 = .ok (.invokevirtual 343, 3) := by decide +kernel
theorem dX12_worst_76 : decode cX12_worst 76 = .ok (.iload_n 1, 1) := by decide +kernel
theorem dX12_worst_77 : decode cX12_worst 77 = .ok (.ishr, 1) := by decide +kernel
theorem dX12_worst_78 : decode cX12_worst 78 = .ok (.iconst 1, 1) := by decide +kernel
theorem dX12_worst_79 : decode cX12_worst 79 = .ok (.iand, 1) := by decide +kernel
theorem dX12_worst_80 : decode cX12_worst 80 = .ok (.ifCond .ne 10, 3) := by decide +kernel
theorem dX12_worst_83 : decode cX12_worst 83 = .ok (.aload_n 0, 1) := by decide +kernel
theorem dX12_worst_84 : decode cX12_worst 84 = .ok (.getfield 100, 3) := by decide +kernel
theorem dX12_worst_87 : decode cX12_worst 87 = .ok (.iload_n 3, 1) := by decide +kernel
theorem dX12_worst_88 : decode cX12_worst 88 = .ok (.iaload, 1) := by decide +kernel
theorem dX12_worst_89 : decode cX12_worst 89 = .ok (.ireturn, 1) := by decide +kernel
theorem dX12_worst_90 : decode cX12_worst 90 = .ok (.iinc 4 1, 3) := by decide +kernel
theorem dX12_worst_93 : decode cX12_worst 93 = .ok (.goto (-51), 3) := by decide +kernel
theorem dX12_worst_96 : decode cX12_worst 96 = .ok (.iconst (-1), 1) := by decide +kernel
theorem dX12_worst_97 : decode cX12_worst 97 = .ok (.ireturn, 1) := by decide +kernel
abbrev tX12_worst (k : Nat) : MT := (RX12, cX12_worst, 5, k, (some .int))
def lX12_worst_1 : SX := (sLoop (cB rlt (iLoc 4) (iCallV 12 mX12_allWays (aR (rLoc 0) aNil))) (sSeq (sCallV 12 mX12_lays (aR (rLoc 0) (aI (iLoc 4) aNil))) (sIf (cAnd (cAnd (cB req (iCallV 12 mX12_allLoads (aR (rLoc 0) aNil)) (iLoc 2)) (cZ zne (iCallV 12 mX12_isWay (aR (rLoc 0) aNil)))) (cZ zeq (iB gT2 (· &&& ·) (iB gT2 jshr (iCallV 12 mX12_comesTo (aR (rLoc 0) aNil)) (iLoc 1)) (iK 1)))) (sRetI (iALd (rGet 12 20 (rLoc 0)) (iLoc 3))) sSkip)) (sInc 4 1))
theorem olX12_worst_1 (g : GT) {pcB pcC : Nat} : Sok g (tX12_worst 5) 42 96 pcB pcC (lX12_worst_1) := (Sok.loop (pc := 42) (pc1 := 51) (pc2 := 90) (pcN := 96) (Cok.cmp (pc1 := 44) (pc2 := 48) (pcT := 51) (pcF := 96) (EokI.iload (i := 4) dX12_worst_42) (EokI.iCallV (pc1 := 45) (Aok.aR (pc1 := 45) (EokR.aload_n (q := 0) dX12_worst_44) Aok.nil) (kX12_allWays g) rfl ykX12_allWays vkX12_296 (by decide) (by decide) dX12_worst_45) (JI.ltF (tgt := 96) dX12_worst_48 (by decide))) (by decide) (Sok.seq (pc1 := 57) (Sok.sCallV (pc1 := 54) (Aok.aR (pc1 := 52) (EokR.aload_n (q := 0) dX12_worst_51) (Aok.aI (pc1 := 54) (EokI.iload (i := 4) dX12_worst_52) Aok.nil)) (by decide) (kX12_lays g) rfl ykX12_lays vkX12_299 (by decide) (by decide) dX12_worst_54) (Sok.ite (pc1 := 83) (pc2 := 90) (Cok.and (pc1 := 72) (Cok.and (pc1 := 65) (Cok.cmp (pc1 := 61) (pc2 := 62) (pcT := 65) (pcF := 90) (EokI.iCallV (pc1 := 58) (Aok.aR (pc1 := 58) (EokR.aload_n (q := 0) dX12_worst_57) Aok.nil) (kX12_allLoads g) rfl ykX12_allLoads vkX12_258 (by decide) (by decide) dX12_worst_58) (EokI.iload_n (q := 2) dX12_worst_61) (JI.eqF (tgt := 90) dX12_worst_62 (by decide))) (Cok.zero (pc1 := 69) (pcT := 72) (pcF := 90) (EokI.iCallV (pc1 := 66) (Aok.aR (pc1 := 66) (EokR.aload_n (q := 0) dX12_worst_65) Aok.nil) (kX12_isWay g) rfl ykX12_isWay vkX12_349 (by decide) (by decide) dX12_worst_66) (JZ.neF (tgt := 90) dX12_worst_69 (by decide)))) (Cok.zero (pc1 := 80) (pcT := 83) (pcF := 90) (EokI.bin (pc1 := 78) (pc2 := 79) (EokI.bin (pc1 := 76) (pc2 := 77) (EokI.iCallV (pc1 := 73) (Aok.aR (pc1 := 73) (EokR.aload_n (q := 0) dX12_worst_72) Aok.nil) (kX12_comesTo g) rfl ykX12_comesTo vkX12_343 (by decide) (by decide) dX12_worst_73) (EokI.iload_n (q := 1) dX12_worst_76) (OPI.ishr dX12_worst_77)) (EokI.iconst (v := 1) dX12_worst_78 (by decide)) (OPI.iand dX12_worst_79)) (JZ.eqF (tgt := 90) dX12_worst_80 (by decide)))) (by decide) (Sok.retI (pc1 := 89) (EokI.iALd (pc1 := 87) (pc2 := 88) (EokR.getf (pc1 := 84) (j := 20) (ci := 12) (T := TX12) (N := 27) (EokR.aload_n (q := 0) dX12_worst_83) rfl wsX12_in (by decide) flX12_100 dX12_worst_84) (EokI.iload_n (q := 3) dX12_worst_87) dX12_worst_88) (by decide) dX12_worst_89 rfl) (Sok.skip (pc := 90)))) (Sok.goto (pc1 := 93) (pcN := 42) (Sok.iinc (i := 4) (v := 1) dX12_worst_90 (show 4 < 5 by decide) (by decide)) dX12_worst_93 (by decide)))
def mX12_worst : MX := bodyOf 5 (sSeq (sPutI 12 0 .int (rLoc 0) (iK 0)) (sSeq (sIf (cOr (cOr (cNot (cZ zne (iCallV 12 mX12_isHut (aR (rLoc 0) (aI (iLoc 1) aNil))))) (cNot (cZ zne (iCallS mX12_within (aI (iLoc 2) (aI (iK 0) (aI (iK 12) aNil))))))) (cNot (cZ zne (iCallV 12 mX12_isHut (aR (rLoc 0) (aI (iLoc 3) aNil)))))) (sRetI (iK (-1))) sSkip) (sSeq (sCallV 12 mX12_fills (aR (rLoc 0) (aI (iK 1) (aI (iK 0) aNil)))) (sSeq (sSeq (sSeq (sSetI 4 (iK 0)) lX12_worst_1) (sForget 4)) (sRetI (iK (-1)))))))
theorem kX12_worst (g : GT) : MK g 5 yX12_worst cX12_worst 5 (some .int) mX12_worst := MK.of (pcN := 99999) (pcB := 0) (pcC := 0) rfl (Sok.seq (pc1 := 5) (Sok.putI (ci := 12) (T := TX12) (NN := 27) (tt := tyX12) (j := 0) (pc1 := 1) (pc2 := 2) (ty := .int) (EokR.aload_n (q := 0) dX12_worst_0) (EokI.iconst (v := 0) dX12_worst_1 (by decide)) (by decide) rfl wsX12_in tyX12_ok nmX12 (by decide) flX12_1 rfl rfl dX12_worst_2) (Sok.seq (pc1 := 33) (Sok.ite (pc1 := 31) (pc2 := 33) (Cok.or (pc1 := 23) (Cok.or (pc1 := 13) (Cok.not (Cok.zero (pc1 := 10) (pcT := 13) (pcF := 31) (EokI.iCallV (pc1 := 7) (Aok.aR (pc1 := 6) (EokR.aload_n (q := 0) dX12_worst_5) (Aok.aI (pc1 := 7) (EokI.iload_n (q := 1) dX12_worst_6) Aok.nil)) (kX12_isHut g) rfl ykX12_isHut vkX12_264 (by decide) (by decide) dX12_worst_7) (JZ.neF (tgt := 31) dX12_worst_10 (by decide)))) (Cok.not (Cok.zero (pc1 := 20) (pcT := 23) (pcF := 31) (EokI.iCallS (pc1 := 17) (Aok.aI (pc1 := 14) (EokI.iload_n (q := 2) dX12_worst_13) (Aok.aI (pc1 := 15) (EokI.iconst (v := 0) dX12_worst_14 (by decide)) (Aok.aI (pc1 := 17) (EokI.bipush (v := 12) dX12_worst_15 (by decide)) Aok.nil))) (kX12_within g) ykX12_within skX12_267 (by decide) (by decide) dX12_worst_17) (JZ.neF (tgt := 31) dX12_worst_20 (by decide))))) (Cok.not (Cok.zero (pc1 := 28) (pcT := 33) (pcF := 31) (EokI.iCallV (pc1 := 25) (Aok.aR (pc1 := 24) (EokR.aload_n (q := 0) dX12_worst_23) (Aok.aI (pc1 := 25) (EokI.iload_n (q := 3) dX12_worst_24) Aok.nil)) (kX12_isHut g) rfl ykX12_isHut vkX12_264 (by decide) (by decide) dX12_worst_25) (JZ.neT (tgt := 33) dX12_worst_28 (by decide))))) (by decide) (Sok.retI (pc1 := 32) (EokI.iconst (v := (-1)) dX12_worst_31 (by decide)) (by decide) dX12_worst_32 rfl) (Sok.skip (pc := 33))) (Sok.seq (pc1 := 39) (Sok.sCallV (pc1 := 36) (Aok.aR (pc1 := 34) (EokR.aload_n (q := 0) dX12_worst_33) (Aok.aI (pc1 := 35) (EokI.iconst (v := 1) dX12_worst_34 (by decide)) (Aok.aI (pc1 := 36) (EokI.iconst (v := 0) dX12_worst_35 (by decide)) Aok.nil))) (by decide) (kX12_fills g) rfl ykX12_fills vkX12_331 (by decide) (by decide) dX12_worst_36) (Sok.seq (pc1 := 96) (Sok.seq (pc1 := 96) (Sok.seq (pc1 := 42) (Sok.setI (i := 4) (pc1 := 40) (EokI.iconst (v := 0) dX12_worst_39 (by decide)) (by decide) dX12_worst_40 (show 4 < 5 by decide)) (olX12_worst_1 g )) (Sok.forget (pc := 96))) (Sok.retI (pc1 := 97) (EokI.iconst (v := (-1)) dX12_worst_96 (by decide)) (by decide) dX12_worst_97 rfl)))))
/-! PassHutsModel.best(I)I -/
theorem dX12_best_0 : decode cX12_best 0 = .ok (.aload_n 0, 1) := by decide +kernel
theorem dX12_best_1 : decode cX12_best 1 = .ok (.iconst 0, 1) := by decide +kernel
theorem dX12_best_2 : decode cX12_best 2 = .ok (.putfield 1, 3) := by decide +kernel
theorem dX12_best_5 : decode cX12_best 5 = .ok (.iload_n 1, 1) := by decide +kernel
theorem dX12_best_6 : decode cX12_best 6 = .ok (.iconst (-1), 1) := by decide +kernel
theorem dX12_best_7 : decode cX12_best 7 = .ok (.if_icmp .eq 14, 3) := by decide +kernel
theorem dX12_best_10 : decode cX12_best 10 = .ok (.aload_n 0, 1) := by decide +kernel
theorem dX12_best_11 : decode cX12_best 11 = .ok (.iload_n 1, 1) := by decide +kernel
theorem dX12_best_12 : decode cX12_best 12 = .ok (.invokevirtual 264, 3) := by decide +kernel
theorem dX12_best_15 : decode cX12_best 15 = .ok (.ifCond .ne 6, 3) := by decide +kernel
theorem dX12_best_18 : decode cX12_best 18 = .ok (.bipush (-2), 2) := by decide +kernel
theorem dX12_best_20 : decode cX12_best 20 = .ok (.ireturn, 1) := by decide +kernel
theorem dX12_best_21 : decode cX12_best 21 = .ok (.aload_n 0, 1) := by decide +kernel
theorem dX12_best_22 : decode cX12_best 22 = .ok (.iconst 1, 1) := by decide +kernel
theorem dX12_best_23 : decode cX12_best 23 = .ok (.iconst 0, 1) := by decide +kernel
theorem dX12_best_24 : decode cX12_best 24 = .ok (.invokevirtual 331, 3) := by decide +kernel
theorem dX12_best_27 : decode cX12_best 27 = .ok (.iconst 0, 1) := by decide +kernel
theorem dX12_best_28 : decode cX12_best 28 = .ok (.istore_n 2, 1) := by decide +kernel
theorem dX12_best_29 : decode cX12_best 29 = .ok (.iload_n 2, 1) := by decide +kernel
theorem dX12_best_30 : decode cX12_best 30 = .ok (.bipush 12, 2) := by decide +kernel
theorem dX12_best_32 : decode cX12_best 32 = .ok (.if_icmp .gt 75, 3) := by decide +kernel
theorem dX12_best_35 : decode cX12_best 35 = .ok (.iconst 0, 1) := by decide +kernel
theorem dX12_best_36 : decode cX12_best 36 = .ok (.istore_n 3, 1) := by decide +kernel
theorem dX12_best_37 : decode cX12_best 37 = .ok (.iload_n 3, 1) := by decide +kernel
theorem dX12_best_38 : decode cX12_best 38 = .ok (.aload_n 0, 1) := by decide +kernel
theorem dX12_best_39 : decode cX12_best 39 = .ok (.invokevirtual 296, 3) := by decide +kernel
theorem dX12_best_42 : decode cX12_best 42 = .ok (.if_icmp .ge 59, 3) := by decide +kernel
theorem dX12_best_45 : decode cX12_best 45 = .ok (.aload_n 0, 1) := by decide +kernel
theorem dX12_best_46 : decode cX12_best 46 = .ok (.iload_n 3, 1) := by decide +kernel
theorem dX12_best_47 : decode cX12_best 47 = .ok (.invokevirtual 299, 3) := by decide +kernel
theorem dX12_best_50 : decode cX12_best 50 = .ok (.aload_n 0, 1) := by decide +kernel
theorem dX12_best_51 : decode cX12_best 51 = .ok (.invokevirtual 258, 3) := by decide +kernel
theorem dX12_best_54 : decode cX12_best 54 = .ok (.iload_n 2, 1) := by decide +kernel
theorem dX12_best_55 : decode cX12_best 55 = .ok (.if_icmp .ne 40, 3) := by decide +kernel
theorem dX12_best_58 : decode cX12_best 58 = .ok (.aload_n 0, 1) := by decide +kernel
theorem dX12_best_59 : decode cX12_best 59 = .ok (.invokevirtual 349, 3) := by decide +kernel
theorem dX12_best_62 : decode cX12_best 62 = .ok (.ifCond .eq 33, 3) := by decide +kernel
theorem dX12_best_65 : decode cX12_best 65 = .ok (.aload_n 0, 1) := by decide +kernel
theorem dX12_best_66 : decode cX12_best 66 = .ok (.invokevirtual 343, 3) := by decide +kernel
theorem dX12_best_69 : decode cX12_best 69 = .ok (.iconst 1, 1) := by decide +kernel
theorem dX12_best_70 : decode cX12_best 70 = .ok (.aload_n 0, 1) := by decide +kernel
theorem dX12_best_71 : decode cX12_best 71 = .ok (.invokevirtual 215, 3) := by decide +kernel
theorem dX12_best_74 : decode cX12_best 74 = .ok (.ishl, 1) := by decide +kernel
theorem dX12_best_75 : decode cX12_best 75 = .ok (.iconst 1, 1) := by decide +kernel
theorem dX12_best_76 : decode cX12_best 76 = .ok (.isub, 1) := by decide +kernel
theorem dX12_best_77 : decode cX12_best 77 = .ok (.if_icmp .ne 18, 3) := by decide +kernel
theorem dX12_best_80 : decode cX12_best 80 = .ok (.iload_n 1, 1) := by decide +kernel
theorem dX12_best_81 : decode cX12_best 81 = .ok (.ifCond .ge 7, 3) := by decide +kernel
theorem dX12_best_84 : decode cX12_best 84 = .ok (.iload_n 2, 1) := by decide +kernel
theorem dX12_best_85 : decode cX12_best 85 = .ok (.goto 9, 3) := by decide +kernel
theorem dX12_best_88 : decode cX12_best 88 = .ok (.aload_n 0, 1) := by decide +kernel
theorem dX12_best_89 : decode cX12_best 89 = .ok (.getfield 100, 3) := by decide +kernel
theorem dX12_best_92 : decode cX12_best 92 = .ok (.iload_n 1, 1) := by decide +kernel
theorem dX12_best_93 : decode cX12_best 93 = .ok (.iaload, 1) := by decide +kernel
theorem dX12_best_94 : decode cX12_best 94 = .ok (.ireturn, 1) := by decide +kernel
theorem dX12_best_95 : decode cX12_best 95 = .ok (.iinc 3 1, 3) := by decide +kernel
theorem dX12_best_98 : decode cX12_best 98 = .ok (.goto (-61), 3) := by decide +kernel
theorem dX12_best_101 : decode cX12_best 101 = .ok (.iinc 2 1, 3) := by decide +kernel
theorem dX12_best_104 : decode cX12_best 104 = .ok (.goto (-75), 3) := by decide +kernel
theorem dX12_best_107 : decode cX12_best 107 = .ok (.iconst (-1), 1) := by decide +kernel
theorem dX12_best_108 : decode cX12_best 108 = .ok (.ireturn, 1) := by decide +kernel
abbrev tX12_best (k : Nat) : MT := (RX12, cX12_best, 4, k, (some .int))
def lX12_best_1 : SX := (sLoop (cB rlt (iLoc 3) (iCallV 12 mX12_allWays (aR (rLoc 0) aNil))) (sSeq (sCallV 12 mX12_lays (aR (rLoc 0) (aI (iLoc 3) aNil))) (sIf (cAnd (cAnd (cB req (iCallV 12 mX12_allLoads (aR (rLoc 0) aNil)) (iLoc 2)) (cZ zne (iCallV 12 mX12_isWay (aR (rLoc 0) aNil)))) (cB req (iCallV 12 mX12_comesTo (aR (rLoc 0) aNil)) (iB gT2 (· - ·) (iB gT2 jshl (iK 1) (iCallV 12 mX12_huts (aR (rLoc 0) aNil))) (iK 1)))) (sRetI (iCond (cZ zlt (iLoc 1)) (iLoc 2) (iALd (rGet 12 20 (rLoc 0)) (iLoc 1)))) sSkip)) (sInc 3 1))
def lX12_best_2 : SX := (sLoop (cB rle (iLoc 2) (iK 12)) (sSeq (sSetI 3 (iK 0)) lX12_best_1) (sSeq (sForget 3) (sInc 2 1)))
theorem olX12_best_1 (g : GT) {pcB pcC : Nat} : Sok g (tX12_best 5) 37 101 pcB pcC (lX12_best_1) := (Sok.loop (pc := 37) (pc1 := 45) (pc2 := 95) (pcN := 101) (Cok.cmp (pc1 := 38) (pc2 := 42) (pcT := 45) (pcF := 101) (EokI.iload_n (q := 3) dX12_best_37) (EokI.iCallV (pc1 := 39) (Aok.aR (pc1 := 39) (EokR.aload_n (q := 0) dX12_best_38) Aok.nil) (kX12_allWays g) rfl ykX12_allWays vkX12_296 (by decide) (by decide) dX12_best_39) (JI.ltF (tgt := 101) dX12_best_42 (by decide))) (by decide) (Sok.seq (pc1 := 50) (Sok.sCallV (pc1 := 47) (Aok.aR (pc1 := 46) (EokR.aload_n (q := 0) dX12_best_45) (Aok.aI (pc1 := 47) (EokI.iload_n (q := 3) dX12_best_46) Aok.nil)) (by decide) (kX12_lays g) rfl ykX12_lays vkX12_299 (by decide) (by decide) dX12_best_47) (Sok.ite (pc1 := 80) (pc2 := 95) (Cok.and (pc1 := 65) (Cok.and (pc1 := 58) (Cok.cmp (pc1 := 54) (pc2 := 55) (pcT := 58) (pcF := 95) (EokI.iCallV (pc1 := 51) (Aok.aR (pc1 := 51) (EokR.aload_n (q := 0) dX12_best_50) Aok.nil) (kX12_allLoads g) rfl ykX12_allLoads vkX12_258 (by decide) (by decide) dX12_best_51) (EokI.iload_n (q := 2) dX12_best_54) (JI.eqF (tgt := 95) dX12_best_55 (by decide))) (Cok.zero (pc1 := 62) (pcT := 65) (pcF := 95) (EokI.iCallV (pc1 := 59) (Aok.aR (pc1 := 59) (EokR.aload_n (q := 0) dX12_best_58) Aok.nil) (kX12_isWay g) rfl ykX12_isWay vkX12_349 (by decide) (by decide) dX12_best_59) (JZ.neF (tgt := 95) dX12_best_62 (by decide)))) (Cok.cmp (pc1 := 69) (pc2 := 77) (pcT := 80) (pcF := 95) (EokI.iCallV (pc1 := 66) (Aok.aR (pc1 := 66) (EokR.aload_n (q := 0) dX12_best_65) Aok.nil) (kX12_comesTo g) rfl ykX12_comesTo vkX12_343 (by decide) (by decide) dX12_best_66) (EokI.bin (pc1 := 75) (pc2 := 76) (EokI.bin (pc1 := 70) (pc2 := 74) (EokI.iconst (v := 1) dX12_best_69 (by decide)) (EokI.iCallV (pc1 := 71) (Aok.aR (pc1 := 71) (EokR.aload_n (q := 0) dX12_best_70) Aok.nil) (kX12_huts g) rfl ykX12_huts vkX12_215 (by decide) (by decide) dX12_best_71) (OPI.ishl dX12_best_74)) (EokI.iconst (v := 1) dX12_best_75 (by decide)) (OPI.isub dX12_best_76)) (JI.eqF (tgt := 95) dX12_best_77 (by decide)))) (by decide) (Sok.retI (pc1 := 94) (EokI.cond' (pc1 := 84) (pc2 := 88) (Cok.zero (pc1 := 81) (pcT := 84) (pcF := 88) (EokI.iload_n (q := 1) dX12_best_80) (JZ.ltF (tgt := 88) dX12_best_81 (by decide))) (EokI.goto (pc1 := 85) (pc2 := 94) (EokI.iload_n (q := 2) dX12_best_84) dX12_best_85 (by decide)) (EokI.iALd (pc1 := 92) (pc2 := 93) (EokR.getf (pc1 := 89) (j := 20) (ci := 12) (T := TX12) (N := 27) (EokR.aload_n (q := 0) dX12_best_88) rfl wsX12_in (by decide) flX12_100 dX12_best_89) (EokI.iload_n (q := 1) dX12_best_92) dX12_best_93)) (by decide) dX12_best_94 rfl) (Sok.skip (pc := 95)))) (Sok.goto (pc1 := 98) (pcN := 37) (Sok.iinc (i := 3) (v := 1) dX12_best_95 (show 3 < 4 by decide) (by decide)) dX12_best_98 (by decide)))
theorem olX12_best_2 (g : GT) {pcB pcC : Nat} : Sok g (tX12_best 5) 29 107 pcB pcC (lX12_best_2) := (Sok.loop (pc := 29) (pc1 := 35) (pc2 := 101) (pcN := 107) (Cok.cmp (pc1 := 30) (pc2 := 32) (pcT := 35) (pcF := 107) (EokI.iload_n (q := 2) dX12_best_29) (EokI.bipush (v := 12) dX12_best_30 (by decide)) (JI.leF (tgt := 107) dX12_best_32 (by decide))) (by decide) (Sok.seq (pc1 := 37) (Sok.setI_n (q := 3) (pc1 := 36) (EokI.iconst (v := 0) dX12_best_35 (by decide)) (by decide) dX12_best_36 (show 3 < 4 by decide)) (olX12_best_1 g )) (Sok.seq (pc1 := 101) Sok.forget (Sok.goto (pc1 := 104) (pcN := 29) (Sok.iinc (i := 2) (v := 1) dX12_best_101 (show 2 < 4 by decide) (by decide)) dX12_best_104 (by decide))))
def mX12_best : MX := bodyOf 4 (sSeq (sPutI 12 0 .int (rLoc 0) (iK 0)) (sSeq (sIf (cAnd (cB rne (iLoc 1) (iK (-1))) (cNot (cZ zne (iCallV 12 mX12_isHut (aR (rLoc 0) (aI (iLoc 1) aNil)))))) (sRetI (iK (-2))) sSkip) (sSeq (sCallV 12 mX12_fills (aR (rLoc 0) (aI (iK 1) (aI (iK 0) aNil)))) (sSeq (sSeq (sSeq (sSetI 2 (iK 0)) lX12_best_2) (sForget 2)) (sRetI (iK (-1)))))))
theorem kX12_best (g : GT) : MK g 5 yX12_best cX12_best 4 (some .int) mX12_best := MK.of (pcN := 99999) (pcB := 0) (pcC := 0) rfl (Sok.seq (pc1 := 5) (Sok.putI (ci := 12) (T := TX12) (NN := 27) (tt := tyX12) (j := 0) (pc1 := 1) (pc2 := 2) (ty := .int) (EokR.aload_n (q := 0) dX12_best_0) (EokI.iconst (v := 0) dX12_best_1 (by decide)) (by decide) rfl wsX12_in tyX12_ok nmX12 (by decide) flX12_1 rfl rfl dX12_best_2) (Sok.seq (pc1 := 21) (Sok.ite (pc1 := 18) (pc2 := 21) (Cok.and (pc1 := 10) (Cok.cmp (pc1 := 6) (pc2 := 7) (pcT := 10) (pcF := 21) (EokI.iload_n (q := 1) dX12_best_5) (EokI.iconst (v := (-1)) dX12_best_6 (by decide)) (JI.neF (tgt := 21) dX12_best_7 (by decide))) (Cok.not (Cok.zero (pc1 := 15) (pcT := 21) (pcF := 18) (EokI.iCallV (pc1 := 12) (Aok.aR (pc1 := 11) (EokR.aload_n (q := 0) dX12_best_10) (Aok.aI (pc1 := 12) (EokI.iload_n (q := 1) dX12_best_11) Aok.nil)) (kX12_isHut g) rfl ykX12_isHut vkX12_264 (by decide) (by decide) dX12_best_12) (JZ.neT (tgt := 21) dX12_best_15 (by decide))))) (by decide) (Sok.retI (pc1 := 20) (EokI.bipush (v := (-2)) dX12_best_18 (by decide)) (by decide) dX12_best_20 rfl) (Sok.skip (pc := 21))) (Sok.seq (pc1 := 27) (Sok.sCallV (pc1 := 24) (Aok.aR (pc1 := 22) (EokR.aload_n (q := 0) dX12_best_21) (Aok.aI (pc1 := 23) (EokI.iconst (v := 1) dX12_best_22 (by decide)) (Aok.aI (pc1 := 24) (EokI.iconst (v := 0) dX12_best_23 (by decide)) Aok.nil))) (by decide) (kX12_fills g) rfl ykX12_fills vkX12_331 (by decide) (by decide) dX12_best_24) (Sok.seq (pc1 := 107) (Sok.seq (pc1 := 107) (Sok.seq (pc1 := 29) (Sok.setI_n (q := 2) (pc1 := 28) (EokI.iconst (v := 0) dX12_best_27 (by decide)) (by decide) dX12_best_28 (show 2 < 4 by decide)) (olX12_best_2 g )) (Sok.forget (pc := 107))) (Sok.retI (pc1 := 108) (EokI.iconst (v := (-1)) dX12_best_107 (by decide)) (by decide) dX12_best_108 rfl)))))
/-! PassHutsModel.wins(I)I -/
theorem dX12_wins_0 : decode cX12_wins 0 = .ok (.aload_n 0, 1) := by decide +kernel
theorem dX12_wins_1 : decode cX12_wins 1 = .ok (.iconst 0, 1) := by decide +kernel
theorem dX12_wins_2 : decode cX12_wins 2 = .ok (.putfield 1, 3) := by decide +kernel
theorem dX12_wins_5 : decode cX12_wins 5 = .ok (.iload_n 1, 1) := by decide +kernel
theorem dX12_wins_6 : decode cX12_wins 6 = .ok (.iconst 0, 1) := by decide +kernel
theorem dX12_wins_7 : decode cX12_wins 7 = .ok (.iconst 1, 1) := by decide +kernel
theorem dX12_wins_8 : decode cX12_wins 8 = .ok (.invokestatic 267, 3) := by decide +kernel
theorem dX12_wins_11 : decode cX12_wins 11 = .ok (.ifCond .ne 5, 3) := by decide +kernel
theorem dX12_wins_14 : decode cX12_wins 14 = .ok (.iconst (-1), 1) := by decide +kernel
theorem dX12_wins_15 : decode cX12_wins 15 = .ok (.ireturn, 1) := by decide +kernel
theorem dX12_wins_16 : decode cX12_wins 16 = .ok (.aload_n 0, 1) := by decide +kernel
theorem dX12_wins_17 : decode cX12_wins 17 = .ok (.bipush 7, 2) := by decide +kernel
theorem dX12_wins_19 : decode cX12_wins 19 = .ok (.iconst 0, 1) := by decide +kernel
theorem dX12_wins_20 : decode cX12_wins 20 = .ok (.invokevirtual 334, 3) := by decide +kernel
theorem dX12_wins_23 : decode cX12_wins 23 = .ok (.lstore_n 2, 1) := by decide +kernel
theorem dX12_wins_24 : decode cX12_wins 24 = .ok (.iload_n 1, 1) := by decide +kernel
theorem dX12_wins_25 : decode cX12_wins 25 = .ok (.ifCond .ne 12, 3) := by decide +kernel
theorem dX12_wins_28 : decode cX12_wins 28 = .ok (.lload_n 2, 1) := by decide +kernel
theorem dX12_wins_29 : decode cX12_wins 29 = .ok (.ldc2_w 329, 3) := by decide +kernel
theorem dX12_wins_32 : decode cX12_wins 32 = .ok (.lrem, 1) := by decide +kernel
theorem dX12_wins_33 : decode cX12_wins 33 = .ok (.l2i, 1) := by decide +kernel
theorem dX12_wins_34 : decode cX12_wins 34 = .ok (.goto 9, 3) := by decide +kernel
theorem dX12_wins_37 : decode cX12_wins 37 = .ok (.lload_n 2, 1) := by decide +kernel
theorem dX12_wins_38 : decode cX12_wins 38 = .ok (.ldc2_w 329, 3) := by decide +kernel
theorem dX12_wins_41 : decode cX12_wins 41 = .ok (.ldiv, 1) := by decide +kernel
theorem dX12_wins_42 : decode cX12_wins 42 = .ok (.l2i, 1) := by decide +kernel
theorem dX12_wins_43 : decode cX12_wins 43 = .ok (.ireturn, 1) := by decide +kernel
abbrev tX12_wins (k : Nat) : MT := (RX12, cX12_wins, 4, k, (some .int))
def mX12_wins : MX := bodyOf 4 (sSeq (sPutI 12 0 .int (rLoc 0) (iK 0)) (sSeq (sIf (cNot (cZ zne (iCallS mX12_within (aI (iLoc 1) (aI (iK 0) (aI (iK 1) aNil)))))) (sRetI (iK (-1))) sSkip) (sSeq (sSetL 2 (lCallV 12 mX12_asked (aR (rLoc 0) (aI (iK 7) (aI (iK 0) aNil))))) (sRetI (iCond (cZ zeq (iLoc 1)) (iOfL (lB gNZL jlrem (lLoc 2) (lK 2))) (iOfL (lB gNZL (· / ·) (lLoc 2) (lK 2))))))))
theorem kX12_wins (g : GT) : MK g 6 yX12_wins cX12_wins 4 (some .int) mX12_wins := MK.of (pcN := 99999) (pcB := 0) (pcC := 0) rfl (Sok.seq (pc1 := 5) (Sok.putI (ci := 12) (T := TX12) (NN := 27) (tt := tyX12) (j := 0) (pc1 := 1) (pc2 := 2) (ty := .int) (EokR.aload_n (q := 0) dX12_wins_0) (EokI.iconst (v := 0) dX12_wins_1 (by decide)) (by decide) rfl wsX12_in tyX12_ok nmX12 (by decide) flX12_1 rfl rfl dX12_wins_2) (Sok.seq (pc1 := 16) (Sok.ite (pc1 := 14) (pc2 := 16) (Cok.not (Cok.zero (pc1 := 11) (pcT := 16) (pcF := 14) (EokI.iCallS (pc1 := 8) (Aok.aI (pc1 := 6) (EokI.iload_n (q := 1) dX12_wins_5) (Aok.aI (pc1 := 7) (EokI.iconst (v := 0) dX12_wins_6 (by decide)) (Aok.aI (pc1 := 8) (EokI.iconst (v := 1) dX12_wins_7 (by decide)) Aok.nil))) (kX12_within g) ykX12_within skX12_267 (by decide) (by decide) dX12_wins_8) (JZ.neT (tgt := 16) dX12_wins_11 (by decide)))) (by decide) (Sok.retI (pc1 := 15) (EokI.iconst (v := (-1)) dX12_wins_14 (by decide)) (by decide) dX12_wins_15 rfl) (Sok.skip (pc := 16))) (Sok.seq (pc1 := 24) (Sok.setL_n (q := 2) (pc1 := 23) (EokL.lCallV (pc1 := 20) (Aok.aR (pc1 := 17) (EokR.aload_n (q := 0) dX12_wins_16) (Aok.aI (pc1 := 19) (EokI.bipush (v := 7) dX12_wins_17 (by decide)) (Aok.aI (pc1 := 20) (EokI.iconst (v := 0) dX12_wins_19 (by decide)) Aok.nil))) (kX12_asked g) rfl ykX12_asked vkX12_334 (by decide) (by decide) dX12_wins_20) (by decide) dX12_wins_23 (show 3 < 4 by decide)) (Sok.retI (pc1 := 43) (EokI.cond' (pc1 := 28) (pc2 := 37) (Cok.zero (pc1 := 25) (pcT := 28) (pcF := 37) (EokI.iload_n (q := 1) dX12_wins_24) (JZ.eqF (tgt := 37) dX12_wins_25 (by decide))) (EokI.goto (pc1 := 34) (pc2 := 43) (EokI.l2i (pc1 := 33) (EokL.bin (pc1 := 29) (pc2 := 32) (EokL.lload_n (q := 2) dX12_wins_28) (EokL.ldc2 (v := 2) ckX12_329 dX12_wins_29) (OPL.lrem dX12_wins_32)) dX12_wins_33) dX12_wins_34 (by decide)) (EokI.l2i (pc1 := 42) (EokL.bin (pc1 := 38) (pc2 := 41) (EokL.lload_n (q := 2) dX12_wins_37) (EokL.ldc2 (v := 2) ckX12_329 dX12_wins_38) (OPL.ldiv dX12_wins_41)) dX12_wins_42)) (by decide) dX12_wins_43 rfl))))
/-! PassHutsModel.his()I -/
theorem dX12_his_0 : decode cX12_his 0 = .ok (.aload_n 0, 1) := by decide +kernel
theorem dX12_his_1 : decode cX12_his 1 = .ok (.iconst 0, 1) := by decide +kernel
theorem dX12_his_2 : decode cX12_his 2 = .ok (.putfield 1, 3) := by decide +kernel
theorem dX12_his_5 : decode cX12_his 5 = .ok (.aload_n 0, 1) := by decide +kernel
theorem dX12_his_6 : decode cX12_his 6 = .ok (.bipush 7, 2) := by decide +kernel
theorem dX12_his_8 : decode cX12_his 8 = .ok (.iconst 0, 1) := by decide +kernel
theorem dX12_his_9 : decode cX12_his 9 = .ok (.invokevirtual 334, 3) := by decide +kernel
theorem dX12_his_12 : decode cX12_his 12 = .ok (.lstore_n 1, 1) := by decide +kernel
theorem dX12_his_13 : decode cX12_his 13 = .ok (.lload_n 1, 1) := by decide +kernel
theorem dX12_his_14 : decode cX12_his 14 = .ok (.ldc2_w 329, 3) := by decide +kernel
theorem dX12_his_17 : decode cX12_his 17 = .ok (.lsub, 1) := by decide +kernel
theorem dX12_his_18 : decode cX12_his 18 = .ok (.lload_n 1, 1) := by decide +kernel
theorem dX12_his_19 : decode cX12_his 19 = .ok (.ldc2_w 329, 3) := by decide +kernel
theorem dX12_his_22 : decode cX12_his 22 = .ok (.lrem, 1) := by decide +kernel
theorem dX12_his_23 : decode cX12_his 23 = .ok (.lconst 1, 1) := by decide +kernel
theorem dX12_his_24 : decode cX12_his 24 = .ok (.lcmp, 1) := by decide +kernel
theorem dX12_his_25 : decode cX12_his 25 = .ok (.ifCond .ne 9, 3) := by decide +kernel
theorem dX12_his_28 : decode cX12_his 28 = .ok (.ldc2_w 367, 3) := by decide +kernel
theorem dX12_his_31 : decode cX12_his 31 = .ok (.goto 4, 3) := by decide +kernel
theorem dX12_his_34 : decode cX12_his 34 = .ok (.lconst 1, 1) := by decide +kernel
theorem dX12_his_35 : decode cX12_his 35 = .ok (.ladd, 1) := by decide +kernel
theorem dX12_his_36 : decode cX12_his 36 = .ok (.lstore_n 3, 1) := by decide +kernel
theorem dX12_his_37 : decode cX12_his 37 = .ok (.iconst 0, 1) := by decide +kernel
theorem dX12_his_38 : decode cX12_his 38 = .ok (.istore 5, 2) := by decide +kernel
theorem dX12_his_40 : decode cX12_his 40 = .ok (.iload 5, 2) := by decide +kernel
theorem dX12_his_42 : decode cX12_his 42 = .ok (.aload_n 0, 1) := by decide +kernel
theorem dX12_his_43 : decode cX12_his 43 = .ok (.invokevirtual 215, 3) := by decide +kernel
theorem dX12_his_46 : decode cX12_his 46 = .ok (.if_icmp .ge 91, 3) := by decide +kernel
theorem dX12_his_49 : decode cX12_his 49 = .ok (.iconst 0, 1) := by decide +kernel
theorem dX12_his_50 : decode cX12_his 50 = .ok (.istore 6, 2) := by decide +kernel
theorem dX12_his_52 : decode cX12_his 52 = .ok (.iload 6, 2) := by decide +kernel
theorem dX12_his_54 : decode cX12_his 54 = .ok (.aload_n 0, 1) := by decide +kernel
theorem dX12_his_55 : decode cX12_his 55 = .ok (.invokevirtual 215, 3) := by decide +kernel
theorem dX12_his_58 : decode cX12_his 58 = .ok (.if_icmp .ge 73, 3) := by decide +kernel
theorem dX12_his_61 : decode cX12_his 61 = .ok (.aload_n 0, 1) := by decide +kernel
theorem dX12_his_62 : decode cX12_his 62 = .ok (.iload 5, 2) := by decide +kernel
theorem dX12_his_64 : decode cX12_his 64 = .ok (.iload 6, 2) := by decide +kernel
theorem dX12_his_66 : decode cX12_his 66 = .ok (.invokevirtual 277, 3) := by decide +kernel
theorem dX12_his_69 : decode cX12_his 69 = .ok (.ifCond .eq 56, 3) := by decide +kernel
theorem dX12_his_72 : decode cX12_his 72 = .ok (.aload_n 0, 1) := by decide +kernel
theorem dX12_his_73 : decode cX12_his 73 = .ok (.iload 5, 2) := by decide +kernel
theorem dX12_his_75 : decode cX12_his 75 = .ok (.iload 6, 2) := by decide +kernel
theorem dX12_his_77 : decode cX12_his 77 = .ok (.iconst 1, 1) := by decide +kernel
theorem dX12_his_78 : decode cX12_his 78 = .ok (.invokevirtual 284, 3) := by decide +kernel
theorem dX12_his_81 : decode cX12_his 81 = .ok (.aload_n 0, 1) := by decide +kernel
theorem dX12_his_82 : decode cX12_his 82 = .ok (.getfield 103, 3) := by decide +kernel
theorem dX12_his_85 : decode cX12_his 85 = .ok (.aload_n 0, 1) := by decide +kernel
theorem dX12_his_86 : decode cX12_his 86 = .ok (.invokevirtual 309, 3) := by decide +kernel
theorem dX12_his_89 : decode cX12_his 89 = .ok (.laload, 1) := by decide +kernel
theorem dX12_his_90 : decode cX12_his 90 = .ok (.lload_n 3, 1) := by decide +kernel
theorem dX12_his_91 : decode cX12_his 91 = .ok (.lcmp, 1) := by decide +kernel
theorem dX12_his_92 : decode cX12_his 92 = .ok (.ifCond .ne 7, 3) := by decide +kernel
theorem dX12_his_95 : decode cX12_his 95 = .ok (.iconst 1, 1) := by decide +kernel
theorem dX12_his_96 : decode cX12_his 96 = .ok (.goto 4, 3) := by decide +kernel
theorem dX12_his_99 : decode cX12_his 99 = .ok (.iconst 0, 1) := by decide +kernel
theorem dX12_his_100 : decode cX12_his 100 = .ok (.istore 7, 2) := by decide +kernel
theorem dX12_his_102 : decode cX12_his 102 = .ok (.aload_n 0, 1) := by decide +kernel
theorem dX12_his_103 : decode cX12_his 103 = .ok (.iload 5, 2) := by decide +kernel
theorem dX12_his_105 : decode cX12_his 105 = .ok (.iload 6, 2) := by decide +kernel
theorem dX12_his_107 : decode cX12_his 107 = .ok (.iconst (-1), 1) := by decide +kernel
theorem dX12_his_108 : decode cX12_his 108 = .ok (.invokevirtual 284, 3) := by decide +kernel
theorem dX12_his_111 : decode cX12_his 111 = .ok (.iload 7, 2) := by decide +kernel
theorem dX12_his_113 : decode cX12_his 113 = .ok (.ifCond .eq 12, 3) := by decide +kernel
theorem dX12_his_116 : decode cX12_his 116 = .ok (.bipush 8, 2) := by decide +kernel
theorem dX12_his_118 : decode cX12_his 118 = .ok (.iload 5, 2) := by decide +kernel
theorem dX12_his_120 : decode cX12_his 120 = .ok (.imul, 1) := by decide +kernel
theorem dX12_his_121 : decode cX12_his 121 = .ok (.iload 6, 2) := by decide +kernel
theorem dX12_his_123 : decode cX12_his 123 = .ok (.iadd, 1) := by decide +kernel
theorem dX12_his_124 : decode cX12_his 124 = .ok (.ireturn, 1) := by decide +kernel
theorem dX12_his_125 : decode cX12_his 125 = .ok (.iinc 6 1, 3) := by decide +kernel
theorem dX12_his_128 : decode cX12_his 128 = .ok (.goto (-76), 3) := by decide +kernel
theorem dX12_his_131 : decode cX12_his 131 = .ok (.iinc 5 1, 3) := by decide +kernel
theorem dX12_his_134 : decode cX12_his 134 = .ok (.goto (-94), 3) := by decide +kernel
theorem dX12_his_137 : decode cX12_his 137 = .ok (.iconst (-1), 1) := by decide +kernel
theorem dX12_his_138 : decode cX12_his 138 = .ok (.ireturn, 1) := by decide +kernel
abbrev tX12_his (k : Nat) : MT := (RX12, cX12_his, 8, k, (some .int))
def lX12_his_1 : SX := (sLoop (cB rlt (iLoc 6) (iCallV 12 mX12_huts (aR (rLoc 0) aNil))) (sIf (cZ zne (iCallV 12 mX12_mayCarry (aR (rLoc 0) (aI (iLoc 5) (aI (iLoc 6) aNil))))) (sSeq (sCallV 12 mX12_carries (aR (rLoc 0) (aI (iLoc 5) (aI (iLoc 6) (aI (iK 1) aNil))))) (sSeq (sSetI 7 (iBool (cL leq (lALd (rGet 12 21 (rLoc 0)) (iCallV 12 mX12_numberNow (aR (rLoc 0) aNil))) (lLoc 3)))) (sSeq (sCallV 12 mX12_carries (aR (rLoc 0) (aI (iLoc 5) (aI (iLoc 6) (aI (iK (-1)) aNil))))) (sIf (cZ zne (iLoc 7)) (sRetI (iB gT2 (· + ·) (iB gT2 (· * ·) (iK 8) (iLoc 5)) (iLoc 6))) sSkip)))) sSkip) (sSeq (sForget 7) (sInc 6 1)))
def lX12_his_2 : SX := (sLoop (cB rlt (iLoc 5) (iCallV 12 mX12_huts (aR (rLoc 0) aNil))) (sSeq (sSetI 6 (iK 0)) lX12_his_1) (sSeq (sForget 6) (sInc 5 1)))
theorem olX12_his_1 (g : GT) {pcB pcC : Nat} : Sok g (tX12_his 6) 52 131 pcB pcC (lX12_his_1) := (Sok.loop (pc := 52) (pc1 := 61) (pc2 := 125) (pcN := 131) (Cok.cmp (pc1 := 54) (pc2 := 58) (pcT := 61) (pcF := 131) (EokI.iload (i := 6) dX12_his_52) (EokI.iCallV (pc1 := 55) (Aok.aR (pc1 := 55) (EokR.aload_n (q := 0) dX12_his_54) Aok.nil) (kX12_huts g) rfl ykX12_huts vkX12_215 (by decide) (by decide) dX12_his_55) (JI.ltF (tgt := 131) dX12_his_58 (by decide))) (by decide) (Sok.ite (pc1 := 72) (pc2 := 125) (Cok.zero (pc1 := 69) (pcT := 72) (pcF := 125) (EokI.iCallV (pc1 := 66) (Aok.aR (pc1 := 62) (EokR.aload_n (q := 0) dX12_his_61) (Aok.aI (pc1 := 64) (EokI.iload (i := 5) dX12_his_62) (Aok.aI (pc1 := 66) (EokI.iload (i := 6) dX12_his_64) Aok.nil))) (kX12_mayCarry g) rfl ykX12_mayCarry vkX12_277 (by decide) (by decide) dX12_his_66) (JZ.neF (tgt := 125) dX12_his_69 (by decide))) (by decide) (Sok.seq (pc1 := 81) (Sok.sCallV (pc1 := 78) (Aok.aR (pc1 := 73) (EokR.aload_n (q := 0) dX12_his_72) (Aok.aI (pc1 := 75) (EokI.iload (i := 5) dX12_his_73) (Aok.aI (pc1 := 77) (EokI.iload (i := 6) dX12_his_75) (Aok.aI (pc1 := 78) (EokI.iconst (v := 1) dX12_his_77 (by decide)) Aok.nil)))) (by decide) (kX12_carries g) rfl ykX12_carries vkX12_284 (by decide) (by decide) dX12_his_78) (Sok.seq (pc1 := 102) (Sok.setI (i := 7) (pc1 := 100) (EokI.cond' (pc1 := 95) (pc2 := 99) (Cok.lcmp (pc1 := 90) (pc2 := 91) (pcT := 95) (pcF := 99) (EokL.lALd (pc1 := 85) (pc2 := 89) (EokR.getf (pc1 := 82) (j := 21) (ci := 12) (T := TX12) (N := 27) (EokR.aload_n (q := 0) dX12_his_81) rfl wsX12_in (by decide) flX12_103 dX12_his_82) (EokI.iCallV (pc1 := 86) (Aok.aR (pc1 := 86) (EokR.aload_n (q := 0) dX12_his_85) Aok.nil) (kX12_numberNow g) rfl ykX12_numberNow vkX12_309 (by decide) (by decide) dX12_his_86) dX12_his_89) (EokL.lload_n (q := 3) dX12_his_90) (JL.eq dX12_his_91 (JZ.eqF (tgt := 99) dX12_his_92 (by decide)))) (EokI.goto (pc1 := 96) (pc2 := 100) (EokI.iconst (v := 1) dX12_his_95 (by decide)) dX12_his_96 (by decide)) (EokI.iconst (v := 0) dX12_his_99 (by decide))) (by decide) dX12_his_100 (show 7 < 8 by decide)) (Sok.seq (pc1 := 111) (Sok.sCallV (pc1 := 108) (Aok.aR (pc1 := 103) (EokR.aload_n (q := 0) dX12_his_102) (Aok.aI (pc1 := 105) (EokI.iload (i := 5) dX12_his_103) (Aok.aI (pc1 := 107) (EokI.iload (i := 6) dX12_his_105) (Aok.aI (pc1 := 108) (EokI.iconst (v := (-1)) dX12_his_107 (by decide)) Aok.nil)))) (by decide) (kX12_carries g) rfl ykX12_carries vkX12_284 (by decide) (by decide) dX12_his_108) (Sok.ite (pc1 := 116) (pc2 := 125) (Cok.zero (pc1 := 113) (pcT := 116) (pcF := 125) (EokI.iload (i := 7) dX12_his_111) (JZ.neF (tgt := 125) dX12_his_113 (by decide))) (by decide) (Sok.retI (pc1 := 124) (EokI.bin (pc1 := 121) (pc2 := 123) (EokI.bin (pc1 := 118) (pc2 := 120) (EokI.bipush (v := 8) dX12_his_116 (by decide)) (EokI.iload (i := 5) dX12_his_118) (OPI.imul dX12_his_120)) (EokI.iload (i := 6) dX12_his_121) (OPI.iadd dX12_his_123)) (by decide) dX12_his_124 rfl) (Sok.skip (pc := 125)))))) (Sok.skip (pc := 125))) (Sok.seq (pc1 := 125) Sok.forget (Sok.goto (pc1 := 128) (pcN := 52) (Sok.iinc (i := 6) (v := 1) dX12_his_125 (show 6 < 8 by decide) (by decide)) dX12_his_128 (by decide))))
theorem olX12_his_2 (g : GT) {pcB pcC : Nat} : Sok g (tX12_his 6) 40 137 pcB pcC (lX12_his_2) := (Sok.loop (pc := 40) (pc1 := 49) (pc2 := 131) (pcN := 137) (Cok.cmp (pc1 := 42) (pc2 := 46) (pcT := 49) (pcF := 137) (EokI.iload (i := 5) dX12_his_40) (EokI.iCallV (pc1 := 43) (Aok.aR (pc1 := 43) (EokR.aload_n (q := 0) dX12_his_42) Aok.nil) (kX12_huts g) rfl ykX12_huts vkX12_215 (by decide) (by decide) dX12_his_43) (JI.ltF (tgt := 137) dX12_his_46 (by decide))) (by decide) (Sok.seq (pc1 := 52) (Sok.setI (i := 6) (pc1 := 50) (EokI.iconst (v := 0) dX12_his_49 (by decide)) (by decide) dX12_his_50 (show 6 < 8 by decide)) (olX12_his_1 g )) (Sok.seq (pc1 := 131) Sok.forget (Sok.goto (pc1 := 134) (pcN := 40) (Sok.iinc (i := 5) (v := 1) dX12_his_131 (show 5 < 8 by decide) (by decide)) dX12_his_134 (by decide))))
def mX12_his : MX := bodyOf 8 (sSeq (sPutI 12 0 .int (rLoc 0) (iK 0)) (sSeq (sSetL 1 (lCallV 12 mX12_asked (aR (rLoc 0) (aI (iK 7) (aI (iK 0) aNil))))) (sSeq (sSetL 3 (lB gT2 (· + ·) (lB gT2 (· - ·) (lLoc 1) (lK 2)) (lCond (cL leq (lB gNZL jlrem (lLoc 1) (lK 2)) (lK 1)) (lK (-1)) (lK 1)))) (sSeq (sSeq (sSeq (sSetI 5 (iK 0)) lX12_his_2) (sForget 5)) (sRetI (iK (-1)))))))
theorem kX12_his (g : GT) : MK g 6 yX12_his cX12_his 8 (some .int) mX12_his := MK.of (pcN := 99999) (pcB := 0) (pcC := 0) rfl (Sok.seq (pc1 := 5) (Sok.putI (ci := 12) (T := TX12) (NN := 27) (tt := tyX12) (j := 0) (pc1 := 1) (pc2 := 2) (ty := .int) (EokR.aload_n (q := 0) dX12_his_0) (EokI.iconst (v := 0) dX12_his_1 (by decide)) (by decide) rfl wsX12_in tyX12_ok nmX12 (by decide) flX12_1 rfl rfl dX12_his_2) (Sok.seq (pc1 := 13) (Sok.setL_n (q := 1) (pc1 := 12) (EokL.lCallV (pc1 := 9) (Aok.aR (pc1 := 6) (EokR.aload_n (q := 0) dX12_his_5) (Aok.aI (pc1 := 8) (EokI.bipush (v := 7) dX12_his_6 (by decide)) (Aok.aI (pc1 := 9) (EokI.iconst (v := 0) dX12_his_8 (by decide)) Aok.nil))) (kX12_asked g) rfl ykX12_asked vkX12_334 (by decide) (by decide) dX12_his_9) (by decide) dX12_his_12 (show 2 < 8 by decide)) (Sok.seq (pc1 := 37) (Sok.setL_n (q := 3) (pc1 := 36) (EokL.bin (pc1 := 18) (pc2 := 35) (EokL.bin (pc1 := 14) (pc2 := 17) (EokL.lload_n (q := 1) dX12_his_13) (EokL.ldc2 (v := 2) ckX12_329 dX12_his_14) (OPL.lsub dX12_his_17)) (EokL.cond' (pc1 := 28) (pc2 := 34) (Cok.lcmp (pc1 := 23) (pc2 := 24) (pcT := 28) (pcF := 34) (EokL.bin (pc1 := 19) (pc2 := 22) (EokL.lload_n (q := 1) dX12_his_18) (EokL.ldc2 (v := 2) ckX12_329 dX12_his_19) (OPL.lrem dX12_his_22)) (EokL.lconst (v := 1) dX12_his_23 (by decide)) (JL.eq dX12_his_24 (JZ.eqF (tgt := 34) dX12_his_25 (by decide)))) (EokL.goto (pc1 := 31) (pc2 := 35) (EokL.ldc2 (v := (-1)) ckX12_367 dX12_his_28) dX12_his_31 (by decide)) (EokL.lconst (v := 1) dX12_his_34 (by decide))) (OPL.ladd dX12_his_35)) (by decide) dX12_his_36 (show 4 < 8 by decide)) (Sok.seq (pc1 := 137) (Sok.seq (pc1 := 137) (Sok.seq (pc1 := 40) (Sok.setI (i := 5) (pc1 := 38) (EokI.iconst (v := 0) dX12_his_37 (by decide)) (by decide) dX12_his_38 (show 5 < 8 by decide)) (olX12_his_2 g )) (Sok.forget (pc := 137))) (Sok.retI (pc1 := 138) (EokI.iconst (v := (-1)) dX12_his_137 (by decide)) (by decide) dX12_his_138 rfl)))))
/-! PassHutsModel.see(IIZ)Z -/
theorem dX12_see_0 : decode cX12_see 0 = .ok (.aload_n 0, 1) := by decide +kernel
theorem dX12_see_1 : decode cX12_see 1 = .ok (.iconst 0, 1) := by decide +kernel
theorem dX12_see_2 : decode cX12_see 2 = .ok (.putfield 1, 3) := by decide +kernel
theorem dX12_see_5 : decode cX12_see 5 = .ok (.aload_n 0, 1) := by decide +kernel
theorem dX12_see_6 : decode cX12_see 6 = .ok (.iload_n 1, 1) := by decide +kernel
theorem dX12_see_7 : decode cX12_see 7 = .ok (.invokevirtual 264, 3) := by decide +kernel
theorem dX12_see_10 : decode cX12_see 10 = .ok (.ifCond .eq 25, 3) := by decide +kernel
theorem dX12_see_13 : decode cX12_see 13 = .ok (.iload_n 2, 1) := by decide +kernel
theorem dX12_see_14 : decode cX12_see 14 = .ok (.iconst 1, 1) := by decide +kernel
theorem dX12_see_15 : decode cX12_see 15 = .ok (.bipush 12, 2) := by decide +kernel
theorem dX12_see_17 : decode cX12_see 17 = .ok (.invokestatic 267, 3) := by decide +kernel
theorem dX12_see_20 : decode cX12_see 20 = .ok (.ifCond .eq 15, 3) := by decide +kernel
theorem dX12_see_23 : decode cX12_see 23 = .ok (.aload_n 0, 1) := by decide +kernel
theorem dX12_see_24 : decode cX12_see 24 = .ok (.getfield 93, 3) := by decide +kernel
theorem dX12_see_27 : decode cX12_see 27 = .ok (.bipush 6, 2) := by decide +kernel
theorem dX12_see_29 : decode cX12_see 29 = .ok (.iaload, 1) := by decide +kernel
theorem dX12_see_30 : decode cX12_see 30 = .ok (.bipush 8, 2) := by decide +kernel
theorem dX12_see_32 : decode cX12_see 32 = .ok (.if_icmp .ne 5, 3) := by decide +kernel
theorem dX12_see_35 : decode cX12_see 35 = .ok (.iconst 0, 1) := by decide +kernel
theorem dX12_see_36 : decode cX12_see 36 = .ok (.ireturn, 1) := by decide +kernel
theorem dX12_see_37 : decode cX12_see 37 = .ok (.bipush 7, 2) := by decide +kernel
theorem dX12_see_39 : decode cX12_see 39 = .ok (.iconst 3, 1) := by decide +kernel
theorem dX12_see_40 : decode cX12_see 40 = .ok (.aload_n 0, 1) := by decide +kernel
theorem dX12_see_41 : decode cX12_see 41 = .ok (.getfield 93, 3) := by decide +kernel
theorem dX12_see_44 : decode cX12_see 44 = .ok (.bipush 6, 2) := by decide +kernel
theorem dX12_see_46 : decode cX12_see 46 = .ok (.iaload, 1) := by decide +kernel
theorem dX12_see_47 : decode cX12_see 47 = .ok (.imul, 1) := by decide +kernel
theorem dX12_see_48 : decode cX12_see 48 = .ok (.iadd, 1) := by decide +kernel
theorem dX12_see_49 : decode cX12_see 49 = .ok (.istore 4, 2) := by decide +kernel
theorem dX12_see_51 : decode cX12_see 51 = .ok (.aload_n 0, 1) := by decide +kernel
theorem dX12_see_52 : decode cX12_see 52 = .ok (.getfield 93, 3) := by decide +kernel
theorem dX12_see_55 : decode cX12_see 55 = .ok (.iload 4, 2) := by decide +kernel
theorem dX12_see_57 : decode cX12_see 57 = .ok (.iload_n 1, 1) := by decide +kernel
theorem dX12_see_58 : decode cX12_see 58 = .ok (.iastore, 1) := by decide +kernel
theorem dX12_see_59 : decode cX12_see 59 = .ok (.aload_n 0, 1) := by decide +kernel
theorem dX12_see_60 : decode cX12_see 60 = .ok (.getfield 93, 3) := by decide +kernel
theorem dX12_see_63 : decode cX12_see 63 = .ok (.iload 4, 2) := by decide +kernel
theorem dX12_see_65 : decode cX12_see 65 = .ok (.iconst 1, 1) := by decide +kernel
theorem dX12_see_66 : decode cX12_see 66 = .ok (.iadd, 1) := by decide +kernel
theorem dX12_see_67 : decode cX12_see 67 = .ok (.iload_n 2, 1) := by decide +kernel
theorem dX12_see_68 : decode cX12_see 68 = .ok (.iastore, 1) := by decide +kernel
theorem dX12_see_69 : decode cX12_see 69 = .ok (.aload_n 0, 1) := by decide +kernel
theorem dX12_see_70 : decode cX12_see 70 = .ok (.getfield 93, 3) := by decide +kernel
theorem dX12_see_73 : decode cX12_see 73 = .ok (.iload 4, 2) := by decide +kernel
theorem dX12_see_75 : decode cX12_see 75 = .ok (.iconst 2, 1) := by decide +kernel
theorem dX12_see_76 : decode cX12_see 76 = .ok (.iadd, 1) := by decide +kernel
theorem dX12_see_77 : decode cX12_see 77 = .ok (.iload_n 3, 1) := by decide +kernel
theorem dX12_see_78 : decode cX12_see 78 = .ok (.ifCond .eq 7, 3) := by decide +kernel
theorem dX12_see_81 : decode cX12_see 81 = .ok (.iconst 1, 1) := by decide +kernel
theorem dX12_see_82 : decode cX12_see 82 = .ok (.goto 4, 3) := by decide +kernel
theorem dX12_see_85 : decode cX12_see 85 = .ok (.iconst 0, 1) := by decide +kernel
theorem dX12_see_86 : decode cX12_see 86 = .ok (.iastore, 1) := by decide +kernel
theorem dX12_see_87 : decode cX12_see 87 = .ok (.aload_n 0, 1) := by decide +kernel
theorem dX12_see_88 : decode cX12_see 88 = .ok (.getfield 93, 3) := by decide +kernel
theorem dX12_see_91 : decode cX12_see 91 = .ok (.bipush 6, 2) := by decide +kernel
theorem dX12_see_93 : decode cX12_see 93 = .ok (.dup2, 1) := by decide +kernel
theorem dX12_see_94 : decode cX12_see 94 = .ok (.iaload, 1) := by decide +kernel
theorem dX12_see_95 : decode cX12_see 95 = .ok (.iconst 1, 1) := by decide +kernel
theorem dX12_see_96 : decode cX12_see 96 = .ok (.iadd, 1) := by decide +kernel
theorem dX12_see_97 : decode cX12_see 97 = .ok (.iastore, 1) := by decide +kernel
theorem dX12_see_98 : decode cX12_see 98 = .ok (.iconst 1, 1) := by decide +kernel
theorem dX12_see_99 : decode cX12_see 99 = .ok (.ireturn, 1) := by decide +kernel
abbrev tX12_see (k : Nat) : MT := (RX12, cX12_see, 5, k, (some .boolean))
def mX12_see : MX := bodyOf 5 (sSeq (sPutI 12 0 .int (rLoc 0) (iK 0)) (sSeq (sIf (cOr (cOr (cNot (cZ zne (iCallV 12 mX12_isHut (aR (rLoc 0) (aI (iLoc 1) aNil))))) (cNot (cZ zne (iCallS mX12_within (aI (iLoc 2) (aI (iK 1) (aI (iK 12) aNil))))))) (cB req (iALd (rGet 12 17 (rLoc 0)) (iK 6)) (iK 8))) (sRetZ (iK 0)) sSkip) (sSeq (sSetI 4 (iB gT2 (· + ·) (iK 7) (iB gT2 (· * ·) (iK 3) (iALd (rGet 12 17 (rLoc 0)) (iK 6))))) (sSeq (sASt 0 narI (rGet 12 17 (rLoc 0)) (iLoc 4) (iLoc 1)) (sSeq (sASt 0 narI (rGet 12 17 (rLoc 0)) (iB gT2 (· + ·) (iLoc 4) (iK 1)) (iLoc 2)) (sSeq (sASt 0 narI (rGet 12 17 (rLoc 0)) (iB gT2 (· + ·) (iLoc 4) (iK 2)) (iCond (cZ zne (iLoc 3)) (iK 1) (iK 0))) (sSeq (sAUpd gT2 (· + ·) (rGet 12 17 (rLoc 0)) (iK 6) (iK 1)) (sRetZ (iK 1)))))))))
theorem kX12_see (g : GT) : MK g 2 yX12_see cX12_see 5 (some .boolean) mX12_see := MK.of (pcN := 99999) (pcB := 0) (pcC := 0) rfl (Sok.seq (pc1 := 5) (Sok.putI (ci := 12) (T := TX12) (NN := 27) (tt := tyX12) (j := 0) (pc1 := 1) (pc2 := 2) (ty := .int) (EokR.aload_n (q := 0) dX12_see_0) (EokI.iconst (v := 0) dX12_see_1 (by decide)) (by decide) rfl wsX12_in tyX12_ok nmX12 (by decide) flX12_1 rfl rfl dX12_see_2) (Sok.seq (pc1 := 37) (Sok.ite (pc1 := 35) (pc2 := 37) (Cok.or (pc1 := 23) (Cok.or (pc1 := 13) (Cok.not (Cok.zero (pc1 := 10) (pcT := 13) (pcF := 35) (EokI.iCallV (pc1 := 7) (Aok.aR (pc1 := 6) (EokR.aload_n (q := 0) dX12_see_5) (Aok.aI (pc1 := 7) (EokI.iload_n (q := 1) dX12_see_6) Aok.nil)) (kX12_isHut g) rfl ykX12_isHut vkX12_264 (by decide) (by decide) dX12_see_7) (JZ.neF (tgt := 35) dX12_see_10 (by decide)))) (Cok.not (Cok.zero (pc1 := 20) (pcT := 23) (pcF := 35) (EokI.iCallS (pc1 := 17) (Aok.aI (pc1 := 14) (EokI.iload_n (q := 2) dX12_see_13) (Aok.aI (pc1 := 15) (EokI.iconst (v := 1) dX12_see_14 (by decide)) (Aok.aI (pc1 := 17) (EokI.bipush (v := 12) dX12_see_15 (by decide)) Aok.nil))) (kX12_within g) ykX12_within skX12_267 (by decide) (by decide) dX12_see_17) (JZ.neF (tgt := 35) dX12_see_20 (by decide))))) (Cok.cmp (pc1 := 30) (pc2 := 32) (pcT := 35) (pcF := 37) (EokI.iALd (pc1 := 27) (pc2 := 29) (EokR.getf (pc1 := 24) (j := 17) (ci := 12) (T := TX12) (N := 27) (EokR.aload_n (q := 0) dX12_see_23) rfl wsX12_in (by decide) flX12_93 dX12_see_24) (EokI.bipush (v := 6) dX12_see_27 (by decide)) dX12_see_29) (EokI.bipush (v := 8) dX12_see_30 (by decide)) (JI.eqF (tgt := 37) dX12_see_32 (by decide)))) (by decide) (Sok.retZ (pc1 := 36) (EokI.iconst (v := 0) dX12_see_35 (by decide)) (by decide) dX12_see_36 rfl) (Sok.skip (pc := 37))) (Sok.seq (pc1 := 51) (Sok.setI (i := 4) (pc1 := 49) (EokI.bin (pc1 := 39) (pc2 := 48) (EokI.bipush (v := 7) dX12_see_37 (by decide)) (EokI.bin (pc1 := 40) (pc2 := 47) (EokI.iconst (v := 3) dX12_see_39 (by decide)) (EokI.iALd (pc1 := 44) (pc2 := 46) (EokR.getf (pc1 := 41) (j := 17) (ci := 12) (T := TX12) (N := 27) (EokR.aload_n (q := 0) dX12_see_40) rfl wsX12_in (by decide) flX12_93 dX12_see_41) (EokI.bipush (v := 6) dX12_see_44 (by decide)) dX12_see_46) (OPI.imul dX12_see_47)) (OPI.iadd dX12_see_48)) (by decide) dX12_see_49 (show 4 < 5 by decide)) (Sok.seq (pc1 := 59) (Sok.iASt (pc1 := 55) (pc2 := 57) (pc3 := 58) (EokR.getf (pc1 := 52) (j := 17) (ci := 12) (T := TX12) (N := 27) (EokR.aload_n (q := 0) dX12_see_51) rfl wsX12_in (by decide) flX12_93 dX12_see_52) (EokI.iload (i := 4) dX12_see_55) (EokI.iload_n (q := 1) dX12_see_57) (by decide) dX12_see_58) (Sok.seq (pc1 := 69) (Sok.iASt (pc1 := 63) (pc2 := 67) (pc3 := 68) (EokR.getf (pc1 := 60) (j := 17) (ci := 12) (T := TX12) (N := 27) (EokR.aload_n (q := 0) dX12_see_59) rfl wsX12_in (by decide) flX12_93 dX12_see_60) (EokI.bin (pc1 := 65) (pc2 := 66) (EokI.iload (i := 4) dX12_see_63) (EokI.iconst (v := 1) dX12_see_65 (by decide)) (OPI.iadd dX12_see_66)) (EokI.iload_n (q := 2) dX12_see_67) (by decide) dX12_see_68) (Sok.seq (pc1 := 87) (Sok.iASt (pc1 := 73) (pc2 := 77) (pc3 := 86) (EokR.getf (pc1 := 70) (j := 17) (ci := 12) (T := TX12) (N := 27) (EokR.aload_n (q := 0) dX12_see_69) rfl wsX12_in (by decide) flX12_93 dX12_see_70) (EokI.bin (pc1 := 75) (pc2 := 76) (EokI.iload (i := 4) dX12_see_73) (EokI.iconst (v := 2) dX12_see_75 (by decide)) (OPI.iadd dX12_see_76)) (EokI.cond' (pc1 := 81) (pc2 := 85) (Cok.zero (pc1 := 78) (pcT := 81) (pcF := 85) (EokI.iload_n (q := 3) dX12_see_77) (JZ.neF (tgt := 85) dX12_see_78 (by decide))) (EokI.goto (pc1 := 82) (pc2 := 86) (EokI.iconst (v := 1) dX12_see_81 (by decide)) dX12_see_82 (by decide)) (EokI.iconst (v := 0) dX12_see_85 (by decide))) (by decide) dX12_see_86) (Sok.seq (pc1 := 98) (Sok.aupd (pc1 := 91) (pc2 := 93) (pc3 := 96) (EokR.getf (pc1 := 88) (j := 17) (ci := 12) (T := TX12) (N := 27) (EokR.aload_n (q := 0) dX12_see_87) rfl wsX12_in (by decide) flX12_93 dX12_see_88) (EokI.bipush (v := 6) dX12_see_91 (by decide)) dX12_see_93 dX12_see_94 (EokI.iconst (v := 1) dX12_see_95 (by decide)) (OPI.iadd dX12_see_96) (by decide) dX12_see_97) (Sok.retZ (pc1 := 99) (EokI.iconst (v := 1) dX12_see_98 (by decide)) (by decide) dX12_see_99 rfl))))))))
/-! PassHutsModel.isAsSeen()Z -/
theorem dX12_isAsSeen_0 : decode cX12_isAsSeen 0 = .ok (.iconst 1, 1) := by decide +kernel
theorem dX12_isAsSeen_1 : decode cX12_isAsSeen 1 = .ok (.istore_n 1, 1) := by decide +kernel
theorem dX12_isAsSeen_2 : decode cX12_isAsSeen 2 = .ok (.iconst 0, 1) := by decide +kernel
theorem dX12_isAsSeen_3 : decode cX12_isAsSeen 3 = .ok (.istore_n 2, 1) := by decide +kernel
theorem dX12_isAsSeen_4 : decode cX12_isAsSeen 4 = .ok (.iload_n 2, 1) := by decide +kernel
theorem dX12_isAsSeen_5 : decode cX12_isAsSeen 5 = .ok (.aload_n 0, 1) := by decide +kernel
theorem dX12_isAsSeen_6 : decode cX12_isAsSeen 6 = .ok (.getfield 93, 3) := by decide +kernel
theorem dX12_isAsSeen_9 : decode cX12_isAsSeen 9 = .ok (.bipush 6, 2) := by decide +kernel
theorem dX12_isAsSeen_11 : decode cX12_isAsSeen 11 = .ok (.iaload, 1) := by decide +kernel
theorem dX12_isAsSeen_12 : decode cX12_isAsSeen 12 = .ok (.if_icmp .ge 73, 3) := by decide +kernel
theorem dX12_isAsSeen_15 : decode cX12_isAsSeen 15 = .ok (.bipush 7, 2) := by decide +kernel
theorem dX12_isAsSeen_17 : decode cX12_isAsSeen 17 = .ok (.iconst 3, 1) := by decide +kernel
theorem dX12_isAsSeen_18 : decode cX12_isAsSeen 18 = .ok (.iload_n 2, 1) := by decide +kernel
theorem dX12_isAsSeen_19 : decode cX12_isAsSeen 19 = .ok (.imul, 1) := by decide +kernel
theorem dX12_isAsSeen_20 : decode cX12_isAsSeen 20 = .ok (.iadd, 1) := by decide +kernel
theorem dX12_isAsSeen_21 : decode cX12_isAsSeen 21 = .ok (.istore_n 3, 1) := by decide +kernel
theorem dX12_isAsSeen_22 : decode cX12_isAsSeen 22 = .ok (.iload_n 1, 1) := by decide +kernel
theorem dX12_isAsSeen_23 : decode cX12_isAsSeen 23 = .ok (.ifCond .eq 54, 3) := by decide +kernel
theorem dX12_isAsSeen_26 : decode cX12_isAsSeen 26 = .ok (.aload_n 0, 1) := by decide +kernel
theorem dX12_isAsSeen_27 : decode cX12_isAsSeen 27 = .ok (.getfield 100, 3) := by decide +kernel
theorem dX12_isAsSeen_30 : decode cX12_isAsSeen 30 = .ok (.aload_n 0, 1) := by decide +kernel
theorem dX12_isAsSeen_31 : decode cX12_isAsSeen 31 = .ok (.getfield 93, 3) := by decide +kernel
theorem dX12_isAsSeen_34 : decode cX12_isAsSeen 34 = .ok (.iload_n 3, 1) := by decide +kernel
theorem dX12_isAsSeen_35 : decode cX12_isAsSeen 35 = .ok (.iaload, 1) := by decide +kernel
theorem dX12_isAsSeen_36 : decode cX12_isAsSeen 36 = .ok (.iaload, 1) := by decide +kernel
theorem dX12_isAsSeen_37 : decode cX12_isAsSeen 37 = .ok (.aload_n 0, 1) := by decide +kernel
theorem dX12_isAsSeen_38 : decode cX12_isAsSeen 38 = .ok (.getfield 93, 3) := by decide +kernel
theorem dX12_isAsSeen_41 : decode cX12_isAsSeen 41 = .ok (.iload_n 3, 1) := by decide +kernel
theorem dX12_isAsSeen_42 : decode cX12_isAsSeen 42 = .ok (.iconst 1, 1) := by decide +kernel
theorem dX12_isAsSeen_43 : decode cX12_isAsSeen 43 = .ok (.iadd, 1) := by decide +kernel
theorem dX12_isAsSeen_44 : decode cX12_isAsSeen 44 = .ok (.iaload, 1) := by decide +kernel
theorem dX12_isAsSeen_45 : decode cX12_isAsSeen 45 = .ok (.if_icmp .lt 7, 3) := by decide +kernel
theorem dX12_isAsSeen_48 : decode cX12_isAsSeen 48 = .ok (.iconst 1, 1) := by decide +kernel
theorem dX12_isAsSeen_49 : decode cX12_isAsSeen 49 = .ok (.goto 4, 3) := by decide +kernel
theorem dX12_isAsSeen_52 : decode cX12_isAsSeen 52 = .ok (.iconst 0, 1) := by decide +kernel
theorem dX12_isAsSeen_53 : decode cX12_isAsSeen 53 = .ok (.aload_n 0, 1) := by decide +kernel
theorem dX12_isAsSeen_54 : decode cX12_isAsSeen 54 = .ok (.getfield 93, 3) := by decide +kernel
theorem dX12_isAsSeen_57 : decode cX12_isAsSeen 57 = .ok (.iload_n 3, 1) := by decide +kernel
theorem dX12_isAsSeen_58 : decode cX12_isAsSeen 58 = .ok (.iconst 2, 1) := by decide +kernel
theorem dX12_isAsSeen_59 : decode cX12_isAsSeen 59 = .ok (.iadd, 1) := by decide +kernel
theorem dX12_isAsSeen_60 : decode cX12_isAsSeen 60 = .ok (.iaload, 1) := by decide +kernel
theorem dX12_isAsSeen_61 : decode cX12_isAsSeen 61 = .ok (.iconst 1, 1) := by decide +kernel
theorem dX12_isAsSeen_62 : decode cX12_isAsSeen 62 = .ok (.if_icmp .ne 7, 3) := by decide +kernel
theorem dX12_isAsSeen_65 : decode cX12_isAsSeen 65 = .ok (.iconst 1, 1) := by decide +kernel
theorem dX12_isAsSeen_66 : decode cX12_isAsSeen 66 = .ok (.goto 4, 3) := by decide +kernel
theorem dX12_isAsSeen_69 : decode cX12_isAsSeen 69 = .ok (.iconst 0, 1) := by decide +kernel
theorem dX12_isAsSeen_70 : decode cX12_isAsSeen 70 = .ok (.if_icmp .ne 7, 3) := by decide +kernel
theorem dX12_isAsSeen_73 : decode cX12_isAsSeen 73 = .ok (.iconst 1, 1) := by decide +kernel
theorem dX12_isAsSeen_74 : decode cX12_isAsSeen 74 = .ok (.goto 4, 3) := by decide +kernel
theorem dX12_isAsSeen_77 : decode cX12_isAsSeen 77 = .ok (.iconst 0, 1) := by decide +kernel
theorem dX12_isAsSeen_78 : decode cX12_isAsSeen 78 = .ok (.istore_n 1, 1) := by decide +kernel
theorem dX12_isAsSeen_79 : decode cX12_isAsSeen 79 = .ok (.iinc 2 1, 3) := by decide +kernel
theorem dX12_isAsSeen_82 : decode cX12_isAsSeen 82 = .ok (.goto (-78), 3) := by decide +kernel
theorem dX12_isAsSeen_85 : decode cX12_isAsSeen 85 = .ok (.iload_n 1, 1) := by decide +kernel
theorem dX12_isAsSeen_86 : decode cX12_isAsSeen 86 = .ok (.ireturn, 1) := by decide +kernel
abbrev tX12_isAsSeen (k : Nat) : MT := (RX12, cX12_isAsSeen, 4, k, (some .boolean))
def lX12_isAsSeen_1 : SX := (sLoop (cB rlt (iLoc 2) (iALd (rGet 12 17 (rLoc 0)) (iK 6))) (sSeq (sSetI 3 (iB gT2 (· + ·) (iK 7) (iB gT2 (· * ·) (iK 3) (iLoc 2)))) (sSetI 1 (iBool (cAnd (cZ zne (iLoc 1)) (cB req (iBool (cB rge (iALd (rGet 12 20 (rLoc 0)) (iALd (rGet 12 17 (rLoc 0)) (iLoc 3))) (iALd (rGet 12 17 (rLoc 0)) (iB gT2 (· + ·) (iLoc 3) (iK 1))))) (iBool (cB req (iALd (rGet 12 17 (rLoc 0)) (iB gT2 (· + ·) (iLoc 3) (iK 2))) (iK 1)))))))) (sSeq (sForget 3) (sInc 2 1)))
theorem olX12_isAsSeen_1 (g : GT) {pcB pcC : Nat} : Sok g (tX12_isAsSeen 0) 4 85 pcB pcC (lX12_isAsSeen_1) := (Sok.loop (pc := 4) (pc1 := 15) (pc2 := 79) (pcN := 85) (Cok.cmp (pc1 := 5) (pc2 := 12) (pcT := 15) (pcF := 85) (EokI.iload_n (q := 2) dX12_isAsSeen_4) (EokI.iALd (pc1 := 9) (pc2 := 11) (EokR.getf (pc1 := 6) (j := 17) (ci := 12) (T := TX12) (N := 27) (EokR.aload_n (q := 0) dX12_isAsSeen_5) rfl wsX12_in (by decide) flX12_93 dX12_isAsSeen_6) (EokI.bipush (v := 6) dX12_isAsSeen_9 (by decide)) dX12_isAsSeen_11) (JI.ltF (tgt := 85) dX12_isAsSeen_12 (by decide))) (by decide) (Sok.seq (pc1 := 22) (Sok.setI_n (q := 3) (pc1 := 21) (EokI.bin (pc1 := 17) (pc2 := 20) (EokI.bipush (v := 7) dX12_isAsSeen_15 (by decide)) (EokI.bin (pc1 := 18) (pc2 := 19) (EokI.iconst (v := 3) dX12_isAsSeen_17 (by decide)) (EokI.iload_n (q := 2) dX12_isAsSeen_18) (OPI.imul dX12_isAsSeen_19)) (OPI.iadd dX12_isAsSeen_20)) (by decide) dX12_isAsSeen_21 (show 3 < 4 by decide)) (Sok.setI_n (q := 1) (pc1 := 78) (EokI.cond' (pc1 := 73) (pc2 := 77) (Cok.and (pc1 := 26) (Cok.zero (pc1 := 23) (pcT := 26) (pcF := 77) (EokI.iload_n (q := 1) dX12_isAsSeen_22) (JZ.neF (tgt := 77) dX12_isAsSeen_23 (by decide))) (Cok.cmp (pc1 := 53) (pc2 := 70) (pcT := 73) (pcF := 77) (EokI.cond' (pc1 := 48) (pc2 := 52) (Cok.cmp (pc1 := 37) (pc2 := 45) (pcT := 48) (pcF := 52) (EokI.iALd (pc1 := 30) (pc2 := 36) (EokR.getf (pc1 := 27) (j := 20) (ci := 12) (T := TX12) (N := 27) (EokR.aload_n (q := 0) dX12_isAsSeen_26) rfl wsX12_in (by decide) flX12_100 dX12_isAsSeen_27) (EokI.iALd (pc1 := 34) (pc2 := 35) (EokR.getf (pc1 := 31) (j := 17) (ci := 12) (T := TX12) (N := 27) (EokR.aload_n (q := 0) dX12_isAsSeen_30) rfl wsX12_in (by decide) flX12_93 dX12_isAsSeen_31) (EokI.iload_n (q := 3) dX12_isAsSeen_34) dX12_isAsSeen_35) dX12_isAsSeen_36) (EokI.iALd (pc1 := 41) (pc2 := 44) (EokR.getf (pc1 := 38) (j := 17) (ci := 12) (T := TX12) (N := 27) (EokR.aload_n (q := 0) dX12_isAsSeen_37) rfl wsX12_in (by decide) flX12_93 dX12_isAsSeen_38) (EokI.bin (pc1 := 42) (pc2 := 43) (EokI.iload_n (q := 3) dX12_isAsSeen_41) (EokI.iconst (v := 1) dX12_isAsSeen_42 (by decide)) (OPI.iadd dX12_isAsSeen_43)) dX12_isAsSeen_44) (JI.geF (tgt := 52) dX12_isAsSeen_45 (by decide))) (EokI.goto (pc1 := 49) (pc2 := 53) (EokI.iconst (v := 1) dX12_isAsSeen_48 (by decide)) dX12_isAsSeen_49 (by decide)) (EokI.iconst (v := 0) dX12_isAsSeen_52 (by decide))) (EokI.cond' (pc1 := 65) (pc2 := 69) (Cok.cmp (pc1 := 61) (pc2 := 62) (pcT := 65) (pcF := 69) (EokI.iALd (pc1 := 57) (pc2 := 60) (EokR.getf (pc1 := 54) (j := 17) (ci := 12) (T := TX12) (N := 27) (EokR.aload_n (q := 0) dX12_isAsSeen_53) rfl wsX12_in (by decide) flX12_93 dX12_isAsSeen_54) (EokI.bin (pc1 := 58) (pc2 := 59) (EokI.iload_n (q := 3) dX12_isAsSeen_57) (EokI.iconst (v := 2) dX12_isAsSeen_58 (by decide)) (OPI.iadd dX12_isAsSeen_59)) dX12_isAsSeen_60) (EokI.iconst (v := 1) dX12_isAsSeen_61 (by decide)) (JI.eqF (tgt := 69) dX12_isAsSeen_62 (by decide))) (EokI.goto (pc1 := 66) (pc2 := 70) (EokI.iconst (v := 1) dX12_isAsSeen_65 (by decide)) dX12_isAsSeen_66 (by decide)) (EokI.iconst (v := 0) dX12_isAsSeen_69 (by decide))) (JI.eqF (tgt := 77) dX12_isAsSeen_70 (by decide)))) (EokI.goto (pc1 := 74) (pc2 := 78) (EokI.iconst (v := 1) dX12_isAsSeen_73 (by decide)) dX12_isAsSeen_74 (by decide)) (EokI.iconst (v := 0) dX12_isAsSeen_77 (by decide))) (by decide) dX12_isAsSeen_78 (show 1 < 4 by decide))) (Sok.seq (pc1 := 79) Sok.forget (Sok.goto (pc1 := 82) (pcN := 4) (Sok.iinc (i := 2) (v := 1) dX12_isAsSeen_79 (show 2 < 4 by decide) (by decide)) dX12_isAsSeen_82 (by decide))))
def mX12_isAsSeen : MX := bodyOf 4 (sSeq (sSetI 1 (iK 1)) (sSeq (sSeq (sSeq (sSetI 2 (iK 0)) lX12_isAsSeen_1) (sForget 2)) (sRetZ (iLoc 1))))
theorem kX12_isAsSeen (g : GT) : MK g 0 yX12_isAsSeen cX12_isAsSeen 4 (some .boolean) mX12_isAsSeen := MK.of (pcN := 99999) (pcB := 0) (pcC := 0) rfl (Sok.seq (pc1 := 2) (Sok.setI_n (q := 1) (pc1 := 1) (EokI.iconst (v := 1) dX12_isAsSeen_0 (by decide)) (by decide) dX12_isAsSeen_1 (show 1 < 4 by decide)) (Sok.seq (pc1 := 85) (Sok.seq (pc1 := 85) (Sok.seq (pc1 := 4) (Sok.setI_n (q := 2) (pc1 := 3) (EokI.iconst (v := 0) dX12_isAsSeen_2 (by decide)) (by decide) dX12_isAsSeen_3 (show 2 < 4 by decide)) (olX12_isAsSeen_1 g )) (Sok.forget (pc := 85))) (Sok.retZ (pc1 := 86) (EokI.iload_n (q := 1) dX12_isAsSeen_85) (by decide) dX12_isAsSeen_86 rfl)))
/-! PassHutsModel.talliesNow()I -/
theorem dX12_talliesNow_0 : decode cX12_talliesNow 0 = .ok (.iconst 0, 1) := by decide +kernel
theorem dX12_talliesNow_1 : decode cX12_talliesNow 1 = .ok (.istore_n 1, 1) := by decide +kernel
theorem dX12_talliesNow_2 : decode cX12_talliesNow 2 = .ok (.iload_n 1, 1) := by decide +kernel
theorem dX12_talliesNow_3 : decode cX12_talliesNow 3 = .ok (.bipush 65, 2) := by decide +kernel
theorem dX12_talliesNow_5 : decode cX12_talliesNow 5 = .ok (.if_icmp .ge 16, 3) := by decide +kernel
theorem dX12_talliesNow_8 : decode cX12_talliesNow 8 = .ok (.aload_n 0, 1) := by decide +kernel
theorem dX12_talliesNow_9 : decode cX12_talliesNow 9 = .ok (.getfield 112, 3) := by decide +kernel
theorem dX12_talliesNow_12 : decode cX12_talliesNow 12 = .ok (.iload_n 1, 1) := by decide +kernel
theorem dX12_talliesNow_13 : decode cX12_talliesNow 13 = .ok (.iconst 0, 1) := by decide +kernel
theorem dX12_talliesNow_14 : decode cX12_talliesNow 14 = .ok (.iastore, 1) := by decide +kernel
theorem dX12_talliesNow_15 : decode cX12_talliesNow 15 = .ok (.iinc 1 1, 3) := by decide +kernel
theorem dX12_talliesNow_18 : decode cX12_talliesNow 18 = .ok (.goto (-16), 3) := by decide +kernel
theorem dX12_talliesNow_21 : decode cX12_talliesNow 21 = .ok (.aload_n 0, 1) := by decide +kernel
theorem dX12_talliesNow_22 : decode cX12_talliesNow 22 = .ok (.invokevirtual 271, 3) := by decide +kernel
theorem dX12_talliesNow_25 : decode cX12_talliesNow 25 = .ok (.aload_n 0, 1) := by decide +kernel
theorem dX12_talliesNow_26 : decode cX12_talliesNow 26 = .ok (.invokevirtual 258, 3) := by decide +kernel
theorem dX12_talliesNow_29 : decode cX12_talliesNow 29 = .ok (.istore_n 1, 1) := by decide +kernel
theorem dX12_talliesNow_30 : decode cX12_talliesNow 30 = .ok (.iconst 0, 1) := by decide +kernel
theorem dX12_talliesNow_31 : decode cX12_talliesNow 31 = .ok (.istore_n 2, 1) := by decide +kernel
theorem dX12_talliesNow_32 : decode cX12_talliesNow 32 = .ok (.iconst 0, 1) := by decide +kernel
theorem dX12_talliesNow_33 : decode cX12_talliesNow 33 = .ok (.istore_n 3, 1) := by decide +kernel
theorem dX12_talliesNow_34 : decode cX12_talliesNow 34 = .ok (.iload_n 3, 1) := by decide +kernel
theorem dX12_talliesNow_35 : decode cX12_talliesNow 35 = .ok (.aload_n 0, 1) := by decide +kernel
theorem dX12_talliesNow_36 : decode cX12_talliesNow 36 = .ok (.invokevirtual 296, 3) := by decide +kernel
theorem dX12_talliesNow_39 : decode cX12_talliesNow 39 = .ok (.if_icmp .ge 95, 3) := by decide +kernel
theorem dX12_talliesNow_42 : decode cX12_talliesNow 42 = .ok (.aload_n 0, 1) := by decide +kernel
theorem dX12_talliesNow_43 : decode cX12_talliesNow 43 = .ok (.iload_n 3, 1) := by decide +kernel
theorem dX12_talliesNow_44 : decode cX12_talliesNow 44 = .ok (.invokevirtual 299, 3) := by decide +kernel
theorem dX12_talliesNow_47 : decode cX12_talliesNow 47 = .ok (.aload_n 0, 1) := by decide +kernel
theorem dX12_talliesNow_48 : decode cX12_talliesNow 48 = .ok (.invokevirtual 258, 3) := by decide +kernel
theorem dX12_talliesNow_51 : decode cX12_talliesNow 51 = .ok (.iload_n 1, 1) := by decide +kernel
theorem dX12_talliesNow_52 : decode cX12_talliesNow 52 = .ok (.if_icmp .ne 76, 3) := by decide +kernel
theorem dX12_talliesNow_55 : decode cX12_talliesNow 55 = .ok (.aload_n 0, 1) := by decide +kernel
theorem dX12_talliesNow_56 : decode cX12_talliesNow 56 = .ok (.invokevirtual 349, 3) := by decide +kernel
theorem dX12_talliesNow_59 : decode cX12_talliesNow 59 = .ok (.ifCond .eq 69, 3) := by decide +kernel
theorem dX12_talliesNow_62 : decode cX12_talliesNow 62 = .ok (.aload_n 0, 1) := by decide +kernel
theorem dX12_talliesNow_63 : decode cX12_talliesNow 63 = .ok (.invokevirtual 369, 3) := by decide +kernel
theorem dX12_talliesNow_66 : decode cX12_talliesNow 66 = .ok (.ifCond .eq 62, 3) := by decide +kernel
theorem dX12_talliesNow_69 : decode cX12_talliesNow 69 = .ok (.iinc 2 1, 3) := by decide +kernel
theorem dX12_talliesNow_72 : decode cX12_talliesNow 72 = .ok (.iconst 0, 1) := by decide +kernel
theorem dX12_talliesNow_73 : decode cX12_talliesNow 73 = .ok (.istore 4, 2) := by decide +kernel
theorem dX12_talliesNow_75 : decode cX12_talliesNow 75 = .ok (.iload 4, 2) := by decide +kernel
theorem dX12_talliesNow_77 : decode cX12_talliesNow 77 = .ok (.aload_n 0, 1) := by decide +kernel
theorem dX12_talliesNow_78 : decode cX12_talliesNow 78 = .ok (.invokevirtual 215, 3) := by decide +kernel
theorem dX12_talliesNow_81 : decode cX12_talliesNow 81 = .ok (.if_icmp .ge 47, 3) := by decide +kernel
theorem dX12_talliesNow_84 : decode cX12_talliesNow 84 = .ok (.iconst 1, 1) := by decide +kernel
theorem dX12_talliesNow_85 : decode cX12_talliesNow 85 = .ok (.istore 5, 2) := by decide +kernel
theorem dX12_talliesNow_87 : decode cX12_talliesNow 87 = .ok (.iload 5, 2) := by decide +kernel
theorem dX12_talliesNow_89 : decode cX12_talliesNow 89 = .ok (.aload_n 0, 1) := by decide +kernel
theorem dX12_talliesNow_90 : decode cX12_talliesNow 90 = .ok (.getfield 100, 3) := by decide +kernel
theorem dX12_talliesNow_93 : decode cX12_talliesNow 93 = .ok (.iload 4, 2) := by decide +kernel
theorem dX12_talliesNow_95 : decode cX12_talliesNow 95 = .ok (.iaload, 1) := by decide +kernel
theorem dX12_talliesNow_96 : decode cX12_talliesNow 96 = .ok (.if_icmp .gt 26, 3) := by decide +kernel
theorem dX12_talliesNow_99 : decode cX12_talliesNow 99 = .ok (.aload_n 0, 1) := by decide +kernel
theorem dX12_talliesNow_100 : decode cX12_talliesNow 100 = .ok (.getfield 112, 3) := by decide +kernel
theorem dX12_talliesNow_103 : decode cX12_talliesNow 103 = .ok (.bipush 13, 2) := by decide +kernel
theorem dX12_talliesNow_105 : decode cX12_talliesNow 105 = .ok (.iload 4, 2) := by decide +kernel
theorem dX12_talliesNow_107 : decode cX12_talliesNow 107 = .ok (.imul, 1) := by decide +kernel
theorem dX12_talliesNow_108 : decode cX12_talliesNow 108 = .ok (.iload 5, 2) := by decide +kernel
theorem dX12_talliesNow_110 : decode cX12_talliesNow 110 = .ok (.iadd, 1) := by decide +kernel
theorem dX12_talliesNow_111 : decode cX12_talliesNow 111 = .ok (.dup2, 1) := by decide +kernel
theorem dX12_talliesNow_112 : decode cX12_talliesNow 112 = .ok (.iaload, 1) := by decide +kernel
theorem dX12_talliesNow_113 : decode cX12_talliesNow 113 = .ok (.iconst 1, 1) := by decide +kernel
theorem dX12_talliesNow_114 : decode cX12_talliesNow 114 = .ok (.iadd, 1) := by decide +kernel
theorem dX12_talliesNow_115 : decode cX12_talliesNow 115 = .ok (.iastore, 1) := by decide +kernel
theorem dX12_talliesNow_116 : decode cX12_talliesNow 116 = .ok (.iinc 5 1, 3) := by decide +kernel
theorem dX12_talliesNow_119 : decode cX12_talliesNow 119 = .ok (.goto (-32), 3) := by decide +kernel
theorem dX12_talliesNow_122 : decode cX12_talliesNow 122 = .ok (.iinc 4 1, 3) := by decide +kernel
theorem dX12_talliesNow_125 : decode cX12_talliesNow 125 = .ok (.goto (-50), 3) := by decide +kernel
theorem dX12_talliesNow_128 : decode cX12_talliesNow 128 = .ok (.iinc 3 1, 3) := by decide +kernel
theorem dX12_talliesNow_131 : decode cX12_talliesNow 131 = .ok (.goto (-97), 3) := by decide +kernel
theorem dX12_talliesNow_134 : decode cX12_talliesNow 134 = .ok (.iload_n 2, 1) := by decide +kernel
theorem dX12_talliesNow_135 : decode cX12_talliesNow 135 = .ok (.ireturn, 1) := by decide +kernel
abbrev tX12_talliesNow (k : Nat) : MT := (RX12, cX12_talliesNow, 6, k, (some .int))
def lX12_talliesNow_1 : SX := (sLoop (cB rlt (iLoc 1) (iK 65)) (sASt 0 narI (rGet 12 25 (rLoc 0)) (iLoc 1) (iK 0)) (sInc 1 1))
def lX12_talliesNow_2 : SX := (sLoop (cB rle (iLoc 5) (iALd (rGet 12 20 (rLoc 0)) (iLoc 4))) (sAUpd gT2 (· + ·) (rGet 12 25 (rLoc 0)) (iB gT2 (· + ·) (iB gT2 (· * ·) (iK 13) (iLoc 4)) (iLoc 5)) (iK 1)) (sInc 5 1))
def lX12_talliesNow_3 : SX := (sLoop (cB rlt (iLoc 4) (iCallV 12 mX12_huts (aR (rLoc 0) aNil))) (sSeq (sSetI 5 (iK 1)) lX12_talliesNow_2) (sSeq (sForget 5) (sInc 4 1)))
def lX12_talliesNow_4 : SX := (sLoop (cB rlt (iLoc 3) (iCallV 12 mX12_allWays (aR (rLoc 0) aNil))) (sSeq (sCallV 12 mX12_lays (aR (rLoc 0) (aI (iLoc 3) aNil))) (sIf (cAnd (cAnd (cB req (iCallV 12 mX12_allLoads (aR (rLoc 0) aNil)) (iLoc 1)) (cZ zne (iCallV 12 mX12_isWay (aR (rLoc 0) aNil)))) (cZ zne (iCallV 12 mX12_isAsSeen (aR (rLoc 0) aNil)))) (sSeq (sInc 2 1) (sSeq (sSetI 4 (iK 0)) lX12_talliesNow_3)) sSkip)) (sSeq (sForget 4) (sInc 3 1)))
theorem olX12_talliesNow_2 (g : GT) {pcB pcC : Nat} : Sok g (tX12_talliesNow 2) 87 122 pcB pcC (lX12_talliesNow_2) := (Sok.loop (pc := 87) (pc1 := 99) (pc2 := 116) (pcN := 122) (Cok.cmp (pc1 := 89) (pc2 := 96) (pcT := 99) (pcF := 122) (EokI.iload (i := 5) dX12_talliesNow_87) (EokI.iALd (pc1 := 93) (pc2 := 95) (EokR.getf (pc1 := 90) (j := 20) (ci := 12) (T := TX12) (N := 27) (EokR.aload_n (q := 0) dX12_talliesNow_89) rfl wsX12_in (by decide) flX12_100 dX12_talliesNow_90) (EokI.iload (i := 4) dX12_talliesNow_93) dX12_talliesNow_95) (JI.leF (tgt := 122) dX12_talliesNow_96 (by decide))) (by decide) (Sok.aupd (pc1 := 103) (pc2 := 111) (pc3 := 114) (EokR.getf (pc1 := 100) (j := 25) (ci := 12) (T := TX12) (N := 27) (EokR.aload_n (q := 0) dX12_talliesNow_99) rfl wsX12_in (by decide) flX12_112 dX12_talliesNow_100) (EokI.bin (pc1 := 108) (pc2 := 110) (EokI.bin (pc1 := 105) (pc2 := 107) (EokI.bipush (v := 13) dX12_talliesNow_103 (by decide)) (EokI.iload (i := 4) dX12_talliesNow_105) (OPI.imul dX12_talliesNow_107)) (EokI.iload (i := 5) dX12_talliesNow_108) (OPI.iadd dX12_talliesNow_110)) dX12_talliesNow_111 dX12_talliesNow_112 (EokI.iconst (v := 1) dX12_talliesNow_113 (by decide)) (OPI.iadd dX12_talliesNow_114) (by decide) dX12_talliesNow_115) (Sok.goto (pc1 := 119) (pcN := 87) (Sok.iinc (i := 5) (v := 1) dX12_talliesNow_116 (show 5 < 6 by decide) (by decide)) dX12_talliesNow_119 (by decide)))
theorem olX12_talliesNow_3 (g : GT) {pcB pcC : Nat} : Sok g (tX12_talliesNow 2) 75 128 pcB pcC (lX12_talliesNow_3) := (Sok.loop (pc := 75) (pc1 := 84) (pc2 := 122) (pcN := 128) (Cok.cmp (pc1 := 77) (pc2 := 81) (pcT := 84) (pcF := 128) (EokI.iload (i := 4) dX12_talliesNow_75) (EokI.iCallV (pc1 := 78) (Aok.aR (pc1 := 78) (EokR.aload_n (q := 0) dX12_talliesNow_77) Aok.nil) (kX12_huts g) rfl ykX12_huts vkX12_215 (by decide) (by decide) dX12_talliesNow_78) (JI.ltF (tgt := 128) dX12_talliesNow_81 (by decide))) (by decide) (Sok.seq (pc1 := 87) (Sok.setI (i := 5) (pc1 := 85) (EokI.iconst (v := 1) dX12_talliesNow_84 (by decide)) (by decide) dX12_talliesNow_85 (show 5 < 6 by decide)) (olX12_talliesNow_2 g )) (Sok.seq (pc1 := 122) Sok.forget (Sok.goto (pc1 := 125) (pcN := 75) (Sok.iinc (i := 4) (v := 1) dX12_talliesNow_122 (show 4 < 6 by decide) (by decide)) dX12_talliesNow_125 (by decide))))
theorem olX12_talliesNow_4 (g : GT) {pcB pcC : Nat} : Sok g (tX12_talliesNow 2) 34 134 pcB pcC (lX12_talliesNow_4) := (Sok.loop (pc := 34) (pc1 := 42) (pc2 := 128) (pcN := 134) (Cok.cmp (pc1 := 35) (pc2 := 39) (pcT := 42) (pcF := 134) (EokI.iload_n (q := 3) dX12_talliesNow_34) (EokI.iCallV (pc1 := 36) (Aok.aR (pc1 := 36) (EokR.aload_n (q := 0) dX12_talliesNow_35) Aok.nil) (kX12_allWays g) rfl ykX12_allWays vkX12_296 (by decide) (by decide) dX12_talliesNow_36) (JI.ltF (tgt := 134) dX12_talliesNow_39 (by decide))) (by decide) (Sok.seq (pc1 := 47) (Sok.sCallV (pc1 := 44) (Aok.aR (pc1 := 43) (EokR.aload_n (q := 0) dX12_talliesNow_42) (Aok.aI (pc1 := 44) (EokI.iload_n (q := 3) dX12_talliesNow_43) Aok.nil)) (by decide) (kX12_lays g) rfl ykX12_lays vkX12_299 (by decide) (by decide) dX12_talliesNow_44) (Sok.ite (pc1 := 69) (pc2 := 128) (Cok.and (pc1 := 62) (Cok.and (pc1 := 55) (Cok.cmp (pc1 := 51) (pc2 := 52) (pcT := 55) (pcF := 128) (EokI.iCallV (pc1 := 48) (Aok.aR (pc1 := 48) (EokR.aload_n (q := 0) dX12_talliesNow_47) Aok.nil) (kX12_allLoads g) rfl ykX12_allLoads vkX12_258 (by decide) (by decide) dX12_talliesNow_48) (EokI.iload_n (q := 1) dX12_talliesNow_51) (JI.eqF (tgt := 128) dX12_talliesNow_52 (by decide))) (Cok.zero (pc1 := 59) (pcT := 62) (pcF := 128) (EokI.iCallV (pc1 := 56) (Aok.aR (pc1 := 56) (EokR.aload_n (q := 0) dX12_talliesNow_55) Aok.nil) (kX12_isWay g) rfl ykX12_isWay vkX12_349 (by decide) (by decide) dX12_talliesNow_56) (JZ.neF (tgt := 128) dX12_talliesNow_59 (by decide)))) (Cok.zero (pc1 := 66) (pcT := 69) (pcF := 128) (EokI.iCallV (pc1 := 63) (Aok.aR (pc1 := 63) (EokR.aload_n (q := 0) dX12_talliesNow_62) Aok.nil) (kX12_isAsSeen g) rfl ykX12_isAsSeen vkX12_369 (by decide) (by decide) dX12_talliesNow_63) (JZ.neF (tgt := 128) dX12_talliesNow_66 (by decide)))) (by decide) (Sok.seq (pc1 := 72) (Sok.iinc (i := 2) (v := 1) dX12_talliesNow_69 (show 2 < 6 by decide) (by decide)) (Sok.seq (pc1 := 75) (Sok.setI (i := 4) (pc1 := 73) (EokI.iconst (v := 0) dX12_talliesNow_72 (by decide)) (by decide) dX12_talliesNow_73 (show 4 < 6 by decide)) (olX12_talliesNow_3 g ))) (Sok.skip (pc := 128)))) (Sok.seq (pc1 := 128) Sok.forget (Sok.goto (pc1 := 131) (pcN := 34) (Sok.iinc (i := 3) (v := 1) dX12_talliesNow_128 (show 3 < 6 by decide) (by decide)) dX12_talliesNow_131 (by decide))))
theorem olX12_talliesNow_1 (g : GT) {pcB pcC : Nat} : Sok g (tX12_talliesNow 2) 2 21 pcB pcC (lX12_talliesNow_1) := (Sok.loop (pc := 2) (pc1 := 8) (pc2 := 15) (pcN := 21) (Cok.cmp (pc1 := 3) (pc2 := 5) (pcT := 8) (pcF := 21) (EokI.iload_n (q := 1) dX12_talliesNow_2) (EokI.bipush (v := 65) dX12_talliesNow_3 (by decide)) (JI.ltF (tgt := 21) dX12_talliesNow_5 (by decide))) (by decide) (Sok.iASt (pc1 := 12) (pc2 := 13) (pc3 := 14) (EokR.getf (pc1 := 9) (j := 25) (ci := 12) (T := TX12) (N := 27) (EokR.aload_n (q := 0) dX12_talliesNow_8) rfl wsX12_in (by decide) flX12_112 dX12_talliesNow_9) (EokI.iload_n (q := 1) dX12_talliesNow_12) (EokI.iconst (v := 0) dX12_talliesNow_13 (by decide)) (by decide) dX12_talliesNow_14) (Sok.goto (pc1 := 18) (pcN := 2) (Sok.iinc (i := 1) (v := 1) dX12_talliesNow_15 (show 1 < 6 by decide) (by decide)) dX12_talliesNow_18 (by decide)))
def mX12_talliesNow : MX := bodyOf 6 (sSeq (sSeq (sSeq (sSetI 1 (iK 0)) lX12_talliesNow_1) (sForget 1)) (sSeq (sCallV 12 mX12_laysNow (aR (rLoc 0) aNil)) (sSeq (sSetI 1 (iCallV 12 mX12_allLoads (aR (rLoc 0) aNil))) (sSeq (sSetI 2 (iK 0)) (sSeq (sSeq (sSeq (sSetI 3 (iK 0)) lX12_talliesNow_4) (sForget 3)) (sRetI (iLoc 2)))))))
theorem kX12_talliesNow (g : GT) : MK g 2 yX12_talliesNow cX12_talliesNow 6 (some .int) mX12_talliesNow := MK.of (pcN := 99999) (pcB := 0) (pcC := 0) rfl (Sok.seq (pc1 := 21) (Sok.seq (pc1 := 21) (Sok.seq (pc1 := 2) (Sok.setI_n (q := 1) (pc1 := 1) (EokI.iconst (v := 0) dX12_talliesNow_0 (by decide)) (by decide) dX12_talliesNow_1 (show 1 < 6 by decide)) (olX12_talliesNow_1 g )) (Sok.forget (pc := 21))) (Sok.seq (pc1 := 25) (Sok.sCallV (pc1 := 22) (Aok.aR (pc1 := 22) (EokR.aload_n (q := 0) dX12_talliesNow_21) Aok.nil) (by decide) (kX12_laysNow g) rfl ykX12_laysNow vkX12_271 (by decide) (by decide) dX12_talliesNow_22) (Sok.seq (pc1 := 30) (Sok.setI_n (q := 1) (pc1 := 29) (EokI.iCallV (pc1 := 26) (Aok.aR (pc1 := 26) (EokR.aload_n (q := 0) dX12_talliesNow_25) Aok.nil) (kX12_allLoads g) rfl ykX12_allLoads vkX12_258 (by decide) (by decide) dX12_talliesNow_26) (by decide) dX12_talliesNow_29 (show 1 < 6 by decide)) (Sok.seq (pc1 := 32) (Sok.setI_n (q := 2) (pc1 := 31) (EokI.iconst (v := 0) dX12_talliesNow_30 (by decide)) (by decide) dX12_talliesNow_31 (show 2 < 6 by decide)) (Sok.seq (pc1 := 134) (Sok.seq (pc1 := 134) (Sok.seq (pc1 := 34) (Sok.setI_n (q := 3) (pc1 := 33) (EokI.iconst (v := 0) dX12_talliesNow_32 (by decide)) (by decide) dX12_talliesNow_33 (show 3 < 6 by decide)) (olX12_talliesNow_4 g )) (Sok.forget (pc := 134))) (Sok.retI (pc1 := 135) (EokI.iload_n (q := 2) dX12_talliesNow_134) (by decide) dX12_talliesNow_135 rfl))))))
/-! PassHutsModel.fit()I -/
theorem dX12_fit_0 : decode cX12_fit 0 = .ok (.aload_n 0, 1) := by decide +kernel
theorem dX12_fit_1 : decode cX12_fit 1 = .ok (.iconst 0, 1) := by decide +kernel
theorem dX12_fit_2 : decode cX12_fit 2 = .ok (.putfield 1, 3) := by decide +kernel
theorem dX12_fit_5 : decode cX12_fit 5 = .ok (.aload_n 0, 1) := by decide +kernel
theorem dX12_fit_6 : decode cX12_fit 6 = .ok (.invokevirtual 372, 3) := by decide +kernel
theorem dX12_fit_9 : decode cX12_fit 9 = .ok (.ireturn, 1) := by decide +kernel
abbrev tX12_fit (k : Nat) : MT := (RX12, cX12_fit, 1, k, (some .int))
def mX12_fit : MX := bodyOf 1 (sSeq (sPutI 12 0 .int (rLoc 0) (iK 0)) (sRetI (iCallV 12 mX12_talliesNow (aR (rLoc 0) aNil))))
theorem kX12_fit (g : GT) : MK g 3 yX12_fit cX12_fit 1 (some .int) mX12_fit := MK.of (pcN := 99999) (pcB := 0) (pcC := 0) rfl (Sok.seq (pc1 := 5) (Sok.putI (ci := 12) (T := TX12) (NN := 27) (tt := tyX12) (j := 0) (pc1 := 1) (pc2 := 2) (ty := .int) (EokR.aload_n (q := 0) dX12_fit_0) (EokI.iconst (v := 0) dX12_fit_1 (by decide)) (by decide) rfl wsX12_in tyX12_ok nmX12 (by decide) flX12_1 rfl rfl dX12_fit_2) (Sok.retI (pc1 := 9) (EokI.iCallV (pc1 := 6) (Aok.aR (pc1 := 6) (EokR.aload_n (q := 0) dX12_fit_5) Aok.nil) (kX12_talliesNow g) rfl ykX12_talliesNow vkX12_372 (by decide) (by decide) dX12_fit_6) (by decide) dX12_fit_9 rfl))
/-! PassHutsModel.look()I -/
theorem dX12_look_0 : decode cX12_look 0 = .ok (.aload_n 0, 1) := by decide +kernel
theorem dX12_look_1 : decode cX12_look 1 = .ok (.iconst 0, 1) := by decide +kernel
theorem dX12_look_2 : decode cX12_look 2 = .ok (.putfield 1, 3) := by decide +kernel
theorem dX12_look_5 : decode cX12_look 5 = .ok (.aload_n 0, 1) := by decide +kernel
theorem dX12_look_6 : decode cX12_look 6 = .ok (.invokevirtual 372, 3) := by decide +kernel
theorem dX12_look_9 : decode cX12_look 9 = .ok (.istore_n 1, 1) := by decide +kernel
theorem dX12_look_10 : decode cX12_look 10 = .ok (.iload_n 1, 1) := by decide +kernel
theorem dX12_look_11 : decode cX12_look 11 = .ok (.istore_n 2, 1) := by decide +kernel
theorem dX12_look_12 : decode cX12_look 12 = .ok (.iconst (-1), 1) := by decide +kernel
theorem dX12_look_13 : decode cX12_look 13 = .ok (.istore_n 3, 1) := by decide +kernel
theorem dX12_look_14 : decode cX12_look 14 = .ok (.iconst 0, 1) := by decide +kernel
theorem dX12_look_15 : decode cX12_look 15 = .ok (.istore 4, 2) := by decide +kernel
theorem dX12_look_17 : decode cX12_look 17 = .ok (.iload 4, 2) := by decide +kernel
theorem dX12_look_19 : decode cX12_look 19 = .ok (.aload_n 0, 1) := by decide +kernel
theorem dX12_look_20 : decode cX12_look 20 = .ok (.invokevirtual 215, 3) := by decide +kernel
theorem dX12_look_23 : decode cX12_look 23 = .ok (.if_icmp .ge 92, 3) := by decide +kernel
theorem dX12_look_26 : decode cX12_look 26 = .ok (.iconst 1, 1) := by decide +kernel
theorem dX12_look_27 : decode cX12_look 27 = .ok (.istore 5, 2) := by decide +kernel
theorem dX12_look_29 : decode cX12_look 29 = .ok (.iload 5, 2) := by decide +kernel
theorem dX12_look_31 : decode cX12_look 31 = .ok (.bipush 12, 2) := by decide +kernel
theorem dX12_look_33 : decode cX12_look 33 = .ok (.if_icmp .gt 76, 3) := by decide +kernel
theorem dX12_look_36 : decode cX12_look 36 = .ok (.aload_n 0, 1) := by decide +kernel
theorem dX12_look_37 : decode cX12_look 37 = .ok (.getfield 112, 3) := by decide +kernel
theorem dX12_look_40 : decode cX12_look 40 = .ok (.bipush 13, 2) := by decide +kernel
theorem dX12_look_42 : decode cX12_look 42 = .ok (.iload 4, 2) := by decide +kernel
theorem dX12_look_44 : decode cX12_look 44 = .ok (.imul, 1) := by decide +kernel
theorem dX12_look_45 : decode cX12_look 45 = .ok (.iload 5, 2) := by decide +kernel
theorem dX12_look_47 : decode cX12_look 47 = .ok (.iadd, 1) := by decide +kernel
theorem dX12_look_48 : decode cX12_look 48 = .ok (.iaload, 1) := by decide +kernel
theorem dX12_look_49 : decode cX12_look 49 = .ok (.istore 6, 2) := by decide +kernel
theorem dX12_look_51 : decode cX12_look 51 = .ok (.iload 6, 2) := by decide +kernel
theorem dX12_look_53 : decode cX12_look 53 = .ok (.iload_n 1, 1) := by decide +kernel
theorem dX12_look_54 : decode cX12_look 54 = .ok (.iload 6, 2) := by decide +kernel
theorem dX12_look_56 : decode cX12_look 56 = .ok (.isub, 1) := by decide +kernel
theorem dX12_look_57 : decode cX12_look 57 = .ok (.if_icmp .le 8, 3) := by decide +kernel
theorem dX12_look_60 : decode cX12_look 60 = .ok (.iload 6, 2) := by decide +kernel
theorem dX12_look_62 : decode cX12_look 62 = .ok (.goto 7, 3) := by decide +kernel
theorem dX12_look_65 : decode cX12_look 65 = .ok (.iload_n 1, 1) := by decide +kernel
theorem dX12_look_66 : decode cX12_look 66 = .ok (.iload 6, 2) := by decide +kernel
theorem dX12_look_68 : decode cX12_look 68 = .ok (.isub, 1) := by decide +kernel
theorem dX12_look_69 : decode cX12_look 69 = .ok (.istore 7, 2) := by decide +kernel
theorem dX12_look_71 : decode cX12_look 71 = .ok (.iload 7, 2) := by decide +kernel
theorem dX12_look_73 : decode cX12_look 73 = .ok (.iload_n 2, 1) := by decide +kernel
theorem dX12_look_74 : decode cX12_look 74 = .ok (.if_icmp .ge 14, 3) := by decide +kernel
theorem dX12_look_77 : decode cX12_look 77 = .ok (.bipush 16, 2) := by decide +kernel
theorem dX12_look_79 : decode cX12_look 79 = .ok (.iload 4, 2) := by decide +kernel
theorem dX12_look_81 : decode cX12_look 81 = .ok (.imul, 1) := by decide +kernel
theorem dX12_look_82 : decode cX12_look 82 = .ok (.iload 5, 2) := by decide +kernel
theorem dX12_look_84 : decode cX12_look 84 = .ok (.iadd, 1) := by decide +kernel
theorem dX12_look_85 : decode cX12_look 85 = .ok (.goto 4, 3) := by decide +kernel
theorem dX12_look_88 : decode cX12_look 88 = .ok (.iload_n 3, 1) := by decide +kernel
theorem dX12_look_89 : decode cX12_look 89 = .ok (.istore_n 3, 1) := by decide +kernel
theorem dX12_look_90 : decode cX12_look 90 = .ok (.iload 7, 2) := by decide +kernel
theorem dX12_look_92 : decode cX12_look 92 = .ok (.iload_n 2, 1) := by decide +kernel
theorem dX12_look_93 : decode cX12_look 93 = .ok (.if_icmp .ge 8, 3) := by decide +kernel
theorem dX12_look_96 : decode cX12_look 96 = .ok (.iload 7, 2) := by decide +kernel
theorem dX12_look_98 : decode cX12_look 98 = .ok (.goto 4, 3) := by decide +kernel
theorem dX12_look_101 : decode cX12_look 101 = .ok (.iload_n 2, 1) := by decide +kernel
theorem dX12_look_102 : decode cX12_look 102 = .ok (.istore_n 2, 1) := by decide +kernel
theorem dX12_look_103 : decode cX12_look 103 = .ok (.iinc 5 1, 3) := by decide +kernel
theorem dX12_look_106 : decode cX12_look 106 = .ok (.goto (-77), 3) := by decide +kernel
theorem dX12_look_109 : decode cX12_look 109 = .ok (.iinc 4 1, 3) := by decide +kernel
theorem dX12_look_112 : decode cX12_look 112 = .ok (.goto (-95), 3) := by decide +kernel
theorem dX12_look_115 : decode cX12_look 115 = .ok (.iload_n 3, 1) := by decide +kernel
theorem dX12_look_116 : decode cX12_look 116 = .ok (.ireturn, 1) := by decide +kernel
abbrev tX12_look (k : Nat) : MT := (RX12, cX12_look, 8, k, (some .int))
def lX12_look_1 : SX := (sLoop (cB rle (iLoc 5) (iK 12)) (sSeq (sSetI 6 (iALd (rGet 12 25 (rLoc 0)) (iB gT2 (· + ·) (iB gT2 (· * ·) (iK 13) (iLoc 4)) (iLoc 5)))) (sSeq (sSetI 7 (iCond (cB rgt (iLoc 6) (iB gT2 (· - ·) (iLoc 1) (iLoc 6))) (iLoc 6) (iB gT2 (· - ·) (iLoc 1) (iLoc 6)))) (sSeq (sSetI 3 (iCond (cB rlt (iLoc 7) (iLoc 2)) (iB gT2 (· + ·) (iB gT2 (· * ·) (iK 16) (iLoc 4)) (iLoc 5)) (iLoc 3))) (sSetI 2 (iCond (cB rlt (iLoc 7) (iLoc 2)) (iLoc 7) (iLoc 2)))))) (sSeq (sForget 6) (sInc 5 1)))
def lX12_look_2 : SX := (sLoop (cB rlt (iLoc 4) (iCallV 12 mX12_huts (aR (rLoc 0) aNil))) (sSeq (sSetI 5 (iK 1)) lX12_look_1) (sSeq (sForget 5) (sInc 4 1)))
theorem olX12_look_1 (g : GT) {pcB pcC : Nat} : Sok g (tX12_look 3) 29 109 pcB pcC (lX12_look_1) := (Sok.loop (pc := 29) (pc1 := 36) (pc2 := 103) (pcN := 109) (Cok.cmp (pc1 := 31) (pc2 := 33) (pcT := 36) (pcF := 109) (EokI.iload (i := 5) dX12_look_29) (EokI.bipush (v := 12) dX12_look_31 (by decide)) (JI.leF (tgt := 109) dX12_look_33 (by decide))) (by decide) (Sok.seq (pc1 := 51) (Sok.setI (i := 6) (pc1 := 49) (EokI.iALd (pc1 := 40) (pc2 := 48) (EokR.getf (pc1 := 37) (j := 25) (ci := 12) (T := TX12) (N := 27) (EokR.aload_n (q := 0) dX12_look_36) rfl wsX12_in (by decide) flX12_112 dX12_look_37) (EokI.bin (pc1 := 45) (pc2 := 47) (EokI.bin (pc1 := 42) (pc2 := 44) (EokI.bipush (v := 13) dX12_look_40 (by decide)) (EokI.iload (i := 4) dX12_look_42) (OPI.imul dX12_look_44)) (EokI.iload (i := 5) dX12_look_45) (OPI.iadd dX12_look_47)) dX12_look_48) (by decide) dX12_look_49 (show 6 < 8 by decide)) (Sok.seq (pc1 := 71) (Sok.setI (i := 7) (pc1 := 69) (EokI.cond' (pc1 := 60) (pc2 := 65) (Cok.cmp (pc1 := 53) (pc2 := 57) (pcT := 60) (pcF := 65) (EokI.iload (i := 6) dX12_look_51) (EokI.bin (pc1 := 54) (pc2 := 56) (EokI.iload_n (q := 1) dX12_look_53) (EokI.iload (i := 6) dX12_look_54) (OPI.isub dX12_look_56)) (JI.gtF (tgt := 65) dX12_look_57 (by decide))) (EokI.goto (pc1 := 62) (pc2 := 69) (EokI.iload (i := 6) dX12_look_60) dX12_look_62 (by decide)) (EokI.bin (pc1 := 66) (pc2 := 68) (EokI.iload_n (q := 1) dX12_look_65) (EokI.iload (i := 6) dX12_look_66) (OPI.isub dX12_look_68))) (by decide) dX12_look_69 (show 7 < 8 by decide)) (Sok.seq (pc1 := 90) (Sok.setI_n (q := 3) (pc1 := 89) (EokI.cond' (pc1 := 77) (pc2 := 88) (Cok.cmp (pc1 := 73) (pc2 := 74) (pcT := 77) (pcF := 88) (EokI.iload (i := 7) dX12_look_71) (EokI.iload_n (q := 2) dX12_look_73) (JI.ltF (tgt := 88) dX12_look_74 (by decide))) (EokI.goto (pc1 := 85) (pc2 := 89) (EokI.bin (pc1 := 82) (pc2 := 84) (EokI.bin (pc1 := 79) (pc2 := 81) (EokI.bipush (v := 16) dX12_look_77 (by decide)) (EokI.iload (i := 4) dX12_look_79) (OPI.imul dX12_look_81)) (EokI.iload (i := 5) dX12_look_82) (OPI.iadd dX12_look_84)) dX12_look_85 (by decide)) (EokI.iload_n (q := 3) dX12_look_88)) (by decide) dX12_look_89 (show 3 < 8 by decide)) (Sok.setI_n (q := 2) (pc1 := 102) (EokI.cond' (pc1 := 96) (pc2 := 101) (Cok.cmp (pc1 := 92) (pc2 := 93) (pcT := 96) (pcF := 101) (EokI.iload (i := 7) dX12_look_90) (EokI.iload_n (q := 2) dX12_look_92) (JI.ltF (tgt := 101) dX12_look_93 (by decide))) (EokI.goto (pc1 := 98) (pc2 := 102) (EokI.iload (i := 7) dX12_look_96) dX12_look_98 (by decide)) (EokI.iload_n (q := 2) dX12_look_101)) (by decide) dX12_look_102 (show 2 < 8 by decide))))) (Sok.seq (pc1 := 103) Sok.forget (Sok.goto (pc1 := 106) (pcN := 29) (Sok.iinc (i := 5) (v := 1) dX12_look_103 (show 5 < 8 by decide) (by decide)) dX12_look_106 (by decide))))
theorem olX12_look_2 (g : GT) {pcB pcC : Nat} : Sok g (tX12_look 3) 17 115 pcB pcC (lX12_look_2) := (Sok.loop (pc := 17) (pc1 := 26) (pc2 := 109) (pcN := 115) (Cok.cmp (pc1 := 19) (pc2 := 23) (pcT := 26) (pcF := 115) (EokI.iload (i := 4) dX12_look_17) (EokI.iCallV (pc1 := 20) (Aok.aR (pc1 := 20) (EokR.aload_n (q := 0) dX12_look_19) Aok.nil) (kX12_huts g) rfl ykX12_huts vkX12_215 (by decide) (by decide) dX12_look_20) (JI.ltF (tgt := 115) dX12_look_23 (by decide))) (by decide) (Sok.seq (pc1 := 29) (Sok.setI (i := 5) (pc1 := 27) (EokI.iconst (v := 1) dX12_look_26 (by decide)) (by decide) dX12_look_27 (show 5 < 8 by decide)) (olX12_look_1 g )) (Sok.seq (pc1 := 109) Sok.forget (Sok.goto (pc1 := 112) (pcN := 17) (Sok.iinc (i := 4) (v := 1) dX12_look_109 (show 4 < 8 by decide) (by decide)) dX12_look_112 (by decide))))
def mX12_look : MX := bodyOf 8 (sSeq (sPutI 12 0 .int (rLoc 0) (iK 0)) (sSeq (sSetI 1 (iCallV 12 mX12_talliesNow (aR (rLoc 0) aNil))) (sSeq (sSetI 2 (iLoc 1)) (sSeq (sSetI 3 (iK (-1))) (sSeq (sSeq (sSeq (sSetI 4 (iK 0)) lX12_look_2) (sForget 4)) (sRetI (iLoc 3)))))))
theorem kX12_look (g : GT) : MK g 3 yX12_look cX12_look 8 (some .int) mX12_look := MK.of (pcN := 99999) (pcB := 0) (pcC := 0) rfl (Sok.seq (pc1 := 5) (Sok.putI (ci := 12) (T := TX12) (NN := 27) (tt := tyX12) (j := 0) (pc1 := 1) (pc2 := 2) (ty := .int) (EokR.aload_n (q := 0) dX12_look_0) (EokI.iconst (v := 0) dX12_look_1 (by decide)) (by decide) rfl wsX12_in tyX12_ok nmX12 (by decide) flX12_1 rfl rfl dX12_look_2) (Sok.seq (pc1 := 10) (Sok.setI_n (q := 1) (pc1 := 9) (EokI.iCallV (pc1 := 6) (Aok.aR (pc1 := 6) (EokR.aload_n (q := 0) dX12_look_5) Aok.nil) (kX12_talliesNow g) rfl ykX12_talliesNow vkX12_372 (by decide) (by decide) dX12_look_6) (by decide) dX12_look_9 (show 1 < 8 by decide)) (Sok.seq (pc1 := 12) (Sok.setI_n (q := 2) (pc1 := 11) (EokI.iload_n (q := 1) dX12_look_10) (by decide) dX12_look_11 (show 2 < 8 by decide)) (Sok.seq (pc1 := 14) (Sok.setI_n (q := 3) (pc1 := 13) (EokI.iconst (v := (-1)) dX12_look_12 (by decide)) (by decide) dX12_look_13 (show 3 < 8 by decide)) (Sok.seq (pc1 := 115) (Sok.seq (pc1 := 115) (Sok.seq (pc1 := 17) (Sok.setI (i := 4) (pc1 := 15) (EokI.iconst (v := 0) dX12_look_14 (by decide)) (by decide) dX12_look_15 (show 4 < 8 by decide)) (olX12_look_2 g )) (Sok.forget (pc := 115))) (Sok.retI (pc1 := 116) (EokI.iload_n (q := 3) dX12_look_115) (by decide) dX12_look_116 rfl))))))
/-! PassHutsModel.comesOdd(II)J -/
theorem dX12_comesOdd_0 : decode cX12_comesOdd 0 = .ok (.iload_n 2, 1) := by decide +kernel
theorem dX12_comesOdd_1 : decode cX12_comesOdd 1 = .ok (.ifCond .ne 18, 3) := by decide +kernel
theorem dX12_comesOdd_4 : decode cX12_comesOdd 4 = .ok (.aload_n 0, 1) := by decide +kernel
theorem dX12_comesOdd_5 : decode cX12_comesOdd 5 = .ok (.getfield 100, 3) := by decide +kernel
theorem dX12_comesOdd_8 : decode cX12_comesOdd 8 = .ok (.iload_n 1, 1) := by decide +kernel
theorem dX12_comesOdd_9 : decode cX12_comesOdd 9 = .ok (.iaload, 1) := by decide +kernel
theorem dX12_comesOdd_10 : decode cX12_comesOdd 10 = .ok (.ifCond .le 7, 3) := by decide +kernel
theorem dX12_comesOdd_13 : decode cX12_comesOdd 13 = .ok (.lconst 1, 1) := by decide +kernel
theorem dX12_comesOdd_14 : decode cX12_comesOdd 14 = .ok (.goto 4, 3) := by decide +kernel
theorem dX12_comesOdd_17 : decode cX12_comesOdd 17 = .ok (.lconst 0, 1) := by decide +kernel
theorem dX12_comesOdd_18 : decode cX12_comesOdd 18 = .ok (.lreturn, 1) := by decide +kernel
theorem dX12_comesOdd_19 : decode cX12_comesOdd 19 = .ok (.lconst 0, 1) := by decide +kernel
theorem dX12_comesOdd_20 : decode cX12_comesOdd 20 = .ok (.lstore_n 3, 1) := by decide +kernel
theorem dX12_comesOdd_21 : decode cX12_comesOdd 21 = .ok (.iconst 0, 1) := by decide +kernel
theorem dX12_comesOdd_22 : decode cX12_comesOdd 22 = .ok (.istore 5, 2) := by decide +kernel
theorem dX12_comesOdd_24 : decode cX12_comesOdd 24 = .ok (.iload 5, 2) := by decide +kernel
theorem dX12_comesOdd_26 : decode cX12_comesOdd 26 = .ok (.aload_n 0, 1) := by decide +kernel
theorem dX12_comesOdd_27 : decode cX12_comesOdd 27 = .ok (.invokevirtual 215, 3) := by decide +kernel
theorem dX12_comesOdd_30 : decode cX12_comesOdd 30 = .ok (.if_icmp .ge 95, 3) := by decide +kernel
theorem dX12_comesOdd_33 : decode cX12_comesOdd 33 = .ok (.iconst 0, 1) := by decide +kernel
theorem dX12_comesOdd_34 : decode cX12_comesOdd 34 = .ok (.istore 6, 2) := by decide +kernel
theorem dX12_comesOdd_36 : decode cX12_comesOdd 36 = .ok (.iload 6, 2) := by decide +kernel
theorem dX12_comesOdd_38 : decode cX12_comesOdd 38 = .ok (.aload_n 0, 1) := by decide +kernel
theorem dX12_comesOdd_39 : decode cX12_comesOdd 39 = .ok (.invokevirtual 215, 3) := by decide +kernel
theorem dX12_comesOdd_42 : decode cX12_comesOdd 42 = .ok (.if_icmp .ge 77, 3) := by decide +kernel
theorem dX12_comesOdd_45 : decode cX12_comesOdd 45 = .ok (.aload_n 0, 1) := by decide +kernel
theorem dX12_comesOdd_46 : decode cX12_comesOdd 46 = .ok (.iload 5, 2) := by decide +kernel
theorem dX12_comesOdd_48 : decode cX12_comesOdd 48 = .ok (.iload 6, 2) := by decide +kernel
theorem dX12_comesOdd_50 : decode cX12_comesOdd 50 = .ok (.invokevirtual 252, 3) := by decide +kernel
theorem dX12_comesOdd_53 : decode cX12_comesOdd 53 = .ok (.ifCond .le 60, 3) := by decide +kernel
theorem dX12_comesOdd_56 : decode cX12_comesOdd 56 = .ok (.aload_n 0, 1) := by decide +kernel
theorem dX12_comesOdd_57 : decode cX12_comesOdd 57 = .ok (.iload 5, 2) := by decide +kernel
theorem dX12_comesOdd_59 : decode cX12_comesOdd 59 = .ok (.iload 6, 2) := by decide +kernel
theorem dX12_comesOdd_61 : decode cX12_comesOdd 61 = .ok (.invokevirtual 277, 3) := by decide +kernel
theorem dX12_comesOdd_64 : decode cX12_comesOdd 64 = .ok (.istore 7, 2) := by decide +kernel
theorem dX12_comesOdd_66 : decode cX12_comesOdd 66 = .ok (.aload_n 0, 1) := by decide +kernel
theorem dX12_comesOdd_67 : decode cX12_comesOdd 67 = .ok (.iload 5, 2) := by decide +kernel
theorem dX12_comesOdd_69 : decode cX12_comesOdd 69 = .ok (.iload 6, 2) := by decide +kernel
theorem dX12_comesOdd_71 : decode cX12_comesOdd 71 = .ok (.iload 7, 2) := by decide +kernel
theorem dX12_comesOdd_73 : decode cX12_comesOdd 73 = .ok (.ifCond .eq 7, 3) := by decide +kernel
theorem dX12_comesOdd_76 : decode cX12_comesOdd 76 = .ok (.iconst 1, 1) := by decide +kernel
theorem dX12_comesOdd_77 : decode cX12_comesOdd 77 = .ok (.goto 4, 3) := by decide +kernel
theorem dX12_comesOdd_80 : decode cX12_comesOdd 80 = .ok (.iconst 0, 1) := by decide +kernel
theorem dX12_comesOdd_81 : decode cX12_comesOdd 81 = .ok (.invokevirtual 284, 3) := by decide +kernel
theorem dX12_comesOdd_84 : decode cX12_comesOdd 84 = .ok (.lload_n 3, 1) := by decide +kernel
theorem dX12_comesOdd_85 : decode cX12_comesOdd 85 = .ok (.aload_n 0, 1) := by decide +kernel
theorem dX12_comesOdd_86 : decode cX12_comesOdd 86 = .ok (.iload_n 1, 1) := by decide +kernel
theorem dX12_comesOdd_87 : decode cX12_comesOdd 87 = .ok (.iload_n 2, 1) := by decide +kernel
theorem dX12_comesOdd_88 : decode cX12_comesOdd 88 = .ok (.iconst 1, 1) := by decide +kernel
theorem dX12_comesOdd_89 : decode cX12_comesOdd 89 = .ok (.isub, 1) := by decide +kernel
theorem dX12_comesOdd_90 : decode cX12_comesOdd 90 = .ok (.invokevirtual 375, 3) := by decide +kernel
theorem dX12_comesOdd_93 : decode cX12_comesOdd 93 = .ok (.ladd, 1) := by decide +kernel
theorem dX12_comesOdd_94 : decode cX12_comesOdd 94 = .ok (.lstore_n 3, 1) := by decide +kernel
theorem dX12_comesOdd_95 : decode cX12_comesOdd 95 = .ok (.aload_n 0, 1) := by decide +kernel
theorem dX12_comesOdd_96 : decode cX12_comesOdd 96 = .ok (.iload 5, 2) := by decide +kernel
theorem dX12_comesOdd_98 : decode cX12_comesOdd 98 = .ok (.iload 6, 2) := by decide +kernel
theorem dX12_comesOdd_100 : decode cX12_comesOdd 100 = .ok (.iload 7, 2) := by decide +kernel
theorem dX12_comesOdd_102 : decode cX12_comesOdd 102 = .ok (.ifCond .eq 7, 3) := by decide +kernel
theorem dX12_comesOdd_105 : decode cX12_comesOdd 105 = .ok (.iconst (-1), 1) := by decide +kernel
theorem dX12_comesOdd_106 : decode cX12_comesOdd 106 = .ok (.goto 4, 3) := by decide +kernel
theorem dX12_comesOdd_109 : decode cX12_comesOdd 109 = .ok (.iconst 0, 1) := by decide +kernel
theorem dX12_comesOdd_110 : decode cX12_comesOdd 110 = .ok (.invokevirtual 284, 3) := by decide +kernel
theorem dX12_comesOdd_113 : decode cX12_comesOdd 113 = .ok (.iinc 6 1, 3) := by decide +kernel
theorem dX12_comesOdd_116 : decode cX12_comesOdd 116 = .ok (.goto (-80), 3) := by decide +kernel
theorem dX12_comesOdd_119 : decode cX12_comesOdd 119 = .ok (.iinc 5 1, 3) := by decide +kernel
theorem dX12_comesOdd_122 : decode cX12_comesOdd 122 = .ok (.goto (-98), 3) := by decide +kernel
theorem dX12_comesOdd_125 : decode cX12_comesOdd 125 = .ok (.lload_n 3, 1) := by decide +kernel
theorem dX12_comesOdd_126 : decode cX12_comesOdd 126 = .ok (.lreturn, 1) := by decide +kernel
abbrev tX12_comesOdd (k : Nat) : MT := (RX12, cX12_comesOdd, 8, k, (some .long))
def lX12_comesOdd_1 (P : MX) : SX := (sLoop (cB rlt (iLoc 6) (iCallV 12 mX12_huts (aR (rLoc 0) aNil))) (sIf (cZ zgt (iCallV 12 mX12_priceOf (aR (rLoc 0) (aI (iLoc 5) (aI (iLoc 6) aNil))))) (sSeq (sSetI 7 (iCallV 12 mX12_mayCarry (aR (rLoc 0) (aI (iLoc 5) (aI (iLoc 6) aNil))))) (sSeq (sCallV 12 mX12_carries (aR (rLoc 0) (aI (iLoc 5) (aI (iLoc 6) (aI (iCond (cZ zne (iLoc 7)) (iK 1) (iK 0)) aNil))))) (sSeq (sSetL 3 (lB gT2 (· + ·) (lLoc 3) (lCallV 12 P (aR (rLoc 0) (aI (iLoc 1) (aI (iB gT2 (· - ·) (iLoc 2) (iK 1)) aNil)))))) (sCallV 12 mX12_carries (aR (rLoc 0) (aI (iLoc 5) (aI (iLoc 6) (aI (iCond (cZ zne (iLoc 7)) (iK (-1)) (iK 0)) aNil)))))))) sSkip) (sSeq (sForget 7) (sInc 6 1)))
def lX12_comesOdd_2 (P : MX) : SX := (sLoop (cB rlt (iLoc 5) (iCallV 12 mX12_huts (aR (rLoc 0) aNil))) (sSeq (sSetI 6 (iK 0)) (lX12_comesOdd_1 P)) (sSeq (sForget 6) (sInc 5 1)))
theorem olX12_comesOdd_1 (g : GT) (kp : Nat) (P : MX) (hkp : 20 ≤ kp) (hP : MK g kp yX12_comesOdd cX12_comesOdd 8 (some .long) P) {pcB pcC : Nat} : Sok g (tX12_comesOdd (kp + 1)) 36 119 pcB pcC (lX12_comesOdd_1 P) := (Sok.loop (pc := 36) (pc1 := 45) (pc2 := 113) (pcN := 119) (Cok.cmp (pc1 := 38) (pc2 := 42) (pcT := 45) (pcF := 119) (EokI.iload (i := 6) dX12_comesOdd_36) (EokI.iCallV (pc1 := 39) (Aok.aR (pc1 := 39) (EokR.aload_n (q := 0) dX12_comesOdd_38) Aok.nil) (kX12_huts g) rfl ykX12_huts vkX12_215 (show _ ≤ kp + 1 by omega) (by decide) dX12_comesOdd_39) (JI.ltF (tgt := 119) dX12_comesOdd_42 (by decide))) (by decide) (Sok.ite (pc1 := 56) (pc2 := 113) (Cok.zero (pc1 := 53) (pcT := 56) (pcF := 113) (EokI.iCallV (pc1 := 50) (Aok.aR (pc1 := 46) (EokR.aload_n (q := 0) dX12_comesOdd_45) (Aok.aI (pc1 := 48) (EokI.iload (i := 5) dX12_comesOdd_46) (Aok.aI (pc1 := 50) (EokI.iload (i := 6) dX12_comesOdd_48) Aok.nil))) (kX12_priceOf g) rfl ykX12_priceOf vkX12_252 (show _ ≤ kp + 1 by omega) (by decide) dX12_comesOdd_50) (JZ.gtF (tgt := 113) dX12_comesOdd_53 (by decide))) (by decide) (Sok.seq (pc1 := 66) (Sok.setI (i := 7) (pc1 := 64) (EokI.iCallV (pc1 := 61) (Aok.aR (pc1 := 57) (EokR.aload_n (q := 0) dX12_comesOdd_56) (Aok.aI (pc1 := 59) (EokI.iload (i := 5) dX12_comesOdd_57) (Aok.aI (pc1 := 61) (EokI.iload (i := 6) dX12_comesOdd_59) Aok.nil))) (kX12_mayCarry g) rfl ykX12_mayCarry vkX12_277 (show _ ≤ kp + 1 by omega) (by decide) dX12_comesOdd_61) (by decide) dX12_comesOdd_64 (show 7 < 8 by decide)) (Sok.seq (pc1 := 84) (Sok.sCallV (pc1 := 81) (Aok.aR (pc1 := 67) (EokR.aload_n (q := 0) dX12_comesOdd_66) (Aok.aI (pc1 := 69) (EokI.iload (i := 5) dX12_comesOdd_67) (Aok.aI (pc1 := 71) (EokI.iload (i := 6) dX12_comesOdd_69) (Aok.aI (pc1 := 81) (EokI.cond' (pc1 := 76) (pc2 := 80) (Cok.zero (pc1 := 73) (pcT := 76) (pcF := 80) (EokI.iload (i := 7) dX12_comesOdd_71) (JZ.neF (tgt := 80) dX12_comesOdd_73 (by decide))) (EokI.goto (pc1 := 77) (pc2 := 81) (EokI.iconst (v := 1) dX12_comesOdd_76 (by decide)) dX12_comesOdd_77 (by decide)) (EokI.iconst (v := 0) dX12_comesOdd_80 (by decide))) Aok.nil)))) (by decide) (kX12_carries g) rfl ykX12_carries vkX12_284 (show _ ≤ kp + 1 by omega) (by decide) dX12_comesOdd_81) (Sok.seq (pc1 := 95) (Sok.setL_n (q := 3) (pc1 := 94) (EokL.bin (pc1 := 85) (pc2 := 93) (EokL.lload_n (q := 3) dX12_comesOdd_84) (EokL.lCallV (pc1 := 90) (Aok.aR (pc1 := 86) (EokR.aload_n (q := 0) dX12_comesOdd_85) (Aok.aI (pc1 := 87) (EokI.iload_n (q := 1) dX12_comesOdd_86) (Aok.aI (pc1 := 90) (EokI.bin (pc1 := 88) (pc2 := 89) (EokI.iload_n (q := 2) dX12_comesOdd_87) (EokI.iconst (v := 1) dX12_comesOdd_88 (by decide)) (OPI.isub dX12_comesOdd_89)) Aok.nil))) hP rfl ykX12_comesOdd vkX12_375 (show _ ≤ kp + 1 by omega) (by decide) dX12_comesOdd_90) (OPL.ladd dX12_comesOdd_93)) (by decide) dX12_comesOdd_94 (show 4 < 8 by decide)) (Sok.sCallV (pc1 := 110) (Aok.aR (pc1 := 96) (EokR.aload_n (q := 0) dX12_comesOdd_95) (Aok.aI (pc1 := 98) (EokI.iload (i := 5) dX12_comesOdd_96) (Aok.aI (pc1 := 100) (EokI.iload (i := 6) dX12_comesOdd_98) (Aok.aI (pc1 := 110) (EokI.cond' (pc1 := 105) (pc2 := 109) (Cok.zero (pc1 := 102) (pcT := 105) (pcF := 109) (EokI.iload (i := 7) dX12_comesOdd_100) (JZ.neF (tgt := 109) dX12_comesOdd_102 (by decide))) (EokI.goto (pc1 := 106) (pc2 := 110) (EokI.iconst (v := (-1)) dX12_comesOdd_105 (by decide)) dX12_comesOdd_106 (by decide)) (EokI.iconst (v := 0) dX12_comesOdd_109 (by decide))) Aok.nil)))) (by decide) (kX12_carries g) rfl ykX12_carries vkX12_284 (show _ ≤ kp + 1 by omega) (by decide) dX12_comesOdd_110)))) (Sok.skip (pc := 113))) (Sok.seq (pc1 := 113) Sok.forget (Sok.goto (pc1 := 116) (pcN := 36) (Sok.iinc (i := 6) (v := 1) dX12_comesOdd_113 (show 6 < 8 by decide) (by decide)) dX12_comesOdd_116 (by decide))))
theorem olX12_comesOdd_2 (g : GT) (kp : Nat) (P : MX) (hkp : 20 ≤ kp) (hP : MK g kp yX12_comesOdd cX12_comesOdd 8 (some .long) P) {pcB pcC : Nat} : Sok g (tX12_comesOdd (kp + 1)) 24 125 pcB pcC (lX12_comesOdd_2 P) := (Sok.loop (pc := 24) (pc1 := 33) (pc2 := 119) (pcN := 125) (Cok.cmp (pc1 := 26) (pc2 := 30) (pcT := 33) (pcF := 125) (EokI.iload (i := 5) dX12_comesOdd_24) (EokI.iCallV (pc1 := 27) (Aok.aR (pc1 := 27) (EokR.aload_n (q := 0) dX12_comesOdd_26) Aok.nil) (kX12_huts g) rfl ykX12_huts vkX12_215 (show _ ≤ kp + 1 by omega) (by decide) dX12_comesOdd_27) (JI.ltF (tgt := 125) dX12_comesOdd_30 (by decide))) (by decide) (Sok.seq (pc1 := 36) (Sok.setI (i := 6) (pc1 := 34) (EokI.iconst (v := 0) dX12_comesOdd_33 (by decide)) (by decide) dX12_comesOdd_34 (show 6 < 8 by decide)) (olX12_comesOdd_1 g kp P hkp hP)) (Sok.seq (pc1 := 119) Sok.forget (Sok.goto (pc1 := 122) (pcN := 24) (Sok.iinc (i := 5) (v := 1) dX12_comesOdd_119 (show 5 < 8 by decide) (by decide)) dX12_comesOdd_122 (by decide))))
def bX12_comesOdd (P : MX) : SX := (sSeq (sIf (cZ zeq (iLoc 2)) (sRetL (lCond (cZ zgt (iALd (rGet 12 20 (rLoc 0)) (iLoc 1))) (lK 1) (lK 0))) sSkip) (sSeq (sSetL 3 (lK 0)) (sSeq (sSeq (sSeq (sSetI 5 (iK 0)) (lX12_comesOdd_2 P)) (sForget 5)) (sRetL (lLoc 3)))))
theorem kbX12_comesOdd (g : GT) (kp : Nat) (P : MX) (hkp : 20 ≤ kp) (hP : MK g kp yX12_comesOdd cX12_comesOdd 8 (some .long) P) : MK g (kp + 1) yX12_comesOdd cX12_comesOdd 8 (some .long) (bodyOf 8 (bX12_comesOdd P)) := MK.of (pcN := 99999) (pcB := 0) (pcC := 0) rfl (Sok.seq (pc1 := 19) (Sok.ite (pc1 := 4) (pc2 := 19) (Cok.zero (pc1 := 1) (pcT := 4) (pcF := 19) (EokI.iload_n (q := 2) dX12_comesOdd_0) (JZ.eqF (tgt := 19) dX12_comesOdd_1 (by decide))) (by decide) (Sok.retL (pc1 := 18) (EokL.cond' (pc1 := 13) (pc2 := 17) (Cok.zero (pc1 := 10) (pcT := 13) (pcF := 17) (EokI.iALd (pc1 := 8) (pc2 := 9) (EokR.getf (pc1 := 5) (j := 20) (ci := 12) (T := TX12) (N := 27) (EokR.aload_n (q := 0) dX12_comesOdd_4) rfl wsX12_in (by decide) flX12_100 dX12_comesOdd_5) (EokI.iload_n (q := 1) dX12_comesOdd_8) dX12_comesOdd_9) (JZ.gtF (tgt := 17) dX12_comesOdd_10 (by decide))) (EokL.goto (pc1 := 14) (pc2 := 18) (EokL.lconst (v := 1) dX12_comesOdd_13 (by decide)) dX12_comesOdd_14 (by decide)) (EokL.lconst (v := 0) dX12_comesOdd_17 (by decide))) (by decide) dX12_comesOdd_18 rfl) (Sok.skip (pc := 19))) (Sok.seq (pc1 := 21) (Sok.setL_n (q := 3) (pc1 := 20) (EokL.lconst (v := 0) dX12_comesOdd_19 (by decide)) (by decide) dX12_comesOdd_20 (show 4 < 8 by decide)) (Sok.seq (pc1 := 125) (Sok.seq (pc1 := 125) (Sok.seq (pc1 := 24) (Sok.setI (i := 5) (pc1 := 22) (EokI.iconst (v := 0) dX12_comesOdd_21 (by decide)) (by decide) dX12_comesOdd_22 (show 5 < 8 by decide)) (olX12_comesOdd_2 g kp P hkp hP)) (Sok.forget (pc := 125))) (Sok.retL (pc1 := 126) (EokL.lload_n (q := 3) dX12_comesOdd_125) (by decide) dX12_comesOdd_126 rfl))))
def mX12_comesOdd : Nat → MX
  | 0 => fun _ _ _ => False
  | d + 1 => bodyOf 8 (bX12_comesOdd (mX12_comesOdd d))
theorem kX12_comesOdd (g : GT) : ∀ d : Nat, MK g (20 + 1 * d) yX12_comesOdd cX12_comesOdd 8 (some .long) (mX12_comesOdd d)
  | 0 => fun _ _ _ _ hF => hF.elim
  | d + 1 => kbX12_comesOdd g (20 + 1 * d) _ (by omega) (kX12_comesOdd g d)
/-! PassHutsModel.chance(II)I -/
theorem dX12_chance_0 : decode cX12_chance 0 = .ok (.aload_n 0, 1) := by decide +kernel
theorem dX12_chance_1 : decode cX12_chance 1 = .ok (.iconst 0, 1) := by decide +kernel
theorem dX12_chance_2 : decode cX12_chance 2 = .ok (.putfield 1, 3) := by decide +kernel
theorem dX12_chance_5 : decode cX12_chance 5 = .ok (.aload_n 0, 1) := by decide +kernel
theorem dX12_chance_6 : decode cX12_chance 6 = .ok (.iload_n 1, 1) := by decide +kernel
theorem dX12_chance_7 : decode cX12_chance 7 = .ok (.invokevirtual 264, 3) := by decide +kernel
theorem dX12_chance_10 : decode cX12_chance 10 = .ok (.ifCond .eq 21, 3) := by decide +kernel
theorem dX12_chance_13 : decode cX12_chance 13 = .ok (.iload_n 2, 1) := by decide +kernel
theorem dX12_chance_14 : decode cX12_chance 14 = .ok (.iconst 1, 1) := by decide +kernel
theorem dX12_chance_15 : decode cX12_chance 15 = .ok (.iconst 4, 1) := by decide +kernel
theorem dX12_chance_16 : decode cX12_chance 16 = .ok (.invokestatic 267, 3) := by decide +kernel
theorem dX12_chance_19 : decode cX12_chance 19 = .ok (.ifCond .eq 12, 3) := by decide +kernel
theorem dX12_chance_22 : decode cX12_chance 22 = .ok (.aload_n 0, 1) := by decide +kernel
theorem dX12_chance_23 : decode cX12_chance 23 = .ok (.getfield 75, 3) := by decide +kernel
theorem dX12_chance_26 : decode cX12_chance 26 = .ok (.iconst 1, 1) := by decide +kernel
theorem dX12_chance_27 : decode cX12_chance 27 = .ok (.iaload, 1) := by decide +kernel
theorem dX12_chance_28 : decode cX12_chance 28 = .ok (.ifCond .ne 5, 3) := by decide +kernel
theorem dX12_chance_31 : decode cX12_chance 31 = .ok (.iconst (-1), 1) := by decide +kernel
theorem dX12_chance_32 : decode cX12_chance 32 = .ok (.ireturn, 1) := by decide +kernel
theorem dX12_chance_33 : decode cX12_chance 33 = .ok (.lconst 1, 1) := by decide +kernel
theorem dX12_chance_34 : decode cX12_chance 34 = .ok (.lstore_n 3, 1) := by decide +kernel
theorem dX12_chance_35 : decode cX12_chance 35 = .ok (.iconst 0, 1) := by decide +kernel
theorem dX12_chance_36 : decode cX12_chance 36 = .ok (.istore 5, 2) := by decide +kernel
theorem dX12_chance_38 : decode cX12_chance 38 = .ok (.iload 5, 2) := by decide +kernel
theorem dX12_chance_40 : decode cX12_chance 40 = .ok (.iload_n 2, 1) := by decide +kernel
theorem dX12_chance_41 : decode cX12_chance 41 = .ok (.if_icmp .ge 23, 3) := by decide +kernel
theorem dX12_chance_44 : decode cX12_chance 44 = .ok (.lload_n 3, 1) := by decide +kernel
theorem dX12_chance_45 : decode cX12_chance 45 = .ok (.ldc2_w 329, 3) := by decide +kernel
theorem dX12_chance_48 : decode cX12_chance 48 = .ok (.aload_n 0, 1) := by decide +kernel
theorem dX12_chance_49 : decode cX12_chance 49 = .ok (.getfield 75, 3) := by decide +kernel
theorem dX12_chance_52 : decode cX12_chance 52 = .ok (.iconst 1, 1) := by decide +kernel
theorem dX12_chance_53 : decode cX12_chance 53 = .ok (.iaload, 1) := by decide +kernel
theorem dX12_chance_54 : decode cX12_chance 54 = .ok (.i2l, 1) := by decide +kernel
theorem dX12_chance_55 : decode cX12_chance 55 = .ok (.lmul, 1) := by decide +kernel
theorem dX12_chance_56 : decode cX12_chance 56 = .ok (.lmul, 1) := by decide +kernel
theorem dX12_chance_57 : decode cX12_chance 57 = .ok (.lstore_n 3, 1) := by decide +kernel
theorem dX12_chance_58 : decode cX12_chance 58 = .ok (.iinc 5 1, 3) := by decide +kernel
theorem dX12_chance_61 : decode cX12_chance 61 = .ok (.goto (-23), 3) := by decide +kernel
theorem dX12_chance_64 : decode cX12_chance 64 = .ok (.aload_n 0, 1) := by decide +kernel
theorem dX12_chance_65 : decode cX12_chance 65 = .ok (.invokevirtual 271, 3) := by decide +kernel
theorem dX12_chance_68 : decode cX12_chance 68 = .ok (.aload_n 0, 1) := by decide +kernel
theorem dX12_chance_69 : decode cX12_chance 69 = .ok (.iload_n 1, 1) := by decide +kernel
theorem dX12_chance_70 : decode cX12_chance 70 = .ok (.iload_n 2, 1) := by decide +kernel
theorem dX12_chance_71 : decode cX12_chance 71 = .ok (.invokevirtual 375, 3) := by decide +kernel
theorem dX12_chance_74 : decode cX12_chance 74 = .ok (.ldc2_w 378, 3) := by decide +kernel
theorem dX12_chance_77 : decode cX12_chance 77 = .ok (.lmul, 1) := by decide +kernel
theorem dX12_chance_78 : decode cX12_chance 78 = .ok (.lload_n 3, 1) := by decide +kernel
theorem dX12_chance_79 : decode cX12_chance 79 = .ok (.ldiv, 1) := by decide +kernel
theorem dX12_chance_80 : decode cX12_chance 80 = .ok (.l2i, 1) := by decide +kernel
theorem dX12_chance_81 : decode cX12_chance 81 = .ok (.ireturn, 1) := by decide +kernel
abbrev tX12_chance (k : Nat) : MT := (RX12, cX12_chance, 6, k, (some .int))
def lX12_chance_1 : SX := (sLoop (cB rlt (iLoc 5) (iLoc 2)) (sSetL 3 (lB gT2 (· * ·) (lLoc 3) (lB gT2 (· * ·) (lK 2) (lOfI (iALd (rGet 12 10 (rLoc 0)) (iK 1)))))) (sInc 5 1))
theorem olX12_chance_1 (g : GT) {pcB pcC : Nat} : Sok g (tX12_chance 56) 38 64 pcB pcC (lX12_chance_1) := (Sok.loop (pc := 38) (pc1 := 44) (pc2 := 58) (pcN := 64) (Cok.cmp (pc1 := 40) (pc2 := 41) (pcT := 44) (pcF := 64) (EokI.iload (i := 5) dX12_chance_38) (EokI.iload_n (q := 2) dX12_chance_40) (JI.ltF (tgt := 64) dX12_chance_41 (by decide))) (by decide) (Sok.setL_n (q := 3) (pc1 := 57) (EokL.bin (pc1 := 45) (pc2 := 56) (EokL.lload_n (q := 3) dX12_chance_44) (EokL.bin (pc1 := 48) (pc2 := 55) (EokL.ldc2 (v := 2) ckX12_329 dX12_chance_45) (EokL.i2l (pc1 := 54) (EokI.iALd (pc1 := 52) (pc2 := 53) (EokR.getf (pc1 := 49) (j := 10) (ci := 12) (T := TX12) (N := 27) (EokR.aload_n (q := 0) dX12_chance_48) rfl wsX12_in (by decide) flX12_75 dX12_chance_49) (EokI.iconst (v := 1) dX12_chance_52 (by decide)) dX12_chance_53) dX12_chance_54) (OPL.lmul dX12_chance_55)) (OPL.lmul dX12_chance_56)) (by decide) dX12_chance_57 (show 4 < 6 by decide)) (Sok.goto (pc1 := 61) (pcN := 38) (Sok.iinc (i := 5) (v := 1) dX12_chance_58 (show 5 < 6 by decide) (by decide)) dX12_chance_61 (by decide)))
def mX12_chance : MX := bodyOf 6 (sSeq (sPutI 12 0 .int (rLoc 0) (iK 0)) (sSeq (sIf (cOr (cOr (cNot (cZ zne (iCallV 12 mX12_isHut (aR (rLoc 0) (aI (iLoc 1) aNil))))) (cNot (cZ zne (iCallS mX12_within (aI (iLoc 2) (aI (iK 1) (aI (iK 4) aNil))))))) (cZ zeq (iALd (rGet 12 10 (rLoc 0)) (iK 1)))) (sRetI (iK (-1))) sSkip) (sSeq (sSetL 3 (lK 1)) (sSeq (sSeq (sSeq (sSetI 5 (iK 0)) lX12_chance_1) (sForget 5)) (sSeq (sCallV 12 mX12_laysNow (aR (rLoc 0) aNil)) (sRetI (iOfL (lB gNZL (· / ·) (lB gT2 (· * ·) (lCallV 12 (mX12_comesOdd 7) (aR (rLoc 0) (aI (iLoc 1) (aI (iLoc 2) aNil)))) (lK 1000000)) (lLoc 3)))))))))
theorem kX12_chance (g : GT) : MK g 56 yX12_chance cX12_chance 6 (some .int) mX12_chance := MK.of (pcN := 99999) (pcB := 0) (pcC := 0) rfl (Sok.seq (pc1 := 5) (Sok.putI (ci := 12) (T := TX12) (NN := 27) (tt := tyX12) (j := 0) (pc1 := 1) (pc2 := 2) (ty := .int) (EokR.aload_n (q := 0) dX12_chance_0) (EokI.iconst (v := 0) dX12_chance_1 (by decide)) (by decide) rfl wsX12_in tyX12_ok nmX12 (by decide) flX12_1 rfl rfl dX12_chance_2) (Sok.seq (pc1 := 33) (Sok.ite (pc1 := 31) (pc2 := 33) (Cok.or (pc1 := 22) (Cok.or (pc1 := 13) (Cok.not (Cok.zero (pc1 := 10) (pcT := 13) (pcF := 31) (EokI.iCallV (pc1 := 7) (Aok.aR (pc1 := 6) (EokR.aload_n (q := 0) dX12_chance_5) (Aok.aI (pc1 := 7) (EokI.iload_n (q := 1) dX12_chance_6) Aok.nil)) (kX12_isHut g) rfl ykX12_isHut vkX12_264 (by decide) (by decide) dX12_chance_7) (JZ.neF (tgt := 31) dX12_chance_10 (by decide)))) (Cok.not (Cok.zero (pc1 := 19) (pcT := 22) (pcF := 31) (EokI.iCallS (pc1 := 16) (Aok.aI (pc1 := 14) (EokI.iload_n (q := 2) dX12_chance_13) (Aok.aI (pc1 := 15) (EokI.iconst (v := 1) dX12_chance_14 (by decide)) (Aok.aI (pc1 := 16) (EokI.iconst (v := 4) dX12_chance_15 (by decide)) Aok.nil))) (kX12_within g) ykX12_within skX12_267 (by decide) (by decide) dX12_chance_16) (JZ.neF (tgt := 31) dX12_chance_19 (by decide))))) (Cok.zero (pc1 := 28) (pcT := 31) (pcF := 33) (EokI.iALd (pc1 := 26) (pc2 := 27) (EokR.getf (pc1 := 23) (j := 10) (ci := 12) (T := TX12) (N := 27) (EokR.aload_n (q := 0) dX12_chance_22) rfl wsX12_in (by decide) flX12_75 dX12_chance_23) (EokI.iconst (v := 1) dX12_chance_26 (by decide)) dX12_chance_27) (JZ.eqF (tgt := 33) dX12_chance_28 (by decide)))) (by decide) (Sok.retI (pc1 := 32) (EokI.iconst (v := (-1)) dX12_chance_31 (by decide)) (by decide) dX12_chance_32 rfl) (Sok.skip (pc := 33))) (Sok.seq (pc1 := 35) (Sok.setL_n (q := 3) (pc1 := 34) (EokL.lconst (v := 1) dX12_chance_33 (by decide)) (by decide) dX12_chance_34 (show 4 < 6 by decide)) (Sok.seq (pc1 := 64) (Sok.seq (pc1 := 64) (Sok.seq (pc1 := 38) (Sok.setI (i := 5) (pc1 := 36) (EokI.iconst (v := 0) dX12_chance_35 (by decide)) (by decide) dX12_chance_36 (show 5 < 6 by decide)) (olX12_chance_1 g )) (Sok.forget (pc := 64))) (Sok.seq (pc1 := 68) (Sok.sCallV (pc1 := 65) (Aok.aR (pc1 := 65) (EokR.aload_n (q := 0) dX12_chance_64) Aok.nil) (by decide) (kX12_laysNow g) rfl ykX12_laysNow vkX12_271 (by decide) (by decide) dX12_chance_65) (Sok.retI (pc1 := 81) (EokI.l2i (pc1 := 80) (EokL.bin (pc1 := 78) (pc2 := 79) (EokL.bin (pc1 := 74) (pc2 := 77) (EokL.lCallV (pc1 := 71) (Aok.aR (pc1 := 69) (EokR.aload_n (q := 0) dX12_chance_68) (Aok.aI (pc1 := 70) (EokI.iload_n (q := 1) dX12_chance_69) (Aok.aI (pc1 := 71) (EokI.iload_n (q := 2) dX12_chance_70) Aok.nil))) (kX12_comesOdd g 7) rfl ykX12_comesOdd vkX12_375 (by decide) (by decide) dX12_chance_71) (EokL.ldc2 (v := 1000000) ckX12_378 dX12_chance_74) (OPL.lmul dX12_chance_77)) (EokL.lload_n (q := 3) dX12_chance_78) (OPL.ldiv dX12_chance_79)) dX12_chance_80) (by decide) dX12_chance_81 rfl))))))
/-! PassHutsModel.getsBy(IIIII)I -/
theorem dX12_getsBy_0 : decode cX12_getsBy 0 = .ok (.iload_n 0, 1) := by decide +kernel
theorem dX12_getsBy_1 : decode cX12_getsBy 1 = .ok (.iconst 1, 1) := by decide +kernel
theorem dX12_getsBy_2 : decode cX12_getsBy 2 = .ok (.if_icmp .ne 17, 3) := by decide +kernel
theorem dX12_getsBy_5 : decode cX12_getsBy 5 = .ok (.iload_n 1, 1) := by decide +kernel
theorem dX12_getsBy_6 : decode cX12_getsBy 6 = .ok (.iconst 1, 1) := by decide +kernel
theorem dX12_getsBy_7 : decode cX12_getsBy 7 = .ok (.if_icmp .ne 8, 3) := by decide +kernel
theorem dX12_getsBy_10 : decode cX12_getsBy 10 = .ok (.iload_n 2, 1) := by decide +kernel
theorem dX12_getsBy_11 : decode cX12_getsBy 11 = .ok (.ineg, 1) := by decide +kernel
theorem dX12_getsBy_12 : decode cX12_getsBy 12 = .ok (.goto 18, 3) := by decide +kernel
theorem dX12_getsBy_15 : decode cX12_getsBy 15 = .ok (.iload_n 3, 1) := by decide +kernel
theorem dX12_getsBy_16 : decode cX12_getsBy 16 = .ok (.goto 14, 3) := by decide +kernel
theorem dX12_getsBy_19 : decode cX12_getsBy 19 = .ok (.iload_n 1, 1) := by decide +kernel
theorem dX12_getsBy_20 : decode cX12_getsBy 20 = .ok (.iconst 1, 1) := by decide +kernel
theorem dX12_getsBy_21 : decode cX12_getsBy 21 = .ok (.if_icmp .ne 8, 3) := by decide +kernel
theorem dX12_getsBy_24 : decode cX12_getsBy 24 = .ok (.iload 4, 2) := by decide +kernel
theorem dX12_getsBy_26 : decode cX12_getsBy 26 = .ok (.goto 4, 3) := by decide +kernel
theorem dX12_getsBy_29 : decode cX12_getsBy 29 = .ok (.iconst 0, 1) := by decide +kernel
theorem dX12_getsBy_30 : decode cX12_getsBy 30 = .ok (.ireturn, 1) := by decide +kernel
abbrev tX12_getsBy (k : Nat) : MT := (RX12, cX12_getsBy, 5, k, (some .int))
def mX12_getsBy : MX := bodyOf 5 (sRetI (iCond (cB req (iLoc 0) (iK 1)) (iCond (cB req (iLoc 1) (iK 1)) (iNeg (iLoc 2)) (iLoc 3)) (iCond (cB req (iLoc 1) (iK 1)) (iLoc 4) (iK 0))))
theorem kX12_getsBy (g : GT) : MK g 0 yX12_getsBy cX12_getsBy 5 (some .int) mX12_getsBy := MK.of (pcN := 99999) (pcB := 0) (pcC := 0) rfl (Sok.retI (pc1 := 30) (EokI.cond' (pc1 := 5) (pc2 := 19) (Cok.cmp (pc1 := 1) (pc2 := 2) (pcT := 5) (pcF := 19) (EokI.iload_n (q := 0) dX12_getsBy_0) (EokI.iconst (v := 1) dX12_getsBy_1 (by decide)) (JI.eqF (tgt := 19) dX12_getsBy_2 (by decide))) (EokI.cond' (pc1 := 10) (pc2 := 15) (Cok.cmp (pc1 := 6) (pc2 := 7) (pcT := 10) (pcF := 15) (EokI.iload_n (q := 1) dX12_getsBy_5) (EokI.iconst (v := 1) dX12_getsBy_6 (by decide)) (JI.eqF (tgt := 15) dX12_getsBy_7 (by decide))) (EokI.goto (pc1 := 12) (pc2 := 30) (EokI.ineg (pc1 := 11) (EokI.iload_n (q := 2) dX12_getsBy_10) dX12_getsBy_11) dX12_getsBy_12 (by decide)) (EokI.goto (pc1 := 16) (pc2 := 30) (EokI.iload_n (q := 3) dX12_getsBy_15) dX12_getsBy_16 (by decide))) (EokI.cond' (pc1 := 24) (pc2 := 29) (Cok.cmp (pc1 := 20) (pc2 := 21) (pcT := 24) (pcF := 29) (EokI.iload_n (q := 1) dX12_getsBy_19) (EokI.iconst (v := 1) dX12_getsBy_20 (by decide)) (JI.eqF (tgt := 29) dX12_getsBy_21 (by decide))) (EokI.goto (pc1 := 26) (pc2 := 30) (EokI.iload (i := 4) dX12_getsBy_24) dX12_getsBy_26 (by decide)) (EokI.iconst (v := 0) dX12_getsBy_29 (by decide)))) (by decide) dX12_getsBy_30 rfl)
/-! PassHutsModel.rests(IIII)I -/
theorem dX12_rests_0 : decode cX12_rests 0 = .ok (.iload_n 1, 1) := by decide +kernel
theorem dX12_rests_1 : decode cX12_rests 1 = .ok (.iconst 0, 1) := by decide +kernel
theorem dX12_rests_2 : decode cX12_rests 2 = .ok (.bipush 9, 2) := by decide +kernel
theorem dX12_rests_4 : decode cX12_rests 4 = .ok (.invokestatic 267, 3) := by decide +kernel
theorem dX12_rests_7 : decode cX12_rests 7 = .ok (.ifCond .eq 33, 3) := by decide +kernel
theorem dX12_rests_10 : decode cX12_rests 10 = .ok (.iload_n 2, 1) := by decide +kernel
theorem dX12_rests_11 : decode cX12_rests 11 = .ok (.iconst 0, 1) := by decide +kernel
theorem dX12_rests_12 : decode cX12_rests 12 = .ok (.bipush 9, 2) := by decide +kernel
theorem dX12_rests_14 : decode cX12_rests 14 = .ok (.invokestatic 267, 3) := by decide +kernel
theorem dX12_rests_17 : decode cX12_rests 17 = .ok (.ifCond .eq 23, 3) := by decide +kernel
theorem dX12_rests_20 : decode cX12_rests 20 = .ok (.iload_n 3, 1) := by decide +kernel
theorem dX12_rests_21 : decode cX12_rests 21 = .ok (.iconst 0, 1) := by decide +kernel
theorem dX12_rests_22 : decode cX12_rests 22 = .ok (.bipush 9, 2) := by decide +kernel
theorem dX12_rests_24 : decode cX12_rests 24 = .ok (.invokestatic 267, 3) := by decide +kernel
theorem dX12_rests_27 : decode cX12_rests 27 = .ok (.ifCond .eq 13, 3) := by decide +kernel
theorem dX12_rests_30 : decode cX12_rests 30 = .ok (.iload 4, 2) := by decide +kernel
theorem dX12_rests_32 : decode cX12_rests 32 = .ok (.iconst (-1), 1) := by decide +kernel
theorem dX12_rests_33 : decode cX12_rests 33 = .ok (.if_icmp .lt 7, 3) := by decide +kernel
theorem dX12_rests_36 : decode cX12_rests 36 = .ok (.iconst 1, 1) := by decide +kernel
theorem dX12_rests_37 : decode cX12_rests 37 = .ok (.goto 4, 3) := by decide +kernel
theorem dX12_rests_40 : decode cX12_rests 40 = .ok (.iconst 0, 1) := by decide +kernel
theorem dX12_rests_41 : decode cX12_rests 41 = .ok (.istore 5, 2) := by decide +kernel
theorem dX12_rests_43 : decode cX12_rests 43 = .ok (.iconst 0, 1) := by decide +kernel
theorem dX12_rests_44 : decode cX12_rests 44 = .ok (.istore 6, 2) := by decide +kernel
theorem dX12_rests_46 : decode cX12_rests 46 = .ok (.iconst (-1), 1) := by decide +kernel
theorem dX12_rests_47 : decode cX12_rests 47 = .ok (.istore 7, 2) := by decide +kernel
theorem dX12_rests_49 : decode cX12_rests 49 = .ok (.iconst 0, 1) := by decide +kernel
theorem dX12_rests_50 : decode cX12_rests 50 = .ok (.istore 8, 2) := by decide +kernel
theorem dX12_rests_52 : decode cX12_rests 52 = .ok (.iload 8, 2) := by decide +kernel
theorem dX12_rests_54 : decode cX12_rests 54 = .ok (.iconst 4, 1) := by decide +kernel
theorem dX12_rests_55 : decode cX12_rests 55 = .ok (.if_icmp .ge 119, 3) := by decide +kernel
theorem dX12_rests_58 : decode cX12_rests 58 = .ok (.iload 5, 2) := by decide +kernel
theorem dX12_rests_60 : decode cX12_rests 60 = .ok (.ifCond .eq 114, 3) := by decide +kernel
theorem dX12_rests_63 : decode cX12_rests 63 = .ok (.iload 8, 2) := by decide +kernel
theorem dX12_rests_65 : decode cX12_rests 65 = .ok (.iconst 2, 1) := by decide +kernel
theorem dX12_rests_66 : decode cX12_rests 66 = .ok (.idiv, 1) := by decide +kernel
theorem dX12_rests_67 : decode cX12_rests 67 = .ok (.istore 9, 2) := by decide +kernel
theorem dX12_rests_69 : decode cX12_rests 69 = .ok (.iload 8, 2) := by decide +kernel
theorem dX12_rests_71 : decode cX12_rests 71 = .ok (.iconst 2, 1) := by decide +kernel
theorem dX12_rests_72 : decode cX12_rests 72 = .ok (.irem, 1) := by decide +kernel
theorem dX12_rests_73 : decode cX12_rests 73 = .ok (.istore 10, 2) := by decide +kernel
theorem dX12_rests_75 : decode cX12_rests 75 = .ok (.iconst 1, 1) := by decide +kernel
theorem dX12_rests_76 : decode cX12_rests 76 = .ok (.iload 9, 2) := by decide +kernel
theorem dX12_rests_78 : decode cX12_rests 78 = .ok (.isub, 1) := by decide +kernel
theorem dX12_rests_79 : decode cX12_rests 79 = .ok (.iload 10, 2) := by decide +kernel
theorem dX12_rests_81 : decode cX12_rests 81 = .ok (.iload_n 1, 1) := by decide +kernel
theorem dX12_rests_82 : decode cX12_rests 82 = .ok (.iload_n 2, 1) := by decide +kernel
theorem dX12_rests_83 : decode cX12_rests 83 = .ok (.iload_n 3, 1) := by decide +kernel
theorem dX12_rests_84 : decode cX12_rests 84 = .ok (.invokestatic 380, 3) := by decide +kernel
theorem dX12_rests_87 : decode cX12_rests 87 = .ok (.iload 9, 2) := by decide +kernel
theorem dX12_rests_89 : decode cX12_rests 89 = .ok (.iload 10, 2) := by decide +kernel
theorem dX12_rests_91 : decode cX12_rests 91 = .ok (.iload_n 1, 1) := by decide +kernel
theorem dX12_rests_92 : decode cX12_rests 92 = .ok (.iload_n 2, 1) := by decide +kernel
theorem dX12_rests_93 : decode cX12_rests 93 = .ok (.iload_n 3, 1) := by decide +kernel
theorem dX12_rests_94 : decode cX12_rests 94 = .ok (.invokestatic 380, 3) := by decide +kernel
theorem dX12_rests_97 : decode cX12_rests 97 = .ok (.if_icmp .gt 32, 3) := by decide +kernel
theorem dX12_rests_100 : decode cX12_rests 100 = .ok (.iconst 1, 1) := by decide +kernel
theorem dX12_rests_101 : decode cX12_rests 101 = .ok (.iload 10, 2) := by decide +kernel
theorem dX12_rests_103 : decode cX12_rests 103 = .ok (.isub, 1) := by decide +kernel
theorem dX12_rests_104 : decode cX12_rests 104 = .ok (.iload 9, 2) := by decide +kernel
theorem dX12_rests_106 : decode cX12_rests 106 = .ok (.iload_n 1, 1) := by decide +kernel
theorem dX12_rests_107 : decode cX12_rests 107 = .ok (.iload_n 2, 1) := by decide +kernel
theorem dX12_rests_108 : decode cX12_rests 108 = .ok (.iload_n 3, 1) := by decide +kernel
theorem dX12_rests_109 : decode cX12_rests 109 = .ok (.invokestatic 380, 3) := by decide +kernel
theorem dX12_rests_112 : decode cX12_rests 112 = .ok (.iload 10, 2) := by decide +kernel
theorem dX12_rests_114 : decode cX12_rests 114 = .ok (.iload 9, 2) := by decide +kernel
theorem dX12_rests_116 : decode cX12_rests 116 = .ok (.iload_n 1, 1) := by decide +kernel
theorem dX12_rests_117 : decode cX12_rests 117 = .ok (.iload_n 2, 1) := by decide +kernel
theorem dX12_rests_118 : decode cX12_rests 118 = .ok (.iload_n 3, 1) := by decide +kernel
theorem dX12_rests_119 : decode cX12_rests 119 = .ok (.invokestatic 380, 3) := by decide +kernel
theorem dX12_rests_122 : decode cX12_rests 122 = .ok (.if_icmp .gt 7, 3) := by decide +kernel
theorem dX12_rests_125 : decode cX12_rests 125 = .ok (.iconst 1, 1) := by decide +kernel
theorem dX12_rests_126 : decode cX12_rests 126 = .ok (.goto 4, 3) := by decide +kernel
theorem dX12_rests_129 : decode cX12_rests 129 = .ok (.iconst 0, 1) := by decide +kernel
theorem dX12_rests_130 : decode cX12_rests 130 = .ok (.istore 11, 2) := by decide +kernel
theorem dX12_rests_132 : decode cX12_rests 132 = .ok (.iload 11, 2) := by decide +kernel
theorem dX12_rests_134 : decode cX12_rests 134 = .ok (.ifCond .eq 15, 3) := by decide +kernel
theorem dX12_rests_137 : decode cX12_rests 137 = .ok (.iload 6, 2) := by decide +kernel
theorem dX12_rests_139 : decode cX12_rests 139 = .ok (.iload 4, 2) := by decide +kernel
theorem dX12_rests_141 : decode cX12_rests 141 = .ok (.if_icmp .ne 8, 3) := by decide +kernel
theorem dX12_rests_144 : decode cX12_rests 144 = .ok (.iload 8, 2) := by decide +kernel
theorem dX12_rests_146 : decode cX12_rests 146 = .ok (.goto 5, 3) := by decide +kernel
theorem dX12_rests_149 : decode cX12_rests 149 = .ok (.iload 7, 2) := by decide +kernel
theorem dX12_rests_151 : decode cX12_rests 151 = .ok (.istore 7, 2) := by decide +kernel
theorem dX12_rests_153 : decode cX12_rests 153 = .ok (.iload 6, 2) := by decide +kernel
theorem dX12_rests_155 : decode cX12_rests 155 = .ok (.iload 11, 2) := by decide +kernel
theorem dX12_rests_157 : decode cX12_rests 157 = .ok (.ifCond .eq 7, 3) := by decide +kernel
theorem dX12_rests_160 : decode cX12_rests 160 = .ok (.iconst 1, 1) := by decide +kernel
theorem dX12_rests_161 : decode cX12_rests 161 = .ok (.goto 4, 3) := by decide +kernel
theorem dX12_rests_164 : decode cX12_rests 164 = .ok (.iconst 0, 1) := by decide +kernel
theorem dX12_rests_165 : decode cX12_rests 165 = .ok (.iadd, 1) := by decide +kernel
theorem dX12_rests_166 : decode cX12_rests 166 = .ok (.istore 6, 2) := by decide +kernel
theorem dX12_rests_168 : decode cX12_rests 168 = .ok (.iinc 8 1, 3) := by decide +kernel
theorem dX12_rests_171 : decode cX12_rests 171 = .ok (.goto (-119), 3) := by decide +kernel
theorem dX12_rests_174 : decode cX12_rests 174 = .ok (.aload_n 0, 1) := by decide +kernel
theorem dX12_rests_175 : decode cX12_rests 175 = .ok (.iload 5, 2) := by decide +kernel
theorem dX12_rests_177 : decode cX12_rests 177 = .ok (.ifCond .eq 17, 3) := by decide +kernel
theorem dX12_rests_180 : decode cX12_rests 180 = .ok (.iload 4, 2) := by decide +kernel
theorem dX12_rests_182 : decode cX12_rests 182 = .ok (.ifCond .lt 8, 3) := by decide +kernel
theorem dX12_rests_185 : decode cX12_rests 185 = .ok (.iload 7, 2) := by decide +kernel
theorem dX12_rests_187 : decode cX12_rests 187 = .ok (.ifCond .lt 7, 3) := by decide +kernel
theorem dX12_rests_190 : decode cX12_rests 190 = .ok (.iconst 0, 1) := by decide +kernel
theorem dX12_rests_191 : decode cX12_rests 191 = .ok (.goto 4, 3) := by decide +kernel
theorem dX12_rests_194 : decode cX12_rests 194 = .ok (.iconst 1, 1) := by decide +kernel
theorem dX12_rests_195 : decode cX12_rests 195 = .ok (.putfield 1, 3) := by decide +kernel
theorem dX12_rests_198 : decode cX12_rests 198 = .ok (.aload_n 0, 1) := by decide +kernel
theorem dX12_rests_199 : decode cX12_rests 199 = .ok (.getfield 1, 3) := by decide +kernel
theorem dX12_rests_202 : decode cX12_rests 202 = .ok (.ifCond .le 7, 3) := by decide +kernel
theorem dX12_rests_205 : decode cX12_rests 205 = .ok (.iconst 0, 1) := by decide +kernel
theorem dX12_rests_206 : decode cX12_rests 206 = .ok (.goto 15, 3) := by decide +kernel
theorem dX12_rests_209 : decode cX12_rests 209 = .ok (.iload 4, 2) := by decide +kernel
theorem dX12_rests_211 : decode cX12_rests 211 = .ok (.ifCond .ge 8, 3) := by decide +kernel
theorem dX12_rests_214 : decode cX12_rests 214 = .ok (.iload 6, 2) := by decide +kernel
theorem dX12_rests_216 : decode cX12_rests 216 = .ok (.goto 5, 3) := by decide +kernel
theorem dX12_rests_219 : decode cX12_rests 219 = .ok (.iload 7, 2) := by decide +kernel
theorem dX12_rests_221 : decode cX12_rests 221 = .ok (.ireturn, 1) := by decide +kernel
abbrev tX12_rests (k : Nat) : MT := (RX12, cX12_rests, 12, k, (some .int))
def lX12_rests_1 : SX := (sLoop (cAnd (cB rlt (iLoc 8) (iK 4)) (cZ zne (iLoc 5))) (sSeq (sSetI 9 (iB gNZ (· / ·) (iLoc 8) (iK 2))) (sSeq (sSetI 10 (iB gNZ jrem (iLoc 8) (iK 2))) (sSeq (sSetI 11 (iBool (cAnd (cB rle (iCallS mX12_getsBy (aI (iB gT2 (· - ·) (iK 1) (iLoc 9)) (aI (iLoc 10) (aI (iLoc 1) (aI (iLoc 2) (aI (iLoc 3) aNil)))))) (iCallS mX12_getsBy (aI (iLoc 9) (aI (iLoc 10) (aI (iLoc 1) (aI (iLoc 2) (aI (iLoc 3) aNil))))))) (cB rle (iCallS mX12_getsBy (aI (iB gT2 (· - ·) (iK 1) (iLoc 10)) (aI (iLoc 9) (aI (iLoc 1) (aI (iLoc 2) (aI (iLoc 3) aNil)))))) (iCallS mX12_getsBy (aI (iLoc 10) (aI (iLoc 9) (aI (iLoc 1) (aI (iLoc 2) (aI (iLoc 3) aNil)))))))))) (sSeq (sSetI 7 (iCond (cAnd (cZ zne (iLoc 11)) (cB req (iLoc 6) (iLoc 4))) (iLoc 8) (iLoc 7))) (sSetI 6 (iB gT2 (· + ·) (iLoc 6) (iCond (cZ zne (iLoc 11)) (iK 1) (iK 0)))))))) (sSeq (sForget 9) (sInc 8 1)))
theorem olX12_rests_1 (g : GT) {pcB pcC : Nat} : Sok g (tX12_rests 1) 52 174 pcB pcC (lX12_rests_1) := (Sok.loop (pc := 52) (pc1 := 63) (pc2 := 168) (pcN := 174) (Cok.and (pc1 := 58) (Cok.cmp (pc1 := 54) (pc2 := 55) (pcT := 58) (pcF := 174) (EokI.iload (i := 8) dX12_rests_52) (EokI.iconst (v := 4) dX12_rests_54 (by decide)) (JI.ltF (tgt := 174) dX12_rests_55 (by decide))) (Cok.zero (pc1 := 60) (pcT := 63) (pcF := 174) (EokI.iload (i := 5) dX12_rests_58) (JZ.neF (tgt := 174) dX12_rests_60 (by decide)))) (by decide) (Sok.seq (pc1 := 69) (Sok.setI (i := 9) (pc1 := 67) (EokI.bin (pc1 := 65) (pc2 := 66) (EokI.iload (i := 8) dX12_rests_63) (EokI.iconst (v := 2) dX12_rests_65 (by decide)) (OPI.idiv dX12_rests_66)) (by decide) dX12_rests_67 (show 9 < 12 by decide)) (Sok.seq (pc1 := 75) (Sok.setI (i := 10) (pc1 := 73) (EokI.bin (pc1 := 71) (pc2 := 72) (EokI.iload (i := 8) dX12_rests_69) (EokI.iconst (v := 2) dX12_rests_71 (by decide)) (OPI.irem dX12_rests_72)) (by decide) dX12_rests_73 (show 10 < 12 by decide)) (Sok.seq (pc1 := 132) (Sok.setI (i := 11) (pc1 := 130) (EokI.cond' (pc1 := 125) (pc2 := 129) (Cok.and (pc1 := 100) (Cok.cmp (pc1 := 87) (pc2 := 97) (pcT := 100) (pcF := 129) (EokI.iCallS (pc1 := 84) (Aok.aI (pc1 := 79) (EokI.bin (pc1 := 76) (pc2 := 78) (EokI.iconst (v := 1) dX12_rests_75 (by decide)) (EokI.iload (i := 9) dX12_rests_76) (OPI.isub dX12_rests_78)) (Aok.aI (pc1 := 81) (EokI.iload (i := 10) dX12_rests_79) (Aok.aI (pc1 := 82) (EokI.iload_n (q := 1) dX12_rests_81) (Aok.aI (pc1 := 83) (EokI.iload_n (q := 2) dX12_rests_82) (Aok.aI (pc1 := 84) (EokI.iload_n (q := 3) dX12_rests_83) Aok.nil))))) (kX12_getsBy g) ykX12_getsBy skX12_380 (by decide) (by decide) dX12_rests_84) (EokI.iCallS (pc1 := 94) (Aok.aI (pc1 := 89) (EokI.iload (i := 9) dX12_rests_87) (Aok.aI (pc1 := 91) (EokI.iload (i := 10) dX12_rests_89) (Aok.aI (pc1 := 92) (EokI.iload_n (q := 1) dX12_rests_91) (Aok.aI (pc1 := 93) (EokI.iload_n (q := 2) dX12_rests_92) (Aok.aI (pc1 := 94) (EokI.iload_n (q := 3) dX12_rests_93) Aok.nil))))) (kX12_getsBy g) ykX12_getsBy skX12_380 (by decide) (by decide) dX12_rests_94) (JI.leF (tgt := 129) dX12_rests_97 (by decide))) (Cok.cmp (pc1 := 112) (pc2 := 122) (pcT := 125) (pcF := 129) (EokI.iCallS (pc1 := 109) (Aok.aI (pc1 := 104) (EokI.bin (pc1 := 101) (pc2 := 103) (EokI.iconst (v := 1) dX12_rests_100 (by decide)) (EokI.iload (i := 10) dX12_rests_101) (OPI.isub dX12_rests_103)) (Aok.aI (pc1 := 106) (EokI.iload (i := 9) dX12_rests_104) (Aok.aI (pc1 := 107) (EokI.iload_n (q := 1) dX12_rests_106) (Aok.aI (pc1 := 108) (EokI.iload_n (q := 2) dX12_rests_107) (Aok.aI (pc1 := 109) (EokI.iload_n (q := 3) dX12_rests_108) Aok.nil))))) (kX12_getsBy g) ykX12_getsBy skX12_380 (by decide) (by decide) dX12_rests_109) (EokI.iCallS (pc1 := 119) (Aok.aI (pc1 := 114) (EokI.iload (i := 10) dX12_rests_112) (Aok.aI (pc1 := 116) (EokI.iload (i := 9) dX12_rests_114) (Aok.aI (pc1 := 117) (EokI.iload_n (q := 1) dX12_rests_116) (Aok.aI (pc1 := 118) (EokI.iload_n (q := 2) dX12_rests_117) (Aok.aI (pc1 := 119) (EokI.iload_n (q := 3) dX12_rests_118) Aok.nil))))) (kX12_getsBy g) ykX12_getsBy skX12_380 (by decide) (by decide) dX12_rests_119) (JI.leF (tgt := 129) dX12_rests_122 (by decide)))) (EokI.goto (pc1 := 126) (pc2 := 130) (EokI.iconst (v := 1) dX12_rests_125 (by decide)) dX12_rests_126 (by decide)) (EokI.iconst (v := 0) dX12_rests_129 (by decide))) (by decide) dX12_rests_130 (show 11 < 12 by decide)) (Sok.seq (pc1 := 153) (Sok.setI (i := 7) (pc1 := 151) (EokI.cond' (pc1 := 144) (pc2 := 149) (Cok.and (pc1 := 137) (Cok.zero (pc1 := 134) (pcT := 137) (pcF := 149) (EokI.iload (i := 11) dX12_rests_132) (JZ.neF (tgt := 149) dX12_rests_134 (by decide))) (Cok.cmp (pc1 := 139) (pc2 := 141) (pcT := 144) (pcF := 149) (EokI.iload (i := 6) dX12_rests_137) (EokI.iload (i := 4) dX12_rests_139) (JI.eqF (tgt := 149) dX12_rests_141 (by decide)))) (EokI.goto (pc1 := 146) (pc2 := 151) (EokI.iload (i := 8) dX12_rests_144) dX12_rests_146 (by decide)) (EokI.iload (i := 7) dX12_rests_149)) (by decide) dX12_rests_151 (show 7 < 12 by decide)) (Sok.setI (i := 6) (pc1 := 166) (EokI.bin (pc1 := 155) (pc2 := 165) (EokI.iload (i := 6) dX12_rests_153) (EokI.cond' (pc1 := 160) (pc2 := 164) (Cok.zero (pc1 := 157) (pcT := 160) (pcF := 164) (EokI.iload (i := 11) dX12_rests_155) (JZ.neF (tgt := 164) dX12_rests_157 (by decide))) (EokI.goto (pc1 := 161) (pc2 := 165) (EokI.iconst (v := 1) dX12_rests_160 (by decide)) dX12_rests_161 (by decide)) (EokI.iconst (v := 0) dX12_rests_164 (by decide))) (OPI.iadd dX12_rests_165)) (by decide) dX12_rests_166 (show 6 < 12 by decide)))))) (Sok.seq (pc1 := 168) Sok.forget (Sok.goto (pc1 := 171) (pcN := 52) (Sok.iinc (i := 8) (v := 1) dX12_rests_168 (show 8 < 12 by decide) (by decide)) dX12_rests_171 (by decide))))
def mX12_rests : MX := bodyOf 12 (sSeq (sSetI 5 (iBool (cAnd (cAnd (cAnd (cZ zne (iCallS mX12_within (aI (iLoc 1) (aI (iK 0) (aI (iK 9) aNil))))) (cZ zne (iCallS mX12_within (aI (iLoc 2) (aI (iK 0) (aI (iK 9) aNil)))))) (cZ zne (iCallS mX12_within (aI (iLoc 3) (aI (iK 0) (aI (iK 9) aNil)))))) (cB rge (iLoc 4) (iK (-1)))))) (sSeq (sSetI 6 (iK 0)) (sSeq (sSetI 7 (iK (-1))) (sSeq (sSeq (sSeq (sSetI 8 (iK 0)) lX12_rests_1) (sForget 8)) (sSeq (sPutI 12 0 .int (rLoc 0) (iCond (cAnd (cZ zne (iLoc 5)) (cOr (cZ zlt (iLoc 4)) (cZ zge (iLoc 7)))) (iK 0) (iK 1))) (sRetI (iCond (cZ zgt (iGet 12 0 (rLoc 0))) (iK 0) (iCond (cZ zlt (iLoc 4)) (iLoc 6) (iLoc 7)))))))))
theorem kX12_rests (g : GT) : MK g 1 yX12_rests cX12_rests 12 (some .int) mX12_rests := MK.of (pcN := 99999) (pcB := 0) (pcC := 0) rfl (Sok.seq (pc1 := 43) (Sok.setI (i := 5) (pc1 := 41) (EokI.cond' (pc1 := 36) (pc2 := 40) (Cok.and (pc1 := 30) (Cok.and (pc1 := 20) (Cok.and (pc1 := 10) (Cok.zero (pc1 := 7) (pcT := 10) (pcF := 40) (EokI.iCallS (pc1 := 4) (Aok.aI (pc1 := 1) (EokI.iload_n (q := 1) dX12_rests_0) (Aok.aI (pc1 := 2) (EokI.iconst (v := 0) dX12_rests_1 (by decide)) (Aok.aI (pc1 := 4) (EokI.bipush (v := 9) dX12_rests_2 (by decide)) Aok.nil))) (kX12_within g) ykX12_within skX12_267 (by decide) (by decide) dX12_rests_4) (JZ.neF (tgt := 40) dX12_rests_7 (by decide))) (Cok.zero (pc1 := 17) (pcT := 20) (pcF := 40) (EokI.iCallS (pc1 := 14) (Aok.aI (pc1 := 11) (EokI.iload_n (q := 2) dX12_rests_10) (Aok.aI (pc1 := 12) (EokI.iconst (v := 0) dX12_rests_11 (by decide)) (Aok.aI (pc1 := 14) (EokI.bipush (v := 9) dX12_rests_12 (by decide)) Aok.nil))) (kX12_within g) ykX12_within skX12_267 (by decide) (by decide) dX12_rests_14) (JZ.neF (tgt := 40) dX12_rests_17 (by decide)))) (Cok.zero (pc1 := 27) (pcT := 30) (pcF := 40) (EokI.iCallS (pc1 := 24) (Aok.aI (pc1 := 21) (EokI.iload_n (q := 3) dX12_rests_20) (Aok.aI (pc1 := 22) (EokI.iconst (v := 0) dX12_rests_21 (by decide)) (Aok.aI (pc1 := 24) (EokI.bipush (v := 9) dX12_rests_22 (by decide)) Aok.nil))) (kX12_within g) ykX12_within skX12_267 (by decide) (by decide) dX12_rests_24) (JZ.neF (tgt := 40) dX12_rests_27 (by decide)))) (Cok.cmp (pc1 := 32) (pc2 := 33) (pcT := 36) (pcF := 40) (EokI.iload (i := 4) dX12_rests_30) (EokI.iconst (v := (-1)) dX12_rests_32 (by decide)) (JI.geF (tgt := 40) dX12_rests_33 (by decide)))) (EokI.goto (pc1 := 37) (pc2 := 41) (EokI.iconst (v := 1) dX12_rests_36 (by decide)) dX12_rests_37 (by decide)) (EokI.iconst (v := 0) dX12_rests_40 (by decide))) (by decide) dX12_rests_41 (show 5 < 12 by decide)) (Sok.seq (pc1 := 46) (Sok.setI (i := 6) (pc1 := 44) (EokI.iconst (v := 0) dX12_rests_43 (by decide)) (by decide) dX12_rests_44 (show 6 < 12 by decide)) (Sok.seq (pc1 := 49) (Sok.setI (i := 7) (pc1 := 47) (EokI.iconst (v := (-1)) dX12_rests_46 (by decide)) (by decide) dX12_rests_47 (show 7 < 12 by decide)) (Sok.seq (pc1 := 174) (Sok.seq (pc1 := 174) (Sok.seq (pc1 := 52) (Sok.setI (i := 8) (pc1 := 50) (EokI.iconst (v := 0) dX12_rests_49 (by decide)) (by decide) dX12_rests_50 (show 8 < 12 by decide)) (olX12_rests_1 g )) (Sok.forget (pc := 174))) (Sok.seq (pc1 := 198) (Sok.putI (ci := 12) (T := TX12) (NN := 27) (tt := tyX12) (j := 0) (pc1 := 175) (pc2 := 195) (ty := .int) (EokR.aload_n (q := 0) dX12_rests_174) (EokI.cond' (pc1 := 190) (pc2 := 194) (Cok.and (pc1 := 180) (Cok.zero (pc1 := 177) (pcT := 180) (pcF := 194) (EokI.iload (i := 5) dX12_rests_175) (JZ.neF (tgt := 194) dX12_rests_177 (by decide))) (Cok.or (pc1 := 185) (Cok.zero (pc1 := 182) (pcT := 190) (pcF := 185) (EokI.iload (i := 4) dX12_rests_180) (JZ.ltT (tgt := 190) dX12_rests_182 (by decide))) (Cok.zero (pc1 := 187) (pcT := 190) (pcF := 194) (EokI.iload (i := 7) dX12_rests_185) (JZ.geF (tgt := 194) dX12_rests_187 (by decide))))) (EokI.goto (pc1 := 191) (pc2 := 195) (EokI.iconst (v := 0) dX12_rests_190 (by decide)) dX12_rests_191 (by decide)) (EokI.iconst (v := 1) dX12_rests_194 (by decide))) (by decide) rfl wsX12_in tyX12_ok nmX12 (by decide) flX12_1 rfl rfl dX12_rests_195) (Sok.retI (pc1 := 221) (EokI.cond' (pc1 := 205) (pc2 := 209) (Cok.zero (pc1 := 202) (pcT := 205) (pcF := 209) (EokI.getf (pc1 := 199) (j := 0) (ci := 12) (T := TX12) (N := 27) (EokR.aload_n (q := 0) dX12_rests_198) rfl wsX12_in (by decide) flX12_1 dX12_rests_199) (JZ.gtF (tgt := 209) dX12_rests_202 (by decide))) (EokI.goto (pc1 := 206) (pc2 := 221) (EokI.iconst (v := 0) dX12_rests_205 (by decide)) dX12_rests_206 (by decide)) (EokI.cond' (pc1 := 214) (pc2 := 219) (Cok.zero (pc1 := 211) (pcT := 214) (pcF := 219) (EokI.iload (i := 4) dX12_rests_209) (JZ.ltF (tgt := 219) dX12_rests_211 (by decide))) (EokI.goto (pc1 := 216) (pc2 := 221) (EokI.iload (i := 6) dX12_rests_214) dX12_rests_216 (by decide)) (EokI.iload (i := 7) dX12_rests_219))) (by decide) dX12_rests_221 rfl))))))
/-! PassHutsModel.draw(I)I -/
theorem dX12_draw_0 : decode cX12_draw 0 = .ok (.aload_n 0, 1) := by decide +kernel
theorem dX12_draw_1 : decode cX12_draw 1 = .ok (.aload_n 0, 1) := by decide +kernel
theorem dX12_draw_2 : decode cX12_draw 2 = .ok (.getfield 384, 3) := by decide +kernel
theorem dX12_draw_5 : decode cX12_draw 5 = .ok (.ldc2_w 388, 3) := by decide +kernel
theorem dX12_draw_8 : decode cX12_draw 8 = .ok (.lmul, 1) := by decide +kernel
theorem dX12_draw_9 : decode cX12_draw 9 = .ok (.ldc2_w 390, 3) := by decide +kernel
theorem dX12_draw_12 : decode cX12_draw 12 = .ok (.ladd, 1) := by decide +kernel
theorem dX12_draw_13 : decode cX12_draw 13 = .ok (.ldc2_w 392, 3) := by decide +kernel
theorem dX12_draw_16 : decode cX12_draw 16 = .ok (.lrem, 1) := by decide +kernel
theorem dX12_draw_17 : decode cX12_draw 17 = .ok (.putfield 384, 3) := by decide +kernel
theorem dX12_draw_20 : decode cX12_draw 20 = .ok (.aload_n 0, 1) := by decide +kernel
theorem dX12_draw_21 : decode cX12_draw 21 = .ok (.getfield 384, 3) := by decide +kernel
theorem dX12_draw_24 : decode cX12_draw 24 = .ok (.ldc2_w 394, 3) := by decide +kernel
theorem dX12_draw_27 : decode cX12_draw 27 = .ok (.ldiv, 1) := by decide +kernel
theorem dX12_draw_28 : decode cX12_draw 28 = .ok (.iload_n 1, 1) := by decide +kernel
theorem dX12_draw_29 : decode cX12_draw 29 = .ok (.i2l, 1) := by decide +kernel
theorem dX12_draw_30 : decode cX12_draw 30 = .ok (.lrem, 1) := by decide +kernel
theorem dX12_draw_31 : decode cX12_draw 31 = .ok (.l2i, 1) := by decide +kernel
theorem dX12_draw_32 : decode cX12_draw 32 = .ok (.ireturn, 1) := by decide +kernel
abbrev tX12_draw (k : Nat) : MT := (RX12, cX12_draw, 2, k, (some .int))
def mX12_draw : MX := bodyOf 2 (sSeq (sPutL 12 26 (rLoc 0) (lB gNZL jlrem (lB gT2 (· + ·) (lB gT2 (· * ·) (lGet 12 26 (rLoc 0)) (lK 1103515245)) (lK 12345)) (lK 2147483648))) (sRetI (iOfL (lB gNZL jlrem (lB gNZL (· / ·) (lGet 12 26 (rLoc 0)) (lK 65536)) (lOfI (iLoc 1))))))
theorem kX12_draw (g : GT) : MK g 0 yX12_draw cX12_draw 2 (some .int) mX12_draw := MK.of (pcN := 99999) (pcB := 0) (pcC := 0) rfl (Sok.seq (pc1 := 20) (Sok.putL (ci := 12) (T := TX12) (NN := 27) (tt := tyX12) (j := 26) (pc1 := 1) (pc2 := 17) (EokR.aload_n (q := 0) dX12_draw_0) (EokL.bin (pc1 := 13) (pc2 := 16) (EokL.bin (pc1 := 9) (pc2 := 12) (EokL.bin (pc1 := 5) (pc2 := 8) (EokL.getf (pc1 := 2) (j := 26) (ci := 12) (T := TX12) (N := 27) (EokR.aload_n (q := 0) dX12_draw_1) rfl wsX12_in (by decide) flX12_384 dX12_draw_2) (EokL.ldc2 (v := 1103515245) ckX12_388 dX12_draw_5) (OPL.lmul dX12_draw_8)) (EokL.ldc2 (v := 12345) ckX12_390 dX12_draw_9) (OPL.ladd dX12_draw_12)) (EokL.ldc2 (v := 2147483648) ckX12_392 dX12_draw_13) (OPL.lrem dX12_draw_16)) (by decide) rfl wsX12_in tyX12_ok nmX12 (by decide) flX12_384 rfl rfl dX12_draw_17) (Sok.retI (pc1 := 32) (EokI.l2i (pc1 := 31) (EokL.bin (pc1 := 28) (pc2 := 30) (EokL.bin (pc1 := 24) (pc2 := 27) (EokL.getf (pc1 := 21) (j := 26) (ci := 12) (T := TX12) (N := 27) (EokR.aload_n (q := 0) dX12_draw_20) rfl wsX12_in (by decide) flX12_384 dX12_draw_21) (EokL.ldc2 (v := 65536) ckX12_394 dX12_draw_24) (OPL.ldiv dX12_draw_27)) (EokL.i2l (pc1 := 29) (EokI.iload_n (q := 1) dX12_draw_28) dX12_draw_29) (OPL.lrem dX12_draw_30)) dX12_draw_31) (by decide) dX12_draw_32 rfl))
/-! PassHutsModel.drawsDeed()Z -/
theorem dX12_drawsDeed_0 : decode cX12_drawsDeed 0 = .ok (.aload_n 0, 1) := by decide +kernel
theorem dX12_drawsDeed_1 : decode cX12_drawsDeed 1 = .ok (.aload_n 0, 1) := by decide +kernel
theorem dX12_drawsDeed_2 : decode cX12_drawsDeed 2 = .ok (.invokevirtual 215, 3) := by decide +kernel
theorem dX12_drawsDeed_5 : decode cX12_drawsDeed 5 = .ok (.invokevirtual 396, 3) := by decide +kernel
theorem dX12_drawsDeed_8 : decode cX12_drawsDeed 8 = .ok (.istore_n 1, 1) := by decide +kernel
theorem dX12_drawsDeed_9 : decode cX12_drawsDeed 9 = .ok (.aload_n 0, 1) := by decide +kernel
theorem dX12_drawsDeed_10 : decode cX12_drawsDeed 10 = .ok (.aload_n 0, 1) := by decide +kernel
theorem dX12_drawsDeed_11 : decode cX12_drawsDeed 11 = .ok (.invokevirtual 215, 3) := by decide +kernel
theorem dX12_drawsDeed_14 : decode cX12_drawsDeed 14 = .ok (.invokevirtual 396, 3) := by decide +kernel
theorem dX12_drawsDeed_17 : decode cX12_drawsDeed 17 = .ok (.istore_n 2, 1) := by decide +kernel
theorem dX12_drawsDeed_18 : decode cX12_drawsDeed 18 = .ok (.aload_n 0, 1) := by decide +kernel
theorem dX12_drawsDeed_19 : decode cX12_drawsDeed 19 = .ok (.iconst 4, 1) := by decide +kernel
theorem dX12_drawsDeed_20 : decode cX12_drawsDeed 20 = .ok (.invokevirtual 396, 3) := by decide +kernel
theorem dX12_drawsDeed_23 : decode cX12_drawsDeed 23 = .ok (.istore_n 3, 1) := by decide +kernel
theorem dX12_drawsDeed_24 : decode cX12_drawsDeed 24 = .ok (.iload_n 3, 1) := by decide +kernel
theorem dX12_drawsDeed_25 : decode cX12_drawsDeed 25 = .ok (.iconst 3, 1) := by decide +kernel
theorem dX12_drawsDeed_26 : decode cX12_drawsDeed 26 = .ok (.if_icmp .ge 21, 3) := by decide +kernel
theorem dX12_drawsDeed_29 : decode cX12_drawsDeed 29 = .ok (.aload_n 0, 1) := by decide +kernel
theorem dX12_drawsDeed_30 : decode cX12_drawsDeed 30 = .ok (.iload_n 1, 1) := by decide +kernel
theorem dX12_drawsDeed_31 : decode cX12_drawsDeed 31 = .ok (.iload_n 2, 1) := by decide +kernel
theorem dX12_drawsDeed_32 : decode cX12_drawsDeed 32 = .ok (.invokevirtual 277, 3) := by decide +kernel
theorem dX12_drawsDeed_35 : decode cX12_drawsDeed 35 = .ok (.ifCond .eq 12, 3) := by decide +kernel
theorem dX12_drawsDeed_38 : decode cX12_drawsDeed 38 = .ok (.aload_n 0, 1) := by decide +kernel
theorem dX12_drawsDeed_39 : decode cX12_drawsDeed 39 = .ok (.iload_n 1, 1) := by decide +kernel
theorem dX12_drawsDeed_40 : decode cX12_drawsDeed 40 = .ok (.iload_n 2, 1) := by decide +kernel
theorem dX12_drawsDeed_41 : decode cX12_drawsDeed 41 = .ok (.iconst 1, 1) := by decide +kernel
theorem dX12_drawsDeed_42 : decode cX12_drawsDeed 42 = .ok (.invokevirtual 284, 3) := by decide +kernel
theorem dX12_drawsDeed_45 : decode cX12_drawsDeed 45 = .ok (.iconst 1, 1) := by decide +kernel
theorem dX12_drawsDeed_46 : decode cX12_drawsDeed 46 = .ok (.ireturn, 1) := by decide +kernel
theorem dX12_drawsDeed_47 : decode cX12_drawsDeed 47 = .ok (.iload_n 3, 1) := by decide +kernel
theorem dX12_drawsDeed_48 : decode cX12_drawsDeed 48 = .ok (.iconst 3, 1) := by decide +kernel
theorem dX12_drawsDeed_49 : decode cX12_drawsDeed 49 = .ok (.if_icmp .ne 30, 3) := by decide +kernel
theorem dX12_drawsDeed_52 : decode cX12_drawsDeed 52 = .ok (.aload_n 0, 1) := by decide +kernel
theorem dX12_drawsDeed_53 : decode cX12_drawsDeed 53 = .ok (.iload_n 1, 1) := by decide +kernel
theorem dX12_drawsDeed_54 : decode cX12_drawsDeed 54 = .ok (.invokevirtual 255, 3) := by decide +kernel
theorem dX12_drawsDeed_57 : decode cX12_drawsDeed 57 = .ok (.ifCond .ne 22, 3) := by decide +kernel
theorem dX12_drawsDeed_60 : decode cX12_drawsDeed 60 = .ok (.aload_n 0, 1) := by decide +kernel
theorem dX12_drawsDeed_61 : decode cX12_drawsDeed 61 = .ok (.invokevirtual 258, 3) := by decide +kernel
theorem dX12_drawsDeed_64 : decode cX12_drawsDeed 64 = .ok (.bipush 12, 2) := by decide +kernel
theorem dX12_drawsDeed_66 : decode cX12_drawsDeed 66 = .ok (.if_icmp .ge 13, 3) := by decide +kernel
theorem dX12_drawsDeed_69 : decode cX12_drawsDeed 69 = .ok (.aload_n 0, 1) := by decide +kernel
theorem dX12_drawsDeed_70 : decode cX12_drawsDeed 70 = .ok (.getfield 100, 3) := by decide +kernel
theorem dX12_drawsDeed_73 : decode cX12_drawsDeed 73 = .ok (.iload_n 1, 1) := by decide +kernel
theorem dX12_drawsDeed_74 : decode cX12_drawsDeed 74 = .ok (.dup2, 1) := by decide +kernel
theorem dX12_drawsDeed_75 : decode cX12_drawsDeed 75 = .ok (.iaload, 1) := by decide +kernel
theorem dX12_drawsDeed_76 : decode cX12_drawsDeed 76 = .ok (.iconst 1, 1) := by decide +kernel
theorem dX12_drawsDeed_77 : decode cX12_drawsDeed 77 = .ok (.iadd, 1) := by decide +kernel
theorem dX12_drawsDeed_78 : decode cX12_drawsDeed 78 = .ok (.iastore, 1) := by decide +kernel
theorem dX12_drawsDeed_79 : decode cX12_drawsDeed 79 = .ok (.iconst 0, 1) := by decide +kernel
theorem dX12_drawsDeed_80 : decode cX12_drawsDeed 80 = .ok (.ireturn, 1) := by decide +kernel
abbrev tX12_drawsDeed (k : Nat) : MT := (RX12, cX12_drawsDeed, 4, k, (some .boolean))
def mX12_drawsDeed : MX := bodyOf 4 (sSeq (sSetI 1 (iCallV 12 mX12_draw (aR (rLoc 0) (aI (iCallV 12 mX12_huts (aR (rLoc 0) aNil)) aNil)))) (sSeq (sSetI 2 (iCallV 12 mX12_draw (aR (rLoc 0) (aI (iCallV 12 mX12_huts (aR (rLoc 0) aNil)) aNil)))) (sSeq (sSetI 3 (iCallV 12 mX12_draw (aR (rLoc 0) (aI (iK 4) aNil)))) (sSeq (sIf (cAnd (cB rlt (iLoc 3) (iK 3)) (cZ zne (iCallV 12 mX12_mayCarry (aR (rLoc 0) (aI (iLoc 1) (aI (iLoc 2) aNil)))))) (sSeq (sCallV 12 mX12_carries (aR (rLoc 0) (aI (iLoc 1) (aI (iLoc 2) (aI (iK 1) aNil))))) (sRetZ (iK 1))) sSkip) (sSeq (sIf (cAnd (cAnd (cB req (iLoc 3) (iK 3)) (cNot (cZ zne (iCallV 12 mX12_isFull (aR (rLoc 0) (aI (iLoc 1) aNil)))))) (cB rlt (iCallV 12 mX12_allLoads (aR (rLoc 0) aNil)) (iK 12))) (sAUpd gT2 (· + ·) (rGet 12 20 (rLoc 0)) (iLoc 1) (iK 1)) sSkip) (sRetZ (iK 0)))))))
theorem kX12_drawsDeed (g : GT) : MK g 3 yX12_drawsDeed cX12_drawsDeed 4 (some .boolean) mX12_drawsDeed := MK.of (pcN := 99999) (pcB := 0) (pcC := 0) rfl (Sok.seq (pc1 := 9) (Sok.setI_n (q := 1) (pc1 := 8) (EokI.iCallV (pc1 := 5) (Aok.aR (pc1 := 1) (EokR.aload_n (q := 0) dX12_drawsDeed_0) (Aok.aI (pc1 := 5) (EokI.iCallV (pc1 := 2) (Aok.aR (pc1 := 2) (EokR.aload_n (q := 0) dX12_drawsDeed_1) Aok.nil) (kX12_huts g) rfl ykX12_huts vkX12_215 (by decide) (by decide) dX12_drawsDeed_2) Aok.nil)) (kX12_draw g) rfl ykX12_draw vkX12_396 (by decide) (by decide) dX12_drawsDeed_5) (by decide) dX12_drawsDeed_8 (show 1 < 4 by decide)) (Sok.seq (pc1 := 18) (Sok.setI_n (q := 2) (pc1 := 17) (EokI.iCallV (pc1 := 14) (Aok.aR (pc1 := 10) (EokR.aload_n (q := 0) dX12_drawsDeed_9) (Aok.aI (pc1 := 14) (EokI.iCallV (pc1 := 11) (Aok.aR (pc1 := 11) (EokR.aload_n (q := 0) dX12_drawsDeed_10) Aok.nil) (kX12_huts g) rfl ykX12_huts vkX12_215 (by decide) (by decide) dX12_drawsDeed_11) Aok.nil)) (kX12_draw g) rfl ykX12_draw vkX12_396 (by decide) (by decide) dX12_drawsDeed_14) (by decide) dX12_drawsDeed_17 (show 2 < 4 by decide)) (Sok.seq (pc1 := 24) (Sok.setI_n (q := 3) (pc1 := 23) (EokI.iCallV (pc1 := 20) (Aok.aR (pc1 := 19) (EokR.aload_n (q := 0) dX12_drawsDeed_18) (Aok.aI (pc1 := 20) (EokI.iconst (v := 4) dX12_drawsDeed_19 (by decide)) Aok.nil)) (kX12_draw g) rfl ykX12_draw vkX12_396 (by decide) (by decide) dX12_drawsDeed_20) (by decide) dX12_drawsDeed_23 (show 3 < 4 by decide)) (Sok.seq (pc1 := 47) (Sok.ite (pc1 := 38) (pc2 := 47) (Cok.and (pc1 := 29) (Cok.cmp (pc1 := 25) (pc2 := 26) (pcT := 29) (pcF := 47) (EokI.iload_n (q := 3) dX12_drawsDeed_24) (EokI.iconst (v := 3) dX12_drawsDeed_25 (by decide)) (JI.ltF (tgt := 47) dX12_drawsDeed_26 (by decide))) (Cok.zero (pc1 := 35) (pcT := 38) (pcF := 47) (EokI.iCallV (pc1 := 32) (Aok.aR (pc1 := 30) (EokR.aload_n (q := 0) dX12_drawsDeed_29) (Aok.aI (pc1 := 31) (EokI.iload_n (q := 1) dX12_drawsDeed_30) (Aok.aI (pc1 := 32) (EokI.iload_n (q := 2) dX12_drawsDeed_31) Aok.nil))) (kX12_mayCarry g) rfl ykX12_mayCarry vkX12_277 (by decide) (by decide) dX12_drawsDeed_32) (JZ.neF (tgt := 47) dX12_drawsDeed_35 (by decide)))) (by decide) (Sok.seq (pc1 := 45) (Sok.sCallV (pc1 := 42) (Aok.aR (pc1 := 39) (EokR.aload_n (q := 0) dX12_drawsDeed_38) (Aok.aI (pc1 := 40) (EokI.iload_n (q := 1) dX12_drawsDeed_39) (Aok.aI (pc1 := 41) (EokI.iload_n (q := 2) dX12_drawsDeed_40) (Aok.aI (pc1 := 42) (EokI.iconst (v := 1) dX12_drawsDeed_41 (by decide)) Aok.nil)))) (by decide) (kX12_carries g) rfl ykX12_carries vkX12_284 (by decide) (by decide) dX12_drawsDeed_42) (Sok.retZ (pc1 := 46) (EokI.iconst (v := 1) dX12_drawsDeed_45 (by decide)) (by decide) dX12_drawsDeed_46 rfl)) (Sok.skip (pc := 47))) (Sok.seq (pc1 := 79) (Sok.ite (pc1 := 69) (pc2 := 79) (Cok.and (pc1 := 60) (Cok.and (pc1 := 52) (Cok.cmp (pc1 := 48) (pc2 := 49) (pcT := 52) (pcF := 79) (EokI.iload_n (q := 3) dX12_drawsDeed_47) (EokI.iconst (v := 3) dX12_drawsDeed_48 (by decide)) (JI.eqF (tgt := 79) dX12_drawsDeed_49 (by decide))) (Cok.not (Cok.zero (pc1 := 57) (pcT := 79) (pcF := 60) (EokI.iCallV (pc1 := 54) (Aok.aR (pc1 := 53) (EokR.aload_n (q := 0) dX12_drawsDeed_52) (Aok.aI (pc1 := 54) (EokI.iload_n (q := 1) dX12_drawsDeed_53) Aok.nil)) (kX12_isFull g) rfl ykX12_isFull vkX12_255 (by decide) (by decide) dX12_drawsDeed_54) (JZ.neT (tgt := 79) dX12_drawsDeed_57 (by decide))))) (Cok.cmp (pc1 := 64) (pc2 := 66) (pcT := 69) (pcF := 79) (EokI.iCallV (pc1 := 61) (Aok.aR (pc1 := 61) (EokR.aload_n (q := 0) dX12_drawsDeed_60) Aok.nil) (kX12_allLoads g) rfl ykX12_allLoads vkX12_258 (by decide) (by decide) dX12_drawsDeed_61) (EokI.bipush (v := 12) dX12_drawsDeed_64 (by decide)) (JI.ltF (tgt := 79) dX12_drawsDeed_66 (by decide)))) (by decide) (Sok.aupd (pc1 := 73) (pc2 := 74) (pc3 := 77) (EokR.getf (pc1 := 70) (j := 20) (ci := 12) (T := TX12) (N := 27) (EokR.aload_n (q := 0) dX12_drawsDeed_69) rfl wsX12_in (by decide) flX12_100 dX12_drawsDeed_70) (EokI.iload_n (q := 1) dX12_drawsDeed_73) dX12_drawsDeed_74 dX12_drawsDeed_75 (EokI.iconst (v := 1) dX12_drawsDeed_76 (by decide)) (OPI.iadd dX12_drawsDeed_77) (by decide) dX12_drawsDeed_78) (Sok.skip (pc := 79))) (Sok.retZ (pc1 := 80) (EokI.iconst (v := 0) dX12_drawsDeed_79 (by decide)) (by decide) dX12_drawsDeed_80 rfl))))))
/-! PassHutsModel.seasons(III)I -/
theorem dX12_seasons_0 : decode cX12_seasons 0 = .ok (.aload_n 0, 1) := by decide +kernel
theorem dX12_seasons_1 : decode cX12_seasons 1 = .ok (.iconst 0, 1) := by decide +kernel
theorem dX12_seasons_2 : decode cX12_seasons 2 = .ok (.putfield 1, 3) := by decide +kernel
theorem dX12_seasons_5 : decode cX12_seasons 5 = .ok (.iload_n 1, 1) := by decide +kernel
theorem dX12_seasons_6 : decode cX12_seasons 6 = .ok (.iconst 0, 1) := by decide +kernel
theorem dX12_seasons_7 : decode cX12_seasons 7 = .ok (.sipush 9999, 3) := by decide +kernel
theorem dX12_seasons_10 : decode cX12_seasons 10 = .ok (.invokestatic 267, 3) := by decide +kernel
theorem dX12_seasons_13 : decode cX12_seasons 13 = .ok (.ifCond .eq 22, 3) := by decide +kernel
theorem dX12_seasons_16 : decode cX12_seasons 16 = .ok (.iload_n 2, 1) := by decide +kernel
theorem dX12_seasons_17 : decode cX12_seasons 17 = .ok (.iconst 1, 1) := by decide +kernel
theorem dX12_seasons_18 : decode cX12_seasons 18 = .ok (.bipush 99, 2) := by decide +kernel
theorem dX12_seasons_20 : decode cX12_seasons 20 = .ok (.invokestatic 267, 3) := by decide +kernel
theorem dX12_seasons_23 : decode cX12_seasons 23 = .ok (.ifCond .eq 12, 3) := by decide +kernel
theorem dX12_seasons_26 : decode cX12_seasons 26 = .ok (.iload_n 3, 1) := by decide +kernel
theorem dX12_seasons_27 : decode cX12_seasons 27 = .ok (.iconst 0, 1) := by decide +kernel
theorem dX12_seasons_28 : decode cX12_seasons 28 = .ok (.iconst 2, 1) := by decide +kernel
theorem dX12_seasons_29 : decode cX12_seasons 29 = .ok (.invokestatic 267, 3) := by decide +kernel
theorem dX12_seasons_32 : decode cX12_seasons 32 = .ok (.ifCond .ne 5, 3) := by decide +kernel
theorem dX12_seasons_35 : decode cX12_seasons 35 = .ok (.iconst (-1), 1) := by decide +kernel
theorem dX12_seasons_36 : decode cX12_seasons 36 = .ok (.ireturn, 1) := by decide +kernel
theorem dX12_seasons_37 : decode cX12_seasons 37 = .ok (.aload_n 0, 1) := by decide +kernel
theorem dX12_seasons_38 : decode cX12_seasons 38 = .ok (.invokevirtual 271, 3) := by decide +kernel
theorem dX12_seasons_41 : decode cX12_seasons 41 = .ok (.aload_n 0, 1) := by decide +kernel
theorem dX12_seasons_42 : decode cX12_seasons 42 = .ok (.iload_n 1, 1) := by decide +kernel
theorem dX12_seasons_43 : decode cX12_seasons 43 = .ok (.i2l, 1) := by decide +kernel
theorem dX12_seasons_44 : decode cX12_seasons 44 = .ok (.putfield 384, 3) := by decide +kernel
theorem dX12_seasons_47 : decode cX12_seasons 47 = .ok (.iconst 0, 1) := by decide +kernel
theorem dX12_seasons_48 : decode cX12_seasons 48 = .ok (.istore 4, 2) := by decide +kernel
theorem dX12_seasons_50 : decode cX12_seasons 50 = .ok (.iconst 0, 1) := by decide +kernel
theorem dX12_seasons_51 : decode cX12_seasons 51 = .ok (.istore 5, 2) := by decide +kernel
theorem dX12_seasons_53 : decode cX12_seasons 53 = .ok (.iload 5, 2) := by decide +kernel
theorem dX12_seasons_55 : decode cX12_seasons 55 = .ok (.iload_n 2, 1) := by decide +kernel
theorem dX12_seasons_56 : decode cX12_seasons 56 = .ok (.if_icmp .ge 33, 3) := by decide +kernel
theorem dX12_seasons_59 : decode cX12_seasons 59 = .ok (.iload 4, 2) := by decide +kernel
theorem dX12_seasons_61 : decode cX12_seasons 61 = .ok (.aload_n 0, 1) := by decide +kernel
theorem dX12_seasons_62 : decode cX12_seasons 62 = .ok (.invokevirtual 215, 3) := by decide +kernel
theorem dX12_seasons_65 : decode cX12_seasons 65 = .ok (.ifCond .le 14, 3) := by decide +kernel
theorem dX12_seasons_68 : decode cX12_seasons 68 = .ok (.aload_n 0, 1) := by decide +kernel
theorem dX12_seasons_69 : decode cX12_seasons 69 = .ok (.invokevirtual 399, 3) := by decide +kernel
theorem dX12_seasons_72 : decode cX12_seasons 72 = .ok (.ifCond .eq 7, 3) := by decide +kernel
theorem dX12_seasons_75 : decode cX12_seasons 75 = .ok (.iconst 1, 1) := by decide +kernel
theorem dX12_seasons_76 : decode cX12_seasons 76 = .ok (.goto 4, 3) := by decide +kernel
theorem dX12_seasons_79 : decode cX12_seasons 79 = .ok (.iconst 0, 1) := by decide +kernel
theorem dX12_seasons_80 : decode cX12_seasons 80 = .ok (.iadd, 1) := by decide +kernel
theorem dX12_seasons_81 : decode cX12_seasons 81 = .ok (.istore 4, 2) := by decide +kernel
theorem dX12_seasons_83 : decode cX12_seasons 83 = .ok (.iinc 5 1, 3) := by decide +kernel
theorem dX12_seasons_86 : decode cX12_seasons 86 = .ok (.goto (-33), 3) := by decide +kernel
theorem dX12_seasons_89 : decode cX12_seasons 89 = .ok (.iload_n 3, 1) := by decide +kernel
theorem dX12_seasons_90 : decode cX12_seasons 90 = .ok (.ifCond .ne 8, 3) := by decide +kernel
theorem dX12_seasons_93 : decode cX12_seasons 93 = .ok (.iload 4, 2) := by decide +kernel
theorem dX12_seasons_95 : decode cX12_seasons 95 = .ok (.goto 19, 3) := by decide +kernel
theorem dX12_seasons_98 : decode cX12_seasons 98 = .ok (.iload_n 3, 1) := by decide +kernel
theorem dX12_seasons_99 : decode cX12_seasons 99 = .ok (.iconst 1, 1) := by decide +kernel
theorem dX12_seasons_100 : decode cX12_seasons 100 = .ok (.if_icmp .ne 10, 3) := by decide +kernel
theorem dX12_seasons_103 : decode cX12_seasons 103 = .ok (.aload_n 0, 1) := by decide +kernel
theorem dX12_seasons_104 : decode cX12_seasons 104 = .ok (.invokevirtual 258, 3) := by decide +kernel
theorem dX12_seasons_107 : decode cX12_seasons 107 = .ok (.goto 7, 3) := by decide +kernel
theorem dX12_seasons_110 : decode cX12_seasons 110 = .ok (.aload_n 0, 1) := by decide +kernel
theorem dX12_seasons_111 : decode cX12_seasons 111 = .ok (.invokevirtual 290, 3) := by decide +kernel
theorem dX12_seasons_114 : decode cX12_seasons 114 = .ok (.ireturn, 1) := by decide +kernel
abbrev tX12_seasons (k : Nat) : MT := (RX12, cX12_seasons, 6, k, (some .int))
def lX12_seasons_1 : SX := (sLoop (cB rlt (iLoc 5) (iLoc 2)) (sSetI 4 (iB gT2 (· + ·) (iLoc 4) (iCond (cAnd (cZ zgt (iCallV 12 mX12_huts (aR (rLoc 0) aNil))) (cZ zne (iCallV 12 mX12_drawsDeed (aR (rLoc 0) aNil)))) (iK 1) (iK 0)))) (sInc 5 1))
theorem olX12_seasons_1 (g : GT) {pcB pcC : Nat} : Sok g (tX12_seasons 4) 53 89 pcB pcC (lX12_seasons_1) := (Sok.loop (pc := 53) (pc1 := 59) (pc2 := 83) (pcN := 89) (Cok.cmp (pc1 := 55) (pc2 := 56) (pcT := 59) (pcF := 89) (EokI.iload (i := 5) dX12_seasons_53) (EokI.iload_n (q := 2) dX12_seasons_55) (JI.ltF (tgt := 89) dX12_seasons_56 (by decide))) (by decide) (Sok.setI (i := 4) (pc1 := 81) (EokI.bin (pc1 := 61) (pc2 := 80) (EokI.iload (i := 4) dX12_seasons_59) (EokI.cond' (pc1 := 75) (pc2 := 79) (Cok.and (pc1 := 68) (Cok.zero (pc1 := 65) (pcT := 68) (pcF := 79) (EokI.iCallV (pc1 := 62) (Aok.aR (pc1 := 62) (EokR.aload_n (q := 0) dX12_seasons_61) Aok.nil) (kX12_huts g) rfl ykX12_huts vkX12_215 (by decide) (by decide) dX12_seasons_62) (JZ.gtF (tgt := 79) dX12_seasons_65 (by decide))) (Cok.zero (pc1 := 72) (pcT := 75) (pcF := 79) (EokI.iCallV (pc1 := 69) (Aok.aR (pc1 := 69) (EokR.aload_n (q := 0) dX12_seasons_68) Aok.nil) (kX12_drawsDeed g) rfl ykX12_drawsDeed vkX12_399 (by decide) (by decide) dX12_seasons_69) (JZ.neF (tgt := 79) dX12_seasons_72 (by decide)))) (EokI.goto (pc1 := 76) (pc2 := 80) (EokI.iconst (v := 1) dX12_seasons_75 (by decide)) dX12_seasons_76 (by decide)) (EokI.iconst (v := 0) dX12_seasons_79 (by decide))) (OPI.iadd dX12_seasons_80)) (by decide) dX12_seasons_81 (show 4 < 6 by decide)) (Sok.goto (pc1 := 86) (pcN := 53) (Sok.iinc (i := 5) (v := 1) dX12_seasons_83 (show 5 < 6 by decide) (by decide)) dX12_seasons_86 (by decide)))
def mX12_seasons : MX := bodyOf 6 (sSeq (sPutI 12 0 .int (rLoc 0) (iK 0)) (sSeq (sIf (cOr (cOr (cNot (cZ zne (iCallS mX12_within (aI (iLoc 1) (aI (iK 0) (aI (iK 9999) aNil)))))) (cNot (cZ zne (iCallS mX12_within (aI (iLoc 2) (aI (iK 1) (aI (iK 99) aNil))))))) (cNot (cZ zne (iCallS mX12_within (aI (iLoc 3) (aI (iK 0) (aI (iK 2) aNil))))))) (sRetI (iK (-1))) sSkip) (sSeq (sCallV 12 mX12_laysNow (aR (rLoc 0) aNil)) (sSeq (sPutL 12 26 (rLoc 0) (lOfI (iLoc 1))) (sSeq (sSetI 4 (iK 0)) (sSeq (sSeq (sSeq (sSetI 5 (iK 0)) lX12_seasons_1) (sForget 5)) (sRetI (iCond (cZ zeq (iLoc 3)) (iLoc 4) (iCond (cB req (iLoc 3) (iK 1)) (iCallV 12 mX12_allLoads (aR (rLoc 0) aNil)) (iCallV 12 mX12_loadedNow (aR (rLoc 0) aNil)))))))))))
theorem kX12_seasons (g : GT) : MK g 4 yX12_seasons cX12_seasons 6 (some .int) mX12_seasons := MK.of (pcN := 99999) (pcB := 0) (pcC := 0) rfl (Sok.seq (pc1 := 5) (Sok.putI (ci := 12) (T := TX12) (NN := 27) (tt := tyX12) (j := 0) (pc1 := 1) (pc2 := 2) (ty := .int) (EokR.aload_n (q := 0) dX12_seasons_0) (EokI.iconst (v := 0) dX12_seasons_1 (by decide)) (by decide) rfl wsX12_in tyX12_ok nmX12 (by decide) flX12_1 rfl rfl dX12_seasons_2) (Sok.seq (pc1 := 37) (Sok.ite (pc1 := 35) (pc2 := 37) (Cok.or (pc1 := 26) (Cok.or (pc1 := 16) (Cok.not (Cok.zero (pc1 := 13) (pcT := 16) (pcF := 35) (EokI.iCallS (pc1 := 10) (Aok.aI (pc1 := 6) (EokI.iload_n (q := 1) dX12_seasons_5) (Aok.aI (pc1 := 7) (EokI.iconst (v := 0) dX12_seasons_6 (by decide)) (Aok.aI (pc1 := 10) (EokI.sipush (v := 9999) dX12_seasons_7 (by decide)) Aok.nil))) (kX12_within g) ykX12_within skX12_267 (by decide) (by decide) dX12_seasons_10) (JZ.neF (tgt := 35) dX12_seasons_13 (by decide)))) (Cok.not (Cok.zero (pc1 := 23) (pcT := 26) (pcF := 35) (EokI.iCallS (pc1 := 20) (Aok.aI (pc1 := 17) (EokI.iload_n (q := 2) dX12_seasons_16) (Aok.aI (pc1 := 18) (EokI.iconst (v := 1) dX12_seasons_17 (by decide)) (Aok.aI (pc1 := 20) (EokI.bipush (v := 99) dX12_seasons_18 (by decide)) Aok.nil))) (kX12_within g) ykX12_within skX12_267 (by decide) (by decide) dX12_seasons_20) (JZ.neF (tgt := 35) dX12_seasons_23 (by decide))))) (Cok.not (Cok.zero (pc1 := 32) (pcT := 37) (pcF := 35) (EokI.iCallS (pc1 := 29) (Aok.aI (pc1 := 27) (EokI.iload_n (q := 3) dX12_seasons_26) (Aok.aI (pc1 := 28) (EokI.iconst (v := 0) dX12_seasons_27 (by decide)) (Aok.aI (pc1 := 29) (EokI.iconst (v := 2) dX12_seasons_28 (by decide)) Aok.nil))) (kX12_within g) ykX12_within skX12_267 (by decide) (by decide) dX12_seasons_29) (JZ.neT (tgt := 37) dX12_seasons_32 (by decide))))) (by decide) (Sok.retI (pc1 := 36) (EokI.iconst (v := (-1)) dX12_seasons_35 (by decide)) (by decide) dX12_seasons_36 rfl) (Sok.skip (pc := 37))) (Sok.seq (pc1 := 41) (Sok.sCallV (pc1 := 38) (Aok.aR (pc1 := 38) (EokR.aload_n (q := 0) dX12_seasons_37) Aok.nil) (by decide) (kX12_laysNow g) rfl ykX12_laysNow vkX12_271 (by decide) (by decide) dX12_seasons_38) (Sok.seq (pc1 := 47) (Sok.putL (ci := 12) (T := TX12) (NN := 27) (tt := tyX12) (j := 26) (pc1 := 42) (pc2 := 44) (EokR.aload_n (q := 0) dX12_seasons_41) (EokL.i2l (pc1 := 43) (EokI.iload_n (q := 1) dX12_seasons_42) dX12_seasons_43) (by decide) rfl wsX12_in tyX12_ok nmX12 (by decide) flX12_384 rfl rfl dX12_seasons_44) (Sok.seq (pc1 := 50) (Sok.setI (i := 4) (pc1 := 48) (EokI.iconst (v := 0) dX12_seasons_47 (by decide)) (by decide) dX12_seasons_48 (show 4 < 6 by decide)) (Sok.seq (pc1 := 89) (Sok.seq (pc1 := 89) (Sok.seq (pc1 := 53) (Sok.setI (i := 5) (pc1 := 51) (EokI.iconst (v := 0) dX12_seasons_50 (by decide)) (by decide) dX12_seasons_51 (show 5 < 6 by decide)) (olX12_seasons_1 g )) (Sok.forget (pc := 89))) (Sok.retI (pc1 := 114) (EokI.cond' (pc1 := 93) (pc2 := 98) (Cok.zero (pc1 := 90) (pcT := 93) (pcF := 98) (EokI.iload_n (q := 3) dX12_seasons_89) (JZ.eqF (tgt := 98) dX12_seasons_90 (by decide))) (EokI.goto (pc1 := 95) (pc2 := 114) (EokI.iload (i := 4) dX12_seasons_93) dX12_seasons_95 (by decide)) (EokI.cond' (pc1 := 103) (pc2 := 110) (Cok.cmp (pc1 := 99) (pc2 := 100) (pcT := 103) (pcF := 110) (EokI.iload_n (q := 3) dX12_seasons_98) (EokI.iconst (v := 1) dX12_seasons_99 (by decide)) (JI.eqF (tgt := 110) dX12_seasons_100 (by decide))) (EokI.goto (pc1 := 107) (pc2 := 114) (EokI.iCallV (pc1 := 104) (Aok.aR (pc1 := 104) (EokR.aload_n (q := 0) dX12_seasons_103) Aok.nil) (kX12_allLoads g) rfl ykX12_allLoads vkX12_258 (by decide) (by decide) dX12_seasons_104) dX12_seasons_107 (by decide)) (EokI.iCallV (pc1 := 111) (Aok.aR (pc1 := 111) (EokR.aload_n (q := 0) dX12_seasons_110) Aok.nil) (kX12_loadedNow g) rfl ykX12_loadedNow vkX12_290 (by decide) (by decide) dX12_seasons_111))) (by decide) dX12_seasons_114 rfl)))))))
/-! PassHutsModel.mark(IZ)Z -/
theorem dX12_mark_0 : decode cX12_mark 0 = .ok (.aload_n 0, 1) := by decide +kernel
theorem dX12_mark_1 : decode cX12_mark 1 = .ok (.iconst 0, 1) := by decide +kernel
theorem dX12_mark_2 : decode cX12_mark 2 = .ok (.putfield 1, 3) := by decide +kernel
theorem dX12_mark_5 : decode cX12_mark 5 = .ok (.iload_n 1, 1) := by decide +kernel
theorem dX12_mark_6 : decode cX12_mark 6 = .ok (.iconst 0, 1) := by decide +kernel
theorem dX12_mark_7 : decode cX12_mark 7 = .ok (.iconst 3, 1) := by decide +kernel
theorem dX12_mark_8 : decode cX12_mark 8 = .ok (.invokestatic 267, 3) := by decide +kernel
theorem dX12_mark_11 : decode cX12_mark 11 = .ok (.ifCond .eq 16, 3) := by decide +kernel
theorem dX12_mark_14 : decode cX12_mark 14 = .ok (.iload_n 2, 1) := by decide +kernel
theorem dX12_mark_15 : decode cX12_mark 15 = .ok (.ifCond .eq 14, 3) := by decide +kernel
theorem dX12_mark_18 : decode cX12_mark 18 = .ok (.aload_n 0, 1) := by decide +kernel
theorem dX12_mark_19 : decode cX12_mark 19 = .ok (.getfield 96, 3) := by decide +kernel
theorem dX12_mark_22 : decode cX12_mark 22 = .ok (.iload_n 1, 1) := by decide +kernel
theorem dX12_mark_23 : decode cX12_mark 23 = .ok (.baload, 1) := by decide +kernel
theorem dX12_mark_24 : decode cX12_mark 24 = .ok (.ifCond .ne 5, 3) := by decide +kernel
theorem dX12_mark_27 : decode cX12_mark 27 = .ok (.iconst 0, 1) := by decide +kernel
theorem dX12_mark_28 : decode cX12_mark 28 = .ok (.ireturn, 1) := by decide +kernel
theorem dX12_mark_29 : decode cX12_mark 29 = .ok (.aload_n 0, 1) := by decide +kernel
theorem dX12_mark_30 : decode cX12_mark 30 = .ok (.getfield 96, 3) := by decide +kernel
theorem dX12_mark_33 : decode cX12_mark 33 = .ok (.iload_n 1, 1) := by decide +kernel
theorem dX12_mark_34 : decode cX12_mark 34 = .ok (.iconst 1, 1) := by decide +kernel
theorem dX12_mark_35 : decode cX12_mark 35 = .ok (.bastore, 1) := by decide +kernel
theorem dX12_mark_36 : decode cX12_mark 36 = .ok (.aload_n 0, 1) := by decide +kernel
theorem dX12_mark_37 : decode cX12_mark 37 = .ok (.iload_n 2, 1) := by decide +kernel
theorem dX12_mark_38 : decode cX12_mark 38 = .ok (.ifCond .eq 12, 3) := by decide +kernel
theorem dX12_mark_41 : decode cX12_mark 41 = .ok (.bipush 31, 2) := by decide +kernel
theorem dX12_mark_43 : decode cX12_mark 43 = .ok (.iconst 1, 1) := by decide +kernel
theorem dX12_mark_44 : decode cX12_mark 44 = .ok (.iload_n 1, 1) := by decide +kernel
theorem dX12_mark_45 : decode cX12_mark 45 = .ok (.iadd, 1) := by decide +kernel
theorem dX12_mark_46 : decode cX12_mark 46 = .ok (.imul, 1) := by decide +kernel
theorem dX12_mark_47 : decode cX12_mark 47 = .ok (.goto 4, 3) := by decide +kernel
theorem dX12_mark_50 : decode cX12_mark 50 = .ok (.iconst 0, 1) := by decide +kernel
theorem dX12_mark_51 : decode cX12_mark 51 = .ok (.iload_n 2, 1) := by decide +kernel
theorem dX12_mark_52 : decode cX12_mark 52 = .ok (.ifCond .eq 7, 3) := by decide +kernel
theorem dX12_mark_55 : decode cX12_mark 55 = .ok (.iconst 0, 1) := by decide +kernel
theorem dX12_mark_56 : decode cX12_mark 56 = .ok (.goto 9, 3) := by decide +kernel
theorem dX12_mark_59 : decode cX12_mark 59 = .ok (.bipush 31, 2) := by decide +kernel
theorem dX12_mark_61 : decode cX12_mark 61 = .ok (.iconst 1, 1) := by decide +kernel
theorem dX12_mark_62 : decode cX12_mark 62 = .ok (.iload_n 1, 1) := by decide +kernel
theorem dX12_mark_63 : decode cX12_mark 63 = .ok (.iadd, 1) := by decide +kernel
theorem dX12_mark_64 : decode cX12_mark 64 = .ok (.imul, 1) := by decide +kernel
theorem dX12_mark_65 : decode cX12_mark 65 = .ok (.bipush 31, 2) := by decide +kernel
theorem dX12_mark_67 : decode cX12_mark 67 = .ok (.invokevirtual 248, 3) := by decide +kernel
theorem dX12_mark_70 : decode cX12_mark 70 = .ok (.aload_n 0, 1) := by decide +kernel
theorem dX12_mark_71 : decode cX12_mark 71 = .ok (.iload_n 2, 1) := by decide +kernel
theorem dX12_mark_72 : decode cX12_mark 72 = .ok (.ifCond .eq 7, 3) := by decide +kernel
theorem dX12_mark_75 : decode cX12_mark 75 = .ok (.iconst 0, 1) := by decide +kernel
theorem dX12_mark_76 : decode cX12_mark 76 = .ok (.goto 7, 3) := by decide +kernel
theorem dX12_mark_79 : decode cX12_mark 79 = .ok (.aload_n 0, 1) := by decide +kernel
theorem dX12_mark_80 : decode cX12_mark 80 = .ok (.getfield 242, 3) := by decide +kernel
theorem dX12_mark_83 : decode cX12_mark 83 = .ok (.putfield 242, 3) := by decide +kernel
theorem dX12_mark_86 : decode cX12_mark 86 = .ok (.iconst 1, 1) := by decide +kernel
theorem dX12_mark_87 : decode cX12_mark 87 = .ok (.ireturn, 1) := by decide +kernel
abbrev tX12_mark (k : Nat) : MT := (RX12, cX12_mark, 3, k, (some .boolean))
def mX12_mark : MX := bodyOf 3 (sSeq (sPutI 12 0 .int (rLoc 0) (iK 0)) (sSeq (sIf (cOr (cNot (cZ zne (iCallS mX12_within (aI (iLoc 1) (aI (iK 0) (aI (iK 3) aNil)))))) (cAnd (cZ zne (iLoc 2)) (cNot (cZ zne (zALd (rGet 12 19 (rLoc 0)) (iLoc 1)))))) (sRetZ (iK 0)) sSkip) (sSeq (sASt 3 narZ (rGet 12 19 (rLoc 0)) (iLoc 1) (iK 1)) (sSeq (sCallV 12 mX12_copies (aR (rLoc 0) (aI (iCond (cZ zne (iLoc 2)) (iB gT2 (· * ·) (iK 31) (iB gT2 (· + ·) (iK 1) (iLoc 1))) (iK 0)) (aI (iCond (cZ zne (iLoc 2)) (iK 0) (iB gT2 (· * ·) (iK 31) (iB gT2 (· + ·) (iK 1) (iLoc 1)))) (aI (iK 31) aNil))))) (sSeq (sPutI 12 18 .int (rLoc 0) (iCond (cZ zne (iLoc 2)) (iK 0) (iGet 12 18 (rLoc 0)))) (sRetZ (iK 1)))))))
theorem kX12_mark (g : GT) : MK g 1 yX12_mark cX12_mark 3 (some .boolean) mX12_mark := MK.of (pcN := 99999) (pcB := 0) (pcC := 0) rfl (Sok.seq (pc1 := 5) (Sok.putI (ci := 12) (T := TX12) (NN := 27) (tt := tyX12) (j := 0) (pc1 := 1) (pc2 := 2) (ty := .int) (EokR.aload_n (q := 0) dX12_mark_0) (EokI.iconst (v := 0) dX12_mark_1 (by decide)) (by decide) rfl wsX12_in tyX12_ok nmX12 (by decide) flX12_1 rfl rfl dX12_mark_2) (Sok.seq (pc1 := 29) (Sok.ite (pc1 := 27) (pc2 := 29) (Cok.or (pc1 := 14) (Cok.not (Cok.zero (pc1 := 11) (pcT := 14) (pcF := 27) (EokI.iCallS (pc1 := 8) (Aok.aI (pc1 := 6) (EokI.iload_n (q := 1) dX12_mark_5) (Aok.aI (pc1 := 7) (EokI.iconst (v := 0) dX12_mark_6 (by decide)) (Aok.aI (pc1 := 8) (EokI.iconst (v := 3) dX12_mark_7 (by decide)) Aok.nil))) (kX12_within g) ykX12_within skX12_267 (by decide) (by decide) dX12_mark_8) (JZ.neF (tgt := 27) dX12_mark_11 (by decide)))) (Cok.and (pc1 := 18) (Cok.zero (pc1 := 15) (pcT := 18) (pcF := 29) (EokI.iload_n (q := 2) dX12_mark_14) (JZ.neF (tgt := 29) dX12_mark_15 (by decide))) (Cok.not (Cok.zero (pc1 := 24) (pcT := 29) (pcF := 27) (EokI.zALd (pc1 := 22) (pc2 := 23) (EokR.getf (pc1 := 19) (j := 19) (ci := 12) (T := TX12) (N := 27) (EokR.aload_n (q := 0) dX12_mark_18) rfl wsX12_in (by decide) flX12_96 dX12_mark_19) (EokI.iload_n (q := 1) dX12_mark_22) dX12_mark_23) (JZ.neT (tgt := 29) dX12_mark_24 (by decide)))))) (by decide) (Sok.retZ (pc1 := 28) (EokI.iconst (v := 0) dX12_mark_27 (by decide)) (by decide) dX12_mark_28 rfl) (Sok.skip (pc := 29))) (Sok.seq (pc1 := 36) (Sok.zASt (pc1 := 33) (pc2 := 34) (pc3 := 35) (EokR.getf (pc1 := 30) (j := 19) (ci := 12) (T := TX12) (N := 27) (EokR.aload_n (q := 0) dX12_mark_29) rfl wsX12_in (by decide) flX12_96 dX12_mark_30) (EokI.iload_n (q := 1) dX12_mark_33) (EokI.iconst (v := 1) dX12_mark_34 (by decide)) (by decide) dX12_mark_35) (Sok.seq (pc1 := 70) (Sok.sCallV (pc1 := 67) (Aok.aR (pc1 := 37) (EokR.aload_n (q := 0) dX12_mark_36) (Aok.aI (pc1 := 51) (EokI.cond' (pc1 := 41) (pc2 := 50) (Cok.zero (pc1 := 38) (pcT := 41) (pcF := 50) (EokI.iload_n (q := 2) dX12_mark_37) (JZ.neF (tgt := 50) dX12_mark_38 (by decide))) (EokI.goto (pc1 := 47) (pc2 := 51) (EokI.bin (pc1 := 43) (pc2 := 46) (EokI.bipush (v := 31) dX12_mark_41 (by decide)) (EokI.bin (pc1 := 44) (pc2 := 45) (EokI.iconst (v := 1) dX12_mark_43 (by decide)) (EokI.iload_n (q := 1) dX12_mark_44) (OPI.iadd dX12_mark_45)) (OPI.imul dX12_mark_46)) dX12_mark_47 (by decide)) (EokI.iconst (v := 0) dX12_mark_50 (by decide))) (Aok.aI (pc1 := 65) (EokI.cond' (pc1 := 55) (pc2 := 59) (Cok.zero (pc1 := 52) (pcT := 55) (pcF := 59) (EokI.iload_n (q := 2) dX12_mark_51) (JZ.neF (tgt := 59) dX12_mark_52 (by decide))) (EokI.goto (pc1 := 56) (pc2 := 65) (EokI.iconst (v := 0) dX12_mark_55 (by decide)) dX12_mark_56 (by decide)) (EokI.bin (pc1 := 61) (pc2 := 64) (EokI.bipush (v := 31) dX12_mark_59 (by decide)) (EokI.bin (pc1 := 62) (pc2 := 63) (EokI.iconst (v := 1) dX12_mark_61 (by decide)) (EokI.iload_n (q := 1) dX12_mark_62) (OPI.iadd dX12_mark_63)) (OPI.imul dX12_mark_64))) (Aok.aI (pc1 := 67) (EokI.bipush (v := 31) dX12_mark_65 (by decide)) Aok.nil)))) (by decide) (kX12_copies g) rfl ykX12_copies vkX12_248 (by decide) (by decide) dX12_mark_67) (Sok.seq (pc1 := 86) (Sok.putI (ci := 12) (T := TX12) (NN := 27) (tt := tyX12) (j := 18) (pc1 := 71) (pc2 := 83) (ty := .int) (EokR.aload_n (q := 0) dX12_mark_70) (EokI.cond' (pc1 := 75) (pc2 := 79) (Cok.zero (pc1 := 72) (pcT := 75) (pcF := 79) (EokI.iload_n (q := 2) dX12_mark_71) (JZ.neF (tgt := 79) dX12_mark_72 (by decide))) (EokI.goto (pc1 := 76) (pc2 := 83) (EokI.iconst (v := 0) dX12_mark_75 (by decide)) dX12_mark_76 (by decide)) (EokI.getf (pc1 := 80) (j := 18) (ci := 12) (T := TX12) (N := 27) (EokR.aload_n (q := 0) dX12_mark_79) rfl wsX12_in (by decide) flX12_242 dX12_mark_80)) (by decide) rfl wsX12_in tyX12_ok nmX12 (by decide) flX12_242 rfl rfl dX12_mark_83) (Sok.retZ (pc1 := 87) (EokI.iconst (v := 1) dX12_mark_86 (by decide)) (by decide) dX12_mark_87 rfl))))))
/-! PassHutsModel.comesNow()I -/
theorem dX12_comesNow_0 : decode cX12_comesNow 0 = .ok (.aload_n 0, 1) := by decide +kernel
theorem dX12_comesNow_1 : decode cX12_comesNow 1 = .ok (.iconst 1, 1) := by decide +kernel
theorem dX12_comesNow_2 : decode cX12_comesNow 2 = .ok (.iconst 0, 1) := by decide +kernel
theorem dX12_comesNow_3 : decode cX12_comesNow 3 = .ok (.invokevirtual 331, 3) := by decide +kernel
theorem dX12_comesNow_6 : decode cX12_comesNow 6 = .ok (.aload_n 0, 1) := by decide +kernel
theorem dX12_comesNow_7 : decode cX12_comesNow 7 = .ok (.invokevirtual 271, 3) := by decide +kernel
theorem dX12_comesNow_10 : decode cX12_comesNow 10 = .ok (.aload_n 0, 1) := by decide +kernel
theorem dX12_comesNow_11 : decode cX12_comesNow 11 = .ok (.invokevirtual 343, 3) := by decide +kernel
theorem dX12_comesNow_14 : decode cX12_comesNow 14 = .ok (.ireturn, 1) := by decide +kernel
abbrev tX12_comesNow (k : Nat) : MT := (RX12, cX12_comesNow, 1, k, (some .int))
def mX12_comesNow : MX := bodyOf 1 (sSeq (sCallV 12 mX12_fills (aR (rLoc 0) (aI (iK 1) (aI (iK 0) aNil)))) (sSeq (sCallV 12 mX12_laysNow (aR (rLoc 0) aNil)) (sRetI (iCallV 12 mX12_comesTo (aR (rLoc 0) aNil)))))
theorem kX12_comesNow (g : GT) : MK g 5 yX12_comesNow cX12_comesNow 1 (some .int) mX12_comesNow := MK.of (pcN := 99999) (pcB := 0) (pcC := 0) rfl (Sok.seq (pc1 := 6) (Sok.sCallV (pc1 := 3) (Aok.aR (pc1 := 1) (EokR.aload_n (q := 0) dX12_comesNow_0) (Aok.aI (pc1 := 2) (EokI.iconst (v := 1) dX12_comesNow_1 (by decide)) (Aok.aI (pc1 := 3) (EokI.iconst (v := 0) dX12_comesNow_2 (by decide)) Aok.nil))) (by decide) (kX12_fills g) rfl ykX12_fills vkX12_331 (by decide) (by decide) dX12_comesNow_3) (Sok.seq (pc1 := 10) (Sok.sCallV (pc1 := 7) (Aok.aR (pc1 := 7) (EokR.aload_n (q := 0) dX12_comesNow_6) Aok.nil) (by decide) (kX12_laysNow g) rfl ykX12_laysNow vkX12_271 (by decide) (by decide) dX12_comesNow_7) (Sok.retI (pc1 := 14) (EokI.iCallV (pc1 := 11) (Aok.aR (pc1 := 11) (EokR.aload_n (q := 0) dX12_comesNow_10) Aok.nil) (kX12_comesTo g) rfl ykX12_comesTo vkX12_343 (by decide) (by decide) dX12_comesNow_11) (by decide) dX12_comesNow_14 rfl)))
/-! PassHutsModel.count(I)I -/
theorem dX12_count_0 : decode cX12_count 0 = .ok (.aload_n 0, 1) := by decide +kernel
theorem dX12_count_1 : decode cX12_count 1 = .ok (.iconst 0, 1) := by decide +kernel
theorem dX12_count_2 : decode cX12_count 2 = .ok (.putfield 1, 3) := by decide +kernel
theorem dX12_count_5 : decode cX12_count 5 = .ok (.aload_n 0, 1) := by decide +kernel
theorem dX12_count_6 : decode cX12_count 6 = .ok (.invokevirtual 271, 3) := by decide +kernel
theorem dX12_count_9 : decode cX12_count 9 = .ok (.iload_n 1, 1) := by decide +kernel
theorem dX12_count_10 : decode cX12_count 10 = .ok (.tableswitch 113 0 9 #[54, 59, 66, 71, 78, 83, 88, 95, 103, 108], 54) := by decide +kernel
theorem dX12_count_64 : decode cX12_count 64 = .ok (.aload_n 0, 1) := by decide +kernel
theorem dX12_count_65 : decode cX12_count 65 = .ok (.invokevirtual 215, 3) := by decide +kernel
theorem dX12_count_68 : decode cX12_count 68 = .ok (.ireturn, 1) := by decide +kernel
theorem dX12_count_69 : decode cX12_count 69 = .ok (.aload_n 0, 1) := by decide +kernel
theorem dX12_count_70 : decode cX12_count 70 = .ok (.getfield 75, 3) := by decide +kernel
theorem dX12_count_73 : decode cX12_count 73 = .ok (.iconst 1, 1) := by decide +kernel
theorem dX12_count_74 : decode cX12_count 74 = .ok (.iaload, 1) := by decide +kernel
theorem dX12_count_75 : decode cX12_count 75 = .ok (.ireturn, 1) := by decide +kernel
theorem dX12_count_76 : decode cX12_count 76 = .ok (.aload_n 0, 1) := by decide +kernel
theorem dX12_count_77 : decode cX12_count 77 = .ok (.invokevirtual 258, 3) := by decide +kernel
theorem dX12_count_80 : decode cX12_count 80 = .ok (.ireturn, 1) := by decide +kernel
theorem dX12_count_81 : decode cX12_count 81 = .ok (.aload_n 0, 1) := by decide +kernel
theorem dX12_count_82 : decode cX12_count 82 = .ok (.getfield 93, 3) := by decide +kernel
theorem dX12_count_85 : decode cX12_count 85 = .ok (.iconst 5, 1) := by decide +kernel
theorem dX12_count_86 : decode cX12_count 86 = .ok (.iaload, 1) := by decide +kernel
theorem dX12_count_87 : decode cX12_count 87 = .ok (.ireturn, 1) := by decide +kernel
theorem dX12_count_88 : decode cX12_count 88 = .ok (.aload_n 0, 1) := by decide +kernel
theorem dX12_count_89 : decode cX12_count 89 = .ok (.invokevirtual 290, 3) := by decide +kernel
theorem dX12_count_92 : decode cX12_count 92 = .ok (.ireturn, 1) := by decide +kernel
theorem dX12_count_93 : decode cX12_count 93 = .ok (.aload_n 0, 1) := by decide +kernel
theorem dX12_count_94 : decode cX12_count 94 = .ok (.invokevirtual 402, 3) := by decide +kernel
theorem dX12_count_97 : decode cX12_count 97 = .ok (.ireturn, 1) := by decide +kernel
theorem dX12_count_98 : decode cX12_count 98 = .ok (.aload_n 0, 1) := by decide +kernel
theorem dX12_count_99 : decode cX12_count 99 = .ok (.getfield 84, 3) := by decide +kernel
theorem dX12_count_102 : decode cX12_count 102 = .ok (.iconst 0, 1) := by decide +kernel
theorem dX12_count_103 : decode cX12_count 103 = .ok (.iaload, 1) := by decide +kernel
theorem dX12_count_104 : decode cX12_count 104 = .ok (.ireturn, 1) := by decide +kernel
theorem dX12_count_105 : decode cX12_count 105 = .ok (.aload_n 0, 1) := by decide +kernel
theorem dX12_count_106 : decode cX12_count 106 = .ok (.getfield 93, 3) := by decide +kernel
theorem dX12_count_109 : decode cX12_count 109 = .ok (.bipush 6, 2) := by decide +kernel
theorem dX12_count_111 : decode cX12_count 111 = .ok (.iaload, 1) := by decide +kernel
theorem dX12_count_112 : decode cX12_count 112 = .ok (.ireturn, 1) := by decide +kernel
theorem dX12_count_113 : decode cX12_count 113 = .ok (.aload_n 0, 1) := by decide +kernel
theorem dX12_count_114 : decode cX12_count 114 = .ok (.getfield 242, 3) := by decide +kernel
theorem dX12_count_117 : decode cX12_count 117 = .ok (.ireturn, 1) := by decide +kernel
theorem dX12_count_118 : decode cX12_count 118 = .ok (.aload_n 0, 1) := by decide +kernel
theorem dX12_count_119 : decode cX12_count 119 = .ok (.getfield 11, 3) := by decide +kernel
theorem dX12_count_122 : decode cX12_count 122 = .ok (.ireturn, 1) := by decide +kernel
theorem dX12_count_123 : decode cX12_count 123 = .ok (.iconst (-1), 1) := by decide +kernel
theorem dX12_count_124 : decode cX12_count 124 = .ok (.ireturn, 1) := by decide +kernel
abbrev tX12_count (k : Nat) : MT := (RX12, cX12_count, 2, k, (some .int))
def mX12_count : MX := bodyOf 2 (sSeq (sPutI 12 0 .int (rLoc 0) (iK 0)) (sSeq (sCallV 12 mX12_laysNow (aR (rLoc 0) aNil)) (sSw (sSwitch 0 (iLoc 1) [(sRetI (iCallV 12 mX12_huts (aR (rLoc 0) aNil))), (sRetI (iALd (rGet 12 10 (rLoc 0)) (iK 1))), (sRetI (iCallV 12 mX12_allLoads (aR (rLoc 0) aNil))), (sRetI (iALd (rGet 12 17 (rLoc 0)) (iK 5))), (sRetI (iCallV 12 mX12_loadedNow (aR (rLoc 0) aNil))), (sRetI (iCallV 12 mX12_comesNow (aR (rLoc 0) aNil))), (sRetI (iALd (rGet 12 14 (rLoc 0)) (iK 0))), (sRetI (iALd (rGet 12 17 (rLoc 0)) (iK 6))), (sRetI (iGet 12 18 (rLoc 0))), (sRetI (iGet 12 2 (rLoc 0)))] (sRetI (iK (-1)))))))
theorem kX12_count (g : GT) : MK g 6 yX12_count cX12_count 2 (some .int) mX12_count := MK.of (pcN := 99999) (pcB := 0) (pcC := 0) rfl (Sok.seq (pc1 := 5) (Sok.putI (ci := 12) (T := TX12) (NN := 27) (tt := tyX12) (j := 0) (pc1 := 1) (pc2 := 2) (ty := .int) (EokR.aload_n (q := 0) dX12_count_0) (EokI.iconst (v := 0) dX12_count_1 (by decide)) (by decide) rfl wsX12_in tyX12_ok nmX12 (by decide) flX12_1 rfl rfl dX12_count_2) (Sok.seq (pc1 := 9) (Sok.sCallV (pc1 := 6) (Aok.aR (pc1 := 6) (EokR.aload_n (q := 0) dX12_count_5) Aok.nil) (by decide) (kX12_laysNow g) rfl ykX12_laysNow vkX12_271 (by decide) (by decide) dX12_count_6) (Sok.swB (Sok.tswitch (pc1 := 10) (pd := 123) (pcs := [64, 69, 76, 81, 88, 93, 98, 105, 113, 118]) (pcN := 99999) (pcB := 99999) (EokI.iload_n (q := 1) dX12_count_9) (by decide) dX12_count_10 (by decide) rfl (by decide) (by decide) (sw_list (pd := 123) (d := (sRetI (iK (-1)))) ⟨(Sok.retI (pc1 := 68) (EokI.iCallV (pc1 := 65) (Aok.aR (pc1 := 65) (EokR.aload_n (q := 0) dX12_count_64) Aok.nil) (kX12_huts g) rfl ykX12_huts vkX12_215 (by decide) (by decide) dX12_count_65) (by decide) dX12_count_68 rfl), (Sok.retI (pc1 := 75) (EokI.iALd (pc1 := 73) (pc2 := 74) (EokR.getf (pc1 := 70) (j := 10) (ci := 12) (T := TX12) (N := 27) (EokR.aload_n (q := 0) dX12_count_69) rfl wsX12_in (by decide) flX12_75 dX12_count_70) (EokI.iconst (v := 1) dX12_count_73 (by decide)) dX12_count_74) (by decide) dX12_count_75 rfl), (Sok.retI (pc1 := 80) (EokI.iCallV (pc1 := 77) (Aok.aR (pc1 := 77) (EokR.aload_n (q := 0) dX12_count_76) Aok.nil) (kX12_allLoads g) rfl ykX12_allLoads vkX12_258 (by decide) (by decide) dX12_count_77) (by decide) dX12_count_80 rfl), (Sok.retI (pc1 := 87) (EokI.iALd (pc1 := 85) (pc2 := 86) (EokR.getf (pc1 := 82) (j := 17) (ci := 12) (T := TX12) (N := 27) (EokR.aload_n (q := 0) dX12_count_81) rfl wsX12_in (by decide) flX12_93 dX12_count_82) (EokI.iconst (v := 5) dX12_count_85 (by decide)) dX12_count_86) (by decide) dX12_count_87 rfl), (Sok.retI (pc1 := 92) (EokI.iCallV (pc1 := 89) (Aok.aR (pc1 := 89) (EokR.aload_n (q := 0) dX12_count_88) Aok.nil) (kX12_loadedNow g) rfl ykX12_loadedNow vkX12_290 (by decide) (by decide) dX12_count_89) (by decide) dX12_count_92 rfl), (Sok.retI (pc1 := 97) (EokI.iCallV (pc1 := 94) (Aok.aR (pc1 := 94) (EokR.aload_n (q := 0) dX12_count_93) Aok.nil) (kX12_comesNow g) rfl ykX12_comesNow vkX12_402 (by decide) (by decide) dX12_count_94) (by decide) dX12_count_97 rfl), (Sok.retI (pc1 := 104) (EokI.iALd (pc1 := 102) (pc2 := 103) (EokR.getf (pc1 := 99) (j := 14) (ci := 12) (T := TX12) (N := 27) (EokR.aload_n (q := 0) dX12_count_98) rfl wsX12_in (by decide) flX12_84 dX12_count_99) (EokI.iconst (v := 0) dX12_count_102 (by decide)) dX12_count_103) (by decide) dX12_count_104 rfl), (Sok.retI (pc1 := 112) (EokI.iALd (pc1 := 109) (pc2 := 111) (EokR.getf (pc1 := 106) (j := 17) (ci := 12) (T := TX12) (N := 27) (EokR.aload_n (q := 0) dX12_count_105) rfl wsX12_in (by decide) flX12_93 dX12_count_106) (EokI.bipush (v := 6) dX12_count_109 (by decide)) dX12_count_111) (by decide) dX12_count_112 rfl), (Sok.retI (pc1 := 117) (EokI.getf (pc1 := 114) (j := 18) (ci := 12) (T := TX12) (N := 27) (EokR.aload_n (q := 0) dX12_count_113) rfl wsX12_in (by decide) flX12_242 dX12_count_114) (by decide) dX12_count_117 rfl), (Sok.retI (pc1 := 122) (EokI.getf (pc1 := 119) (j := 2) (ci := 12) (T := TX12) (N := 27) (EokR.aload_n (q := 0) dX12_count_118) rfl wsX12_in (by decide) flX12_11 dX12_count_119) (by decide) dX12_count_122 rfl), trivial⟩) (Sok.retI (pc1 := 124) (EokI.iconst (v := (-1)) dX12_count_123 (by decide)) (by decide) dX12_count_124 rfl)))))
