set_option maxRecDepth 20000
set_option maxHeartbeats 4000000
set_option linter.all false
/-! PassHuts.rests, lifted up to the places where it throws; the rows of the law's own static rests -/
theorem ykX11_isStake : yok yX11_isStake 1 := by unfold yok; decide +kernel
theorem wcX11_isStake : Cond.code yX11_isStake cX11_isStake 1 (some .boolean) ∈ WD := WD_mem (i := 1381) rfl rfl
theorem wiX11_isStake : Cond.initialized (yX11_isStake).cls ∈ WD := WD_mem (i := 119) (by decide +kernel) rfl
theorem wsX11_isStake : Cond.static yX11_isStake ∈ WD := WD_mem (i := 1380) (by decide +kernel) rfl
theorem ykX11_isRest : yok yX11_isRest 4 := by unfold yok; decide +kernel
theorem wcX11_isRest : Cond.code yX11_isRest cX11_isRest 6 (some .boolean) ∈ WD := WD_mem (i := 1445) rfl rfl
theorem wiX11_isRest : Cond.initialized (yX11_isRest).cls ∈ WD := WD_mem (i := 119) (by decide +kernel) rfl
theorem wsX11_isRest : Cond.static yX11_isRest ∈ WD := WD_mem (i := 1444) (by decide +kernel) rfl
theorem skX11_298 : sok RX11 298 yX11_isStake cX11_isStake 1 (some .boolean) := sok_of (WD_mem (i := 1379) (by decide +kernel) rfl) wsX11_isStake wiX11_isStake wcX11_isStake
theorem skX11_304 : sok RX11 304 yX11_isRest cX11_isRest 6 (some .boolean) := sok_of (WD_mem (i := 1443) (by decide +kernel) rfl) wsX11_isRest wiX11_isRest wcX11_isRest
theorem dX11_rests_0 : decode cX11_rests 0 = .ok (.iload_n 1, 1) := by decide +kernel
theorem dX11_rests_1 : decode cX11_rests 1 = .ok (.invokestatic 298, 3) := by decide +kernel
theorem dX11_rests_4 : decode cX11_rests 4 = .ok (.ifCond .eq 23, 3) := by decide +kernel
theorem dX11_rests_7 : decode cX11_rests 7 = .ok (.iload_n 2, 1) := by decide +kernel
theorem dX11_rests_8 : decode cX11_rests 8 = .ok (.invokestatic 298, 3) := by decide +kernel
theorem dX11_rests_11 : decode cX11_rests 11 = .ok (.ifCond .eq 16, 3) := by decide +kernel
theorem dX11_rests_14 : decode cX11_rests 14 = .ok (.iload_n 3, 1) := by decide +kernel
theorem dX11_rests_15 : decode cX11_rests 15 = .ok (.invokestatic 298, 3) := by decide +kernel
theorem dX11_rests_18 : decode cX11_rests 18 = .ok (.ifCond .eq 9, 3) := by decide +kernel
theorem dX11_rests_21 : decode cX11_rests 21 = .ok (.iload 4, 2) := by decide +kernel
theorem dX11_rests_23 : decode cX11_rests 23 = .ok (.iconst (-1), 1) := by decide +kernel
theorem dX11_rests_24 : decode cX11_rests 24 = .ok (.if_icmp .ge 11, 3) := by decide +kernel
theorem dX11_rests_27 : decode cX11_rests 27 = .ok (.new 301, 3) := by decide +kernel
theorem dX11_rests_30 : decode cX11_rests 30 = .ok (.dup, 1) := by decide +kernel
theorem dX11_rests_31 : decode cX11_rests 31 = .ok (.invokespecial 303, 3) := by decide +kernel
theorem dX11_rests_34 : decode cX11_rests 34 = .ok (.athrow, 1) := by decide +kernel
theorem dX11_rests_35 : decode cX11_rests 35 = .ok (.iconst 0, 1) := by decide +kernel
theorem dX11_rests_36 : decode cX11_rests 36 = .ok (.istore 5, 2) := by decide +kernel
theorem dX11_rests_38 : decode cX11_rests 38 = .ok (.iconst 0, 1) := by decide +kernel
theorem dX11_rests_39 : decode cX11_rests 39 = .ok (.istore 6, 2) := by decide +kernel
theorem dX11_rests_41 : decode cX11_rests 41 = .ok (.iload 6, 2) := by decide +kernel
theorem dX11_rests_43 : decode cX11_rests 43 = .ok (.iconst 4, 1) := by decide +kernel
theorem dX11_rests_44 : decode cX11_rests 44 = .ok (.if_icmp .ge 33, 3) := by decide +kernel
theorem dX11_rests_47 : decode cX11_rests 47 = .ok (.iload_n 1, 1) := by decide +kernel
theorem dX11_rests_48 : decode cX11_rests 48 = .ok (.iload_n 2, 1) := by decide +kernel
theorem dX11_rests_49 : decode cX11_rests 49 = .ok (.iload_n 3, 1) := by decide +kernel
theorem dX11_rests_50 : decode cX11_rests 50 = .ok (.iload 6, 2) := by decide +kernel
theorem dX11_rests_52 : decode cX11_rests 52 = .ok (.invokestatic 304, 3) := by decide +kernel
theorem dX11_rests_55 : decode cX11_rests 55 = .ok (.ifCond .eq 16, 3) := by decide +kernel
theorem dX11_rests_58 : decode cX11_rests 58 = .ok (.iload 5, 2) := by decide +kernel
theorem dX11_rests_60 : decode cX11_rests 60 = .ok (.iload 4, 2) := by decide +kernel
theorem dX11_rests_62 : decode cX11_rests 62 = .ok (.if_icmp .ne 6, 3) := by decide +kernel
theorem dX11_rests_65 : decode cX11_rests 65 = .ok (.iload 6, 2) := by decide +kernel
theorem dX11_rests_67 : decode cX11_rests 67 = .ok (.ireturn, 1) := by decide +kernel
theorem dX11_rests_68 : decode cX11_rests 68 = .ok (.iinc 5 1, 3) := by decide +kernel
theorem dX11_rests_71 : decode cX11_rests 71 = .ok (.iinc 6 1, 3) := by decide +kernel
theorem dX11_rests_74 : decode cX11_rests 74 = .ok (.goto (-33), 3) := by decide +kernel
theorem dX11_rests_77 : decode cX11_rests 77 = .ok (.iload 4, 2) := by decide +kernel
theorem dX11_rests_79 : decode cX11_rests 79 = .ok (.iconst (-1), 1) := by decide +kernel
theorem dX11_rests_80 : decode cX11_rests 80 = .ok (.if_icmp .eq 11, 3) := by decide +kernel
theorem dX11_rests_83 : decode cX11_rests 83 = .ok (.new 301, 3) := by decide +kernel
theorem dX11_rests_86 : decode cX11_rests 86 = .ok (.dup, 1) := by decide +kernel
theorem dX11_rests_87 : decode cX11_rests 87 = .ok (.invokespecial 303, 3) := by decide +kernel
theorem dX11_rests_90 : decode cX11_rests 90 = .ok (.athrow, 1) := by decide +kernel
theorem dX11_rests_91 : decode cX11_rests 91 = .ok (.iload 5, 2) := by decide +kernel
theorem dX11_rests_93 : decode cX11_rests 93 = .ok (.ireturn, 1) := by decide +kernel
theorem dL_rests_0 : decode cL_rests 0 = .ok (.aload 5, 2) := by decide +kernel
theorem dL_rests_2 : decode cL_rests 2 = .ok (.iconst 0, 1) := by decide +kernel
theorem dL_rests_3 : decode cL_rests 3 = .ok (.aload_n 0, 1) := by decide +kernel
theorem dL_rests_4 : decode cL_rests 4 = .ok (.iload_n 1, 1) := by decide +kernel
theorem dL_rests_5 : decode cL_rests 5 = .ok (.iload_n 2, 1) := by decide +kernel
theorem dL_rests_6 : decode cL_rests 6 = .ok (.iload_n 3, 1) := by decide +kernel
theorem dL_rests_7 : decode cL_rests 7 = .ok (.iload 4, 2) := by decide +kernel
theorem dL_rests_9 : decode cL_rests 9 = .ok (.invokevirtual 7, 3) := by decide +kernel
theorem dL_rests_12 : decode cL_rests 12 = .ok (.i2l, 1) := by decide +kernel
theorem dL_rests_13 : decode cL_rests 13 = .ok (.lastore, 1) := by decide +kernel
theorem dL_rests_14 : decode cL_rests 14 = .ok (.goto 7, 3) := by decide +kernel
theorem dL_rests_17 : decode cL_rests 17 = .ok (.astore 6, 2) := by decide +kernel
theorem dL_rests_19 : decode cL_rests 19 = .ok (.iconst 1, 1) := by decide +kernel
theorem dL_rests_20 : decode cL_rests 20 = .ok (.ireturn, 1) := by decide +kernel
theorem dL_rests_21 : decode cL_rests 21 = .ok (.iconst 0, 1) := by decide +kernel
theorem dL_rests_22 : decode cL_rests 22 = .ok (.ireturn, 1) := by decide +kernel
abbrev tX11_rests : MT := (RX11, cX11_rests, 7, 6, some .int)
def lX11_rests_1 : SX := (sLoop (cB rlt (iLoc 6) (iK 4)) (sIf (cZ zne (iCallS mX11_isRest (aI (iLoc 1) (aI (iLoc 2) (aI (iLoc 3) (aI (iLoc 6) aNil)))))) (sSeq (sIf (cB req (iLoc 5) (iLoc 4)) (sRetI (iLoc 6)) sSkip) (sInc 5 1)) sSkip) (sInc 6 1))
theorem olX11_rests_1 (g : GT) {pcB pcC : Nat} : Sok g tX11_rests 41 77 pcB pcC lX11_rests_1 := (Sok.loop (pc := 41) (pc1 := 47) (pc2 := 71) (pcN := 77) (Cok.cmp (pc1 := 43) (pc2 := 44) (pcT := 47) (pcF := 77) (EokI.iload (i := 6) dX11_rests_41) (EokI.iconst (v := 4) dX11_rests_43 (by decide)) (JI.ltF (tgt := 77) dX11_rests_44 (by decide))) (by decide) (Sok.ite (pc1 := 58) (pc2 := 71) (Cok.zero (pc1 := 55) (pcT := 58) (pcF := 71) (EokI.iCallS (pc1 := 52) (Aok.aI (pc1 := 48) (EokI.iload_n (q := 1) dX11_rests_47) (Aok.aI (pc1 := 49) (EokI.iload_n (q := 2) dX11_rests_48) (Aok.aI (pc1 := 50) (EokI.iload_n (q := 3) dX11_rests_49) (Aok.aI (pc1 := 52) (EokI.iload (i := 6) dX11_rests_50) Aok.nil)))) (kX11_isRest g) ykX11_isRest skX11_304 (by decide) (by decide) dX11_rests_52) (JZ.neF (tgt := 71) dX11_rests_55 (by decide))) (by decide) (Sok.seq (pc1 := 68) (Sok.ite (pc1 := 65) (pc2 := 68) (Cok.cmp (pc1 := 60) (pc2 := 62) (pcT := 65) (pcF := 68) (EokI.iload (i := 5) dX11_rests_58) (EokI.iload (i := 4) dX11_rests_60) (JI.eqF (tgt := 68) dX11_rests_62 (by decide))) (by decide) (Sok.retI (pc1 := 67) (EokI.iload (i := 6) dX11_rests_65) (by decide) dX11_rests_67 rfl) (Sok.skip (pc := 68))) (Sok.iinc (i := 5) (v := 1) dX11_rests_68 (show 5 < 7 by decide) (by decide))) (Sok.skip (pc := 71))) (Sok.goto (pc1 := 74) (pcN := 41) (Sok.iinc (i := 6) (v := 1) dX11_rests_71 (show 6 < 7 by decide) (by decide)) dX11_rests_74 (by decide)))
def lR_1 : SX := (sIf (cOr (cOr (cOr (cNot (cZ zne (iCallS mX11_isStake (aI (iLoc 1) aNil)))) (cNot (cZ zne (iCallS mX11_isStake (aI (iLoc 2) aNil))))) (cNot (cZ zne (iCallS mX11_isStake (aI (iLoc 3) aNil))))) (cB rlt (iLoc 4) (iK (-1)))) sBreak sSkip)
theorem oR_1 (g : GT) : Sok g tX11_rests 0 35 27 0 lR_1 := (Sok.ite (pc1 := 27) (pc2 := 35) (Cok.or (pc1 := 21) (Cok.or (pc1 := 14) (Cok.or (pc1 := 7) (Cok.not (Cok.zero (pc1 := 4) (pcT := 7) (pcF := 27) (EokI.iCallS (pc1 := 1) (Aok.aI (pc1 := 1) (EokI.iload_n (q := 1) dX11_rests_0) Aok.nil) (kX11_isStake g) ykX11_isStake skX11_298 (by decide) (by decide) dX11_rests_1) (JZ.neF (tgt := 27) dX11_rests_4 (by decide)))) (Cok.not (Cok.zero (pc1 := 11) (pcT := 14) (pcF := 27) (EokI.iCallS (pc1 := 8) (Aok.aI (pc1 := 8) (EokI.iload_n (q := 2) dX11_rests_7) Aok.nil) (kX11_isStake g) ykX11_isStake skX11_298 (by decide) (by decide) dX11_rests_8) (JZ.neF (tgt := 27) dX11_rests_11 (by decide))))) (Cok.not (Cok.zero (pc1 := 18) (pcT := 21) (pcF := 27) (EokI.iCallS (pc1 := 15) (Aok.aI (pc1 := 15) (EokI.iload_n (q := 3) dX11_rests_14) Aok.nil) (kX11_isStake g) ykX11_isStake skX11_298 (by decide) (by decide) dX11_rests_15) (JZ.neF (tgt := 27) dX11_rests_18 (by decide))))) (Cok.cmp (pc1 := 23) (pc2 := 24) (pcT := 27) (pcF := 35) (EokI.iload (i := 4) dX11_rests_21) (EokI.iconst (v := (-1)) dX11_rests_23 (by decide)) (JI.ltF (tgt := 35) dX11_rests_24 (by decide)))) (by decide) Sok.brk0 (Sok.skip (pc := 35)))
def lR_2 : SX := (sSeq (sSetI 5 (iK 0)) (sSeq (sSeq (sSetI 6 (iK 0)) lX11_rests_1) (sForget 6)))
theorem oR_2 (g : GT) : Sok g tX11_rests 35 77 0 0 lR_2 := (Sok.seq (pc1 := 38) (Sok.setI (i := 5) (pc1 := 36) (EokI.iconst (v := 0) dX11_rests_35 (by decide)) (by decide) dX11_rests_36 (show 5 < 7 by decide)) (Sok.seq (pc1 := 77) (Sok.seq (pc1 := 41) (Sok.setI (i := 6) (pc1 := 39) (EokI.iconst (v := 0) dX11_rests_38 (by decide)) (by decide) dX11_rests_39 (show 6 < 7 by decide)) (olX11_rests_1 g )) (Sok.forget (pc := 77))))
def lR_3 : SX := (sIf (cB rne (iLoc 4) (iK (-1))) sBreak sSkip)
theorem oR_3 (g : GT) : Sok g tX11_rests 77 91 83 0 lR_3 := (Sok.ite (pc1 := 83) (pc2 := 91) (Cok.cmp (pc1 := 79) (pc2 := 80) (pcT := 83) (pcF := 91) (EokI.iload (i := 4) dX11_rests_77) (EokI.iconst (v := (-1)) dX11_rests_79 (by decide)) (JI.neF (tgt := 91) dX11_rests_80 (by decide))) (by decide) Sok.brk0 (Sok.skip (pc := 91)))
def lR_4 : SX := (sRetI (iLoc 5))
theorem oR_4 (g : GT) : Sok g tX11_rests 91 99999 0 0 lR_4 := (Sok.retI (pc1 := 93) (EokI.iload (i := 5) dX11_rests_91) (by decide) dX11_rests_93 rfl)
