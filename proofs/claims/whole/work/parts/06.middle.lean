set_option maxRecDepth 20000
set_option maxHeartbeats 4000000
/-! PassHuts$Reader.wrong(I)V -/
theorem dX4_wrong_0 : decode cX4_wrong 0 = .ok (.aload_n 0, 1) := by decide +kernel
theorem dX4_wrong_1 : decode cX4_wrong 1 = .ok (.getfield 29, 3) := by decide +kernel
theorem dX4_wrong_4 : decode cX4_wrong 4 = .ok (.ifCond .ne 19, 3) := by decide +kernel
theorem dX4_wrong_7 : decode cX4_wrong 7 = .ok (.aload_n 0, 1) := by decide +kernel
theorem dX4_wrong_8 : decode cX4_wrong 8 = .ok (.iload_n 1, 1) := by decide +kernel
theorem dX4_wrong_9 : decode cX4_wrong 9 = .ok (.bipush 16, 2) := by decide +kernel
theorem dX4_wrong_11 : decode cX4_wrong 11 = .ok (.aload_n 0, 1) := by decide +kernel
theorem dX4_wrong_12 : decode cX4_wrong 12 = .ok (.getfield 20, 3) := by decide +kernel
theorem dX4_wrong_15 : decode cX4_wrong 15 = .ok (.getfield 66, 3) := by decide +kernel
theorem dX4_wrong_18 : decode cX4_wrong 18 = .ok (.imul, 1) := by decide +kernel
theorem dX4_wrong_19 : decode cX4_wrong 19 = .ok (.iadd, 1) := by decide +kernel
theorem dX4_wrong_20 : decode cX4_wrong 20 = .ok (.putfield 29, 3) := by decide +kernel
theorem dX4_wrong_23 : decode cX4_wrong 23 = .ok (.return_, 1) := by decide +kernel
abbrev tX4_wrong (k : Nat) : MT := (RX4, cX4_wrong, 2, k, none)
def mX4_wrong : MX := bodyOf 2 (sSeq (sIf (cZ zeq (iGet 4 2 (rLoc 0))) (sPutI 4 2 .int (rLoc 0) (iB gT2 (· + ·) (iLoc 1) (iB gT2 (· * ·) (iK 16) (iGet 8 2 (rGet 4 1 (rLoc 0)))))) sSkip) sRetV)
theorem kX4_wrong (g : GT) : MK g 0 yX4_wrong cX4_wrong 2 none mX4_wrong := MK.of (pcN := 99999) (pcB := 0) (pcC := 0) rfl (Sok.seq (pc1 := 23) (Sok.ite (pc1 := 7) (pc2 := 23) (Cok.zero (pc1 := 4) (pcT := 7) (pcF := 23) (EokI.getf (pc1 := 1) (j := 2) (ci := 4) (T := TX4) (N := 3) (EokR.aload_n (q := 0) dX4_wrong_0) rfl wsX4_in (by decide) flX4_29 dX4_wrong_1) (JZ.eqF (tgt := 23) dX4_wrong_4 (by decide))) (by decide) (Sok.putI (ci := 4) (T := TX4) (NN := 3) (tt := tyX4) (j := 2) (pc1 := 8) (pc2 := 20) (ty := .int) (EokR.aload_n (q := 0) dX4_wrong_7) (EokI.bin (pc1 := 9) (pc2 := 19) (EokI.iload_n (q := 1) dX4_wrong_8) (EokI.bin (pc1 := 11) (pc2 := 18) (EokI.bipush (v := 16) dX4_wrong_9 (by decide)) (EokI.getf (pc1 := 15) (j := 2) (ci := 8) (T := TX8) (N := 6) (EokR.getf (pc1 := 12) (j := 1) (ci := 4) (T := TX4) (N := 3) (EokR.aload_n (q := 0) dX4_wrong_11) rfl wsX4_in (by decide) flX4_20 dX4_wrong_12) rfl wsX8_in (by decide) flX4_66 dX4_wrong_15) (OPI.imul dX4_wrong_18)) (OPI.iadd dX4_wrong_19)) (by decide) rfl wsX4_in tyX4_ok nmX4 (by decide) flX4_29 rfl rfl dX4_wrong_20) (Sok.skip (pc := 23))) (Sok.retV dX4_wrong_23 rfl))
/-! PassHuts$Reader.expect(I)V -/
theorem dX4_expect_0 : decode cX4_expect 0 = .ok (.aload_n 0, 1) := by decide +kernel
theorem dX4_expect_1 : decode cX4_expect 1 = .ok (.getfield 29, 3) := by decide +kernel
theorem dX4_expect_4 : decode cX4_expect 4 = .ok (.ifCond .eq 4, 3) := by decide +kernel
theorem dX4_expect_7 : decode cX4_expect 7 = .ok (.return_, 1) := by decide +kernel
theorem dX4_expect_8 : decode cX4_expect 8 = .ok (.aload_n 0, 1) := by decide +kernel
theorem dX4_expect_9 : decode cX4_expect 9 = .ok (.getfield 20, 3) := by decide +kernel
theorem dX4_expect_12 : decode cX4_expect 12 = .ok (.getfield 36, 3) := by decide +kernel
theorem dX4_expect_15 : decode cX4_expect 15 = .ok (.iload_n 1, 1) := by decide +kernel
theorem dX4_expect_16 : decode cX4_expect 16 = .ok (.if_icmp .ne 13, 3) := by decide +kernel
theorem dX4_expect_19 : decode cX4_expect 19 = .ok (.aload_n 0, 1) := by decide +kernel
theorem dX4_expect_20 : decode cX4_expect 20 = .ok (.getfield 20, 3) := by decide +kernel
theorem dX4_expect_23 : decode cX4_expect 23 = .ok (.invokevirtual 69, 3) := by decide +kernel
theorem dX4_expect_26 : decode cX4_expect 26 = .ok (.goto 8, 3) := by decide +kernel
theorem dX4_expect_29 : decode cX4_expect 29 = .ok (.aload_n 0, 1) := by decide +kernel
theorem dX4_expect_30 : decode cX4_expect 30 = .ok (.iconst 1, 1) := by decide +kernel
theorem dX4_expect_31 : decode cX4_expect 31 = .ok (.invokevirtual 49, 3) := by decide +kernel
theorem dX4_expect_34 : decode cX4_expect 34 = .ok (.return_, 1) := by decide +kernel
abbrev tX4_expect (k : Nat) : MT := (RX4, cX4_expect, 2, k, none)
def mX4_expect : MX := bodyOf 2 (sSeq (sSeq (sIf (cZ zne (iGet 4 2 (rLoc 0))) sRetV sSkip) (sIf (cB req (iGet 8 3 (rGet 4 1 (rLoc 0))) (iLoc 1)) (sCallV 8 mX8_next (aR (rGet 4 1 (rLoc 0)) aNil)) (sCallV 4 mX4_wrong (aR (rLoc 0) (aI (iK 1) aNil))))) sRetV)
theorem kX4_expect (g : GT) : MK g 3 yX4_expect cX4_expect 2 none mX4_expect := MK.of (pcN := 99999) (pcB := 0) (pcC := 0) rfl (Sok.seq (pc1 := 34) (Sok.seq (pc1 := 8) (Sok.ite (pc1 := 7) (pc2 := 8) (Cok.zero (pc1 := 4) (pcT := 7) (pcF := 8) (EokI.getf (pc1 := 1) (j := 2) (ci := 4) (T := TX4) (N := 3) (EokR.aload_n (q := 0) dX4_expect_0) rfl wsX4_in (by decide) flX4_29 dX4_expect_1) (JZ.neF (tgt := 8) dX4_expect_4 (by decide))) (by decide) (Sok.retV dX4_expect_7 rfl) (Sok.skip (pc := 8))) (Sok.ite (pc1 := 19) (pc2 := 29) (Cok.cmp (pc1 := 15) (pc2 := 16) (pcT := 19) (pcF := 29) (EokI.getf (pc1 := 12) (j := 3) (ci := 8) (T := TX8) (N := 6) (EokR.getf (pc1 := 9) (j := 1) (ci := 4) (T := TX4) (N := 3) (EokR.aload_n (q := 0) dX4_expect_8) rfl wsX4_in (by decide) flX4_20 dX4_expect_9) rfl wsX8_in (by decide) flX4_36 dX4_expect_12) (EokI.iload_n (q := 1) dX4_expect_15) (JI.eqF (tgt := 29) dX4_expect_16 (by decide))) (by decide) (Sok.goto (pc1 := 26) (pcN := 34) (Sok.sCallV (pc1 := 23) (Aok.aR (pc1 := 23) (EokR.getf (pc1 := 20) (j := 1) (ci := 4) (T := TX4) (N := 3) (EokR.aload_n (q := 0) dX4_expect_19) rfl wsX4_in (by decide) flX4_20 dX4_expect_20) Aok.nil) (by decide) (kX8_next g) rfl ykX8_next vkX4_69 (by decide) (by decide) dX4_expect_23) dX4_expect_26 (by decide)) (Sok.sCallV (pc1 := 31) (Aok.aR (pc1 := 30) (EokR.aload_n (q := 0) dX4_expect_29) (Aok.aI (pc1 := 31) (EokI.iconst (v := 1) dX4_expect_30 (by decide)) Aok.nil)) (by decide) (kX4_wrong g) rfl ykX4_wrong vkX4_49 (by decide) (by decide) dX4_expect_31))) (Sok.retV dX4_expect_34 rfl))
/-! PassHuts$Reader.readNewName(LPassHuts$Hills;)J -/
theorem dX4_readNewName_0 : decode cX4_readNewName 0 = .ok (.aload_n 0, 1) := by decide +kernel
theorem dX4_readNewName_1 : decode cX4_readNewName 1 = .ok (.getfield 20, 3) := by decide +kernel
theorem dX4_readNewName_4 : decode cX4_readNewName 4 = .ok (.getfield 102, 3) := by decide +kernel
theorem dX4_readNewName_7 : decode cX4_readNewName 7 = .ok (.lstore_n 2, 1) := by decide +kernel
theorem dX4_readNewName_8 : decode cX4_readNewName 8 = .ok (.aload_n 0, 1) := by decide +kernel
theorem dX4_readNewName_9 : decode cX4_readNewName 9 = .ok (.getfield 20, 3) := by decide +kernel
theorem dX4_readNewName_12 : decode cX4_readNewName 12 = .ok (.getfield 36, 3) := by decide +kernel
theorem dX4_readNewName_15 : decode cX4_readNewName 15 = .ok (.iconst 3, 1) := by decide +kernel
theorem dX4_readNewName_16 : decode cX4_readNewName 16 = .ok (.if_icmp .ne 19, 3) := by decide +kernel
theorem dX4_readNewName_19 : decode cX4_readNewName 19 = .ok (.aload_n 1, 1) := by decide +kernel
theorem dX4_readNewName_20 : decode cX4_readNewName 20 = .ok (.lload_n 2, 1) := by decide +kernel
theorem dX4_readNewName_21 : decode cX4_readNewName 21 = .ok (.invokevirtual 106, 3) := by decide +kernel
theorem dX4_readNewName_24 : decode cX4_readNewName 24 = .ok (.ifCond .lt 11, 3) := by decide +kernel
theorem dX4_readNewName_27 : decode cX4_readNewName 27 = .ok (.aload_n 0, 1) := by decide +kernel
theorem dX4_readNewName_28 : decode cX4_readNewName 28 = .ok (.iconst 3, 1) := by decide +kernel
theorem dX4_readNewName_29 : decode cX4_readNewName 29 = .ok (.invokevirtual 49, 3) := by decide +kernel
theorem dX4_readNewName_32 : decode cX4_readNewName 32 = .ok (.goto 8, 3) := by decide +kernel
theorem dX4_readNewName_35 : decode cX4_readNewName 35 = .ok (.aload_n 0, 1) := by decide +kernel
theorem dX4_readNewName_36 : decode cX4_readNewName 36 = .ok (.iconst 3, 1) := by decide +kernel
theorem dX4_readNewName_37 : decode cX4_readNewName 37 = .ok (.invokevirtual 83, 3) := by decide +kernel
theorem dX4_readNewName_40 : decode cX4_readNewName 40 = .ok (.lload_n 2, 1) := by decide +kernel
theorem dX4_readNewName_41 : decode cX4_readNewName 41 = .ok (.lreturn, 1) := by decide +kernel
abbrev tX4_readNewName (k : Nat) : MT := (RX4, cX4_readNewName, 4, k, (some .long))
def mX4_readNewName : MX := bodyOf 4 (sSeq (sSetL 2 (lGet 8 5 (rGet 4 1 (rLoc 0)))) (sSeq (sIf (cAnd (cB req (iGet 8 3 (rGet 4 1 (rLoc 0))) (iK 3)) (cZ zge (iCallV 0 mX0_hutNamed (aR (rLoc 1) (aL (lLoc 2) aNil))))) (sCallV 4 mX4_wrong (aR (rLoc 0) (aI (iK 3) aNil))) (sCallV 4 mX4_expect (aR (rLoc 0) (aI (iK 3) aNil)))) (sRetL (lLoc 2))))
theorem kX4_readNewName (g : GT) : MK g 4 yX4_readNewName cX4_readNewName 4 (some .long) mX4_readNewName := MK.of (pcN := 99999) (pcB := 0) (pcC := 0) rfl (Sok.seq (pc1 := 8) (Sok.setL_n (q := 2) (pc1 := 7) (EokL.getf (pc1 := 4) (j := 5) (ci := 8) (T := TX8) (N := 6) (EokR.getf (pc1 := 1) (j := 1) (ci := 4) (T := TX4) (N := 3) (EokR.aload_n (q := 0) dX4_readNewName_0) rfl wsX4_in (by decide) flX4_20 dX4_readNewName_1) rfl wsX8_in (by decide) flX4_102 dX4_readNewName_4) (by decide) dX4_readNewName_7 (show 3 < 4 by decide)) (Sok.seq (pc1 := 40) (Sok.ite (pc1 := 27) (pc2 := 35) (Cok.and (pc1 := 19) (Cok.cmp (pc1 := 15) (pc2 := 16) (pcT := 19) (pcF := 35) (EokI.getf (pc1 := 12) (j := 3) (ci := 8) (T := TX8) (N := 6) (EokR.getf (pc1 := 9) (j := 1) (ci := 4) (T := TX4) (N := 3) (EokR.aload_n (q := 0) dX4_readNewName_8) rfl wsX4_in (by decide) flX4_20 dX4_readNewName_9) rfl wsX8_in (by decide) flX4_36 dX4_readNewName_12) (EokI.iconst (v := 3) dX4_readNewName_15 (by decide)) (JI.eqF (tgt := 35) dX4_readNewName_16 (by decide))) (Cok.zero (pc1 := 24) (pcT := 27) (pcF := 35) (EokI.iCallV (pc1 := 21) (Aok.aR (pc1 := 20) (EokR.aload_n (q := 1) dX4_readNewName_19) (Aok.aL (pc1 := 21) (EokL.lload_n (q := 2) dX4_readNewName_20) Aok.nil)) (kX0_hutNamed g) rfl ykX0_hutNamed vkX4_106 (by decide) (by decide) dX4_readNewName_21) (JZ.geF (tgt := 35) dX4_readNewName_24 (by decide)))) (by decide) (Sok.goto (pc1 := 32) (pcN := 40) (Sok.sCallV (pc1 := 29) (Aok.aR (pc1 := 28) (EokR.aload_n (q := 0) dX4_readNewName_27) (Aok.aI (pc1 := 29) (EokI.iconst (v := 3) dX4_readNewName_28 (by decide)) Aok.nil)) (by decide) (kX4_wrong g) rfl ykX4_wrong vkX4_49 (by decide) (by decide) dX4_readNewName_29) dX4_readNewName_32 (by decide)) (Sok.sCallV (pc1 := 37) (Aok.aR (pc1 := 36) (EokR.aload_n (q := 0) dX4_readNewName_35) (Aok.aI (pc1 := 37) (EokI.iconst (v := 3) dX4_readNewName_36 (by decide)) Aok.nil)) (by decide) (kX4_expect g) rfl ykX4_expect vkX4_83 (by decide) (by decide) dX4_readNewName_37)) (Sok.retL (pc1 := 41) (EokL.lload_n (q := 2) dX4_readNewName_40) (by decide) dX4_readNewName_41 rfl)))
/-! PassHuts$Reader.readHutKind()I -/
theorem dX4_readHutKind_0 : decode cX4_readHutKind 0 = .ok (.aload_n 0, 1) := by decide +kernel
theorem dX4_readHutKind_1 : decode cX4_readHutKind 1 = .ok (.getfield 29, 3) := by decide +kernel
theorem dX4_readHutKind_4 : decode cX4_readHutKind 4 = .ok (.ifCond .eq 5, 3) := by decide +kernel
theorem dX4_readHutKind_7 : decode cX4_readHutKind 7 = .ok (.iconst 0, 1) := by decide +kernel
theorem dX4_readHutKind_8 : decode cX4_readHutKind 8 = .ok (.ireturn, 1) := by decide +kernel
theorem dX4_readHutKind_9 : decode cX4_readHutKind 9 = .ok (.aload_n 0, 1) := by decide +kernel
theorem dX4_readHutKind_10 : decode cX4_readHutKind 10 = .ok (.getfield 20, 3) := by decide +kernel
theorem dX4_readHutKind_13 : decode cX4_readHutKind 13 = .ok (.getfield 36, 3) := by decide +kernel
theorem dX4_readHutKind_16 : decode cX4_readHutKind 16 = .ok (.istore_n 1, 1) := by decide +kernel
theorem dX4_readHutKind_17 : decode cX4_readHutKind 17 = .ok (.iload_n 1, 1) := by decide +kernel
theorem dX4_readHutKind_18 : decode cX4_readHutKind 18 = .ok (.sipush 136, 3) := by decide +kernel
theorem dX4_readHutKind_21 : decode cX4_readHutKind 21 = .ok (.if_icmp .lt 10, 3) := by decide +kernel
theorem dX4_readHutKind_24 : decode cX4_readHutKind 24 = .ok (.iload_n 1, 1) := by decide +kernel
theorem dX4_readHutKind_25 : decode cX4_readHutKind 25 = .ok (.sipush 139, 3) := by decide +kernel
theorem dX4_readHutKind_28 : decode cX4_readHutKind 28 = .ok (.if_icmp .le 10, 3) := by decide +kernel
theorem dX4_readHutKind_31 : decode cX4_readHutKind 31 = .ok (.aload_n 0, 1) := by decide +kernel
theorem dX4_readHutKind_32 : decode cX4_readHutKind 32 = .ok (.iconst 1, 1) := by decide +kernel
theorem dX4_readHutKind_33 : decode cX4_readHutKind 33 = .ok (.invokevirtual 49, 3) := by decide +kernel
theorem dX4_readHutKind_36 : decode cX4_readHutKind 36 = .ok (.iconst 0, 1) := by decide +kernel
theorem dX4_readHutKind_37 : decode cX4_readHutKind 37 = .ok (.ireturn, 1) := by decide +kernel
theorem dX4_readHutKind_38 : decode cX4_readHutKind 38 = .ok (.aload_n 0, 1) := by decide +kernel
theorem dX4_readHutKind_39 : decode cX4_readHutKind 39 = .ok (.getfield 20, 3) := by decide +kernel
theorem dX4_readHutKind_42 : decode cX4_readHutKind 42 = .ok (.invokevirtual 69, 3) := by decide +kernel
theorem dX4_readHutKind_45 : decode cX4_readHutKind 45 = .ok (.iload_n 1, 1) := by decide +kernel
theorem dX4_readHutKind_46 : decode cX4_readHutKind 46 = .ok (.sipush 136, 3) := by decide +kernel
theorem dX4_readHutKind_49 : decode cX4_readHutKind 49 = .ok (.isub, 1) := by decide +kernel
theorem dX4_readHutKind_50 : decode cX4_readHutKind 50 = .ok (.ireturn, 1) := by decide +kernel
abbrev tX4_readHutKind (k : Nat) : MT := (RX4, cX4_readHutKind, 2, k, (some .int))
def mX4_readHutKind : MX := bodyOf 2 (sSeq (sIf (cZ zne (iGet 4 2 (rLoc 0))) (sRetI (iK 0)) sSkip) (sSeq (sSetI 1 (iGet 8 3 (rGet 4 1 (rLoc 0)))) (sSeq (sIf (cOr (cB rlt (iLoc 1) (iK 136)) (cB rgt (iLoc 1) (iK 139))) (sSeq (sCallV 4 mX4_wrong (aR (rLoc 0) (aI (iK 1) aNil))) (sRetI (iK 0))) sSkip) (sSeq (sCallV 8 mX8_next (aR (rGet 4 1 (rLoc 0)) aNil)) (sRetI (iB gT2 (· - ·) (iLoc 1) (iK 136)))))))
theorem kX4_readHutKind (g : GT) : MK g 3 yX4_readHutKind cX4_readHutKind 2 (some .int) mX4_readHutKind := MK.of (pcN := 99999) (pcB := 0) (pcC := 0) rfl (Sok.seq (pc1 := 9) (Sok.ite (pc1 := 7) (pc2 := 9) (Cok.zero (pc1 := 4) (pcT := 7) (pcF := 9) (EokI.getf (pc1 := 1) (j := 2) (ci := 4) (T := TX4) (N := 3) (EokR.aload_n (q := 0) dX4_readHutKind_0) rfl wsX4_in (by decide) flX4_29 dX4_readHutKind_1) (JZ.neF (tgt := 9) dX4_readHutKind_4 (by decide))) (by decide) (Sok.retI (pc1 := 8) (EokI.iconst (v := 0) dX4_readHutKind_7 (by decide)) (by decide) dX4_readHutKind_8 rfl) (Sok.skip (pc := 9))) (Sok.seq (pc1 := 17) (Sok.setI_n (q := 1) (pc1 := 16) (EokI.getf (pc1 := 13) (j := 3) (ci := 8) (T := TX8) (N := 6) (EokR.getf (pc1 := 10) (j := 1) (ci := 4) (T := TX4) (N := 3) (EokR.aload_n (q := 0) dX4_readHutKind_9) rfl wsX4_in (by decide) flX4_20 dX4_readHutKind_10) rfl wsX8_in (by decide) flX4_36 dX4_readHutKind_13) (by decide) dX4_readHutKind_16 (show 1 < 2 by decide)) (Sok.seq (pc1 := 38) (Sok.ite (pc1 := 31) (pc2 := 38) (Cok.or (pc1 := 24) (Cok.cmp (pc1 := 18) (pc2 := 21) (pcT := 31) (pcF := 24) (EokI.iload_n (q := 1) dX4_readHutKind_17) (EokI.sipush (v := 136) dX4_readHutKind_18 (by decide)) (JI.ltT (tgt := 31) dX4_readHutKind_21 (by decide))) (Cok.cmp (pc1 := 25) (pc2 := 28) (pcT := 31) (pcF := 38) (EokI.iload_n (q := 1) dX4_readHutKind_24) (EokI.sipush (v := 139) dX4_readHutKind_25 (by decide)) (JI.gtF (tgt := 38) dX4_readHutKind_28 (by decide)))) (by decide) (Sok.seq (pc1 := 36) (Sok.sCallV (pc1 := 33) (Aok.aR (pc1 := 32) (EokR.aload_n (q := 0) dX4_readHutKind_31) (Aok.aI (pc1 := 33) (EokI.iconst (v := 1) dX4_readHutKind_32 (by decide)) Aok.nil)) (by decide) (kX4_wrong g) rfl ykX4_wrong vkX4_49 (by decide) (by decide) dX4_readHutKind_33) (Sok.retI (pc1 := 37) (EokI.iconst (v := 0) dX4_readHutKind_36 (by decide)) (by decide) dX4_readHutKind_37 rfl)) (Sok.skip (pc := 38))) (Sok.seq (pc1 := 45) (Sok.sCallV (pc1 := 42) (Aok.aR (pc1 := 42) (EokR.getf (pc1 := 39) (j := 1) (ci := 4) (T := TX4) (N := 3) (EokR.aload_n (q := 0) dX4_readHutKind_38) rfl wsX4_in (by decide) flX4_20 dX4_readHutKind_39) Aok.nil) (by decide) (kX8_next g) rfl ykX8_next vkX4_69 (by decide) (by decide) dX4_readHutKind_42) (Sok.retI (pc1 := 50) (EokI.bin (pc1 := 46) (pc2 := 49) (EokI.iload_n (q := 1) dX4_readHutKind_45) (EokI.sipush (v := 136) dX4_readHutKind_46 (by decide)) (OPI.isub dX4_readHutKind_49)) (by decide) dX4_readHutKind_50 rfl)))))
/-! PassHuts$Reader.readNumber(II)I -/
theorem dX4_readNumber_0 : decode cX4_readNumber 0 = .ok (.aload_n 0, 1) := by decide +kernel
theorem dX4_readNumber_1 : decode cX4_readNumber 1 = .ok (.getfield 29, 3) := by decide +kernel
theorem dX4_readNumber_4 : decode cX4_readNumber 4 = .ok (.ifCond .eq 5, 3) := by decide +kernel
theorem dX4_readNumber_7 : decode cX4_readNumber 7 = .ok (.iload_n 1, 1) := by decide +kernel
theorem dX4_readNumber_8 : decode cX4_readNumber 8 = .ok (.ireturn, 1) := by decide +kernel
theorem dX4_readNumber_9 : decode cX4_readNumber 9 = .ok (.aload_n 0, 1) := by decide +kernel
theorem dX4_readNumber_10 : decode cX4_readNumber 10 = .ok (.getfield 20, 3) := by decide +kernel
theorem dX4_readNumber_13 : decode cX4_readNumber 13 = .ok (.getfield 110, 3) := by decide +kernel
theorem dX4_readNumber_16 : decode cX4_readNumber 16 = .ok (.istore_n 3, 1) := by decide +kernel
theorem dX4_readNumber_17 : decode cX4_readNumber 17 = .ok (.aload_n 0, 1) := by decide +kernel
theorem dX4_readNumber_18 : decode cX4_readNumber 18 = .ok (.getfield 20, 3) := by decide +kernel
theorem dX4_readNumber_21 : decode cX4_readNumber 21 = .ok (.getfield 36, 3) := by decide +kernel
theorem dX4_readNumber_24 : decode cX4_readNumber 24 = .ok (.iconst 2, 1) := by decide +kernel
theorem dX4_readNumber_25 : decode cX4_readNumber 25 = .ok (.if_icmp .ne 21, 3) := by decide +kernel
theorem dX4_readNumber_28 : decode cX4_readNumber 28 = .ok (.iload_n 3, 1) := by decide +kernel
theorem dX4_readNumber_29 : decode cX4_readNumber 29 = .ok (.iload_n 1, 1) := by decide +kernel
theorem dX4_readNumber_30 : decode cX4_readNumber 30 = .ok (.if_icmp .lt 8, 3) := by decide +kernel
theorem dX4_readNumber_33 : decode cX4_readNumber 33 = .ok (.iload_n 3, 1) := by decide +kernel
theorem dX4_readNumber_34 : decode cX4_readNumber 34 = .ok (.iload_n 2, 1) := by decide +kernel
theorem dX4_readNumber_35 : decode cX4_readNumber 35 = .ok (.if_icmp .le 11, 3) := by decide +kernel
theorem dX4_readNumber_38 : decode cX4_readNumber 38 = .ok (.aload_n 0, 1) := by decide +kernel
theorem dX4_readNumber_39 : decode cX4_readNumber 39 = .ok (.iconst 4, 1) := by decide +kernel
theorem dX4_readNumber_40 : decode cX4_readNumber 40 = .ok (.invokevirtual 49, 3) := by decide +kernel
theorem dX4_readNumber_43 : decode cX4_readNumber 43 = .ok (.goto 8, 3) := by decide +kernel
theorem dX4_readNumber_46 : decode cX4_readNumber 46 = .ok (.aload_n 0, 1) := by decide +kernel
theorem dX4_readNumber_47 : decode cX4_readNumber 47 = .ok (.iconst 2, 1) := by decide +kernel
theorem dX4_readNumber_48 : decode cX4_readNumber 48 = .ok (.invokevirtual 83, 3) := by decide +kernel
theorem dX4_readNumber_51 : decode cX4_readNumber 51 = .ok (.iload_n 3, 1) := by decide +kernel
theorem dX4_readNumber_52 : decode cX4_readNumber 52 = .ok (.ireturn, 1) := by decide +kernel
abbrev tX4_readNumber (k : Nat) : MT := (RX4, cX4_readNumber, 4, k, (some .int))
def mX4_readNumber : MX := bodyOf 4 (sSeq (sIf (cZ zne (iGet 4 2 (rLoc 0))) (sRetI (iLoc 1)) sSkip) (sSeq (sSetI 3 (iGet 8 4 (rGet 4 1 (rLoc 0)))) (sSeq (sIf (cAnd (cB req (iGet 8 3 (rGet 4 1 (rLoc 0))) (iK 2)) (cOr (cB rlt (iLoc 3) (iLoc 1)) (cB rgt (iLoc 3) (iLoc 2)))) (sCallV 4 mX4_wrong (aR (rLoc 0) (aI (iK 4) aNil))) (sCallV 4 mX4_expect (aR (rLoc 0) (aI (iK 2) aNil)))) (sRetI (iLoc 3)))))
theorem kX4_readNumber (g : GT) : MK g 4 yX4_readNumber cX4_readNumber 4 (some .int) mX4_readNumber := MK.of (pcN := 99999) (pcB := 0) (pcC := 0) rfl (Sok.seq (pc1 := 9) (Sok.ite (pc1 := 7) (pc2 := 9) (Cok.zero (pc1 := 4) (pcT := 7) (pcF := 9) (EokI.getf (pc1 := 1) (j := 2) (ci := 4) (T := TX4) (N := 3) (EokR.aload_n (q := 0) dX4_readNumber_0) rfl wsX4_in (by decide) flX4_29 dX4_readNumber_1) (JZ.neF (tgt := 9) dX4_readNumber_4 (by decide))) (by decide) (Sok.retI (pc1 := 8) (EokI.iload_n (q := 1) dX4_readNumber_7) (by decide) dX4_readNumber_8 rfl) (Sok.skip (pc := 9))) (Sok.seq (pc1 := 17) (Sok.setI_n (q := 3) (pc1 := 16) (EokI.getf (pc1 := 13) (j := 4) (ci := 8) (T := TX8) (N := 6) (EokR.getf (pc1 := 10) (j := 1) (ci := 4) (T := TX4) (N := 3) (EokR.aload_n (q := 0) dX4_readNumber_9) rfl wsX4_in (by decide) flX4_20 dX4_readNumber_10) rfl wsX8_in (by decide) flX4_110 dX4_readNumber_13) (by decide) dX4_readNumber_16 (show 3 < 4 by decide)) (Sok.seq (pc1 := 51) (Sok.ite (pc1 := 38) (pc2 := 46) (Cok.and (pc1 := 28) (Cok.cmp (pc1 := 24) (pc2 := 25) (pcT := 28) (pcF := 46) (EokI.getf (pc1 := 21) (j := 3) (ci := 8) (T := TX8) (N := 6) (EokR.getf (pc1 := 18) (j := 1) (ci := 4) (T := TX4) (N := 3) (EokR.aload_n (q := 0) dX4_readNumber_17) rfl wsX4_in (by decide) flX4_20 dX4_readNumber_18) rfl wsX8_in (by decide) flX4_36 dX4_readNumber_21) (EokI.iconst (v := 2) dX4_readNumber_24 (by decide)) (JI.eqF (tgt := 46) dX4_readNumber_25 (by decide))) (Cok.or (pc1 := 33) (Cok.cmp (pc1 := 29) (pc2 := 30) (pcT := 38) (pcF := 33) (EokI.iload_n (q := 3) dX4_readNumber_28) (EokI.iload_n (q := 1) dX4_readNumber_29) (JI.ltT (tgt := 38) dX4_readNumber_30 (by decide))) (Cok.cmp (pc1 := 34) (pc2 := 35) (pcT := 38) (pcF := 46) (EokI.iload_n (q := 3) dX4_readNumber_33) (EokI.iload_n (q := 2) dX4_readNumber_34) (JI.gtF (tgt := 46) dX4_readNumber_35 (by decide))))) (by decide) (Sok.goto (pc1 := 43) (pcN := 51) (Sok.sCallV (pc1 := 40) (Aok.aR (pc1 := 39) (EokR.aload_n (q := 0) dX4_readNumber_38) (Aok.aI (pc1 := 40) (EokI.iconst (v := 4) dX4_readNumber_39 (by decide)) Aok.nil)) (by decide) (kX4_wrong g) rfl ykX4_wrong vkX4_49 (by decide) (by decide) dX4_readNumber_40) dX4_readNumber_43 (by decide)) (Sok.sCallV (pc1 := 48) (Aok.aR (pc1 := 47) (EokR.aload_n (q := 0) dX4_readNumber_46) (Aok.aI (pc1 := 48) (EokI.iconst (v := 2) dX4_readNumber_47 (by decide)) Aok.nil)) (by decide) (kX4_expect g) rfl ykX4_expect vkX4_83 (by decide) (by decide) dX4_readNumber_48)) (Sok.retI (pc1 := 52) (EokI.iload_n (q := 3) dX4_readNumber_51) (by decide) dX4_readNumber_52 rfl))))
/-! PassHuts$Reader.readHut(LPassHuts$Hills;)V -/
theorem dX4_readHut_0 : decode cX4_readHut 0 = .ok (.aload_n 1, 1) := by decide +kernel
theorem dX4_readHut_1 : decode cX4_readHut 1 = .ok (.getfield 72, 3) := by decide +kernel
theorem dX4_readHut_4 : decode cX4_readHut 4 = .ok (.iconst 5, 1) := by decide +kernel
theorem dX4_readHut_5 : decode cX4_readHut 5 = .ok (.if_icmp .lt 9, 3) := by decide +kernel
theorem dX4_readHut_8 : decode cX4_readHut 8 = .ok (.aload_n 0, 1) := by decide +kernel
theorem dX4_readHut_9 : decode cX4_readHut 9 = .ok (.iconst 5, 1) := by decide +kernel
theorem dX4_readHut_10 : decode cX4_readHut 10 = .ok (.invokevirtual 49, 3) := by decide +kernel
theorem dX4_readHut_13 : decode cX4_readHut 13 = .ok (.return_, 1) := by decide +kernel
theorem dX4_readHut_14 : decode cX4_readHut 14 = .ok (.aload_n 0, 1) := by decide +kernel
theorem dX4_readHut_15 : decode cX4_readHut 15 = .ok (.getfield 20, 3) := by decide +kernel
theorem dX4_readHut_18 : decode cX4_readHut 18 = .ok (.invokevirtual 69, 3) := by decide +kernel
theorem dX4_readHut_21 : decode cX4_readHut 21 = .ok (.aload_n 0, 1) := by decide +kernel
theorem dX4_readHut_22 : decode cX4_readHut 22 = .ok (.aload_n 1, 1) := by decide +kernel
theorem dX4_readHut_23 : decode cX4_readHut 23 = .ok (.invokevirtual 75, 3) := by decide +kernel
theorem dX4_readHut_26 : decode cX4_readHut 26 = .ok (.lstore_n 2, 1) := by decide +kernel
theorem dX4_readHut_27 : decode cX4_readHut 27 = .ok (.aload_n 0, 1) := by decide +kernel
theorem dX4_readHut_28 : decode cX4_readHut 28 = .ok (.invokevirtual 79, 3) := by decide +kernel
theorem dX4_readHut_31 : decode cX4_readHut 31 = .ok (.istore 4, 2) := by decide +kernel
theorem dX4_readHut_33 : decode cX4_readHut 33 = .ok (.aload_n 0, 1) := by decide +kernel
theorem dX4_readHut_34 : decode cX4_readHut 34 = .ok (.sipush 129, 3) := by decide +kernel
theorem dX4_readHut_37 : decode cX4_readHut 37 = .ok (.invokevirtual 83, 3) := by decide +kernel
theorem dX4_readHut_40 : decode cX4_readHut 40 = .ok (.iload 4, 2) := by decide +kernel
theorem dX4_readHut_42 : decode cX4_readHut 42 = .ok (.iconst 3, 1) := by decide +kernel
theorem dX4_readHut_43 : decode cX4_readHut 43 = .ok (.if_icmp .ne 7, 3) := by decide +kernel
theorem dX4_readHut_46 : decode cX4_readHut 46 = .ok (.iconst 3, 1) := by decide +kernel
theorem dX4_readHut_47 : decode cX4_readHut 47 = .ok (.goto 5, 3) := by decide +kernel
theorem dX4_readHut_50 : decode cX4_readHut 50 = .ok (.bipush 12, 2) := by decide +kernel
theorem dX4_readHut_52 : decode cX4_readHut 52 = .ok (.bipush 12, 2) := by decide +kernel
theorem dX4_readHut_54 : decode cX4_readHut 54 = .ok (.aload_n 1, 1) := by decide +kernel
theorem dX4_readHut_55 : decode cX4_readHut 55 = .ok (.invokevirtual 86, 3) := by decide +kernel
theorem dX4_readHut_58 : decode cX4_readHut 58 = .ok (.isub, 1) := by decide +kernel
theorem dX4_readHut_59 : decode cX4_readHut 59 = .ok (.invokestatic 89, 3) := by decide +kernel
theorem dX4_readHut_62 : decode cX4_readHut 62 = .ok (.istore 5, 2) := by decide +kernel
theorem dX4_readHut_64 : decode cX4_readHut 64 = .ok (.aload_n 0, 1) := by decide +kernel
theorem dX4_readHut_65 : decode cX4_readHut 65 = .ok (.iconst 0, 1) := by decide +kernel
theorem dX4_readHut_66 : decode cX4_readHut 66 = .ok (.iload 5, 2) := by decide +kernel
theorem dX4_readHut_68 : decode cX4_readHut 68 = .ok (.invokevirtual 95, 3) := by decide +kernel
theorem dX4_readHut_71 : decode cX4_readHut 71 = .ok (.istore 6, 2) := by decide +kernel
theorem dX4_readHut_73 : decode cX4_readHut 73 = .ok (.aload_n 0, 1) := by decide +kernel
theorem dX4_readHut_74 : decode cX4_readHut 74 = .ok (.bipush 59, 2) := by decide +kernel
theorem dX4_readHut_76 : decode cX4_readHut 76 = .ok (.invokevirtual 83, 3) := by decide +kernel
theorem dX4_readHut_79 : decode cX4_readHut 79 = .ok (.aload_n 0, 1) := by decide +kernel
theorem dX4_readHut_80 : decode cX4_readHut 80 = .ok (.getfield 29, 3) := by decide +kernel
theorem dX4_readHut_83 : decode cX4_readHut 83 = .ok (.ifCond .ne 12, 3) := by decide +kernel
theorem dX4_readHut_86 : decode cX4_readHut 86 = .ok (.aload_n 1, 1) := by decide +kernel
theorem dX4_readHut_87 : decode cX4_readHut 87 = .ok (.lload_n 2, 1) := by decide +kernel
theorem dX4_readHut_88 : decode cX4_readHut 88 = .ok (.iload 4, 2) := by decide +kernel
theorem dX4_readHut_90 : decode cX4_readHut 90 = .ok (.iload 6, 2) := by decide +kernel
theorem dX4_readHut_92 : decode cX4_readHut 92 = .ok (.invokevirtual 98, 3) := by decide +kernel
theorem dX4_readHut_95 : decode cX4_readHut 95 = .ok (.return_, 1) := by decide +kernel
abbrev tX4_readHut (k : Nat) : MT := (RX4, cX4_readHut, 7, k, none)
def mX4_readHut : MX := bodyOf 7 (sSeq (sSeq (sIf (cB rge (iGet 0 3 (rLoc 1)) (iK 5)) (sSeq (sCallV 4 mX4_wrong (aR (rLoc 0) (aI (iK 5) aNil))) sRetV) sSkip) (sSeq (sCallV 8 mX8_next (aR (rGet 4 1 (rLoc 0)) aNil)) (sSeq (sSetL 2 (lCallV 4 mX4_readNewName (aR (rLoc 0) (aR (rLoc 1) aNil)))) (sSeq (sSetI 4 (iCallV 4 mX4_readHutKind (aR (rLoc 0) aNil))) (sSeq (sCallV 4 mX4_expect (aR (rLoc 0) (aI (iK 129) aNil))) (sSeq (sSetI 5 (iB gT2 jmin (iCond (cB req (iLoc 4) (iK 3)) (iK 3) (iK 12)) (iB gT2 (· - ·) (iK 12) (iCallV 0 mX0_toldLoads (aR (rLoc 1) aNil))))) (sSeq (sSetI 6 (iCallV 4 mX4_readNumber (aR (rLoc 0) (aI (iK 0) (aI (iLoc 5) aNil))))) (sSeq (sCallV 4 mX4_expect (aR (rLoc 0) (aI (iK 59) aNil))) (sIf (cZ zeq (iGet 4 2 (rLoc 0))) (sCallV 0 mX0_addHut (aR (rLoc 1) (aL (lLoc 2) (aI (iLoc 4) (aI (iLoc 6) aNil))))) sSkip))))))))) sRetV)
theorem kX4_readHut (g : GT) : MK g 5 yX4_readHut cX4_readHut 7 none mX4_readHut := MK.of (pcN := 99999) (pcB := 0) (pcC := 0) rfl (Sok.seq (pc1 := 95) (Sok.seq (pc1 := 14) (Sok.ite (pc1 := 8) (pc2 := 14) (Cok.cmp (pc1 := 4) (pc2 := 5) (pcT := 8) (pcF := 14) (EokI.getf (pc1 := 1) (j := 3) (ci := 0) (T := TX0) (N := 17) (EokR.aload_n (q := 1) dX4_readHut_0) rfl wsX0_in (by decide) flX4_72 dX4_readHut_1) (EokI.iconst (v := 5) dX4_readHut_4 (by decide)) (JI.geF (tgt := 14) dX4_readHut_5 (by decide))) (by decide) (Sok.seq (pc1 := 13) (Sok.sCallV (pc1 := 10) (Aok.aR (pc1 := 9) (EokR.aload_n (q := 0) dX4_readHut_8) (Aok.aI (pc1 := 10) (EokI.iconst (v := 5) dX4_readHut_9 (by decide)) Aok.nil)) (by decide) (kX4_wrong g) rfl ykX4_wrong vkX4_49 (by decide) (by decide) dX4_readHut_10) (Sok.retV dX4_readHut_13 rfl)) (Sok.skip (pc := 14))) (Sok.seq (pc1 := 21) (Sok.sCallV (pc1 := 18) (Aok.aR (pc1 := 18) (EokR.getf (pc1 := 15) (j := 1) (ci := 4) (T := TX4) (N := 3) (EokR.aload_n (q := 0) dX4_readHut_14) rfl wsX4_in (by decide) flX4_20 dX4_readHut_15) Aok.nil) (by decide) (kX8_next g) rfl ykX8_next vkX4_69 (by decide) (by decide) dX4_readHut_18) (Sok.seq (pc1 := 27) (Sok.setL_n (q := 2) (pc1 := 26) (EokL.lCallV (pc1 := 23) (Aok.aR (pc1 := 22) (EokR.aload_n (q := 0) dX4_readHut_21) (Aok.aR (pc1 := 23) (EokR.aload_n (q := 1) dX4_readHut_22) Aok.nil)) (kX4_readNewName g) rfl ykX4_readNewName vkX4_75 (by decide) (by decide) dX4_readHut_23) (by decide) dX4_readHut_26 (show 3 < 7 by decide)) (Sok.seq (pc1 := 33) (Sok.setI (i := 4) (pc1 := 31) (EokI.iCallV (pc1 := 28) (Aok.aR (pc1 := 28) (EokR.aload_n (q := 0) dX4_readHut_27) Aok.nil) (kX4_readHutKind g) rfl ykX4_readHutKind vkX4_79 (by decide) (by decide) dX4_readHut_28) (by decide) dX4_readHut_31 (show 4 < 7 by decide)) (Sok.seq (pc1 := 40) (Sok.sCallV (pc1 := 37) (Aok.aR (pc1 := 34) (EokR.aload_n (q := 0) dX4_readHut_33) (Aok.aI (pc1 := 37) (EokI.sipush (v := 129) dX4_readHut_34 (by decide)) Aok.nil)) (by decide) (kX4_expect g) rfl ykX4_expect vkX4_83 (by decide) (by decide) dX4_readHut_37) (Sok.seq (pc1 := 64) (Sok.setI (i := 5) (pc1 := 62) (EokI.mmin (pc1 := 52) (pc2 := 59) (EokI.cond' (pc1 := 46) (pc2 := 50) (Cok.cmp (pc1 := 42) (pc2 := 43) (pcT := 46) (pcF := 50) (EokI.iload (i := 4) dX4_readHut_40) (EokI.iconst (v := 3) dX4_readHut_42 (by decide)) (JI.eqF (tgt := 50) dX4_readHut_43 (by decide))) (EokI.goto (pc1 := 47) (pc2 := 52) (EokI.iconst (v := 3) dX4_readHut_46 (by decide)) dX4_readHut_47 (by decide)) (EokI.bipush (v := 12) dX4_readHut_50 (by decide))) (EokI.bin (pc1 := 54) (pc2 := 58) (EokI.bipush (v := 12) dX4_readHut_52 (by decide)) (EokI.iCallV (pc1 := 55) (Aok.aR (pc1 := 55) (EokR.aload_n (q := 1) dX4_readHut_54) Aok.nil) (kX0_toldLoads g) rfl ykX0_toldLoads vkX4_86 (by decide) (by decide) dX4_readHut_55) (OPI.isub dX4_readHut_58)) mlX4_89 wst_mmin wini_math wco_mmin (by decide) dX4_readHut_59) (by decide) dX4_readHut_62 (show 5 < 7 by decide)) (Sok.seq (pc1 := 73) (Sok.setI (i := 6) (pc1 := 71) (EokI.iCallV (pc1 := 68) (Aok.aR (pc1 := 65) (EokR.aload_n (q := 0) dX4_readHut_64) (Aok.aI (pc1 := 66) (EokI.iconst (v := 0) dX4_readHut_65 (by decide)) (Aok.aI (pc1 := 68) (EokI.iload (i := 5) dX4_readHut_66) Aok.nil))) (kX4_readNumber g) rfl ykX4_readNumber vkX4_95 (by decide) (by decide) dX4_readHut_68) (by decide) dX4_readHut_71 (show 6 < 7 by decide)) (Sok.seq (pc1 := 79) (Sok.sCallV (pc1 := 76) (Aok.aR (pc1 := 74) (EokR.aload_n (q := 0) dX4_readHut_73) (Aok.aI (pc1 := 76) (EokI.bipush (v := 59) dX4_readHut_74 (by decide)) Aok.nil)) (by decide) (kX4_expect g) rfl ykX4_expect vkX4_83 (by decide) (by decide) dX4_readHut_76) (Sok.ite (pc1 := 86) (pc2 := 95) (Cok.zero (pc1 := 83) (pcT := 86) (pcF := 95) (EokI.getf (pc1 := 80) (j := 2) (ci := 4) (T := TX4) (N := 3) (EokR.aload_n (q := 0) dX4_readHut_79) rfl wsX4_in (by decide) flX4_29 dX4_readHut_80) (JZ.eqF (tgt := 95) dX4_readHut_83 (by decide))) (by decide) (Sok.sCallV (pc1 := 92) (Aok.aR (pc1 := 87) (EokR.aload_n (q := 1) dX4_readHut_86) (Aok.aL (pc1 := 88) (EokL.lload_n (q := 2) dX4_readHut_87) (Aok.aI (pc1 := 90) (EokI.iload (i := 4) dX4_readHut_88) (Aok.aI (pc1 := 92) (EokI.iload (i := 6) dX4_readHut_90) Aok.nil)))) (by decide) (kX0_addHut g) rfl ykX0_addHut vkX4_98 (by decide) (by decide) dX4_readHut_92) (Sok.skip (pc := 95))))))))))) (Sok.retV dX4_readHut_95 rfl))
/-! PassHuts$Reader.tokenHut(LPassHuts$Hills;)I -/
theorem dX4_tokenHut_0 : decode cX4_tokenHut 0 = .ok (.aload_n 0, 1) := by decide +kernel
theorem dX4_tokenHut_1 : decode cX4_tokenHut 1 = .ok (.getfield 29, 3) := by decide +kernel
theorem dX4_tokenHut_4 : decode cX4_tokenHut 4 = .ok (.ifCond .eq 5, 3) := by decide +kernel
theorem dX4_tokenHut_7 : decode cX4_tokenHut 7 = .ok (.iconst (-1), 1) := by decide +kernel
theorem dX4_tokenHut_8 : decode cX4_tokenHut 8 = .ok (.ireturn, 1) := by decide +kernel
theorem dX4_tokenHut_9 : decode cX4_tokenHut 9 = .ok (.aload_n 0, 1) := by decide +kernel
theorem dX4_tokenHut_10 : decode cX4_tokenHut 10 = .ok (.getfield 20, 3) := by decide +kernel
theorem dX4_tokenHut_13 : decode cX4_tokenHut 13 = .ok (.getfield 36, 3) := by decide +kernel
theorem dX4_tokenHut_16 : decode cX4_tokenHut 16 = .ok (.iconst 3, 1) := by decide +kernel
theorem dX4_tokenHut_17 : decode cX4_tokenHut 17 = .ok (.if_icmp .eq 10, 3) := by decide +kernel
theorem dX4_tokenHut_20 : decode cX4_tokenHut 20 = .ok (.aload_n 0, 1) := by decide +kernel
theorem dX4_tokenHut_21 : decode cX4_tokenHut 21 = .ok (.iconst 1, 1) := by decide +kernel
theorem dX4_tokenHut_22 : decode cX4_tokenHut 22 = .ok (.invokevirtual 49, 3) := by decide +kernel
theorem dX4_tokenHut_25 : decode cX4_tokenHut 25 = .ok (.iconst (-1), 1) := by decide +kernel
theorem dX4_tokenHut_26 : decode cX4_tokenHut 26 = .ok (.ireturn, 1) := by decide +kernel
theorem dX4_tokenHut_27 : decode cX4_tokenHut 27 = .ok (.aload_n 1, 1) := by decide +kernel
theorem dX4_tokenHut_28 : decode cX4_tokenHut 28 = .ok (.aload_n 0, 1) := by decide +kernel
theorem dX4_tokenHut_29 : decode cX4_tokenHut 29 = .ok (.getfield 20, 3) := by decide +kernel
theorem dX4_tokenHut_32 : decode cX4_tokenHut 32 = .ok (.getfield 102, 3) := by decide +kernel
theorem dX4_tokenHut_35 : decode cX4_tokenHut 35 = .ok (.invokevirtual 106, 3) := by decide +kernel
theorem dX4_tokenHut_38 : decode cX4_tokenHut 38 = .ok (.istore_n 2, 1) := by decide +kernel
theorem dX4_tokenHut_39 : decode cX4_tokenHut 39 = .ok (.iload_n 2, 1) := by decide +kernel
theorem dX4_tokenHut_40 : decode cX4_tokenHut 40 = .ok (.ifCond .ge 8, 3) := by decide +kernel
theorem dX4_tokenHut_43 : decode cX4_tokenHut 43 = .ok (.aload_n 0, 1) := by decide +kernel
theorem dX4_tokenHut_44 : decode cX4_tokenHut 44 = .ok (.iconst 2, 1) := by decide +kernel
theorem dX4_tokenHut_45 : decode cX4_tokenHut 45 = .ok (.invokevirtual 49, 3) := by decide +kernel
theorem dX4_tokenHut_48 : decode cX4_tokenHut 48 = .ok (.iload_n 2, 1) := by decide +kernel
theorem dX4_tokenHut_49 : decode cX4_tokenHut 49 = .ok (.ireturn, 1) := by decide +kernel
abbrev tX4_tokenHut (k : Nat) : MT := (RX4, cX4_tokenHut, 3, k, (some .int))
def mX4_tokenHut : MX := bodyOf 3 (sSeq (sIf (cZ zne (iGet 4 2 (rLoc 0))) (sRetI (iK (-1))) sSkip) (sSeq (sIf (cB rne (iGet 8 3 (rGet 4 1 (rLoc 0))) (iK 3)) (sSeq (sCallV 4 mX4_wrong (aR (rLoc 0) (aI (iK 1) aNil))) (sRetI (iK (-1)))) sSkip) (sSeq (sSetI 2 (iCallV 0 mX0_hutNamed (aR (rLoc 1) (aL (lGet 8 5 (rGet 4 1 (rLoc 0))) aNil)))) (sSeq (sIf (cZ zlt (iLoc 2)) (sCallV 4 mX4_wrong (aR (rLoc 0) (aI (iK 2) aNil))) sSkip) (sRetI (iLoc 2))))))
theorem kX4_tokenHut (g : GT) : MK g 1 yX4_tokenHut cX4_tokenHut 3 (some .int) mX4_tokenHut := MK.of (pcN := 99999) (pcB := 0) (pcC := 0) rfl (Sok.seq (pc1 := 9) (Sok.ite (pc1 := 7) (pc2 := 9) (Cok.zero (pc1 := 4) (pcT := 7) (pcF := 9) (EokI.getf (pc1 := 1) (j := 2) (ci := 4) (T := TX4) (N := 3) (EokR.aload_n (q := 0) dX4_tokenHut_0) rfl wsX4_in (by decide) flX4_29 dX4_tokenHut_1) (JZ.neF (tgt := 9) dX4_tokenHut_4 (by decide))) (by decide) (Sok.retI (pc1 := 8) (EokI.iconst (v := (-1)) dX4_tokenHut_7 (by decide)) (by decide) dX4_tokenHut_8 rfl) (Sok.skip (pc := 9))) (Sok.seq (pc1 := 27) (Sok.ite (pc1 := 20) (pc2 := 27) (Cok.cmp (pc1 := 16) (pc2 := 17) (pcT := 20) (pcF := 27) (EokI.getf (pc1 := 13) (j := 3) (ci := 8) (T := TX8) (N := 6) (EokR.getf (pc1 := 10) (j := 1) (ci := 4) (T := TX4) (N := 3) (EokR.aload_n (q := 0) dX4_tokenHut_9) rfl wsX4_in (by decide) flX4_20 dX4_tokenHut_10) rfl wsX8_in (by decide) flX4_36 dX4_tokenHut_13) (EokI.iconst (v := 3) dX4_tokenHut_16 (by decide)) (JI.neF (tgt := 27) dX4_tokenHut_17 (by decide))) (by decide) (Sok.seq (pc1 := 25) (Sok.sCallV (pc1 := 22) (Aok.aR (pc1 := 21) (EokR.aload_n (q := 0) dX4_tokenHut_20) (Aok.aI (pc1 := 22) (EokI.iconst (v := 1) dX4_tokenHut_21 (by decide)) Aok.nil)) (by decide) (kX4_wrong g) rfl ykX4_wrong vkX4_49 (by decide) (by decide) dX4_tokenHut_22) (Sok.retI (pc1 := 26) (EokI.iconst (v := (-1)) dX4_tokenHut_25 (by decide)) (by decide) dX4_tokenHut_26 rfl)) (Sok.skip (pc := 27))) (Sok.seq (pc1 := 39) (Sok.setI_n (q := 2) (pc1 := 38) (EokI.iCallV (pc1 := 35) (Aok.aR (pc1 := 28) (EokR.aload_n (q := 1) dX4_tokenHut_27) (Aok.aL (pc1 := 35) (EokL.getf (pc1 := 32) (j := 5) (ci := 8) (T := TX8) (N := 6) (EokR.getf (pc1 := 29) (j := 1) (ci := 4) (T := TX4) (N := 3) (EokR.aload_n (q := 0) dX4_tokenHut_28) rfl wsX4_in (by decide) flX4_20 dX4_tokenHut_29) rfl wsX8_in (by decide) flX4_102 dX4_tokenHut_32) Aok.nil)) (kX0_hutNamed g) rfl ykX0_hutNamed vkX4_106 (by decide) (by decide) dX4_tokenHut_35) (by decide) dX4_tokenHut_38 (show 2 < 3 by decide)) (Sok.seq (pc1 := 48) (Sok.ite (pc1 := 43) (pc2 := 48) (Cok.zero (pc1 := 40) (pcT := 43) (pcF := 48) (EokI.iload_n (q := 2) dX4_tokenHut_39) (JZ.ltF (tgt := 48) dX4_tokenHut_40 (by decide))) (by decide) (Sok.sCallV (pc1 := 45) (Aok.aR (pc1 := 44) (EokR.aload_n (q := 0) dX4_tokenHut_43) (Aok.aI (pc1 := 45) (EokI.iconst (v := 2) dX4_tokenHut_44 (by decide)) Aok.nil)) (by decide) (kX4_wrong g) rfl ykX4_wrong vkX4_49 (by decide) (by decide) dX4_tokenHut_45) (Sok.skip (pc := 48))) (Sok.retI (pc1 := 49) (EokI.iload_n (q := 2) dX4_tokenHut_48) (by decide) dX4_tokenHut_49 rfl)))))
/-! PassHuts$Reader.readToldName(LPassHuts$Hills;)I -/
theorem dX4_readToldName_0 : decode cX4_readToldName 0 = .ok (.aload_n 0, 1) := by decide +kernel
theorem dX4_readToldName_1 : decode cX4_readToldName 1 = .ok (.aload_n 1, 1) := by decide +kernel
theorem dX4_readToldName_2 : decode cX4_readToldName 2 = .ok (.invokevirtual 125, 3) := by decide +kernel
theorem dX4_readToldName_5 : decode cX4_readToldName 5 = .ok (.istore_n 2, 1) := by decide +kernel
theorem dX4_readToldName_6 : decode cX4_readToldName 6 = .ok (.aload_n 0, 1) := by decide +kernel
theorem dX4_readToldName_7 : decode cX4_readToldName 7 = .ok (.getfield 29, 3) := by decide +kernel
theorem dX4_readToldName_10 : decode cX4_readToldName 10 = .ok (.ifCond .ne 10, 3) := by decide +kernel
theorem dX4_readToldName_13 : decode cX4_readToldName 13 = .ok (.aload_n 0, 1) := by decide +kernel
theorem dX4_readToldName_14 : decode cX4_readToldName 14 = .ok (.getfield 20, 3) := by decide +kernel
theorem dX4_readToldName_17 : decode cX4_readToldName 17 = .ok (.invokevirtual 69, 3) := by decide +kernel
theorem dX4_readToldName_20 : decode cX4_readToldName 20 = .ok (.iload_n 2, 1) := by decide +kernel
theorem dX4_readToldName_21 : decode cX4_readToldName 21 = .ok (.ireturn, 1) := by decide +kernel
abbrev tX4_readToldName (k : Nat) : MT := (RX4, cX4_readToldName, 3, k, (some .int))
def mX4_readToldName : MX := bodyOf 3 (sSeq (sSetI 2 (iCallV 4 mX4_tokenHut (aR (rLoc 0) (aR (rLoc 1) aNil)))) (sSeq (sIf (cZ zeq (iGet 4 2 (rLoc 0))) (sCallV 8 mX8_next (aR (rGet 4 1 (rLoc 0)) aNil)) sSkip) (sRetI (iLoc 2))))
theorem kX4_readToldName (g : GT) : MK g 3 yX4_readToldName cX4_readToldName 3 (some .int) mX4_readToldName := MK.of (pcN := 99999) (pcB := 0) (pcC := 0) rfl (Sok.seq (pc1 := 6) (Sok.setI_n (q := 2) (pc1 := 5) (EokI.iCallV (pc1 := 2) (Aok.aR (pc1 := 1) (EokR.aload_n (q := 0) dX4_readToldName_0) (Aok.aR (pc1 := 2) (EokR.aload_n (q := 1) dX4_readToldName_1) Aok.nil)) (kX4_tokenHut g) rfl ykX4_tokenHut vkX4_125 (by decide) (by decide) dX4_readToldName_2) (by decide) dX4_readToldName_5 (show 2 < 3 by decide)) (Sok.seq (pc1 := 20) (Sok.ite (pc1 := 13) (pc2 := 20) (Cok.zero (pc1 := 10) (pcT := 13) (pcF := 20) (EokI.getf (pc1 := 7) (j := 2) (ci := 4) (T := TX4) (N := 3) (EokR.aload_n (q := 0) dX4_readToldName_6) rfl wsX4_in (by decide) flX4_29 dX4_readToldName_7) (JZ.eqF (tgt := 20) dX4_readToldName_10 (by decide))) (by decide) (Sok.sCallV (pc1 := 17) (Aok.aR (pc1 := 17) (EokR.getf (pc1 := 14) (j := 1) (ci := 4) (T := TX4) (N := 3) (EokR.aload_n (q := 0) dX4_readToldName_13) rfl wsX4_in (by decide) flX4_20 dX4_readToldName_14) Aok.nil) (by decide) (kX8_next g) rfl ykX8_next vkX4_69 (by decide) (by decide) dX4_readToldName_17) (Sok.skip (pc := 20))) (Sok.retI (pc1 := 21) (EokI.iload_n (q := 2) dX4_readToldName_20) (by decide) dX4_readToldName_21 rfl)))
/-! PassHuts$Reader.readOtherName(LPassHuts$Hills;IZ)I -/
theorem dX4_readOtherName_0 : decode cX4_readOtherName 0 = .ok (.aload_n 0, 1) := by decide +kernel
theorem dX4_readOtherName_1 : decode cX4_readOtherName 1 = .ok (.aload_n 1, 1) := by decide +kernel
theorem dX4_readOtherName_2 : decode cX4_readOtherName 2 = .ok (.invokevirtual 125, 3) := by decide +kernel
theorem dX4_readOtherName_5 : decode cX4_readOtherName 5 = .ok (.istore 4, 2) := by decide +kernel
theorem dX4_readOtherName_7 : decode cX4_readOtherName 7 = .ok (.aload_n 0, 1) := by decide +kernel
theorem dX4_readOtherName_8 : decode cX4_readOtherName 8 = .ok (.getfield 29, 3) := by decide +kernel
theorem dX4_readOtherName_11 : decode cX4_readOtherName 11 = .ok (.ifCond .eq 6, 3) := by decide +kernel
theorem dX4_readOtherName_14 : decode cX4_readOtherName 14 = .ok (.iload 4, 2) := by decide +kernel
theorem dX4_readOtherName_16 : decode cX4_readOtherName 16 = .ok (.ireturn, 1) := by decide +kernel
theorem dX4_readOtherName_17 : decode cX4_readOtherName 17 = .ok (.iload 4, 2) := by decide +kernel
theorem dX4_readOtherName_19 : decode cX4_readOtherName 19 = .ok (.iload_n 2, 1) := by decide +kernel
theorem dX4_readOtherName_20 : decode cX4_readOtherName 20 = .ok (.if_icmp .eq 17, 3) := by decide +kernel
theorem dX4_readOtherName_23 : decode cX4_readOtherName 23 = .ok (.iload_n 3, 1) := by decide +kernel
theorem dX4_readOtherName_24 : decode cX4_readOtherName 24 = .ok (.ifCond .eq 21, 3) := by decide +kernel
theorem dX4_readOtherName_27 : decode cX4_readOtherName 27 = .ok (.aload_n 1, 1) := by decide +kernel
theorem dX4_readOtherName_28 : decode cX4_readOtherName 28 = .ok (.iload_n 2, 1) := by decide +kernel
theorem dX4_readOtherName_29 : decode cX4_readOtherName 29 = .ok (.iload 4, 2) := by decide +kernel
theorem dX4_readOtherName_31 : decode cX4_readOtherName 31 = .ok (.invokevirtual 128, 3) := by decide +kernel
theorem dX4_readOtherName_34 : decode cX4_readOtherName 34 = .ok (.ifCond .eq 11, 3) := by decide +kernel
theorem dX4_readOtherName_37 : decode cX4_readOtherName 37 = .ok (.aload_n 0, 1) := by decide +kernel
theorem dX4_readOtherName_38 : decode cX4_readOtherName 38 = .ok (.iconst 3, 1) := by decide +kernel
theorem dX4_readOtherName_39 : decode cX4_readOtherName 39 = .ok (.invokevirtual 49, 3) := by decide +kernel
theorem dX4_readOtherName_42 : decode cX4_readOtherName 42 = .ok (.goto 10, 3) := by decide +kernel
theorem dX4_readOtherName_45 : decode cX4_readOtherName 45 = .ok (.aload_n 0, 1) := by decide +kernel
theorem dX4_readOtherName_46 : decode cX4_readOtherName 46 = .ok (.getfield 20, 3) := by decide +kernel
theorem dX4_readOtherName_49 : decode cX4_readOtherName 49 = .ok (.invokevirtual 69, 3) := by decide +kernel
theorem dX4_readOtherName_52 : decode cX4_readOtherName 52 = .ok (.iload 4, 2) := by decide +kernel
theorem dX4_readOtherName_54 : decode cX4_readOtherName 54 = .ok (.ireturn, 1) := by decide +kernel
abbrev tX4_readOtherName (k : Nat) : MT := (RX4, cX4_readOtherName, 5, k, (some .int))
def mX4_readOtherName : MX := bodyOf 5 (sSeq (sSetI 4 (iCallV 4 mX4_tokenHut (aR (rLoc 0) (aR (rLoc 1) aNil)))) (sSeq (sIf (cZ zne (iGet 4 2 (rLoc 0))) (sRetI (iLoc 4)) sSkip) (sSeq (sIf (cOr (cB req (iLoc 4) (iLoc 2)) (cAnd (cZ zne (iLoc 3)) (cZ zne (iCallV 0 mX0_takesBetween (aR (rLoc 1) (aI (iLoc 2) (aI (iLoc 4) aNil))))))) (sCallV 4 mX4_wrong (aR (rLoc 0) (aI (iK 3) aNil))) (sCallV 8 mX8_next (aR (rGet 4 1 (rLoc 0)) aNil))) (sRetI (iLoc 4)))))
theorem kX4_readOtherName (g : GT) : MK g 3 yX4_readOtherName cX4_readOtherName 5 (some .int) mX4_readOtherName := MK.of (pcN := 99999) (pcB := 0) (pcC := 0) rfl (Sok.seq (pc1 := 7) (Sok.setI (i := 4) (pc1 := 5) (EokI.iCallV (pc1 := 2) (Aok.aR (pc1 := 1) (EokR.aload_n (q := 0) dX4_readOtherName_0) (Aok.aR (pc1 := 2) (EokR.aload_n (q := 1) dX4_readOtherName_1) Aok.nil)) (kX4_tokenHut g) rfl ykX4_tokenHut vkX4_125 (by decide) (by decide) dX4_readOtherName_2) (by decide) dX4_readOtherName_5 (show 4 < 5 by decide)) (Sok.seq (pc1 := 17) (Sok.ite (pc1 := 14) (pc2 := 17) (Cok.zero (pc1 := 11) (pcT := 14) (pcF := 17) (EokI.getf (pc1 := 8) (j := 2) (ci := 4) (T := TX4) (N := 3) (EokR.aload_n (q := 0) dX4_readOtherName_7) rfl wsX4_in (by decide) flX4_29 dX4_readOtherName_8) (JZ.neF (tgt := 17) dX4_readOtherName_11 (by decide))) (by decide) (Sok.retI (pc1 := 16) (EokI.iload (i := 4) dX4_readOtherName_14) (by decide) dX4_readOtherName_16 rfl) (Sok.skip (pc := 17))) (Sok.seq (pc1 := 52) (Sok.ite (pc1 := 37) (pc2 := 45) (Cok.or (pc1 := 23) (Cok.cmp (pc1 := 19) (pc2 := 20) (pcT := 37) (pcF := 23) (EokI.iload (i := 4) dX4_readOtherName_17) (EokI.iload_n (q := 2) dX4_readOtherName_19) (JI.eqT (tgt := 37) dX4_readOtherName_20 (by decide))) (Cok.and (pc1 := 27) (Cok.zero (pc1 := 24) (pcT := 27) (pcF := 45) (EokI.iload_n (q := 3) dX4_readOtherName_23) (JZ.neF (tgt := 45) dX4_readOtherName_24 (by decide))) (Cok.zero (pc1 := 34) (pcT := 37) (pcF := 45) (EokI.iCallV (pc1 := 31) (Aok.aR (pc1 := 28) (EokR.aload_n (q := 1) dX4_readOtherName_27) (Aok.aI (pc1 := 29) (EokI.iload_n (q := 2) dX4_readOtherName_28) (Aok.aI (pc1 := 31) (EokI.iload (i := 4) dX4_readOtherName_29) Aok.nil))) (kX0_takesBetween g) rfl ykX0_takesBetween vkX4_128 (by decide) (by decide) dX4_readOtherName_31) (JZ.neF (tgt := 45) dX4_readOtherName_34 (by decide))))) (by decide) (Sok.goto (pc1 := 42) (pcN := 52) (Sok.sCallV (pc1 := 39) (Aok.aR (pc1 := 38) (EokR.aload_n (q := 0) dX4_readOtherName_37) (Aok.aI (pc1 := 39) (EokI.iconst (v := 3) dX4_readOtherName_38 (by decide)) Aok.nil)) (by decide) (kX4_wrong g) rfl ykX4_wrong vkX4_49 (by decide) (by decide) dX4_readOtherName_39) dX4_readOtherName_42 (by decide)) (Sok.sCallV (pc1 := 49) (Aok.aR (pc1 := 49) (EokR.getf (pc1 := 46) (j := 1) (ci := 4) (T := TX4) (N := 3) (EokR.aload_n (q := 0) dX4_readOtherName_45) rfl wsX4_in (by decide) flX4_20 dX4_readOtherName_46) Aok.nil) (by decide) (kX8_next g) rfl ykX8_next vkX4_69 (by decide) (by decide) dX4_readOtherName_49)) (Sok.retI (pc1 := 54) (EokI.iload (i := 4) dX4_readOtherName_52) (by decide) dX4_readOtherName_54 rfl))))
/-! PassHuts$Reader.readPath(LPassHuts$Hills;)V -/
theorem dX4_readPath_0 : decode cX4_readPath 0 = .ok (.aload_n 0, 1) := by decide +kernel
theorem dX4_readPath_1 : decode cX4_readPath 1 = .ok (.getfield 20, 3) := by decide +kernel
theorem dX4_readPath_4 : decode cX4_readPath 4 = .ok (.invokevirtual 69, 3) := by decide +kernel
theorem dX4_readPath_7 : decode cX4_readPath 7 = .ok (.aload_n 0, 1) := by decide +kernel
theorem dX4_readPath_8 : decode cX4_readPath 8 = .ok (.aload_n 1, 1) := by decide +kernel
theorem dX4_readPath_9 : decode cX4_readPath 9 = .ok (.invokevirtual 113, 3) := by decide +kernel
theorem dX4_readPath_12 : decode cX4_readPath 12 = .ok (.istore_n 2, 1) := by decide +kernel
theorem dX4_readPath_13 : decode cX4_readPath 13 = .ok (.aload_n 0, 1) := by decide +kernel
theorem dX4_readPath_14 : decode cX4_readPath 14 = .ok (.aload_n 1, 1) := by decide +kernel
theorem dX4_readPath_15 : decode cX4_readPath 15 = .ok (.iload_n 2, 1) := by decide +kernel
theorem dX4_readPath_16 : decode cX4_readPath 16 = .ok (.iconst 1, 1) := by decide +kernel
theorem dX4_readPath_17 : decode cX4_readPath 17 = .ok (.invokevirtual 117, 3) := by decide +kernel
theorem dX4_readPath_20 : decode cX4_readPath 20 = .ok (.istore_n 3, 1) := by decide +kernel
theorem dX4_readPath_21 : decode cX4_readPath 21 = .ok (.aload_n 0, 1) := by decide +kernel
theorem dX4_readPath_22 : decode cX4_readPath 22 = .ok (.sipush 131, 3) := by decide +kernel
theorem dX4_readPath_25 : decode cX4_readPath 25 = .ok (.invokevirtual 83, 3) := by decide +kernel
theorem dX4_readPath_28 : decode cX4_readPath 28 = .ok (.aload_n 0, 1) := by decide +kernel
theorem dX4_readPath_29 : decode cX4_readPath 29 = .ok (.iconst 2, 1) := by decide +kernel
theorem dX4_readPath_30 : decode cX4_readPath 30 = .ok (.iconst 4, 1) := by decide +kernel
theorem dX4_readPath_31 : decode cX4_readPath 31 = .ok (.invokevirtual 95, 3) := by decide +kernel
theorem dX4_readPath_34 : decode cX4_readPath 34 = .ok (.istore 4, 2) := by decide +kernel
theorem dX4_readPath_36 : decode cX4_readPath 36 = .ok (.aload_n 0, 1) := by decide +kernel
theorem dX4_readPath_37 : decode cX4_readPath 37 = .ok (.bipush 59, 2) := by decide +kernel
theorem dX4_readPath_39 : decode cX4_readPath 39 = .ok (.invokevirtual 83, 3) := by decide +kernel
theorem dX4_readPath_42 : decode cX4_readPath 42 = .ok (.aload_n 0, 1) := by decide +kernel
theorem dX4_readPath_43 : decode cX4_readPath 43 = .ok (.getfield 29, 3) := by decide +kernel
theorem dX4_readPath_46 : decode cX4_readPath 46 = .ok (.ifCond .ne 11, 3) := by decide +kernel
theorem dX4_readPath_49 : decode cX4_readPath 49 = .ok (.aload_n 1, 1) := by decide +kernel
theorem dX4_readPath_50 : decode cX4_readPath 50 = .ok (.iload_n 2, 1) := by decide +kernel
theorem dX4_readPath_51 : decode cX4_readPath 51 = .ok (.iload_n 3, 1) := by decide +kernel
theorem dX4_readPath_52 : decode cX4_readPath 52 = .ok (.iload 4, 2) := by decide +kernel
theorem dX4_readPath_54 : decode cX4_readPath 54 = .ok (.invokevirtual 121, 3) := by decide +kernel
theorem dX4_readPath_57 : decode cX4_readPath 57 = .ok (.return_, 1) := by decide +kernel
abbrev tX4_readPath (k : Nat) : MT := (RX4, cX4_readPath, 5, k, none)
def mX4_readPath : MX := bodyOf 5 (sSeq (sSeq (sCallV 8 mX8_next (aR (rGet 4 1 (rLoc 0)) aNil)) (sSeq (sSetI 2 (iCallV 4 mX4_readToldName (aR (rLoc 0) (aR (rLoc 1) aNil)))) (sSeq (sSetI 3 (iCallV 4 mX4_readOtherName (aR (rLoc 0) (aR (rLoc 1) (aI (iLoc 2) (aI (iK 1) aNil)))))) (sSeq (sCallV 4 mX4_expect (aR (rLoc 0) (aI (iK 131) aNil))) (sSeq (sSetI 4 (iCallV 4 mX4_readNumber (aR (rLoc 0) (aI (iK 2) (aI (iK 4) aNil))))) (sSeq (sCallV 4 mX4_expect (aR (rLoc 0) (aI (iK 59) aNil))) (sIf (cZ zeq (iGet 4 2 (rLoc 0))) (sCallV 0 mX0_addPath (aR (rLoc 1) (aI (iLoc 2) (aI (iLoc 3) (aI (iLoc 4) aNil))))) sSkip))))))) sRetV)
theorem kX4_readPath (g : GT) : MK g 5 yX4_readPath cX4_readPath 5 none mX4_readPath := MK.of (pcN := 99999) (pcB := 0) (pcC := 0) rfl (Sok.seq (pc1 := 57) (Sok.seq (pc1 := 7) (Sok.sCallV (pc1 := 4) (Aok.aR (pc1 := 4) (EokR.getf (pc1 := 1) (j := 1) (ci := 4) (T := TX4) (N := 3) (EokR.aload_n (q := 0) dX4_readPath_0) rfl wsX4_in (by decide) flX4_20 dX4_readPath_1) Aok.nil) (by decide) (kX8_next g) rfl ykX8_next vkX4_69 (by decide) (by decide) dX4_readPath_4) (Sok.seq (pc1 := 13) (Sok.setI_n (q := 2) (pc1 := 12) (EokI.iCallV (pc1 := 9) (Aok.aR (pc1 := 8) (EokR.aload_n (q := 0) dX4_readPath_7) (Aok.aR (pc1 := 9) (EokR.aload_n (q := 1) dX4_readPath_8) Aok.nil)) (kX4_readToldName g) rfl ykX4_readToldName vkX4_113 (by decide) (by decide) dX4_readPath_9) (by decide) dX4_readPath_12 (show 2 < 5 by decide)) (Sok.seq (pc1 := 21) (Sok.setI_n (q := 3) (pc1 := 20) (EokI.iCallV (pc1 := 17) (Aok.aR (pc1 := 14) (EokR.aload_n (q := 0) dX4_readPath_13) (Aok.aR (pc1 := 15) (EokR.aload_n (q := 1) dX4_readPath_14) (Aok.aI (pc1 := 16) (EokI.iload_n (q := 2) dX4_readPath_15) (Aok.aI (pc1 := 17) (EokI.iconst (v := 1) dX4_readPath_16 (by decide)) Aok.nil)))) (kX4_readOtherName g) rfl ykX4_readOtherName vkX4_117 (by decide) (by decide) dX4_readPath_17) (by decide) dX4_readPath_20 (show 3 < 5 by decide)) (Sok.seq (pc1 := 28) (Sok.sCallV (pc1 := 25) (Aok.aR (pc1 := 22) (EokR.aload_n (q := 0) dX4_readPath_21) (Aok.aI (pc1 := 25) (EokI.sipush (v := 131) dX4_readPath_22 (by decide)) Aok.nil)) (by decide) (kX4_expect g) rfl ykX4_expect vkX4_83 (by decide) (by decide) dX4_readPath_25) (Sok.seq (pc1 := 36) (Sok.setI (i := 4) (pc1 := 34) (EokI.iCallV (pc1 := 31) (Aok.aR (pc1 := 29) (EokR.aload_n (q := 0) dX4_readPath_28) (Aok.aI (pc1 := 30) (EokI.iconst (v := 2) dX4_readPath_29 (by decide)) (Aok.aI (pc1 := 31) (EokI.iconst (v := 4) dX4_readPath_30 (by decide)) Aok.nil))) (kX4_readNumber g) rfl ykX4_readNumber vkX4_95 (by decide) (by decide) dX4_readPath_31) (by decide) dX4_readPath_34 (show 4 < 5 by decide)) (Sok.seq (pc1 := 42) (Sok.sCallV (pc1 := 39) (Aok.aR (pc1 := 37) (EokR.aload_n (q := 0) dX4_readPath_36) (Aok.aI (pc1 := 39) (EokI.bipush (v := 59) dX4_readPath_37 (by decide)) Aok.nil)) (by decide) (kX4_expect g) rfl ykX4_expect vkX4_83 (by decide) (by decide) dX4_readPath_39) (Sok.ite (pc1 := 49) (pc2 := 57) (Cok.zero (pc1 := 46) (pcT := 49) (pcF := 57) (EokI.getf (pc1 := 43) (j := 2) (ci := 4) (T := TX4) (N := 3) (EokR.aload_n (q := 0) dX4_readPath_42) rfl wsX4_in (by decide) flX4_29 dX4_readPath_43) (JZ.eqF (tgt := 57) dX4_readPath_46 (by decide))) (by decide) (Sok.sCallV (pc1 := 54) (Aok.aR (pc1 := 50) (EokR.aload_n (q := 1) dX4_readPath_49) (Aok.aI (pc1 := 51) (EokI.iload_n (q := 2) dX4_readPath_50) (Aok.aI (pc1 := 52) (EokI.iload_n (q := 3) dX4_readPath_51) (Aok.aI (pc1 := 54) (EokI.iload (i := 4) dX4_readPath_52) Aok.nil)))) (by decide) (kX0_addPath g) rfl ykX0_addPath vkX4_121 (by decide) (by decide) dX4_readPath_54) (Sok.skip (pc := 57))))))))) (Sok.retV dX4_readPath_57 rfl))
/-! PassHuts$Reader.readProduct(LPassHuts$Law;I)V -/
theorem dX4_readProduct_0 : decode cX4_readProduct 0 = .ok (.aload_n 0, 1) := by decide +kernel
theorem dX4_readProduct_1 : decode cX4_readProduct 1 = .ok (.aload_n 1, 1) := by decide +kernel
theorem dX4_readProduct_2 : decode cX4_readProduct 2 = .ok (.iload_n 2, 1) := by decide +kernel
theorem dX4_readProduct_3 : decode cX4_readProduct 3 = .ok (.invokevirtual 156, 3) := by decide +kernel
theorem dX4_readProduct_6 : decode cX4_readProduct 6 = .ok (.iconst 0, 1) := by decide +kernel
theorem dX4_readProduct_7 : decode cX4_readProduct 7 = .ok (.istore_n 3, 1) := by decide +kernel
theorem dX4_readProduct_8 : decode cX4_readProduct 8 = .ok (.iload_n 3, 1) := by decide +kernel
theorem dX4_readProduct_9 : decode cX4_readProduct 9 = .ok (.sipush 1000, 3) := by decide +kernel
theorem dX4_readProduct_12 : decode cX4_readProduct 12 = .ok (.if_icmp .ge 47, 3) := by decide +kernel
theorem dX4_readProduct_15 : decode cX4_readProduct 15 = .ok (.aload_n 0, 1) := by decide +kernel
theorem dX4_readProduct_16 : decode cX4_readProduct 16 = .ok (.getfield 29, 3) := by decide +kernel
theorem dX4_readProduct_19 : decode cX4_readProduct 19 = .ok (.ifCond .ne 40, 3) := by decide +kernel
theorem dX4_readProduct_22 : decode cX4_readProduct 22 = .ok (.aload_n 0, 1) := by decide +kernel
theorem dX4_readProduct_23 : decode cX4_readProduct 23 = .ok (.getfield 20, 3) := by decide +kernel
theorem dX4_readProduct_26 : decode cX4_readProduct 26 = .ok (.getfield 36, 3) := by decide +kernel
theorem dX4_readProduct_29 : decode cX4_readProduct 29 = .ok (.bipush 42, 2) := by decide +kernel
theorem dX4_readProduct_31 : decode cX4_readProduct 31 = .ok (.if_icmp .ne 28, 3) := by decide +kernel
theorem dX4_readProduct_34 : decode cX4_readProduct 34 = .ok (.aload_n 0, 1) := by decide +kernel
theorem dX4_readProduct_35 : decode cX4_readProduct 35 = .ok (.getfield 20, 3) := by decide +kernel
theorem dX4_readProduct_38 : decode cX4_readProduct 38 = .ok (.invokevirtual 69, 3) := by decide +kernel
theorem dX4_readProduct_41 : decode cX4_readProduct 41 = .ok (.aload_n 0, 1) := by decide +kernel
theorem dX4_readProduct_42 : decode cX4_readProduct 42 = .ok (.aload_n 1, 1) := by decide +kernel
theorem dX4_readProduct_43 : decode cX4_readProduct 43 = .ok (.iload_n 2, 1) := by decide +kernel
theorem dX4_readProduct_44 : decode cX4_readProduct 44 = .ok (.invokevirtual 156, 3) := by decide +kernel
theorem dX4_readProduct_47 : decode cX4_readProduct 47 = .ok (.aload_n 1, 1) := by decide +kernel
theorem dX4_readProduct_48 : decode cX4_readProduct 48 = .ok (.bipush (-12), 2) := by decide +kernel
theorem dX4_readProduct_50 : decode cX4_readProduct 50 = .ok (.invokevirtual 147, 3) := by decide +kernel
theorem dX4_readProduct_53 : decode cX4_readProduct 53 = .ok (.iinc 3 1, 3) := by decide +kernel
theorem dX4_readProduct_56 : decode cX4_readProduct 56 = .ok (.goto (-48), 3) := by decide +kernel
theorem dX4_readProduct_59 : decode cX4_readProduct 59 = .ok (.return_, 1) := by decide +kernel
abbrev tX4_readProduct (k : Nat) : MT := (RX4, cX4_readProduct, 4, k, none)
def lX4_readProduct_1 (P : MX) : SX := (sLoop (cAnd (cAnd (cB rlt (iLoc 3) (iK 1000)) (cZ zeq (iGet 4 2 (rLoc 0)))) (cB req (iGet 8 3 (rGet 4 1 (rLoc 0))) (iK 42))) (sSeq (sCallV 8 mX8_next (aR (rGet 4 1 (rLoc 0)) aNil)) (sSeq (sCallV 4 P (aR (rLoc 0) (aR (rLoc 1) (aI (iLoc 2) aNil)))) (sCallV 1 mX1_add (aR (rLoc 1) (aI (iK (-12)) aNil))))) (sInc 3 1))
theorem olX4_readProduct_1 (g : GT) (kp : Nat) (P : MX) (hkp : 20 ≤ kp) (hP : MK g kp yX4_readPart cX4_readPart 6 none P) {pcB pcC : Nat} : Sok g (tX4_readProduct (kp + 1)) 8 59 pcB pcC (lX4_readProduct_1 P) := (Sok.loop (pc := 8) (pc1 := 34) (pc2 := 53) (pcN := 59) (Cok.and (pc1 := 22) (Cok.and (pc1 := 15) (Cok.cmp (pc1 := 9) (pc2 := 12) (pcT := 15) (pcF := 59) (EokI.iload_n (q := 3) dX4_readProduct_8) (EokI.sipush (v := 1000) dX4_readProduct_9 (by decide)) (JI.ltF (tgt := 59) dX4_readProduct_12 (by decide))) (Cok.zero (pc1 := 19) (pcT := 22) (pcF := 59) (EokI.getf (pc1 := 16) (j := 2) (ci := 4) (T := TX4) (N := 3) (EokR.aload_n (q := 0) dX4_readProduct_15) rfl wsX4_in (by decide) flX4_29 dX4_readProduct_16) (JZ.eqF (tgt := 59) dX4_readProduct_19 (by decide)))) (Cok.cmp (pc1 := 29) (pc2 := 31) (pcT := 34) (pcF := 59) (EokI.getf (pc1 := 26) (j := 3) (ci := 8) (T := TX8) (N := 6) (EokR.getf (pc1 := 23) (j := 1) (ci := 4) (T := TX4) (N := 3) (EokR.aload_n (q := 0) dX4_readProduct_22) rfl wsX4_in (by decide) flX4_20 dX4_readProduct_23) rfl wsX8_in (by decide) flX4_36 dX4_readProduct_26) (EokI.bipush (v := 42) dX4_readProduct_29 (by decide)) (JI.eqF (tgt := 59) dX4_readProduct_31 (by decide)))) (by decide) (Sok.seq (pc1 := 41) (Sok.sCallV (pc1 := 38) (Aok.aR (pc1 := 38) (EokR.getf (pc1 := 35) (j := 1) (ci := 4) (T := TX4) (N := 3) (EokR.aload_n (q := 0) dX4_readProduct_34) rfl wsX4_in (by decide) flX4_20 dX4_readProduct_35) Aok.nil) (by decide) (kX8_next g) rfl ykX8_next vkX4_69 (show _ ≤ kp + 1 by omega) (by decide) dX4_readProduct_38) (Sok.seq (pc1 := 47) (Sok.sCallV (pc1 := 44) (Aok.aR (pc1 := 42) (EokR.aload_n (q := 0) dX4_readProduct_41) (Aok.aR (pc1 := 43) (EokR.aload_n (q := 1) dX4_readProduct_42) (Aok.aI (pc1 := 44) (EokI.iload_n (q := 2) dX4_readProduct_43) Aok.nil))) (by decide) hP rfl ykX4_readPart vkX4_156 (show _ ≤ kp + 1 by omega) (by decide) dX4_readProduct_44) (Sok.sCallV (pc1 := 50) (Aok.aR (pc1 := 48) (EokR.aload_n (q := 1) dX4_readProduct_47) (Aok.aI (pc1 := 50) (EokI.bipush (v := (-12)) dX4_readProduct_48 (by decide)) Aok.nil)) (by decide) (kX1_add g) rfl ykX1_add vkX4_147 (show _ ≤ kp + 1 by omega) (by decide) dX4_readProduct_50))) (Sok.goto (pc1 := 56) (pcN := 8) (Sok.iinc (i := 3) (v := 1) dX4_readProduct_53 (show 3 < 4 by decide) (by decide)) dX4_readProduct_56 (by decide)))
def mX4_readProduct (P : MX) : MX := bodyOf 4 (sSeq (sSeq (sCallV 4 P (aR (rLoc 0) (aR (rLoc 1) (aI (iLoc 2) aNil)))) (sSeq (sSeq (sSetI 3 (iK 0)) (lX4_readProduct_1 P)) (sForget 3))) sRetV)
theorem kX4_readProduct (g : GT) (kp : Nat) (P : MX) (hkp : 20 ≤ kp) (hP : MK g kp yX4_readPart cX4_readPart 6 none P) : MK g (kp + 1) yX4_readProduct cX4_readProduct 4 none (mX4_readProduct P) := MK.of (pcN := 99999) (pcB := 0) (pcC := 0) rfl (Sok.seq (pc1 := 59) (Sok.seq (pc1 := 6) (Sok.sCallV (pc1 := 3) (Aok.aR (pc1 := 1) (EokR.aload_n (q := 0) dX4_readProduct_0) (Aok.aR (pc1 := 2) (EokR.aload_n (q := 1) dX4_readProduct_1) (Aok.aI (pc1 := 3) (EokI.iload_n (q := 2) dX4_readProduct_2) Aok.nil))) (by decide) hP rfl ykX4_readPart vkX4_156 (show _ ≤ kp + 1 by omega) (by decide) dX4_readProduct_3) (Sok.seq (pc1 := 59) (Sok.seq (pc1 := 8) (Sok.setI_n (q := 3) (pc1 := 7) (EokI.iconst (v := 0) dX4_readProduct_6 (by decide)) (by decide) dX4_readProduct_7 (show 3 < 4 by decide)) (olX4_readProduct_1 g kp P hkp hP)) (Sok.forget (pc := 59)))) (Sok.retV dX4_readProduct_59 rfl))
/-! PassHuts$Reader.readSum(LPassHuts$Law;I)V -/
theorem dX4_readSum_0 : decode cX4_readSum 0 = .ok (.aload_n 0, 1) := by decide +kernel
theorem dX4_readSum_1 : decode cX4_readSum 1 = .ok (.aload_n 1, 1) := by decide +kernel
theorem dX4_readSum_2 : decode cX4_readSum 2 = .ok (.iload_n 2, 1) := by decide +kernel
theorem dX4_readSum_3 : decode cX4_readSum 3 = .ok (.invokevirtual 153, 3) := by decide +kernel
theorem dX4_readSum_6 : decode cX4_readSum 6 = .ok (.iconst 0, 1) := by decide +kernel
theorem dX4_readSum_7 : decode cX4_readSum 7 = .ok (.istore_n 3, 1) := by decide +kernel
theorem dX4_readSum_8 : decode cX4_readSum 8 = .ok (.iload_n 3, 1) := by decide +kernel
theorem dX4_readSum_9 : decode cX4_readSum 9 = .ok (.sipush 1000, 3) := by decide +kernel
theorem dX4_readSum_12 : decode cX4_readSum 12 = .ok (.if_icmp .ge 71, 3) := by decide +kernel
theorem dX4_readSum_15 : decode cX4_readSum 15 = .ok (.aload_n 0, 1) := by decide +kernel
theorem dX4_readSum_16 : decode cX4_readSum 16 = .ok (.getfield 29, 3) := by decide +kernel
theorem dX4_readSum_19 : decode cX4_readSum 19 = .ok (.ifCond .ne 64, 3) := by decide +kernel
theorem dX4_readSum_22 : decode cX4_readSum 22 = .ok (.aload_n 0, 1) := by decide +kernel
theorem dX4_readSum_23 : decode cX4_readSum 23 = .ok (.getfield 20, 3) := by decide +kernel
theorem dX4_readSum_26 : decode cX4_readSum 26 = .ok (.getfield 36, 3) := by decide +kernel
theorem dX4_readSum_29 : decode cX4_readSum 29 = .ok (.istore 4, 2) := by decide +kernel
theorem dX4_readSum_31 : decode cX4_readSum 31 = .ok (.iload 4, 2) := by decide +kernel
theorem dX4_readSum_33 : decode cX4_readSum 33 = .ok (.bipush 43, 2) := by decide +kernel
theorem dX4_readSum_35 : decode cX4_readSum 35 = .ok (.if_icmp .eq 11, 3) := by decide +kernel
theorem dX4_readSum_38 : decode cX4_readSum 38 = .ok (.iload 4, 2) := by decide +kernel
theorem dX4_readSum_40 : decode cX4_readSum 40 = .ok (.bipush 45, 2) := by decide +kernel
theorem dX4_readSum_42 : decode cX4_readSum 42 = .ok (.if_icmp .eq 4, 3) := by decide +kernel
theorem dX4_readSum_45 : decode cX4_readSum 45 = .ok (.return_, 1) := by decide +kernel
theorem dX4_readSum_46 : decode cX4_readSum 46 = .ok (.aload_n 0, 1) := by decide +kernel
theorem dX4_readSum_47 : decode cX4_readSum 47 = .ok (.getfield 20, 3) := by decide +kernel
theorem dX4_readSum_50 : decode cX4_readSum 50 = .ok (.invokevirtual 69, 3) := by decide +kernel
theorem dX4_readSum_53 : decode cX4_readSum 53 = .ok (.aload_n 0, 1) := by decide +kernel
theorem dX4_readSum_54 : decode cX4_readSum 54 = .ok (.aload_n 1, 1) := by decide +kernel
theorem dX4_readSum_55 : decode cX4_readSum 55 = .ok (.iload_n 2, 1) := by decide +kernel
theorem dX4_readSum_56 : decode cX4_readSum 56 = .ok (.invokevirtual 153, 3) := by decide +kernel
theorem dX4_readSum_59 : decode cX4_readSum 59 = .ok (.aload_n 1, 1) := by decide +kernel
theorem dX4_readSum_60 : decode cX4_readSum 60 = .ok (.iload 4, 2) := by decide +kernel
theorem dX4_readSum_62 : decode cX4_readSum 62 = .ok (.bipush 43, 2) := by decide +kernel
theorem dX4_readSum_64 : decode cX4_readSum 64 = .ok (.if_icmp .ne 8, 3) := by decide +kernel
theorem dX4_readSum_67 : decode cX4_readSum 67 = .ok (.bipush (-10), 2) := by decide +kernel
theorem dX4_readSum_69 : decode cX4_readSum 69 = .ok (.goto 5, 3) := by decide +kernel
theorem dX4_readSum_72 : decode cX4_readSum 72 = .ok (.bipush (-11), 2) := by decide +kernel
theorem dX4_readSum_74 : decode cX4_readSum 74 = .ok (.invokevirtual 147, 3) := by decide +kernel
theorem dX4_readSum_77 : decode cX4_readSum 77 = .ok (.iinc 3 1, 3) := by decide +kernel
theorem dX4_readSum_80 : decode cX4_readSum 80 = .ok (.goto (-72), 3) := by decide +kernel
theorem dX4_readSum_83 : decode cX4_readSum 83 = .ok (.return_, 1) := by decide +kernel
abbrev tX4_readSum (k : Nat) : MT := (RX4, cX4_readSum, 5, k, none)
def lX4_readSum_1 (P : MX) : SX := (sLoop (cAnd (cB rlt (iLoc 3) (iK 1000)) (cZ zeq (iGet 4 2 (rLoc 0)))) (sSeq (sSetI 4 (iGet 8 3 (rGet 4 1 (rLoc 0)))) (sSeq (sIf (cAnd (cB rne (iLoc 4) (iK 43)) (cB rne (iLoc 4) (iK 45))) sRetV sSkip) (sSeq (sCallV 8 mX8_next (aR (rGet 4 1 (rLoc 0)) aNil)) (sSeq (sCallV 4 (mX4_readProduct P) (aR (rLoc 0) (aR (rLoc 1) (aI (iLoc 2) aNil)))) (sCallV 1 mX1_add (aR (rLoc 1) (aI (iCond (cB req (iLoc 4) (iK 43)) (iK (-10)) (iK (-11))) aNil))))))) (sSeq (sForget 4) (sInc 3 1)))
theorem olX4_readSum_1 (g : GT) (kp : Nat) (P : MX) (hkp : 20 ≤ kp) (hP : MK g kp yX4_readPart cX4_readPart 6 none P) {pcB pcC : Nat} : Sok g (tX4_readSum (kp + 2)) 8 83 pcB pcC (lX4_readSum_1 P) := (Sok.loop (pc := 8) (pc1 := 22) (pc2 := 77) (pcN := 83) (Cok.and (pc1 := 15) (Cok.cmp (pc1 := 9) (pc2 := 12) (pcT := 15) (pcF := 83) (EokI.iload_n (q := 3) dX4_readSum_8) (EokI.sipush (v := 1000) dX4_readSum_9 (by decide)) (JI.ltF (tgt := 83) dX4_readSum_12 (by decide))) (Cok.zero (pc1 := 19) (pcT := 22) (pcF := 83) (EokI.getf (pc1 := 16) (j := 2) (ci := 4) (T := TX4) (N := 3) (EokR.aload_n (q := 0) dX4_readSum_15) rfl wsX4_in (by decide) flX4_29 dX4_readSum_16) (JZ.eqF (tgt := 83) dX4_readSum_19 (by decide)))) (by decide) (Sok.seq (pc1 := 31) (Sok.setI (i := 4) (pc1 := 29) (EokI.getf (pc1 := 26) (j := 3) (ci := 8) (T := TX8) (N := 6) (EokR.getf (pc1 := 23) (j := 1) (ci := 4) (T := TX4) (N := 3) (EokR.aload_n (q := 0) dX4_readSum_22) rfl wsX4_in (by decide) flX4_20 dX4_readSum_23) rfl wsX8_in (by decide) flX4_36 dX4_readSum_26) (by decide) dX4_readSum_29 (show 4 < 5 by decide)) (Sok.seq (pc1 := 46) (Sok.ite (pc1 := 45) (pc2 := 46) (Cok.and (pc1 := 38) (Cok.cmp (pc1 := 33) (pc2 := 35) (pcT := 38) (pcF := 46) (EokI.iload (i := 4) dX4_readSum_31) (EokI.bipush (v := 43) dX4_readSum_33 (by decide)) (JI.neF (tgt := 46) dX4_readSum_35 (by decide))) (Cok.cmp (pc1 := 40) (pc2 := 42) (pcT := 45) (pcF := 46) (EokI.iload (i := 4) dX4_readSum_38) (EokI.bipush (v := 45) dX4_readSum_40 (by decide)) (JI.neF (tgt := 46) dX4_readSum_42 (by decide)))) (by decide) (Sok.retV dX4_readSum_45 rfl) (Sok.skip (pc := 46))) (Sok.seq (pc1 := 53) (Sok.sCallV (pc1 := 50) (Aok.aR (pc1 := 50) (EokR.getf (pc1 := 47) (j := 1) (ci := 4) (T := TX4) (N := 3) (EokR.aload_n (q := 0) dX4_readSum_46) rfl wsX4_in (by decide) flX4_20 dX4_readSum_47) Aok.nil) (by decide) (kX8_next g) rfl ykX8_next vkX4_69 (show _ ≤ kp + 2 by omega) (by decide) dX4_readSum_50) (Sok.seq (pc1 := 59) (Sok.sCallV (pc1 := 56) (Aok.aR (pc1 := 54) (EokR.aload_n (q := 0) dX4_readSum_53) (Aok.aR (pc1 := 55) (EokR.aload_n (q := 1) dX4_readSum_54) (Aok.aI (pc1 := 56) (EokI.iload_n (q := 2) dX4_readSum_55) Aok.nil))) (by decide) (kX4_readProduct g kp P hkp hP) rfl ykX4_readProduct vkX4_153 (show _ ≤ kp + 2 by omega) (by decide) dX4_readSum_56) (Sok.sCallV (pc1 := 74) (Aok.aR (pc1 := 60) (EokR.aload_n (q := 1) dX4_readSum_59) (Aok.aI (pc1 := 74) (EokI.cond' (pc1 := 67) (pc2 := 72) (Cok.cmp (pc1 := 62) (pc2 := 64) (pcT := 67) (pcF := 72) (EokI.iload (i := 4) dX4_readSum_60) (EokI.bipush (v := 43) dX4_readSum_62 (by decide)) (JI.eqF (tgt := 72) dX4_readSum_64 (by decide))) (EokI.goto (pc1 := 69) (pc2 := 74) (EokI.bipush (v := (-10)) dX4_readSum_67 (by decide)) dX4_readSum_69 (by decide)) (EokI.bipush (v := (-11)) dX4_readSum_72 (by decide))) Aok.nil)) (by decide) (kX1_add g) rfl ykX1_add vkX4_147 (show _ ≤ kp + 2 by omega) (by decide) dX4_readSum_74))))) (Sok.seq (pc1 := 77) Sok.forget (Sok.goto (pc1 := 80) (pcN := 8) (Sok.iinc (i := 3) (v := 1) dX4_readSum_77 (show 3 < 5 by decide) (by decide)) dX4_readSum_80 (by decide))))
def mX4_readSum (P : MX) : MX := bodyOf 5 (sSeq (sSeq (sCallV 4 (mX4_readProduct P) (aR (rLoc 0) (aR (rLoc 1) (aI (iLoc 2) aNil)))) (sSeq (sSeq (sSetI 3 (iK 0)) (lX4_readSum_1 P)) (sForget 3))) sRetV)
theorem kX4_readSum (g : GT) (kp : Nat) (P : MX) (hkp : 20 ≤ kp) (hP : MK g kp yX4_readPart cX4_readPart 6 none P) : MK g (kp + 2) yX4_readSum cX4_readSum 5 none (mX4_readSum P) := MK.of (pcN := 99999) (pcB := 0) (pcC := 0) rfl (Sok.seq (pc1 := 83) (Sok.seq (pc1 := 6) (Sok.sCallV (pc1 := 3) (Aok.aR (pc1 := 1) (EokR.aload_n (q := 0) dX4_readSum_0) (Aok.aR (pc1 := 2) (EokR.aload_n (q := 1) dX4_readSum_1) (Aok.aI (pc1 := 3) (EokI.iload_n (q := 2) dX4_readSum_2) Aok.nil))) (by decide) (kX4_readProduct g kp P hkp hP) rfl ykX4_readProduct vkX4_153 (show _ ≤ kp + 2 by omega) (by decide) dX4_readSum_3) (Sok.seq (pc1 := 83) (Sok.seq (pc1 := 8) (Sok.setI_n (q := 3) (pc1 := 7) (EokI.iconst (v := 0) dX4_readSum_6 (by decide)) (by decide) dX4_readSum_7 (show 3 < 5 by decide)) (olX4_readSum_1 g kp P hkp hP)) (Sok.forget (pc := 83)))) (Sok.retV dX4_readSum_83 rfl))
/-! PassHuts$Reader.readTest(LPassHuts$Law;I)V -/
theorem dX4_readTest_0 : decode cX4_readTest 0 = .ok (.aload_n 0, 1) := by decide +kernel
theorem dX4_readTest_1 : decode cX4_readTest 1 = .ok (.aload_n 1, 1) := by decide +kernel
theorem dX4_readTest_2 : decode cX4_readTest 2 = .ok (.iload_n 2, 1) := by decide +kernel
theorem dX4_readTest_3 : decode cX4_readTest 3 = .ok (.invokevirtual 150, 3) := by decide +kernel
theorem dX4_readTest_6 : decode cX4_readTest 6 = .ok (.aload_n 0, 1) := by decide +kernel
theorem dX4_readTest_7 : decode cX4_readTest 7 = .ok (.getfield 20, 3) := by decide +kernel
theorem dX4_readTest_10 : decode cX4_readTest 10 = .ok (.getfield 36, 3) := by decide +kernel
theorem dX4_readTest_13 : decode cX4_readTest 13 = .ok (.istore_n 3, 1) := by decide +kernel
theorem dX4_readTest_14 : decode cX4_readTest 14 = .ok (.aload_n 0, 1) := by decide +kernel
theorem dX4_readTest_15 : decode cX4_readTest 15 = .ok (.getfield 29, 3) := by decide +kernel
theorem dX4_readTest_18 : decode cX4_readTest 18 = .ok (.ifCond .ne 45, 3) := by decide +kernel
theorem dX4_readTest_21 : decode cX4_readTest 21 = .ok (.iload_n 3, 1) := by decide +kernel
theorem dX4_readTest_22 : decode cX4_readTest 22 = .ok (.bipush 60, 2) := by decide +kernel
theorem dX4_readTest_24 : decode cX4_readTest 24 = .ok (.if_icmp .eq 9, 3) := by decide +kernel
theorem dX4_readTest_27 : decode cX4_readTest 27 = .ok (.iload_n 3, 1) := by decide +kernel
theorem dX4_readTest_28 : decode cX4_readTest 28 = .ok (.bipush 61, 2) := by decide +kernel
theorem dX4_readTest_30 : decode cX4_readTest 30 = .ok (.if_icmp .ne 33, 3) := by decide +kernel
theorem dX4_readTest_33 : decode cX4_readTest 33 = .ok (.aload_n 0, 1) := by decide +kernel
theorem dX4_readTest_34 : decode cX4_readTest 34 = .ok (.getfield 20, 3) := by decide +kernel
theorem dX4_readTest_37 : decode cX4_readTest 37 = .ok (.invokevirtual 69, 3) := by decide +kernel
theorem dX4_readTest_40 : decode cX4_readTest 40 = .ok (.aload_n 0, 1) := by decide +kernel
theorem dX4_readTest_41 : decode cX4_readTest 41 = .ok (.aload_n 1, 1) := by decide +kernel
theorem dX4_readTest_42 : decode cX4_readTest 42 = .ok (.iload_n 2, 1) := by decide +kernel
theorem dX4_readTest_43 : decode cX4_readTest 43 = .ok (.invokevirtual 150, 3) := by decide +kernel
theorem dX4_readTest_46 : decode cX4_readTest 46 = .ok (.aload_n 1, 1) := by decide +kernel
theorem dX4_readTest_47 : decode cX4_readTest 47 = .ok (.iload_n 3, 1) := by decide +kernel
theorem dX4_readTest_48 : decode cX4_readTest 48 = .ok (.bipush 60, 2) := by decide +kernel
theorem dX4_readTest_50 : decode cX4_readTest 50 = .ok (.if_icmp .ne 8, 3) := by decide +kernel
theorem dX4_readTest_53 : decode cX4_readTest 53 = .ok (.bipush (-8), 2) := by decide +kernel
theorem dX4_readTest_55 : decode cX4_readTest 55 = .ok (.goto 5, 3) := by decide +kernel
theorem dX4_readTest_58 : decode cX4_readTest 58 = .ok (.bipush (-9), 2) := by decide +kernel
theorem dX4_readTest_60 : decode cX4_readTest 60 = .ok (.invokevirtual 147, 3) := by decide +kernel
theorem dX4_readTest_63 : decode cX4_readTest 63 = .ok (.return_, 1) := by decide +kernel
abbrev tX4_readTest (k : Nat) : MT := (RX4, cX4_readTest, 4, k, none)
def mX4_readTest (P : MX) : MX := bodyOf 4 (sSeq (sSeq (sCallV 4 (mX4_readSum P) (aR (rLoc 0) (aR (rLoc 1) (aI (iLoc 2) aNil)))) (sSeq (sSetI 3 (iGet 8 3 (rGet 4 1 (rLoc 0)))) (sIf (cAnd (cZ zeq (iGet 4 2 (rLoc 0))) (cOr (cB req (iLoc 3) (iK 60)) (cB req (iLoc 3) (iK 61)))) (sSeq (sCallV 8 mX8_next (aR (rGet 4 1 (rLoc 0)) aNil)) (sSeq (sCallV 4 (mX4_readSum P) (aR (rLoc 0) (aR (rLoc 1) (aI (iLoc 2) aNil)))) (sCallV 1 mX1_add (aR (rLoc 1) (aI (iCond (cB req (iLoc 3) (iK 60)) (iK (-8)) (iK (-9))) aNil))))) sSkip))) sRetV)
theorem kX4_readTest (g : GT) (kp : Nat) (P : MX) (hkp : 20 ≤ kp) (hP : MK g kp yX4_readPart cX4_readPart 6 none P) : MK g (kp + 3) yX4_readTest cX4_readTest 4 none (mX4_readTest P) := MK.of (pcN := 99999) (pcB := 0) (pcC := 0) rfl (Sok.seq (pc1 := 63) (Sok.seq (pc1 := 6) (Sok.sCallV (pc1 := 3) (Aok.aR (pc1 := 1) (EokR.aload_n (q := 0) dX4_readTest_0) (Aok.aR (pc1 := 2) (EokR.aload_n (q := 1) dX4_readTest_1) (Aok.aI (pc1 := 3) (EokI.iload_n (q := 2) dX4_readTest_2) Aok.nil))) (by decide) (kX4_readSum g kp P hkp hP) rfl ykX4_readSum vkX4_150 (show _ ≤ kp + 3 by omega) (by decide) dX4_readTest_3) (Sok.seq (pc1 := 14) (Sok.setI_n (q := 3) (pc1 := 13) (EokI.getf (pc1 := 10) (j := 3) (ci := 8) (T := TX8) (N := 6) (EokR.getf (pc1 := 7) (j := 1) (ci := 4) (T := TX4) (N := 3) (EokR.aload_n (q := 0) dX4_readTest_6) rfl wsX4_in (by decide) flX4_20 dX4_readTest_7) rfl wsX8_in (by decide) flX4_36 dX4_readTest_10) (by decide) dX4_readTest_13 (show 3 < 4 by decide)) (Sok.ite (pc1 := 33) (pc2 := 63) (Cok.and (pc1 := 21) (Cok.zero (pc1 := 18) (pcT := 21) (pcF := 63) (EokI.getf (pc1 := 15) (j := 2) (ci := 4) (T := TX4) (N := 3) (EokR.aload_n (q := 0) dX4_readTest_14) rfl wsX4_in (by decide) flX4_29 dX4_readTest_15) (JZ.eqF (tgt := 63) dX4_readTest_18 (by decide))) (Cok.or (pc1 := 27) (Cok.cmp (pc1 := 22) (pc2 := 24) (pcT := 33) (pcF := 27) (EokI.iload_n (q := 3) dX4_readTest_21) (EokI.bipush (v := 60) dX4_readTest_22 (by decide)) (JI.eqT (tgt := 33) dX4_readTest_24 (by decide))) (Cok.cmp (pc1 := 28) (pc2 := 30) (pcT := 33) (pcF := 63) (EokI.iload_n (q := 3) dX4_readTest_27) (EokI.bipush (v := 61) dX4_readTest_28 (by decide)) (JI.eqF (tgt := 63) dX4_readTest_30 (by decide))))) (by decide) (Sok.seq (pc1 := 40) (Sok.sCallV (pc1 := 37) (Aok.aR (pc1 := 37) (EokR.getf (pc1 := 34) (j := 1) (ci := 4) (T := TX4) (N := 3) (EokR.aload_n (q := 0) dX4_readTest_33) rfl wsX4_in (by decide) flX4_20 dX4_readTest_34) Aok.nil) (by decide) (kX8_next g) rfl ykX8_next vkX4_69 (show _ ≤ kp + 3 by omega) (by decide) dX4_readTest_37) (Sok.seq (pc1 := 46) (Sok.sCallV (pc1 := 43) (Aok.aR (pc1 := 41) (EokR.aload_n (q := 0) dX4_readTest_40) (Aok.aR (pc1 := 42) (EokR.aload_n (q := 1) dX4_readTest_41) (Aok.aI (pc1 := 43) (EokI.iload_n (q := 2) dX4_readTest_42) Aok.nil))) (by decide) (kX4_readSum g kp P hkp hP) rfl ykX4_readSum vkX4_150 (show _ ≤ kp + 3 by omega) (by decide) dX4_readTest_43) (Sok.sCallV (pc1 := 60) (Aok.aR (pc1 := 47) (EokR.aload_n (q := 1) dX4_readTest_46) (Aok.aI (pc1 := 60) (EokI.cond' (pc1 := 53) (pc2 := 58) (Cok.cmp (pc1 := 48) (pc2 := 50) (pcT := 53) (pcF := 58) (EokI.iload_n (q := 3) dX4_readTest_47) (EokI.bipush (v := 60) dX4_readTest_48 (by decide)) (JI.eqF (tgt := 58) dX4_readTest_50 (by decide))) (EokI.goto (pc1 := 55) (pc2 := 60) (EokI.bipush (v := (-8)) dX4_readTest_53 (by decide)) dX4_readTest_55 (by decide)) (EokI.bipush (v := (-9)) dX4_readTest_58 (by decide))) Aok.nil)) (by decide) (kX1_add g) rfl ykX1_add vkX4_147 (show _ ≤ kp + 3 by omega) (by decide) dX4_readTest_60))) (Sok.skip (pc := 63))))) (Sok.retV dX4_readTest_63 rfl))
/-! PassHuts$Reader.readTests(LPassHuts$Law;I)V -/
theorem dX4_readTests_0 : decode cX4_readTests 0 = .ok (.aload_n 0, 1) := by decide +kernel
theorem dX4_readTests_1 : decode cX4_readTests 1 = .ok (.aload_n 1, 1) := by decide +kernel
theorem dX4_readTests_2 : decode cX4_readTests 2 = .ok (.iload_n 2, 1) := by decide +kernel
theorem dX4_readTests_3 : decode cX4_readTests 3 = .ok (.invokevirtual 144, 3) := by decide +kernel
theorem dX4_readTests_6 : decode cX4_readTests 6 = .ok (.iconst 0, 1) := by decide +kernel
theorem dX4_readTests_7 : decode cX4_readTests 7 = .ok (.istore_n 3, 1) := by decide +kernel
theorem dX4_readTests_8 : decode cX4_readTests 8 = .ok (.iload_n 3, 1) := by decide +kernel
theorem dX4_readTests_9 : decode cX4_readTests 9 = .ok (.sipush 1000, 3) := by decide +kernel
theorem dX4_readTests_12 : decode cX4_readTests 12 = .ok (.if_icmp .ge 74, 3) := by decide +kernel
theorem dX4_readTests_15 : decode cX4_readTests 15 = .ok (.aload_n 0, 1) := by decide +kernel
theorem dX4_readTests_16 : decode cX4_readTests 16 = .ok (.getfield 29, 3) := by decide +kernel
theorem dX4_readTests_19 : decode cX4_readTests 19 = .ok (.ifCond .ne 67, 3) := by decide +kernel
theorem dX4_readTests_22 : decode cX4_readTests 22 = .ok (.aload_n 0, 1) := by decide +kernel
theorem dX4_readTests_23 : decode cX4_readTests 23 = .ok (.getfield 20, 3) := by decide +kernel
theorem dX4_readTests_26 : decode cX4_readTests 26 = .ok (.getfield 36, 3) := by decide +kernel
theorem dX4_readTests_29 : decode cX4_readTests 29 = .ok (.istore 4, 2) := by decide +kernel
theorem dX4_readTests_31 : decode cX4_readTests 31 = .ok (.iload 4, 2) := by decide +kernel
theorem dX4_readTests_33 : decode cX4_readTests 33 = .ok (.sipush 141, 3) := by decide +kernel
theorem dX4_readTests_36 : decode cX4_readTests 36 = .ok (.if_icmp .eq 12, 3) := by decide +kernel
theorem dX4_readTests_39 : decode cX4_readTests 39 = .ok (.iload 4, 2) := by decide +kernel
theorem dX4_readTests_41 : decode cX4_readTests 41 = .ok (.sipush 142, 3) := by decide +kernel
theorem dX4_readTests_44 : decode cX4_readTests 44 = .ok (.if_icmp .eq 4, 3) := by decide +kernel
theorem dX4_readTests_47 : decode cX4_readTests 47 = .ok (.return_, 1) := by decide +kernel
theorem dX4_readTests_48 : decode cX4_readTests 48 = .ok (.aload_n 0, 1) := by decide +kernel
theorem dX4_readTests_49 : decode cX4_readTests 49 = .ok (.getfield 20, 3) := by decide +kernel
theorem dX4_readTests_52 : decode cX4_readTests 52 = .ok (.invokevirtual 69, 3) := by decide +kernel
theorem dX4_readTests_55 : decode cX4_readTests 55 = .ok (.aload_n 0, 1) := by decide +kernel
theorem dX4_readTests_56 : decode cX4_readTests 56 = .ok (.aload_n 1, 1) := by decide +kernel
theorem dX4_readTests_57 : decode cX4_readTests 57 = .ok (.iload_n 2, 1) := by decide +kernel
theorem dX4_readTests_58 : decode cX4_readTests 58 = .ok (.invokevirtual 144, 3) := by decide +kernel
theorem dX4_readTests_61 : decode cX4_readTests 61 = .ok (.aload_n 1, 1) := by decide +kernel
theorem dX4_readTests_62 : decode cX4_readTests 62 = .ok (.iload 4, 2) := by decide +kernel
theorem dX4_readTests_64 : decode cX4_readTests 64 = .ok (.sipush 141, 3) := by decide +kernel
theorem dX4_readTests_67 : decode cX4_readTests 67 = .ok (.if_icmp .ne 8, 3) := by decide +kernel
theorem dX4_readTests_70 : decode cX4_readTests 70 = .ok (.bipush (-6), 2) := by decide +kernel
theorem dX4_readTests_72 : decode cX4_readTests 72 = .ok (.goto 5, 3) := by decide +kernel
theorem dX4_readTests_75 : decode cX4_readTests 75 = .ok (.bipush (-7), 2) := by decide +kernel
theorem dX4_readTests_77 : decode cX4_readTests 77 = .ok (.invokevirtual 147, 3) := by decide +kernel
theorem dX4_readTests_80 : decode cX4_readTests 80 = .ok (.iinc 3 1, 3) := by decide +kernel
theorem dX4_readTests_83 : decode cX4_readTests 83 = .ok (.goto (-75), 3) := by decide +kernel
theorem dX4_readTests_86 : decode cX4_readTests 86 = .ok (.return_, 1) := by decide +kernel
abbrev tX4_readTests (k : Nat) : MT := (RX4, cX4_readTests, 5, k, none)
def lX4_readTests_1 (P : MX) : SX := (sLoop (cAnd (cB rlt (iLoc 3) (iK 1000)) (cZ zeq (iGet 4 2 (rLoc 0)))) (sSeq (sSetI 4 (iGet 8 3 (rGet 4 1 (rLoc 0)))) (sSeq (sIf (cAnd (cB rne (iLoc 4) (iK 141)) (cB rne (iLoc 4) (iK 142))) sRetV sSkip) (sSeq (sCallV 8 mX8_next (aR (rGet 4 1 (rLoc 0)) aNil)) (sSeq (sCallV 4 (mX4_readTest P) (aR (rLoc 0) (aR (rLoc 1) (aI (iLoc 2) aNil)))) (sCallV 1 mX1_add (aR (rLoc 1) (aI (iCond (cB req (iLoc 4) (iK 141)) (iK (-6)) (iK (-7))) aNil))))))) (sSeq (sForget 4) (sInc 3 1)))
theorem olX4_readTests_1 (g : GT) (kp : Nat) (P : MX) (hkp : 20 ≤ kp) (hP : MK g kp yX4_readPart cX4_readPart 6 none P) {pcB pcC : Nat} : Sok g (tX4_readTests (kp + 4)) 8 86 pcB pcC (lX4_readTests_1 P) := (Sok.loop (pc := 8) (pc1 := 22) (pc2 := 80) (pcN := 86) (Cok.and (pc1 := 15) (Cok.cmp (pc1 := 9) (pc2 := 12) (pcT := 15) (pcF := 86) (EokI.iload_n (q := 3) dX4_readTests_8) (EokI.sipush (v := 1000) dX4_readTests_9 (by decide)) (JI.ltF (tgt := 86) dX4_readTests_12 (by decide))) (Cok.zero (pc1 := 19) (pcT := 22) (pcF := 86) (EokI.getf (pc1 := 16) (j := 2) (ci := 4) (T := TX4) (N := 3) (EokR.aload_n (q := 0) dX4_readTests_15) rfl wsX4_in (by decide) flX4_29 dX4_readTests_16) (JZ.eqF (tgt := 86) dX4_readTests_19 (by decide)))) (by decide) (Sok.seq (pc1 := 31) (Sok.setI (i := 4) (pc1 := 29) (EokI.getf (pc1 := 26) (j := 3) (ci := 8) (T := TX8) (N := 6) (EokR.getf (pc1 := 23) (j := 1) (ci := 4) (T := TX4) (N := 3) (EokR.aload_n (q := 0) dX4_readTests_22) rfl wsX4_in (by decide) flX4_20 dX4_readTests_23) rfl wsX8_in (by decide) flX4_36 dX4_readTests_26) (by decide) dX4_readTests_29 (show 4 < 5 by decide)) (Sok.seq (pc1 := 48) (Sok.ite (pc1 := 47) (pc2 := 48) (Cok.and (pc1 := 39) (Cok.cmp (pc1 := 33) (pc2 := 36) (pcT := 39) (pcF := 48) (EokI.iload (i := 4) dX4_readTests_31) (EokI.sipush (v := 141) dX4_readTests_33 (by decide)) (JI.neF (tgt := 48) dX4_readTests_36 (by decide))) (Cok.cmp (pc1 := 41) (pc2 := 44) (pcT := 47) (pcF := 48) (EokI.iload (i := 4) dX4_readTests_39) (EokI.sipush (v := 142) dX4_readTests_41 (by decide)) (JI.neF (tgt := 48) dX4_readTests_44 (by decide)))) (by decide) (Sok.retV dX4_readTests_47 rfl) (Sok.skip (pc := 48))) (Sok.seq (pc1 := 55) (Sok.sCallV (pc1 := 52) (Aok.aR (pc1 := 52) (EokR.getf (pc1 := 49) (j := 1) (ci := 4) (T := TX4) (N := 3) (EokR.aload_n (q := 0) dX4_readTests_48) rfl wsX4_in (by decide) flX4_20 dX4_readTests_49) Aok.nil) (by decide) (kX8_next g) rfl ykX8_next vkX4_69 (show _ ≤ kp + 4 by omega) (by decide) dX4_readTests_52) (Sok.seq (pc1 := 61) (Sok.sCallV (pc1 := 58) (Aok.aR (pc1 := 56) (EokR.aload_n (q := 0) dX4_readTests_55) (Aok.aR (pc1 := 57) (EokR.aload_n (q := 1) dX4_readTests_56) (Aok.aI (pc1 := 58) (EokI.iload_n (q := 2) dX4_readTests_57) Aok.nil))) (by decide) (kX4_readTest g kp P hkp hP) rfl ykX4_readTest vkX4_144 (show _ ≤ kp + 4 by omega) (by decide) dX4_readTests_58) (Sok.sCallV (pc1 := 77) (Aok.aR (pc1 := 62) (EokR.aload_n (q := 1) dX4_readTests_61) (Aok.aI (pc1 := 77) (EokI.cond' (pc1 := 70) (pc2 := 75) (Cok.cmp (pc1 := 64) (pc2 := 67) (pcT := 70) (pcF := 75) (EokI.iload (i := 4) dX4_readTests_62) (EokI.sipush (v := 141) dX4_readTests_64 (by decide)) (JI.eqF (tgt := 75) dX4_readTests_67 (by decide))) (EokI.goto (pc1 := 72) (pc2 := 77) (EokI.bipush (v := (-6)) dX4_readTests_70 (by decide)) dX4_readTests_72 (by decide)) (EokI.bipush (v := (-7)) dX4_readTests_75 (by decide))) Aok.nil)) (by decide) (kX1_add g) rfl ykX1_add vkX4_147 (show _ ≤ kp + 4 by omega) (by decide) dX4_readTests_77))))) (Sok.seq (pc1 := 80) Sok.forget (Sok.goto (pc1 := 83) (pcN := 8) (Sok.iinc (i := 3) (v := 1) dX4_readTests_80 (show 3 < 5 by decide) (by decide)) dX4_readTests_83 (by decide))))
def mX4_readTests (P : MX) : MX := bodyOf 5 (sSeq (sSeq (sCallV 4 (mX4_readTest P) (aR (rLoc 0) (aR (rLoc 1) (aI (iLoc 2) aNil)))) (sSeq (sSeq (sSetI 3 (iK 0)) (lX4_readTests_1 P)) (sForget 3))) sRetV)
theorem kX4_readTests (g : GT) (kp : Nat) (P : MX) (hkp : 20 ≤ kp) (hP : MK g kp yX4_readPart cX4_readPart 6 none P) : MK g (kp + 4) yX4_readTests cX4_readTests 5 none (mX4_readTests P) := MK.of (pcN := 99999) (pcB := 0) (pcC := 0) rfl (Sok.seq (pc1 := 86) (Sok.seq (pc1 := 6) (Sok.sCallV (pc1 := 3) (Aok.aR (pc1 := 1) (EokR.aload_n (q := 0) dX4_readTests_0) (Aok.aR (pc1 := 2) (EokR.aload_n (q := 1) dX4_readTests_1) (Aok.aI (pc1 := 3) (EokI.iload_n (q := 2) dX4_readTests_2) Aok.nil))) (by decide) (kX4_readTest g kp P hkp hP) rfl ykX4_readTest vkX4_144 (show _ ≤ kp + 4 by omega) (by decide) dX4_readTests_3) (Sok.seq (pc1 := 86) (Sok.seq (pc1 := 8) (Sok.setI_n (q := 3) (pc1 := 7) (EokI.iconst (v := 0) dX4_readTests_6 (by decide)) (by decide) dX4_readTests_7 (show 3 < 5 by decide)) (olX4_readTests_1 g kp P hkp hP)) (Sok.forget (pc := 86)))) (Sok.retV dX4_readTests_86 rfl))
/-! PassHuts$Reader.readPart(LPassHuts$Law;I)V -/
theorem dX4_readPart_0 : decode cX4_readPart 0 = .ok (.aload_n 0, 1) := by decide +kernel
theorem dX4_readPart_1 : decode cX4_readPart 1 = .ok (.getfield 29, 3) := by decide +kernel
theorem dX4_readPart_4 : decode cX4_readPart 4 = .ok (.ifCond .eq 4, 3) := by decide +kernel
theorem dX4_readPart_7 : decode cX4_readPart 7 = .ok (.return_, 1) := by decide +kernel
theorem dX4_readPart_8 : decode cX4_readPart 8 = .ok (.aload_n 0, 1) := by decide +kernel
theorem dX4_readPart_9 : decode cX4_readPart 9 = .ok (.getfield 20, 3) := by decide +kernel
theorem dX4_readPart_12 : decode cX4_readPart 12 = .ok (.getfield 36, 3) := by decide +kernel
theorem dX4_readPart_15 : decode cX4_readPart 15 = .ok (.istore_n 3, 1) := by decide +kernel
theorem dX4_readPart_16 : decode cX4_readPart 16 = .ok (.iload_n 3, 1) := by decide +kernel
theorem dX4_readPart_17 : decode cX4_readPart 17 = .ok (.iconst 3, 1) := by decide +kernel
theorem dX4_readPart_18 : decode cX4_readPart 18 = .ok (.if_icmp .ne 16, 3) := by decide +kernel
theorem dX4_readPart_21 : decode cX4_readPart 21 = .ok (.aload_n 0, 1) := by decide +kernel
theorem dX4_readPart_22 : decode cX4_readPart 22 = .ok (.getfield 20, 3) := by decide +kernel
theorem dX4_readPart_25 : decode cX4_readPart 25 = .ok (.getfield 102, 3) := by decide +kernel
theorem dX4_readPart_28 : decode cX4_readPart 28 = .ok (.invokestatic 159, 3) := by decide +kernel
theorem dX4_readPart_31 : decode cX4_readPart 31 = .ok (.goto 4, 3) := by decide +kernel
theorem dX4_readPart_34 : decode cX4_readPart 34 = .ok (.iconst 0, 1) := by decide +kernel
theorem dX4_readPart_35 : decode cX4_readPart 35 = .ok (.istore 4, 2) := by decide +kernel
theorem dX4_readPart_37 : decode cX4_readPart 37 = .ok (.iload_n 3, 1) := by decide +kernel
theorem dX4_readPart_38 : decode cX4_readPart 38 = .ok (.iconst 2, 1) := by decide +kernel
theorem dX4_readPart_39 : decode cX4_readPart 39 = .ok (.if_icmp .eq 21, 3) := by decide +kernel
theorem dX4_readPart_42 : decode cX4_readPart 42 = .ok (.iload_n 3, 1) := by decide +kernel
theorem dX4_readPart_43 : decode cX4_readPart 43 = .ok (.sipush 140, 3) := by decide +kernel
theorem dX4_readPart_46 : decode cX4_readPart 46 = .ok (.if_icmp .eq 14, 3) := by decide +kernel
theorem dX4_readPart_49 : decode cX4_readPart 49 = .ok (.iload_n 3, 1) := by decide +kernel
theorem dX4_readPart_50 : decode cX4_readPart 50 = .ok (.bipush 40, 2) := by decide +kernel
theorem dX4_readPart_52 : decode cX4_readPart 52 = .ok (.if_icmp .eq 8, 3) := by decide +kernel
theorem dX4_readPart_55 : decode cX4_readPart 55 = .ok (.iload 4, 2) := by decide +kernel
theorem dX4_readPart_57 : decode cX4_readPart 57 = .ok (.ifCond .eq 7, 3) := by decide +kernel
theorem dX4_readPart_60 : decode cX4_readPart 60 = .ok (.iconst 1, 1) := by decide +kernel
theorem dX4_readPart_61 : decode cX4_readPart 61 = .ok (.goto 4, 3) := by decide +kernel
theorem dX4_readPart_64 : decode cX4_readPart 64 = .ok (.iconst 0, 1) := by decide +kernel
theorem dX4_readPart_65 : decode cX4_readPart 65 = .ok (.istore 5, 2) := by decide +kernel
theorem dX4_readPart_67 : decode cX4_readPart 67 = .ok (.iload 5, 2) := by decide +kernel
theorem dX4_readPart_69 : decode cX4_readPart 69 = .ok (.ifCond .ne 11, 3) := by decide +kernel
theorem dX4_readPart_72 : decode cX4_readPart 72 = .ok (.aload_n 0, 1) := by decide +kernel
theorem dX4_readPart_73 : decode cX4_readPart 73 = .ok (.iconst 1, 1) := by decide +kernel
theorem dX4_readPart_74 : decode cX4_readPart 74 = .ok (.invokevirtual 49, 3) := by decide +kernel
theorem dX4_readPart_77 : decode cX4_readPart 77 = .ok (.goto 105, 3) := by decide +kernel
theorem dX4_readPart_80 : decode cX4_readPart 80 = .ok (.iload_n 2, 1) := by decide +kernel
theorem dX4_readPart_81 : decode cX4_readPart 81 = .ok (.iconst 5, 1) := by decide +kernel
theorem dX4_readPart_82 : decode cX4_readPart 82 = .ok (.if_icmp .lt 11, 3) := by decide +kernel
theorem dX4_readPart_85 : decode cX4_readPart 85 = .ok (.aload_n 0, 1) := by decide +kernel
theorem dX4_readPart_86 : decode cX4_readPart 86 = .ok (.iconst 5, 1) := by decide +kernel
theorem dX4_readPart_87 : decode cX4_readPart 87 = .ok (.invokevirtual 49, 3) := by decide +kernel
theorem dX4_readPart_90 : decode cX4_readPart 90 = .ok (.goto 92, 3) := by decide +kernel
theorem dX4_readPart_93 : decode cX4_readPart 93 = .ok (.iload_n 3, 1) := by decide +kernel
theorem dX4_readPart_94 : decode cX4_readPart 94 = .ok (.sipush 140, 3) := by decide +kernel
theorem dX4_readPart_97 : decode cX4_readPart 97 = .ok (.if_icmp .ne 27, 3) := by decide +kernel
theorem dX4_readPart_100 : decode cX4_readPart 100 = .ok (.aload_n 0, 1) := by decide +kernel
theorem dX4_readPart_101 : decode cX4_readPart 101 = .ok (.getfield 20, 3) := by decide +kernel
theorem dX4_readPart_104 : decode cX4_readPart 104 = .ok (.invokevirtual 69, 3) := by decide +kernel
theorem dX4_readPart_107 : decode cX4_readPart 107 = .ok (.aload_n 0, 1) := by decide +kernel
theorem dX4_readPart_108 : decode cX4_readPart 108 = .ok (.aload_n 1, 1) := by decide +kernel
theorem dX4_readPart_109 : decode cX4_readPart 109 = .ok (.iload_n 2, 1) := by decide +kernel
theorem dX4_readPart_110 : decode cX4_readPart 110 = .ok (.iconst 1, 1) := by decide +kernel
theorem dX4_readPart_111 : decode cX4_readPart 111 = .ok (.iadd, 1) := by decide +kernel
theorem dX4_readPart_112 : decode cX4_readPart 112 = .ok (.invokevirtual 156, 3) := by decide +kernel
theorem dX4_readPart_115 : decode cX4_readPart 115 = .ok (.aload_n 1, 1) := by decide +kernel
theorem dX4_readPart_116 : decode cX4_readPart 116 = .ok (.bipush (-5), 2) := by decide +kernel
theorem dX4_readPart_118 : decode cX4_readPart 118 = .ok (.invokevirtual 147, 3) := by decide +kernel
theorem dX4_readPart_121 : decode cX4_readPart 121 = .ok (.goto 61, 3) := by decide +kernel
theorem dX4_readPart_124 : decode cX4_readPart 124 = .ok (.iload_n 3, 1) := by decide +kernel
theorem dX4_readPart_125 : decode cX4_readPart 125 = .ok (.bipush 40, 2) := by decide +kernel
theorem dX4_readPart_127 : decode cX4_readPart 127 = .ok (.if_icmp .ne 27, 3) := by decide +kernel
theorem dX4_readPart_130 : decode cX4_readPart 130 = .ok (.aload_n 0, 1) := by decide +kernel
theorem dX4_readPart_131 : decode cX4_readPart 131 = .ok (.getfield 20, 3) := by decide +kernel
theorem dX4_readPart_134 : decode cX4_readPart 134 = .ok (.invokevirtual 69, 3) := by decide +kernel
theorem dX4_readPart_137 : decode cX4_readPart 137 = .ok (.aload_n 0, 1) := by decide +kernel
theorem dX4_readPart_138 : decode cX4_readPart 138 = .ok (.aload_n 1, 1) := by decide +kernel
theorem dX4_readPart_139 : decode cX4_readPart 139 = .ok (.iload_n 2, 1) := by decide +kernel
theorem dX4_readPart_140 : decode cX4_readPart 140 = .ok (.iconst 1, 1) := by decide +kernel
theorem dX4_readPart_141 : decode cX4_readPart 141 = .ok (.iadd, 1) := by decide +kernel
theorem dX4_readPart_142 : decode cX4_readPart 142 = .ok (.invokevirtual 140, 3) := by decide +kernel
theorem dX4_readPart_145 : decode cX4_readPart 145 = .ok (.aload_n 0, 1) := by decide +kernel
theorem dX4_readPart_146 : decode cX4_readPart 146 = .ok (.bipush 41, 2) := by decide +kernel
theorem dX4_readPart_148 : decode cX4_readPart 148 = .ok (.invokevirtual 83, 3) := by decide +kernel
theorem dX4_readPart_151 : decode cX4_readPart 151 = .ok (.goto 31, 3) := by decide +kernel
theorem dX4_readPart_154 : decode cX4_readPart 154 = .ok (.aload_n 1, 1) := by decide +kernel
theorem dX4_readPart_155 : decode cX4_readPart 155 = .ok (.iload_n 3, 1) := by decide +kernel
theorem dX4_readPart_156 : decode cX4_readPart 156 = .ok (.iconst 2, 1) := by decide +kernel
theorem dX4_readPart_157 : decode cX4_readPart 157 = .ok (.if_icmp .ne 13, 3) := by decide +kernel
theorem dX4_readPart_160 : decode cX4_readPart 160 = .ok (.aload_n 0, 1) := by decide +kernel
theorem dX4_readPart_161 : decode cX4_readPart 161 = .ok (.getfield 20, 3) := by decide +kernel
theorem dX4_readPart_164 : decode cX4_readPart 164 = .ok (.getfield 110, 3) := by decide +kernel
theorem dX4_readPart_167 : decode cX4_readPart 167 = .ok (.goto 5, 3) := by decide +kernel
theorem dX4_readPart_170 : decode cX4_readPart 170 = .ok (.iload 4, 2) := by decide +kernel
theorem dX4_readPart_172 : decode cX4_readPart 172 = .ok (.invokevirtual 147, 3) := by decide +kernel
theorem dX4_readPart_175 : decode cX4_readPart 175 = .ok (.aload_n 0, 1) := by decide +kernel
theorem dX4_readPart_176 : decode cX4_readPart 176 = .ok (.getfield 20, 3) := by decide +kernel
theorem dX4_readPart_179 : decode cX4_readPart 179 = .ok (.invokevirtual 69, 3) := by decide +kernel
theorem dX4_readPart_182 : decode cX4_readPart 182 = .ok (.return_, 1) := by decide +kernel
abbrev tX4_readPart (k : Nat) : MT := (RX4, cX4_readPart, 6, k, none)
def bX4_readPart (P : MX) : SX := (sSeq (sSeq (sIf (cZ zne (iGet 4 2 (rLoc 0))) sRetV sSkip) (sSeq (sSetI 3 (iGet 8 3 (rGet 4 1 (rLoc 0)))) (sSeq (sSetI 4 (iCond (cB req (iLoc 3) (iK 3)) (iCallS mX1_factNamed (aL (lGet 8 5 (rGet 4 1 (rLoc 0))) aNil)) (iK 0))) (sSeq (sSetI 5 (iBool (cOr (cOr (cOr (cB req (iLoc 3) (iK 2)) (cB req (iLoc 3) (iK 140))) (cB req (iLoc 3) (iK 40))) (cZ zne (iLoc 4))))) (sIf (cNot (cZ zne (iLoc 5))) (sCallV 4 mX4_wrong (aR (rLoc 0) (aI (iK 1) aNil))) (sIf (cB rge (iLoc 2) (iK 5)) (sCallV 4 mX4_wrong (aR (rLoc 0) (aI (iK 5) aNil))) (sIf (cB req (iLoc 3) (iK 140)) (sSeq (sCallV 8 mX8_next (aR (rGet 4 1 (rLoc 0)) aNil)) (sSeq (sCallV 4 P (aR (rLoc 0) (aR (rLoc 1) (aI (iB gT2 (· + ·) (iLoc 2) (iK 1)) aNil)))) (sCallV 1 mX1_add (aR (rLoc 1) (aI (iK (-5)) aNil))))) (sIf (cB req (iLoc 3) (iK 40)) (sSeq (sCallV 8 mX8_next (aR (rGet 4 1 (rLoc 0)) aNil)) (sSeq (sCallV 4 (mX4_readTests P) (aR (rLoc 0) (aR (rLoc 1) (aI (iB gT2 (· + ·) (iLoc 2) (iK 1)) aNil)))) (sCallV 4 mX4_expect (aR (rLoc 0) (aI (iK 41) aNil))))) (sSeq (sCallV 1 mX1_add (aR (rLoc 1) (aI (iCond (cB req (iLoc 3) (iK 2)) (iGet 8 4 (rGet 4 1 (rLoc 0))) (iLoc 4)) aNil))) (sCallV 8 mX8_next (aR (rGet 4 1 (rLoc 0)) aNil))))))))))) sRetV)
theorem kbX4_readPart (g : GT) (kp : Nat) (P : MX) (hkp : 20 ≤ kp) (hP : MK g kp yX4_readPart cX4_readPart 6 none P) : MK g (kp + 5) yX4_readPart cX4_readPart 6 none (bodyOf 6 (bX4_readPart P)) := MK.of (pcN := 99999) (pcB := 0) (pcC := 0) rfl (Sok.seq (pc1 := 182) (Sok.seq (pc1 := 8) (Sok.ite (pc1 := 7) (pc2 := 8) (Cok.zero (pc1 := 4) (pcT := 7) (pcF := 8) (EokI.getf (pc1 := 1) (j := 2) (ci := 4) (T := TX4) (N := 3) (EokR.aload_n (q := 0) dX4_readPart_0) rfl wsX4_in (by decide) flX4_29 dX4_readPart_1) (JZ.neF (tgt := 8) dX4_readPart_4 (by decide))) (by decide) (Sok.retV dX4_readPart_7 rfl) (Sok.skip (pc := 8))) (Sok.seq (pc1 := 16) (Sok.setI_n (q := 3) (pc1 := 15) (EokI.getf (pc1 := 12) (j := 3) (ci := 8) (T := TX8) (N := 6) (EokR.getf (pc1 := 9) (j := 1) (ci := 4) (T := TX4) (N := 3) (EokR.aload_n (q := 0) dX4_readPart_8) rfl wsX4_in (by decide) flX4_20 dX4_readPart_9) rfl wsX8_in (by decide) flX4_36 dX4_readPart_12) (by decide) dX4_readPart_15 (show 3 < 6 by decide)) (Sok.seq (pc1 := 37) (Sok.setI (i := 4) (pc1 := 35) (EokI.cond' (pc1 := 21) (pc2 := 34) (Cok.cmp (pc1 := 17) (pc2 := 18) (pcT := 21) (pcF := 34) (EokI.iload_n (q := 3) dX4_readPart_16) (EokI.iconst (v := 3) dX4_readPart_17 (by decide)) (JI.eqF (tgt := 34) dX4_readPart_18 (by decide))) (EokI.goto (pc1 := 31) (pc2 := 35) (EokI.iCallS (pc1 := 28) (Aok.aL (pc1 := 28) (EokL.getf (pc1 := 25) (j := 5) (ci := 8) (T := TX8) (N := 6) (EokR.getf (pc1 := 22) (j := 1) (ci := 4) (T := TX4) (N := 3) (EokR.aload_n (q := 0) dX4_readPart_21) rfl wsX4_in (by decide) flX4_20 dX4_readPart_22) rfl wsX8_in (by decide) flX4_102 dX4_readPart_25) Aok.nil) (kX1_factNamed g) ykX1_factNamed skX4_159 (show _ ≤ kp + 5 by omega) (by decide) dX4_readPart_28) dX4_readPart_31 (by decide)) (EokI.iconst (v := 0) dX4_readPart_34 (by decide))) (by decide) dX4_readPart_35 (show 4 < 6 by decide)) (Sok.seq (pc1 := 67) (Sok.setI (i := 5) (pc1 := 65) (EokI.cond' (pc1 := 60) (pc2 := 64) (Cok.or (pc1 := 55) (Cok.or (pc1 := 49) (Cok.or (pc1 := 42) (Cok.cmp (pc1 := 38) (pc2 := 39) (pcT := 60) (pcF := 42) (EokI.iload_n (q := 3) dX4_readPart_37) (EokI.iconst (v := 2) dX4_readPart_38 (by decide)) (JI.eqT (tgt := 60) dX4_readPart_39 (by decide))) (Cok.cmp (pc1 := 43) (pc2 := 46) (pcT := 60) (pcF := 49) (EokI.iload_n (q := 3) dX4_readPart_42) (EokI.sipush (v := 140) dX4_readPart_43 (by decide)) (JI.eqT (tgt := 60) dX4_readPart_46 (by decide)))) (Cok.cmp (pc1 := 50) (pc2 := 52) (pcT := 60) (pcF := 55) (EokI.iload_n (q := 3) dX4_readPart_49) (EokI.bipush (v := 40) dX4_readPart_50 (by decide)) (JI.eqT (tgt := 60) dX4_readPart_52 (by decide)))) (Cok.zero (pc1 := 57) (pcT := 60) (pcF := 64) (EokI.iload (i := 4) dX4_readPart_55) (JZ.neF (tgt := 64) dX4_readPart_57 (by decide)))) (EokI.goto (pc1 := 61) (pc2 := 65) (EokI.iconst (v := 1) dX4_readPart_60 (by decide)) dX4_readPart_61 (by decide)) (EokI.iconst (v := 0) dX4_readPart_64 (by decide))) (by decide) dX4_readPart_65 (show 5 < 6 by decide)) (Sok.ite (pc1 := 72) (pc2 := 80) (Cok.not (Cok.zero (pc1 := 69) (pcT := 80) (pcF := 72) (EokI.iload (i := 5) dX4_readPart_67) (JZ.neT (tgt := 80) dX4_readPart_69 (by decide)))) (by decide) (Sok.goto (pc1 := 77) (pcN := 182) (Sok.sCallV (pc1 := 74) (Aok.aR (pc1 := 73) (EokR.aload_n (q := 0) dX4_readPart_72) (Aok.aI (pc1 := 74) (EokI.iconst (v := 1) dX4_readPart_73 (by decide)) Aok.nil)) (by decide) (kX4_wrong g) rfl ykX4_wrong vkX4_49 (show _ ≤ kp + 5 by omega) (by decide) dX4_readPart_74) dX4_readPart_77 (by decide)) (Sok.ite (pc1 := 85) (pc2 := 93) (Cok.cmp (pc1 := 81) (pc2 := 82) (pcT := 85) (pcF := 93) (EokI.iload_n (q := 2) dX4_readPart_80) (EokI.iconst (v := 5) dX4_readPart_81 (by decide)) (JI.geF (tgt := 93) dX4_readPart_82 (by decide))) (by decide) (Sok.goto (pc1 := 90) (pcN := 182) (Sok.sCallV (pc1 := 87) (Aok.aR (pc1 := 86) (EokR.aload_n (q := 0) dX4_readPart_85) (Aok.aI (pc1 := 87) (EokI.iconst (v := 5) dX4_readPart_86 (by decide)) Aok.nil)) (by decide) (kX4_wrong g) rfl ykX4_wrong vkX4_49 (show _ ≤ kp + 5 by omega) (by decide) dX4_readPart_87) dX4_readPart_90 (by decide)) (Sok.ite (pc1 := 100) (pc2 := 124) (Cok.cmp (pc1 := 94) (pc2 := 97) (pcT := 100) (pcF := 124) (EokI.iload_n (q := 3) dX4_readPart_93) (EokI.sipush (v := 140) dX4_readPart_94 (by decide)) (JI.eqF (tgt := 124) dX4_readPart_97 (by decide))) (by decide) (Sok.seq (pc1 := 107) (Sok.sCallV (pc1 := 104) (Aok.aR (pc1 := 104) (EokR.getf (pc1 := 101) (j := 1) (ci := 4) (T := TX4) (N := 3) (EokR.aload_n (q := 0) dX4_readPart_100) rfl wsX4_in (by decide) flX4_20 dX4_readPart_101) Aok.nil) (by decide) (kX8_next g) rfl ykX8_next vkX4_69 (show _ ≤ kp + 5 by omega) (by decide) dX4_readPart_104) (Sok.seq (pc1 := 115) (Sok.sCallV (pc1 := 112) (Aok.aR (pc1 := 108) (EokR.aload_n (q := 0) dX4_readPart_107) (Aok.aR (pc1 := 109) (EokR.aload_n (q := 1) dX4_readPart_108) (Aok.aI (pc1 := 112) (EokI.bin (pc1 := 110) (pc2 := 111) (EokI.iload_n (q := 2) dX4_readPart_109) (EokI.iconst (v := 1) dX4_readPart_110 (by decide)) (OPI.iadd dX4_readPart_111)) Aok.nil))) (by decide) hP rfl ykX4_readPart vkX4_156 (show _ ≤ kp + 5 by omega) (by decide) dX4_readPart_112) (Sok.goto (pc1 := 121) (pcN := 182) (Sok.sCallV (pc1 := 118) (Aok.aR (pc1 := 116) (EokR.aload_n (q := 1) dX4_readPart_115) (Aok.aI (pc1 := 118) (EokI.bipush (v := (-5)) dX4_readPart_116 (by decide)) Aok.nil)) (by decide) (kX1_add g) rfl ykX1_add vkX4_147 (show _ ≤ kp + 5 by omega) (by decide) dX4_readPart_118) dX4_readPart_121 (by decide)))) (Sok.ite (pc1 := 130) (pc2 := 154) (Cok.cmp (pc1 := 125) (pc2 := 127) (pcT := 130) (pcF := 154) (EokI.iload_n (q := 3) dX4_readPart_124) (EokI.bipush (v := 40) dX4_readPart_125 (by decide)) (JI.eqF (tgt := 154) dX4_readPart_127 (by decide))) (by decide) (Sok.seq (pc1 := 137) (Sok.sCallV (pc1 := 134) (Aok.aR (pc1 := 134) (EokR.getf (pc1 := 131) (j := 1) (ci := 4) (T := TX4) (N := 3) (EokR.aload_n (q := 0) dX4_readPart_130) rfl wsX4_in (by decide) flX4_20 dX4_readPart_131) Aok.nil) (by decide) (kX8_next g) rfl ykX8_next vkX4_69 (show _ ≤ kp + 5 by omega) (by decide) dX4_readPart_134) (Sok.seq (pc1 := 145) (Sok.sCallV (pc1 := 142) (Aok.aR (pc1 := 138) (EokR.aload_n (q := 0) dX4_readPart_137) (Aok.aR (pc1 := 139) (EokR.aload_n (q := 1) dX4_readPart_138) (Aok.aI (pc1 := 142) (EokI.bin (pc1 := 140) (pc2 := 141) (EokI.iload_n (q := 2) dX4_readPart_139) (EokI.iconst (v := 1) dX4_readPart_140 (by decide)) (OPI.iadd dX4_readPart_141)) Aok.nil))) (by decide) (kX4_readTests g kp P hkp hP) rfl ykX4_readTests vkX4_140 (show _ ≤ kp + 5 by omega) (by decide) dX4_readPart_142) (Sok.goto (pc1 := 151) (pcN := 182) (Sok.sCallV (pc1 := 148) (Aok.aR (pc1 := 146) (EokR.aload_n (q := 0) dX4_readPart_145) (Aok.aI (pc1 := 148) (EokI.bipush (v := 41) dX4_readPart_146 (by decide)) Aok.nil)) (by decide) (kX4_expect g) rfl ykX4_expect vkX4_83 (show _ ≤ kp + 5 by omega) (by decide) dX4_readPart_148) dX4_readPart_151 (by decide)))) (Sok.seq (pc1 := 175) (Sok.sCallV (pc1 := 172) (Aok.aR (pc1 := 155) (EokR.aload_n (q := 1) dX4_readPart_154) (Aok.aI (pc1 := 172) (EokI.cond' (pc1 := 160) (pc2 := 170) (Cok.cmp (pc1 := 156) (pc2 := 157) (pcT := 160) (pcF := 170) (EokI.iload_n (q := 3) dX4_readPart_155) (EokI.iconst (v := 2) dX4_readPart_156 (by decide)) (JI.eqF (tgt := 170) dX4_readPart_157 (by decide))) (EokI.goto (pc1 := 167) (pc2 := 172) (EokI.getf (pc1 := 164) (j := 4) (ci := 8) (T := TX8) (N := 6) (EokR.getf (pc1 := 161) (j := 1) (ci := 4) (T := TX4) (N := 3) (EokR.aload_n (q := 0) dX4_readPart_160) rfl wsX4_in (by decide) flX4_20 dX4_readPart_161) rfl wsX8_in (by decide) flX4_110 dX4_readPart_164) dX4_readPart_167 (by decide)) (EokI.iload (i := 4) dX4_readPart_170)) Aok.nil)) (by decide) (kX1_add g) rfl ykX1_add vkX4_147 (show _ ≤ kp + 5 by omega) (by decide) dX4_readPart_172) (Sok.sCallV (pc1 := 179) (Aok.aR (pc1 := 179) (EokR.getf (pc1 := 176) (j := 1) (ci := 4) (T := TX4) (N := 3) (EokR.aload_n (q := 0) dX4_readPart_175) rfl wsX4_in (by decide) flX4_20 dX4_readPart_176) Aok.nil) (by decide) (kX8_next g) rfl ykX8_next vkX4_69 (show _ ≤ kp + 5 by omega) (by decide) dX4_readPart_179)))))))))) (Sok.retV dX4_readPart_182 rfl))
def mX4_readPart : Nat → MX
  | 0 => fun _ _ _ => False
  | d + 1 => bodyOf 6 (bX4_readPart (mX4_readPart d))
theorem kX4_readPart (g : GT) : ∀ d : Nat, MK g (20 + 5 * d) yX4_readPart cX4_readPart 6 none (mX4_readPart d)
  | 0 => fun _ _ _ _ hF => hF.elim
  | d + 1 => kbX4_readPart g (20 + 5 * d) _ (by omega) (kX4_readPart g d)
/-! PassHuts$Reader.readBars(LPassHuts$Hills;)V -/
theorem dX4_readBars_0 : decode cX4_readBars 0 = .ok (.aload_n 1, 1) := by decide +kernel
theorem dX4_readBars_1 : decode cX4_readBars 1 = .ok (.getfield 131, 3) := by decide +kernel
theorem dX4_readBars_4 : decode cX4_readBars 4 = .ok (.getfield 135, 3) := by decide +kernel
theorem dX4_readBars_7 : decode cX4_readBars 7 = .ok (.ifCond .le 9, 3) := by decide +kernel
theorem dX4_readBars_10 : decode cX4_readBars 10 = .ok (.aload_n 0, 1) := by decide +kernel
theorem dX4_readBars_11 : decode cX4_readBars 11 = .ok (.iconst 3, 1) := by decide +kernel
theorem dX4_readBars_12 : decode cX4_readBars 12 = .ok (.invokevirtual 49, 3) := by decide +kernel
theorem dX4_readBars_15 : decode cX4_readBars 15 = .ok (.return_, 1) := by decide +kernel
theorem dX4_readBars_16 : decode cX4_readBars 16 = .ok (.aload_n 0, 1) := by decide +kernel
theorem dX4_readBars_17 : decode cX4_readBars 17 = .ok (.getfield 20, 3) := by decide +kernel
theorem dX4_readBars_20 : decode cX4_readBars 20 = .ok (.invokevirtual 69, 3) := by decide +kernel
theorem dX4_readBars_23 : decode cX4_readBars 23 = .ok (.aload_n 0, 1) := by decide +kernel
theorem dX4_readBars_24 : decode cX4_readBars 24 = .ok (.aload_n 1, 1) := by decide +kernel
theorem dX4_readBars_25 : decode cX4_readBars 25 = .ok (.getfield 131, 3) := by decide +kernel
theorem dX4_readBars_28 : decode cX4_readBars 28 = .ok (.iconst 0, 1) := by decide +kernel
theorem dX4_readBars_29 : decode cX4_readBars 29 = .ok (.invokevirtual 140, 3) := by decide +kernel
theorem dX4_readBars_32 : decode cX4_readBars 32 = .ok (.aload_n 0, 1) := by decide +kernel
theorem dX4_readBars_33 : decode cX4_readBars 33 = .ok (.bipush 59, 2) := by decide +kernel
theorem dX4_readBars_35 : decode cX4_readBars 35 = .ok (.invokevirtual 83, 3) := by decide +kernel
theorem dX4_readBars_38 : decode cX4_readBars 38 = .ok (.return_, 1) := by decide +kernel
abbrev tX4_readBars (k : Nat) : MT := (RX4, cX4_readBars, 2, k, none)
def mX4_readBars : MX := bodyOf 2 (sSeq (sSeq (sIf (cZ zgt (iGet 1 5 (rGet 0 2 (rLoc 1)))) (sSeq (sCallV 4 mX4_wrong (aR (rLoc 0) (aI (iK 3) aNil))) sRetV) sSkip) (sSeq (sCallV 8 mX8_next (aR (rGet 4 1 (rLoc 0)) aNil)) (sSeq (sCallV 4 (mX4_readTests (mX4_readPart 7)) (aR (rLoc 0) (aR (rGet 0 2 (rLoc 1)) (aI (iK 0) aNil)))) (sCallV 4 mX4_expect (aR (rLoc 0) (aI (iK 59) aNil)))))) sRetV)
theorem kX4_readBars (g : GT) : MK g 60 yX4_readBars cX4_readBars 2 none mX4_readBars := MK.of (pcN := 99999) (pcB := 0) (pcC := 0) rfl (Sok.seq (pc1 := 38) (Sok.seq (pc1 := 16) (Sok.ite (pc1 := 10) (pc2 := 16) (Cok.zero (pc1 := 7) (pcT := 10) (pcF := 16) (EokI.getf (pc1 := 4) (j := 5) (ci := 1) (T := TX1) (N := 6) (EokR.getf (pc1 := 1) (j := 2) (ci := 0) (T := TX0) (N := 17) (EokR.aload_n (q := 1) dX4_readBars_0) rfl wsX0_in (by decide) flX4_131 dX4_readBars_1) rfl wsX1_in (by decide) flX4_135 dX4_readBars_4) (JZ.gtF (tgt := 16) dX4_readBars_7 (by decide))) (by decide) (Sok.seq (pc1 := 15) (Sok.sCallV (pc1 := 12) (Aok.aR (pc1 := 11) (EokR.aload_n (q := 0) dX4_readBars_10) (Aok.aI (pc1 := 12) (EokI.iconst (v := 3) dX4_readBars_11 (by decide)) Aok.nil)) (by decide) (kX4_wrong g) rfl ykX4_wrong vkX4_49 (by decide) (by decide) dX4_readBars_12) (Sok.retV dX4_readBars_15 rfl)) (Sok.skip (pc := 16))) (Sok.seq (pc1 := 23) (Sok.sCallV (pc1 := 20) (Aok.aR (pc1 := 20) (EokR.getf (pc1 := 17) (j := 1) (ci := 4) (T := TX4) (N := 3) (EokR.aload_n (q := 0) dX4_readBars_16) rfl wsX4_in (by decide) flX4_20 dX4_readBars_17) Aok.nil) (by decide) (kX8_next g) rfl ykX8_next vkX4_69 (by decide) (by decide) dX4_readBars_20) (Sok.seq (pc1 := 32) (Sok.sCallV (pc1 := 29) (Aok.aR (pc1 := 24) (EokR.aload_n (q := 0) dX4_readBars_23) (Aok.aR (pc1 := 28) (EokR.getf (pc1 := 25) (j := 2) (ci := 0) (T := TX0) (N := 17) (EokR.aload_n (q := 1) dX4_readBars_24) rfl wsX0_in (by decide) flX4_131 dX4_readBars_25) (Aok.aI (pc1 := 29) (EokI.iconst (v := 0) dX4_readBars_28 (by decide)) Aok.nil))) (by decide) (kX4_readTests g 55 (mX4_readPart 7) (by decide) (kX4_readPart g 7)) rfl ykX4_readTests vkX4_140 (by decide) (by decide) dX4_readBars_29) (Sok.sCallV (pc1 := 35) (Aok.aR (pc1 := 33) (EokR.aload_n (q := 0) dX4_readBars_32) (Aok.aI (pc1 := 35) (EokI.bipush (v := 59) dX4_readBars_33 (by decide)) Aok.nil)) (by decide) (kX4_expect g) rfl ykX4_expect vkX4_83 (by decide) (by decide) dX4_readBars_35)))) (Sok.retV dX4_readBars_38 rfl))
/-! PassHuts$Reader.readHills(LPassHuts$Hills;)I -/
theorem dX4_readHills_0 : decode cX4_readHills 0 = .ok (.aload_n 1, 1) := by decide +kernel
theorem dX4_readHills_1 : decode cX4_readHills 1 = .ok (.invokevirtual 24, 3) := by decide +kernel
theorem dX4_readHills_4 : decode cX4_readHills 4 = .ok (.aload_n 0, 1) := by decide +kernel
theorem dX4_readHills_5 : decode cX4_readHills 5 = .ok (.iconst 0, 1) := by decide +kernel
theorem dX4_readHills_6 : decode cX4_readHills 6 = .ok (.putfield 29, 3) := by decide +kernel
theorem dX4_readHills_9 : decode cX4_readHills 9 = .ok (.aload_n 0, 1) := by decide +kernel
theorem dX4_readHills_10 : decode cX4_readHills 10 = .ok (.getfield 20, 3) := by decide +kernel
theorem dX4_readHills_13 : decode cX4_readHills 13 = .ok (.invokevirtual 33, 3) := by decide +kernel
theorem dX4_readHills_16 : decode cX4_readHills 16 = .ok (.iconst 0, 1) := by decide +kernel
theorem dX4_readHills_17 : decode cX4_readHills 17 = .ok (.istore_n 2, 1) := by decide +kernel
theorem dX4_readHills_18 : decode cX4_readHills 18 = .ok (.iload_n 2, 1) := by decide +kernel
theorem dX4_readHills_19 : decode cX4_readHills 19 = .ok (.sipush 1000, 3) := by decide +kernel
theorem dX4_readHills_22 : decode cX4_readHills 22 = .ok (.if_icmp .ge 97, 3) := by decide +kernel
theorem dX4_readHills_25 : decode cX4_readHills 25 = .ok (.aload_n 0, 1) := by decide +kernel
theorem dX4_readHills_26 : decode cX4_readHills 26 = .ok (.getfield 29, 3) := by decide +kernel
theorem dX4_readHills_29 : decode cX4_readHills 29 = .ok (.ifCond .ne 90, 3) := by decide +kernel
theorem dX4_readHills_32 : decode cX4_readHills 32 = .ok (.aload_n 0, 1) := by decide +kernel
theorem dX4_readHills_33 : decode cX4_readHills 33 = .ok (.getfield 20, 3) := by decide +kernel
theorem dX4_readHills_36 : decode cX4_readHills 36 = .ok (.getfield 36, 3) := by decide +kernel
theorem dX4_readHills_39 : decode cX4_readHills 39 = .ok (.iconst 1, 1) := by decide +kernel
theorem dX4_readHills_40 : decode cX4_readHills 40 = .ok (.if_icmp .eq 79, 3) := by decide +kernel
theorem dX4_readHills_43 : decode cX4_readHills 43 = .ok (.aload_n 0, 1) := by decide +kernel
theorem dX4_readHills_44 : decode cX4_readHills 44 = .ok (.getfield 20, 3) := by decide +kernel
theorem dX4_readHills_47 : decode cX4_readHills 47 = .ok (.getfield 36, 3) := by decide +kernel
theorem dX4_readHills_50 : decode cX4_readHills 50 = .ok (.tableswitch 58 128 132 #[34, 58, 42, 58, 50], 34) := by decide +kernel
theorem dX4_readHills_84 : decode cX4_readHills 84 = .ok (.aload_n 0, 1) := by decide +kernel
theorem dX4_readHills_85 : decode cX4_readHills 85 = .ok (.aload_n 1, 1) := by decide +kernel
theorem dX4_readHills_86 : decode cX4_readHills 86 = .ok (.invokevirtual 39, 3) := by decide +kernel
theorem dX4_readHills_89 : decode cX4_readHills 89 = .ok (.goto 24, 3) := by decide +kernel
theorem dX4_readHills_92 : decode cX4_readHills 92 = .ok (.aload_n 0, 1) := by decide +kernel
theorem dX4_readHills_93 : decode cX4_readHills 93 = .ok (.aload_n 1, 1) := by decide +kernel
theorem dX4_readHills_94 : decode cX4_readHills 94 = .ok (.invokevirtual 43, 3) := by decide +kernel
theorem dX4_readHills_97 : decode cX4_readHills 97 = .ok (.goto 16, 3) := by decide +kernel
theorem dX4_readHills_100 : decode cX4_readHills 100 = .ok (.aload_n 0, 1) := by decide +kernel
theorem dX4_readHills_101 : decode cX4_readHills 101 = .ok (.aload_n 1, 1) := by decide +kernel
theorem dX4_readHills_102 : decode cX4_readHills 102 = .ok (.invokevirtual 46, 3) := by decide +kernel
theorem dX4_readHills_105 : decode cX4_readHills 105 = .ok (.goto 8, 3) := by decide +kernel
theorem dX4_readHills_108 : decode cX4_readHills 108 = .ok (.aload_n 0, 1) := by decide +kernel
theorem dX4_readHills_109 : decode cX4_readHills 109 = .ok (.iconst 1, 1) := by decide +kernel
theorem dX4_readHills_110 : decode cX4_readHills 110 = .ok (.invokevirtual 49, 3) := by decide +kernel
theorem dX4_readHills_113 : decode cX4_readHills 113 = .ok (.iinc 2 1, 3) := by decide +kernel
theorem dX4_readHills_116 : decode cX4_readHills 116 = .ok (.goto (-98), 3) := by decide +kernel
theorem dX4_readHills_119 : decode cX4_readHills 119 = .ok (.aload_n 0, 1) := by decide +kernel
theorem dX4_readHills_120 : decode cX4_readHills 120 = .ok (.getfield 9, 3) := by decide +kernel
theorem dX4_readHills_123 : decode cX4_readHills 123 = .ok (.invokevirtual 53, 3) := by decide +kernel
theorem dX4_readHills_126 : decode cX4_readHills 126 = .ok (.aload_n 0, 1) := by decide +kernel
theorem dX4_readHills_127 : decode cX4_readHills 127 = .ok (.getfield 29, 3) := by decide +kernel
theorem dX4_readHills_130 : decode cX4_readHills 130 = .ok (.ifCond .ne 7, 3) := by decide +kernel
theorem dX4_readHills_133 : decode cX4_readHills 133 = .ok (.aload_n 1, 1) := by decide +kernel
theorem dX4_readHills_134 : decode cX4_readHills 134 = .ok (.invokevirtual 56, 3) := by decide +kernel
theorem dX4_readHills_137 : decode cX4_readHills 137 = .ok (.aload_n 0, 1) := by decide +kernel
theorem dX4_readHills_138 : decode cX4_readHills 138 = .ok (.getfield 29, 3) := by decide +kernel
theorem dX4_readHills_141 : decode cX4_readHills 141 = .ok (.ireturn, 1) := by decide +kernel
abbrev tX4_readHills (k : Nat) : MT := (RX4, cX4_readHills, 3, k, (some .int))
def lX4_readHills_1 : SX := (sLoop (cAnd (cAnd (cB rlt (iLoc 2) (iK 1000)) (cZ zeq (iGet 4 2 (rLoc 0)))) (cB rne (iGet 8 3 (rGet 4 1 (rLoc 0))) (iK 1))) (sSw (sSwitch 128 (iGet 8 3 (rGet 4 1 (rLoc 0))) [(sSeq (sCallV 4 mX4_readHut (aR (rLoc 0) (aR (rLoc 1) aNil))) sBreak), (sCallV 4 mX4_wrong (aR (rLoc 0) (aI (iK 1) aNil))), (sSeq (sCallV 4 mX4_readPath (aR (rLoc 0) (aR (rLoc 1) aNil))) sBreak), (sCallV 4 mX4_wrong (aR (rLoc 0) (aI (iK 1) aNil))), (sSeq (sCallV 4 mX4_readBars (aR (rLoc 0) (aR (rLoc 1) aNil))) sBreak)] (sCallV 4 mX4_wrong (aR (rLoc 0) (aI (iK 1) aNil))))) (sInc 2 1))
theorem olX4_readHills_1 (g : GT) {pcB pcC : Nat} : Sok g (tX4_readHills 61) 18 119 pcB pcC (lX4_readHills_1) := (Sok.loop (pc := 18) (pc1 := 43) (pc2 := 113) (pcN := 119) (Cok.and (pc1 := 32) (Cok.and (pc1 := 25) (Cok.cmp (pc1 := 19) (pc2 := 22) (pcT := 25) (pcF := 119) (EokI.iload_n (q := 2) dX4_readHills_18) (EokI.sipush (v := 1000) dX4_readHills_19 (by decide)) (JI.ltF (tgt := 119) dX4_readHills_22 (by decide))) (Cok.zero (pc1 := 29) (pcT := 32) (pcF := 119) (EokI.getf (pc1 := 26) (j := 2) (ci := 4) (T := TX4) (N := 3) (EokR.aload_n (q := 0) dX4_readHills_25) rfl wsX4_in (by decide) flX4_29 dX4_readHills_26) (JZ.eqF (tgt := 119) dX4_readHills_29 (by decide)))) (Cok.cmp (pc1 := 39) (pc2 := 40) (pcT := 43) (pcF := 119) (EokI.getf (pc1 := 36) (j := 3) (ci := 8) (T := TX8) (N := 6) (EokR.getf (pc1 := 33) (j := 1) (ci := 4) (T := TX4) (N := 3) (EokR.aload_n (q := 0) dX4_readHills_32) rfl wsX4_in (by decide) flX4_20 dX4_readHills_33) rfl wsX8_in (by decide) flX4_36 dX4_readHills_36) (EokI.iconst (v := 1) dX4_readHills_39 (by decide)) (JI.neF (tgt := 119) dX4_readHills_40 (by decide)))) (by decide) (Sok.swB (Sok.tswitch (pc1 := 50) (pd := 108) (pcs := [84, 108, 92, 108, 100]) (pcN := 113) (pcB := 113) (EokI.getf (pc1 := 47) (j := 3) (ci := 8) (T := TX8) (N := 6) (EokR.getf (pc1 := 44) (j := 1) (ci := 4) (T := TX4) (N := 3) (EokR.aload_n (q := 0) dX4_readHills_43) rfl wsX4_in (by decide) flX4_20 dX4_readHills_44) rfl wsX8_in (by decide) flX4_36 dX4_readHills_47) (by decide) dX4_readHills_50 (by decide) rfl (by decide) (by decide) (sw_list (pd := 108) (d := (sCallV 4 mX4_wrong (aR (rLoc 0) (aI (iK 1) aNil)))) ⟨(Sok.seqB (Sok.goto (pc1 := 89) (pcN := 113) (Sok.sCallV (pc1 := 86) (Aok.aR (pc1 := 85) (EokR.aload_n (q := 0) dX4_readHills_84) (Aok.aR (pc1 := 86) (EokR.aload_n (q := 1) dX4_readHills_85) Aok.nil)) (by decide) (kX4_readHut g) rfl ykX4_readHut vkX4_39 (by decide) (by decide) dX4_readHills_86) dX4_readHills_89 (by decide))), (Sok.sCallV (pc1 := 110) (Aok.aR (pc1 := 109) (EokR.aload_n (q := 0) dX4_readHills_108) (Aok.aI (pc1 := 110) (EokI.iconst (v := 1) dX4_readHills_109 (by decide)) Aok.nil)) (by decide) (kX4_wrong g) rfl ykX4_wrong vkX4_49 (by decide) (by decide) dX4_readHills_110), (Sok.seqB (Sok.goto (pc1 := 97) (pcN := 113) (Sok.sCallV (pc1 := 94) (Aok.aR (pc1 := 93) (EokR.aload_n (q := 0) dX4_readHills_92) (Aok.aR (pc1 := 94) (EokR.aload_n (q := 1) dX4_readHills_93) Aok.nil)) (by decide) (kX4_readPath g) rfl ykX4_readPath vkX4_43 (by decide) (by decide) dX4_readHills_94) dX4_readHills_97 (by decide))), (Sok.sCallV (pc1 := 110) (Aok.aR (pc1 := 109) (EokR.aload_n (q := 0) dX4_readHills_108) (Aok.aI (pc1 := 110) (EokI.iconst (v := 1) dX4_readHills_109 (by decide)) Aok.nil)) (by decide) (kX4_wrong g) rfl ykX4_wrong vkX4_49 (by decide) (by decide) dX4_readHills_110), (Sok.seqB (Sok.goto (pc1 := 105) (pcN := 113) (Sok.sCallV (pc1 := 102) (Aok.aR (pc1 := 101) (EokR.aload_n (q := 0) dX4_readHills_100) (Aok.aR (pc1 := 102) (EokR.aload_n (q := 1) dX4_readHills_101) Aok.nil)) (by decide) (kX4_readBars g) rfl ykX4_readBars vkX4_46 (by decide) (by decide) dX4_readHills_102) dX4_readHills_105 (by decide))), trivial⟩) (Sok.sCallV (pc1 := 110) (Aok.aR (pc1 := 109) (EokR.aload_n (q := 0) dX4_readHills_108) (Aok.aI (pc1 := 110) (EokI.iconst (v := 1) dX4_readHills_109 (by decide)) Aok.nil)) (by decide) (kX4_wrong g) rfl ykX4_wrong vkX4_49 (by decide) (by decide) dX4_readHills_110))) (Sok.goto (pc1 := 116) (pcN := 18) (Sok.iinc (i := 2) (v := 1) dX4_readHills_113 (show 2 < 3 by decide) (by decide)) dX4_readHills_116 (by decide)))
def mX4_readHills : MX := bodyOf 3 (sSeq (sCallV 0 mX0_clear (aR (rLoc 1) aNil)) (sSeq (sPutI 4 2 .int (rLoc 0) (iK 0)) (sSeq (sCallV 8 mX8_start (aR (rGet 4 1 (rLoc 0)) aNil)) (sSeq (sSeq (sSeq (sSetI 2 (iK 0)) lX4_readHills_1) (sForget 2)) (sSeq (sCallV 7 mX7_clear (aR (rGet 4 0 (rLoc 0)) aNil)) (sSeq (sIf (cZ zeq (iGet 4 2 (rLoc 0))) (sCallV 0 mX0_finish (aR (rLoc 1) aNil)) sSkip) (sRetI (iGet 4 2 (rLoc 0)))))))))
theorem kX4_readHills (g : GT) : MK g 61 yX4_readHills cX4_readHills 3 (some .int) mX4_readHills := MK.of (pcN := 99999) (pcB := 0) (pcC := 0) rfl (Sok.seq (pc1 := 4) (Sok.sCallV (pc1 := 1) (Aok.aR (pc1 := 1) (EokR.aload_n (q := 1) dX4_readHills_0) Aok.nil) (by decide) (kX0_clear g) rfl ykX0_clear vkX4_24 (by decide) (by decide) dX4_readHills_1) (Sok.seq (pc1 := 9) (Sok.putI (ci := 4) (T := TX4) (NN := 3) (tt := tyX4) (j := 2) (pc1 := 5) (pc2 := 6) (ty := .int) (EokR.aload_n (q := 0) dX4_readHills_4) (EokI.iconst (v := 0) dX4_readHills_5 (by decide)) (by decide) rfl wsX4_in tyX4_ok nmX4 (by decide) flX4_29 rfl rfl dX4_readHills_6) (Sok.seq (pc1 := 16) (Sok.sCallV (pc1 := 13) (Aok.aR (pc1 := 13) (EokR.getf (pc1 := 10) (j := 1) (ci := 4) (T := TX4) (N := 3) (EokR.aload_n (q := 0) dX4_readHills_9) rfl wsX4_in (by decide) flX4_20 dX4_readHills_10) Aok.nil) (by decide) (kX8_start g) rfl ykX8_start vkX4_33 (by decide) (by decide) dX4_readHills_13) (Sok.seq (pc1 := 119) (Sok.seq (pc1 := 119) (Sok.seq (pc1 := 18) (Sok.setI_n (q := 2) (pc1 := 17) (EokI.iconst (v := 0) dX4_readHills_16 (by decide)) (by decide) dX4_readHills_17 (show 2 < 3 by decide)) (olX4_readHills_1 g )) (Sok.forget (pc := 119))) (Sok.seq (pc1 := 126) (Sok.sCallV (pc1 := 123) (Aok.aR (pc1 := 123) (EokR.getf (pc1 := 120) (j := 0) (ci := 4) (T := TX4) (N := 3) (EokR.aload_n (q := 0) dX4_readHills_119) rfl wsX4_in (by decide) flX4_9 dX4_readHills_120) Aok.nil) (by decide) (kX7_clear g) rfl ykX7_clear vkX4_53 (by decide) (by decide) dX4_readHills_123) (Sok.seq (pc1 := 137) (Sok.ite (pc1 := 133) (pc2 := 137) (Cok.zero (pc1 := 130) (pcT := 133) (pcF := 137) (EokI.getf (pc1 := 127) (j := 2) (ci := 4) (T := TX4) (N := 3) (EokR.aload_n (q := 0) dX4_readHills_126) rfl wsX4_in (by decide) flX4_29 dX4_readHills_127) (JZ.eqF (tgt := 137) dX4_readHills_130 (by decide))) (by decide) (Sok.sCallV (pc1 := 134) (Aok.aR (pc1 := 134) (EokR.aload_n (q := 1) dX4_readHills_133) Aok.nil) (by decide) (kX0_finish g) rfl ykX0_finish vkX4_56 (by decide) (by decide) dX4_readHills_134) (Sok.skip (pc := 137))) (Sok.retI (pc1 := 141) (EokI.getf (pc1 := 138) (j := 2) (ci := 4) (T := TX4) (N := 3) (EokR.aload_n (q := 0) dX4_readHills_137) rfl wsX4_in (by decide) flX4_29 dX4_readHills_138) (by decide) dX4_readHills_141 rfl)))))))
/-! PassHuts$Prospects.moveTo(LPassHuts$Hills;)V -/
theorem dX3_moveTo_0 : decode cX3_moveTo 0 = .ok (.aload_n 0, 1) := by decide +kernel
theorem dX3_moveTo_1 : decode cX3_moveTo 1 = .ok (.aload_n 1, 1) := by decide +kernel
theorem dX3_moveTo_2 : decode cX3_moveTo 2 = .ok (.putfield 23, 3) := by decide +kernel
theorem dX3_moveTo_5 : decode cX3_moveTo 5 = .ok (.aload_n 0, 1) := by decide +kernel
theorem dX3_moveTo_6 : decode cX3_moveTo 6 = .ok (.iconst 0, 1) := by decide +kernel
theorem dX3_moveTo_7 : decode cX3_moveTo 7 = .ok (.putfield 27, 3) := by decide +kernel
theorem dX3_moveTo_10 : decode cX3_moveTo 10 = .ok (.return_, 1) := by decide +kernel
abbrev tX3_moveTo (k : Nat) : MT := (RX3, cX3_moveTo, 2, k, none)
def mX3_moveTo : MX := bodyOf 2 (sSeq (sSeq (sPutR 3 3 (rLoc 0) (rLoc 1)) (sPutI 3 4 .boolean (rLoc 0) (iK 0))) sRetV)
theorem kX3_moveTo (g : GT) : MK g 0 yX3_moveTo cX3_moveTo 2 none mX3_moveTo := MK.of (pcN := 99999) (pcB := 0) (pcC := 0) rfl (Sok.seq (pc1 := 10) (Sok.seq (pc1 := 5) (Sok.putR (ci := 3) (T := TX3) (NN := 5) (tt := tyX3) (j := 3) (pc1 := 1) (pc2 := 2) (EokR.aload_n (q := 0) dX3_moveTo_0) (EokR.aload_n (q := 1) dX3_moveTo_1) (by decide) rfl wsX3_in tyX3_ok nmX3 (by decide) flX3_23 rfl (fun _ => rfl) (fun _ => rfl) dX3_moveTo_2) (Sok.putI (ci := 3) (T := TX3) (NN := 5) (tt := tyX3) (j := 4) (pc1 := 6) (pc2 := 7) (ty := .boolean) (EokR.aload_n (q := 0) dX3_moveTo_5) (EokI.iconst (v := 0) dX3_moveTo_6 (by decide)) (by decide) rfl wsX3_in tyX3_ok nmX3 (by decide) flX3_27 rfl rfl dX3_moveTo_7)) (Sok.retV dX3_moveTo_10 rfl))
/-! PassHuts$Walk.moveTo(LPassHuts$Hills;)V -/
theorem dX10_moveTo_0 : decode cX10_moveTo 0 = .ok (.aload_n 0, 1) := by decide +kernel
theorem dX10_moveTo_1 : decode cX10_moveTo 1 = .ok (.aload_n 1, 1) := by decide +kernel
theorem dX10_moveTo_2 : decode cX10_moveTo 2 = .ok (.putfield 25, 3) := by decide +kernel
theorem dX10_moveTo_5 : decode cX10_moveTo 5 = .ok (.aload_n 0, 1) := by decide +kernel
theorem dX10_moveTo_6 : decode cX10_moveTo 6 = .ok (.iconst 0, 1) := by decide +kernel
theorem dX10_moveTo_7 : decode cX10_moveTo 7 = .ok (.putfield 29, 3) := by decide +kernel
theorem dX10_moveTo_10 : decode cX10_moveTo 10 = .ok (.return_, 1) := by decide +kernel
abbrev tX10_moveTo (k : Nat) : MT := (RX10, cX10_moveTo, 2, k, none)
def mX10_moveTo : MX := bodyOf 2 (sSeq (sSeq (sPutR 10 4 (rLoc 0) (rLoc 1)) (sPutI 10 7 .boolean (rLoc 0) (iK 0))) sRetV)
theorem kX10_moveTo (g : GT) : MK g 0 yX10_moveTo cX10_moveTo 2 none mX10_moveTo := MK.of (pcN := 99999) (pcB := 0) (pcC := 0) rfl (Sok.seq (pc1 := 10) (Sok.seq (pc1 := 5) (Sok.putR (ci := 10) (T := TX10) (NN := 8) (tt := tyX10) (j := 4) (pc1 := 1) (pc2 := 2) (EokR.aload_n (q := 0) dX10_moveTo_0) (EokR.aload_n (q := 1) dX10_moveTo_1) (by decide) rfl wsX10_in tyX10_ok nmX10 (by decide) flX10_25 rfl (fun _ => rfl) (fun _ => rfl) dX10_moveTo_2) (Sok.putI (ci := 10) (T := TX10) (NN := 8) (tt := tyX10) (j := 7) (pc1 := 6) (pc2 := 7) (ty := .boolean) (EokR.aload_n (q := 0) dX10_moveTo_5) (EokI.iconst (v := 0) dX10_moveTo_6 (by decide)) (by decide) rfl wsX10_in tyX10_ok nmX10 (by decide) flX10_29 rfl rfl dX10_moveTo_7)) (Sok.retV dX10_moveTo_10 rfl))
/-! PassHuts$Survey.moveTo(LPassHuts$Hills;)V -/
theorem dX6_moveTo_0 : decode cX6_moveTo 0 = .ok (.aload_n 0, 1) := by decide +kernel
theorem dX6_moveTo_1 : decode cX6_moveTo 1 = .ok (.aload_n 1, 1) := by decide +kernel
theorem dX6_moveTo_2 : decode cX6_moveTo 2 = .ok (.putfield 23, 3) := by decide +kernel
theorem dX6_moveTo_5 : decode cX6_moveTo 5 = .ok (.return_, 1) := by decide +kernel
abbrev tX6_moveTo (k : Nat) : MT := (RX6, cX6_moveTo, 2, k, none)
def mX6_moveTo : MX := bodyOf 2 (sSeq (sPutR 6 3 (rLoc 0) (rLoc 1)) sRetV)
theorem kX6_moveTo (g : GT) : MK g 0 yX6_moveTo cX6_moveTo 2 none mX6_moveTo := MK.of (pcN := 99999) (pcB := 0) (pcC := 0) rfl (Sok.seq (pc1 := 5) (Sok.putR (ci := 6) (T := TX6) (NN := 4) (tt := tyX6) (j := 3) (pc1 := 1) (pc2 := 2) (EokR.aload_n (q := 0) dX6_moveTo_0) (EokR.aload_n (q := 1) dX6_moveTo_1) (by decide) rfl wsX6_in tyX6_ok nmX6 (by decide) flX6_23 rfl (fun _ => rfl) (fun _ => rfl) dX6_moveTo_2) (Sok.retV dX6_moveTo_5 rfl))
/-! PassHuts$Reader.readTripLine(LPassHuts$Trip;LPassHuts$Hills;)V -/
theorem dX4_readTripLine_0 : decode cX4_readTripLine 0 = .ok (.aload_n 0, 1) := by decide +kernel
theorem dX4_readTripLine_1 : decode cX4_readTripLine 1 = .ok (.getfield 20, 3) := by decide +kernel
theorem dX4_readTripLine_4 : decode cX4_readTripLine 4 = .ok (.getfield 36, 3) := by decide +kernel
theorem dX4_readTripLine_7 : decode cX4_readTripLine 7 = .ok (.istore_n 3, 1) := by decide +kernel
theorem dX4_readTripLine_8 : decode cX4_readTripLine 8 = .ok (.iload_n 3, 1) := by decide +kernel
theorem dX4_readTripLine_9 : decode cX4_readTripLine 9 = .ok (.sipush 133, 3) := by decide +kernel
theorem dX4_readTripLine_12 : decode cX4_readTripLine 12 = .ok (.if_icmp .eq 23, 3) := by decide +kernel
theorem dX4_readTripLine_15 : decode cX4_readTripLine 15 = .ok (.iload_n 3, 1) := by decide +kernel
theorem dX4_readTripLine_16 : decode cX4_readTripLine 16 = .ok (.sipush 134, 3) := by decide +kernel
theorem dX4_readTripLine_19 : decode cX4_readTripLine 19 = .ok (.if_icmp .eq 16, 3) := by decide +kernel
theorem dX4_readTripLine_22 : decode cX4_readTripLine 22 = .ok (.iload_n 3, 1) := by decide +kernel
theorem dX4_readTripLine_23 : decode cX4_readTripLine 23 = .ok (.sipush 135, 3) := by decide +kernel
theorem dX4_readTripLine_26 : decode cX4_readTripLine 26 = .ok (.if_icmp .eq 9, 3) := by decide +kernel
theorem dX4_readTripLine_29 : decode cX4_readTripLine 29 = .ok (.aload_n 0, 1) := by decide +kernel
theorem dX4_readTripLine_30 : decode cX4_readTripLine 30 = .ok (.iconst 1, 1) := by decide +kernel
theorem dX4_readTripLine_31 : decode cX4_readTripLine 31 = .ok (.invokevirtual 49, 3) := by decide +kernel
theorem dX4_readTripLine_34 : decode cX4_readTripLine 34 = .ok (.return_, 1) := by decide +kernel
theorem dX4_readTripLine_35 : decode cX4_readTripLine 35 = .ok (.aload_n 1, 1) := by decide +kernel
theorem dX4_readTripLine_36 : decode cX4_readTripLine 36 = .ok (.getfield 162, 3) := by decide +kernel
theorem dX4_readTripLine_39 : decode cX4_readTripLine 39 = .ok (.bipush 40, 2) := by decide +kernel
theorem dX4_readTripLine_41 : decode cX4_readTripLine 41 = .ok (.if_icmp .lt 9, 3) := by decide +kernel
theorem dX4_readTripLine_44 : decode cX4_readTripLine 44 = .ok (.aload_n 0, 1) := by decide +kernel
theorem dX4_readTripLine_45 : decode cX4_readTripLine 45 = .ok (.iconst 5, 1) := by decide +kernel
theorem dX4_readTripLine_46 : decode cX4_readTripLine 46 = .ok (.invokevirtual 49, 3) := by decide +kernel
theorem dX4_readTripLine_49 : decode cX4_readTripLine 49 = .ok (.return_, 1) := by decide +kernel
theorem dX4_readTripLine_50 : decode cX4_readTripLine 50 = .ok (.aload_n 0, 1) := by decide +kernel
theorem dX4_readTripLine_51 : decode cX4_readTripLine 51 = .ok (.getfield 20, 3) := by decide +kernel
theorem dX4_readTripLine_54 : decode cX4_readTripLine 54 = .ok (.invokevirtual 69, 3) := by decide +kernel
theorem dX4_readTripLine_57 : decode cX4_readTripLine 57 = .ok (.aload_n 0, 1) := by decide +kernel
theorem dX4_readTripLine_58 : decode cX4_readTripLine 58 = .ok (.aload_n 2, 1) := by decide +kernel
theorem dX4_readTripLine_59 : decode cX4_readTripLine 59 = .ok (.invokevirtual 113, 3) := by decide +kernel
theorem dX4_readTripLine_62 : decode cX4_readTripLine 62 = .ok (.istore 4, 2) := by decide +kernel
theorem dX4_readTripLine_64 : decode cX4_readTripLine 64 = .ok (.iload_n 3, 1) := by decide +kernel
theorem dX4_readTripLine_65 : decode cX4_readTripLine 65 = .ok (.sipush 133, 3) := by decide +kernel
theorem dX4_readTripLine_68 : decode cX4_readTripLine 68 = .ok (.if_icmp .ne 14, 3) := by decide +kernel
theorem dX4_readTripLine_71 : decode cX4_readTripLine 71 = .ok (.aload_n 0, 1) := by decide +kernel
theorem dX4_readTripLine_72 : decode cX4_readTripLine 72 = .ok (.aload_n 2, 1) := by decide +kernel
theorem dX4_readTripLine_73 : decode cX4_readTripLine 73 = .ok (.iload 4, 2) := by decide +kernel
theorem dX4_readTripLine_75 : decode cX4_readTripLine 75 = .ok (.iconst 0, 1) := by decide +kernel
theorem dX4_readTripLine_76 : decode cX4_readTripLine 76 = .ok (.invokevirtual 117, 3) := by decide +kernel
theorem dX4_readTripLine_79 : decode cX4_readTripLine 79 = .ok (.goto 4, 3) := by decide +kernel
theorem dX4_readTripLine_82 : decode cX4_readTripLine 82 = .ok (.iconst 0, 1) := by decide +kernel
theorem dX4_readTripLine_83 : decode cX4_readTripLine 83 = .ok (.istore 5, 2) := by decide +kernel
theorem dX4_readTripLine_85 : decode cX4_readTripLine 85 = .ok (.aload_n 0, 1) := by decide +kernel
theorem dX4_readTripLine_86 : decode cX4_readTripLine 86 = .ok (.bipush 59, 2) := by decide +kernel
theorem dX4_readTripLine_88 : decode cX4_readTripLine 88 = .ok (.invokevirtual 83, 3) := by decide +kernel
theorem dX4_readTripLine_91 : decode cX4_readTripLine 91 = .ok (.aload_n 0, 1) := by decide +kernel
theorem dX4_readTripLine_92 : decode cX4_readTripLine 92 = .ok (.getfield 29, 3) := by decide +kernel
theorem dX4_readTripLine_95 : decode cX4_readTripLine 95 = .ok (.ifCond .ne 34, 3) := by decide +kernel
theorem dX4_readTripLine_98 : decode cX4_readTripLine 98 = .ok (.aload_n 1, 1) := by decide +kernel
theorem dX4_readTripLine_99 : decode cX4_readTripLine 99 = .ok (.iload_n 3, 1) := by decide +kernel
theorem dX4_readTripLine_100 : decode cX4_readTripLine 100 = .ok (.sipush 133, 3) := by decide +kernel
theorem dX4_readTripLine_103 : decode cX4_readTripLine 103 = .ok (.if_icmp .ne 7, 3) := by decide +kernel
theorem dX4_readTripLine_106 : decode cX4_readTripLine 106 = .ok (.iconst 0, 1) := by decide +kernel
theorem dX4_readTripLine_107 : decode cX4_readTripLine 107 = .ok (.goto 15, 3) := by decide +kernel
theorem dX4_readTripLine_110 : decode cX4_readTripLine 110 = .ok (.iload_n 3, 1) := by decide +kernel
theorem dX4_readTripLine_111 : decode cX4_readTripLine 111 = .ok (.sipush 134, 3) := by decide +kernel
theorem dX4_readTripLine_114 : decode cX4_readTripLine 114 = .ok (.if_icmp .ne 7, 3) := by decide +kernel
theorem dX4_readTripLine_117 : decode cX4_readTripLine 117 = .ok (.iconst 1, 1) := by decide +kernel
theorem dX4_readTripLine_118 : decode cX4_readTripLine 118 = .ok (.goto 4, 3) := by decide +kernel
theorem dX4_readTripLine_121 : decode cX4_readTripLine 121 = .ok (.iconst 2, 1) := by decide +kernel
theorem dX4_readTripLine_122 : decode cX4_readTripLine 122 = .ok (.iload 4, 2) := by decide +kernel
theorem dX4_readTripLine_124 : decode cX4_readTripLine 124 = .ok (.iload 5, 2) := by decide +kernel
theorem dX4_readTripLine_126 : decode cX4_readTripLine 126 = .ok (.invokevirtual 165, 3) := by decide +kernel
theorem dX4_readTripLine_129 : decode cX4_readTripLine 129 = .ok (.return_, 1) := by decide +kernel
abbrev tX4_readTripLine (k : Nat) : MT := (RX4, cX4_readTripLine, 6, k, none)
def mX4_readTripLine : MX := bodyOf 6 (sSeq (sSeq (sSetI 3 (iGet 8 3 (rGet 4 1 (rLoc 0)))) (sSeq (sIf (cAnd (cAnd (cB rne (iLoc 3) (iK 133)) (cB rne (iLoc 3) (iK 134))) (cB rne (iLoc 3) (iK 135))) (sSeq (sCallV 4 mX4_wrong (aR (rLoc 0) (aI (iK 1) aNil))) sRetV) sSkip) (sSeq (sIf (cB rge (iGet 9 3 (rLoc 1)) (iK 40)) (sSeq (sCallV 4 mX4_wrong (aR (rLoc 0) (aI (iK 5) aNil))) sRetV) sSkip) (sSeq (sCallV 8 mX8_next (aR (rGet 4 1 (rLoc 0)) aNil)) (sSeq (sSetI 4 (iCallV 4 mX4_readToldName (aR (rLoc 0) (aR (rLoc 2) aNil)))) (sSeq (sSetI 5 (iCond (cB req (iLoc 3) (iK 133)) (iCallV 4 mX4_readOtherName (aR (rLoc 0) (aR (rLoc 2) (aI (iLoc 4) (aI (iK 0) aNil))))) (iK 0))) (sSeq (sCallV 4 mX4_expect (aR (rLoc 0) (aI (iK 59) aNil))) (sIf (cZ zeq (iGet 4 2 (rLoc 0))) (sCallV 9 mX9_addLine (aR (rLoc 1) (aI (iCond (cB req (iLoc 3) (iK 133)) (iK 0) (iCond (cB req (iLoc 3) (iK 134)) (iK 1) (iK 2))) (aI (iLoc 4) (aI (iLoc 5) aNil))))) sSkip)))))))) sRetV)
theorem kX4_readTripLine (g : GT) : MK g 4 yX4_readTripLine cX4_readTripLine 6 none mX4_readTripLine := MK.of (pcN := 99999) (pcB := 0) (pcC := 0) rfl (Sok.seq (pc1 := 129) (Sok.seq (pc1 := 8) (Sok.setI_n (q := 3) (pc1 := 7) (EokI.getf (pc1 := 4) (j := 3) (ci := 8) (T := TX8) (N := 6) (EokR.getf (pc1 := 1) (j := 1) (ci := 4) (T := TX4) (N := 3) (EokR.aload_n (q := 0) dX4_readTripLine_0) rfl wsX4_in (by decide) flX4_20 dX4_readTripLine_1) rfl wsX8_in (by decide) flX4_36 dX4_readTripLine_4) (by decide) dX4_readTripLine_7 (show 3 < 6 by decide)) (Sok.seq (pc1 := 35) (Sok.ite (pc1 := 29) (pc2 := 35) (Cok.and (pc1 := 22) (Cok.and (pc1 := 15) (Cok.cmp (pc1 := 9) (pc2 := 12) (pcT := 15) (pcF := 35) (EokI.iload_n (q := 3) dX4_readTripLine_8) (EokI.sipush (v := 133) dX4_readTripLine_9 (by decide)) (JI.neF (tgt := 35) dX4_readTripLine_12 (by decide))) (Cok.cmp (pc1 := 16) (pc2 := 19) (pcT := 22) (pcF := 35) (EokI.iload_n (q := 3) dX4_readTripLine_15) (EokI.sipush (v := 134) dX4_readTripLine_16 (by decide)) (JI.neF (tgt := 35) dX4_readTripLine_19 (by decide)))) (Cok.cmp (pc1 := 23) (pc2 := 26) (pcT := 29) (pcF := 35) (EokI.iload_n (q := 3) dX4_readTripLine_22) (EokI.sipush (v := 135) dX4_readTripLine_23 (by decide)) (JI.neF (tgt := 35) dX4_readTripLine_26 (by decide)))) (by decide) (Sok.seq (pc1 := 34) (Sok.sCallV (pc1 := 31) (Aok.aR (pc1 := 30) (EokR.aload_n (q := 0) dX4_readTripLine_29) (Aok.aI (pc1 := 31) (EokI.iconst (v := 1) dX4_readTripLine_30 (by decide)) Aok.nil)) (by decide) (kX4_wrong g) rfl ykX4_wrong vkX4_49 (by decide) (by decide) dX4_readTripLine_31) (Sok.retV dX4_readTripLine_34 rfl)) (Sok.skip (pc := 35))) (Sok.seq (pc1 := 50) (Sok.ite (pc1 := 44) (pc2 := 50) (Cok.cmp (pc1 := 39) (pc2 := 41) (pcT := 44) (pcF := 50) (EokI.getf (pc1 := 36) (j := 3) (ci := 9) (T := TX9) (N := 7) (EokR.aload_n (q := 1) dX4_readTripLine_35) rfl wsX9_in (by decide) flX4_162 dX4_readTripLine_36) (EokI.bipush (v := 40) dX4_readTripLine_39 (by decide)) (JI.geF (tgt := 50) dX4_readTripLine_41 (by decide))) (by decide) (Sok.seq (pc1 := 49) (Sok.sCallV (pc1 := 46) (Aok.aR (pc1 := 45) (EokR.aload_n (q := 0) dX4_readTripLine_44) (Aok.aI (pc1 := 46) (EokI.iconst (v := 5) dX4_readTripLine_45 (by decide)) Aok.nil)) (by decide) (kX4_wrong g) rfl ykX4_wrong vkX4_49 (by decide) (by decide) dX4_readTripLine_46) (Sok.retV dX4_readTripLine_49 rfl)) (Sok.skip (pc := 50))) (Sok.seq (pc1 := 57) (Sok.sCallV (pc1 := 54) (Aok.aR (pc1 := 54) (EokR.getf (pc1 := 51) (j := 1) (ci := 4) (T := TX4) (N := 3) (EokR.aload_n (q := 0) dX4_readTripLine_50) rfl wsX4_in (by decide) flX4_20 dX4_readTripLine_51) Aok.nil) (by decide) (kX8_next g) rfl ykX8_next vkX4_69 (by decide) (by decide) dX4_readTripLine_54) (Sok.seq (pc1 := 64) (Sok.setI (i := 4) (pc1 := 62) (EokI.iCallV (pc1 := 59) (Aok.aR (pc1 := 58) (EokR.aload_n (q := 0) dX4_readTripLine_57) (Aok.aR (pc1 := 59) (EokR.aload_n (q := 2) dX4_readTripLine_58) Aok.nil)) (kX4_readToldName g) rfl ykX4_readToldName vkX4_113 (by decide) (by decide) dX4_readTripLine_59) (by decide) dX4_readTripLine_62 (show 4 < 6 by decide)) (Sok.seq (pc1 := 85) (Sok.setI (i := 5) (pc1 := 83) (EokI.cond' (pc1 := 71) (pc2 := 82) (Cok.cmp (pc1 := 65) (pc2 := 68) (pcT := 71) (pcF := 82) (EokI.iload_n (q := 3) dX4_readTripLine_64) (EokI.sipush (v := 133) dX4_readTripLine_65 (by decide)) (JI.eqF (tgt := 82) dX4_readTripLine_68 (by decide))) (EokI.goto (pc1 := 79) (pc2 := 83) (EokI.iCallV (pc1 := 76) (Aok.aR (pc1 := 72) (EokR.aload_n (q := 0) dX4_readTripLine_71) (Aok.aR (pc1 := 73) (EokR.aload_n (q := 2) dX4_readTripLine_72) (Aok.aI (pc1 := 75) (EokI.iload (i := 4) dX4_readTripLine_73) (Aok.aI (pc1 := 76) (EokI.iconst (v := 0) dX4_readTripLine_75 (by decide)) Aok.nil)))) (kX4_readOtherName g) rfl ykX4_readOtherName vkX4_117 (by decide) (by decide) dX4_readTripLine_76) dX4_readTripLine_79 (by decide)) (EokI.iconst (v := 0) dX4_readTripLine_82 (by decide))) (by decide) dX4_readTripLine_83 (show 5 < 6 by decide)) (Sok.seq (pc1 := 91) (Sok.sCallV (pc1 := 88) (Aok.aR (pc1 := 86) (EokR.aload_n (q := 0) dX4_readTripLine_85) (Aok.aI (pc1 := 88) (EokI.bipush (v := 59) dX4_readTripLine_86 (by decide)) Aok.nil)) (by decide) (kX4_expect g) rfl ykX4_expect vkX4_83 (by decide) (by decide) dX4_readTripLine_88) (Sok.ite (pc1 := 98) (pc2 := 129) (Cok.zero (pc1 := 95) (pcT := 98) (pcF := 129) (EokI.getf (pc1 := 92) (j := 2) (ci := 4) (T := TX4) (N := 3) (EokR.aload_n (q := 0) dX4_readTripLine_91) rfl wsX4_in (by decide) flX4_29 dX4_readTripLine_92) (JZ.eqF (tgt := 129) dX4_readTripLine_95 (by decide))) (by decide) (Sok.sCallV (pc1 := 126) (Aok.aR (pc1 := 99) (EokR.aload_n (q := 1) dX4_readTripLine_98) (Aok.aI (pc1 := 122) (EokI.cond' (pc1 := 106) (pc2 := 110) (Cok.cmp (pc1 := 100) (pc2 := 103) (pcT := 106) (pcF := 110) (EokI.iload_n (q := 3) dX4_readTripLine_99) (EokI.sipush (v := 133) dX4_readTripLine_100 (by decide)) (JI.eqF (tgt := 110) dX4_readTripLine_103 (by decide))) (EokI.goto (pc1 := 107) (pc2 := 122) (EokI.iconst (v := 0) dX4_readTripLine_106 (by decide)) dX4_readTripLine_107 (by decide)) (EokI.cond' (pc1 := 117) (pc2 := 121) (Cok.cmp (pc1 := 111) (pc2 := 114) (pcT := 117) (pcF := 121) (EokI.iload_n (q := 3) dX4_readTripLine_110) (EokI.sipush (v := 134) dX4_readTripLine_111 (by decide)) (JI.eqF (tgt := 121) dX4_readTripLine_114 (by decide))) (EokI.goto (pc1 := 118) (pc2 := 122) (EokI.iconst (v := 1) dX4_readTripLine_117 (by decide)) dX4_readTripLine_118 (by decide)) (EokI.iconst (v := 2) dX4_readTripLine_121 (by decide)))) (Aok.aI (pc1 := 124) (EokI.iload (i := 4) dX4_readTripLine_122) (Aok.aI (pc1 := 126) (EokI.iload (i := 5) dX4_readTripLine_124) Aok.nil)))) (by decide) (kX9_addLine g) rfl ykX9_addLine vkX4_165 (by decide) (by decide) dX4_readTripLine_126) (Sok.skip (pc := 129)))))))))) (Sok.retV dX4_readTripLine_129 rfl))
/-! PassHuts$Reader.readTrip(LPassHuts$Trip;LPassHuts$Hills;)I -/
theorem dX4_readTrip_0 : decode cX4_readTrip 0 = .ok (.aload_n 1, 1) := by decide +kernel
theorem dX4_readTrip_1 : decode cX4_readTrip 1 = .ok (.invokevirtual 59, 3) := by decide +kernel
theorem dX4_readTrip_4 : decode cX4_readTrip 4 = .ok (.aload_n 0, 1) := by decide +kernel
theorem dX4_readTrip_5 : decode cX4_readTrip 5 = .ok (.iconst 0, 1) := by decide +kernel
theorem dX4_readTrip_6 : decode cX4_readTrip 6 = .ok (.putfield 29, 3) := by decide +kernel
theorem dX4_readTrip_9 : decode cX4_readTrip 9 = .ok (.aload_n 0, 1) := by decide +kernel
theorem dX4_readTrip_10 : decode cX4_readTrip 10 = .ok (.getfield 20, 3) := by decide +kernel
theorem dX4_readTrip_13 : decode cX4_readTrip 13 = .ok (.invokevirtual 33, 3) := by decide +kernel
theorem dX4_readTrip_16 : decode cX4_readTrip 16 = .ok (.iconst 0, 1) := by decide +kernel
theorem dX4_readTrip_17 : decode cX4_readTrip 17 = .ok (.istore_n 3, 1) := by decide +kernel
theorem dX4_readTrip_18 : decode cX4_readTrip 18 = .ok (.iload_n 3, 1) := by decide +kernel
theorem dX4_readTrip_19 : decode cX4_readTrip 19 = .ok (.sipush 1000, 3) := by decide +kernel
theorem dX4_readTrip_22 : decode cX4_readTrip 22 = .ok (.if_icmp .ge 33, 3) := by decide +kernel
theorem dX4_readTrip_25 : decode cX4_readTrip 25 = .ok (.aload_n 0, 1) := by decide +kernel
theorem dX4_readTrip_26 : decode cX4_readTrip 26 = .ok (.getfield 29, 3) := by decide +kernel
theorem dX4_readTrip_29 : decode cX4_readTrip 29 = .ok (.ifCond .ne 26, 3) := by decide +kernel
theorem dX4_readTrip_32 : decode cX4_readTrip 32 = .ok (.aload_n 0, 1) := by decide +kernel
theorem dX4_readTrip_33 : decode cX4_readTrip 33 = .ok (.getfield 20, 3) := by decide +kernel
theorem dX4_readTrip_36 : decode cX4_readTrip 36 = .ok (.getfield 36, 3) := by decide +kernel
theorem dX4_readTrip_39 : decode cX4_readTrip 39 = .ok (.iconst 1, 1) := by decide +kernel
theorem dX4_readTrip_40 : decode cX4_readTrip 40 = .ok (.if_icmp .eq 15, 3) := by decide +kernel
theorem dX4_readTrip_43 : decode cX4_readTrip 43 = .ok (.aload_n 0, 1) := by decide +kernel
theorem dX4_readTrip_44 : decode cX4_readTrip 44 = .ok (.aload_n 1, 1) := by decide +kernel
theorem dX4_readTrip_45 : decode cX4_readTrip 45 = .ok (.aload_n 2, 1) := by decide +kernel
theorem dX4_readTrip_46 : decode cX4_readTrip 46 = .ok (.invokevirtual 62, 3) := by decide +kernel
theorem dX4_readTrip_49 : decode cX4_readTrip 49 = .ok (.iinc 3 1, 3) := by decide +kernel
theorem dX4_readTrip_52 : decode cX4_readTrip 52 = .ok (.goto (-34), 3) := by decide +kernel
theorem dX4_readTrip_55 : decode cX4_readTrip 55 = .ok (.aload_n 0, 1) := by decide +kernel
theorem dX4_readTrip_56 : decode cX4_readTrip 56 = .ok (.getfield 9, 3) := by decide +kernel
theorem dX4_readTrip_59 : decode cX4_readTrip 59 = .ok (.invokevirtual 53, 3) := by decide +kernel
theorem dX4_readTrip_62 : decode cX4_readTrip 62 = .ok (.aload_n 0, 1) := by decide +kernel
theorem dX4_readTrip_63 : decode cX4_readTrip 63 = .ok (.getfield 29, 3) := by decide +kernel
theorem dX4_readTrip_66 : decode cX4_readTrip 66 = .ok (.ireturn, 1) := by decide +kernel
abbrev tX4_readTrip (k : Nat) : MT := (RX4, cX4_readTrip, 4, k, (some .int))
def lX4_readTrip_1 : SX := (sLoop (cAnd (cAnd (cB rlt (iLoc 3) (iK 1000)) (cZ zeq (iGet 4 2 (rLoc 0)))) (cB rne (iGet 8 3 (rGet 4 1 (rLoc 0))) (iK 1))) (sCallV 4 mX4_readTripLine (aR (rLoc 0) (aR (rLoc 1) (aR (rLoc 2) aNil)))) (sInc 3 1))
theorem olX4_readTrip_1 (g : GT) {pcB pcC : Nat} : Sok g (tX4_readTrip 5) 18 55 pcB pcC (lX4_readTrip_1) := (Sok.loop (pc := 18) (pc1 := 43) (pc2 := 49) (pcN := 55) (Cok.and (pc1 := 32) (Cok.and (pc1 := 25) (Cok.cmp (pc1 := 19) (pc2 := 22) (pcT := 25) (pcF := 55) (EokI.iload_n (q := 3) dX4_readTrip_18) (EokI.sipush (v := 1000) dX4_readTrip_19 (by decide)) (JI.ltF (tgt := 55) dX4_readTrip_22 (by decide))) (Cok.zero (pc1 := 29) (pcT := 32) (pcF := 55) (EokI.getf (pc1 := 26) (j := 2) (ci := 4) (T := TX4) (N := 3) (EokR.aload_n (q := 0) dX4_readTrip_25) rfl wsX4_in (by decide) flX4_29 dX4_readTrip_26) (JZ.eqF (tgt := 55) dX4_readTrip_29 (by decide)))) (Cok.cmp (pc1 := 39) (pc2 := 40) (pcT := 43) (pcF := 55) (EokI.getf (pc1 := 36) (j := 3) (ci := 8) (T := TX8) (N := 6) (EokR.getf (pc1 := 33) (j := 1) (ci := 4) (T := TX4) (N := 3) (EokR.aload_n (q := 0) dX4_readTrip_32) rfl wsX4_in (by decide) flX4_20 dX4_readTrip_33) rfl wsX8_in (by decide) flX4_36 dX4_readTrip_36) (EokI.iconst (v := 1) dX4_readTrip_39 (by decide)) (JI.neF (tgt := 55) dX4_readTrip_40 (by decide)))) (by decide) (Sok.sCallV (pc1 := 46) (Aok.aR (pc1 := 44) (EokR.aload_n (q := 0) dX4_readTrip_43) (Aok.aR (pc1 := 45) (EokR.aload_n (q := 1) dX4_readTrip_44) (Aok.aR (pc1 := 46) (EokR.aload_n (q := 2) dX4_readTrip_45) Aok.nil))) (by decide) (kX4_readTripLine g) rfl ykX4_readTripLine vkX4_62 (by decide) (by decide) dX4_readTrip_46) (Sok.goto (pc1 := 52) (pcN := 18) (Sok.iinc (i := 3) (v := 1) dX4_readTrip_49 (show 3 < 4 by decide) (by decide)) dX4_readTrip_52 (by decide)))
def mX4_readTrip : MX := bodyOf 4 (sSeq (sCallV 9 mX9_clear (aR (rLoc 1) aNil)) (sSeq (sPutI 4 2 .int (rLoc 0) (iK 0)) (sSeq (sCallV 8 mX8_start (aR (rGet 4 1 (rLoc 0)) aNil)) (sSeq (sSeq (sSeq (sSetI 3 (iK 0)) lX4_readTrip_1) (sForget 3)) (sSeq (sCallV 7 mX7_clear (aR (rGet 4 0 (rLoc 0)) aNil)) (sRetI (iGet 4 2 (rLoc 0))))))))
theorem kX4_readTrip (g : GT) : MK g 5 yX4_readTrip cX4_readTrip 4 (some .int) mX4_readTrip := MK.of (pcN := 99999) (pcB := 0) (pcC := 0) rfl (Sok.seq (pc1 := 4) (Sok.sCallV (pc1 := 1) (Aok.aR (pc1 := 1) (EokR.aload_n (q := 1) dX4_readTrip_0) Aok.nil) (by decide) (kX9_clear g) rfl ykX9_clear vkX4_59 (by decide) (by decide) dX4_readTrip_1) (Sok.seq (pc1 := 9) (Sok.putI (ci := 4) (T := TX4) (NN := 3) (tt := tyX4) (j := 2) (pc1 := 5) (pc2 := 6) (ty := .int) (EokR.aload_n (q := 0) dX4_readTrip_4) (EokI.iconst (v := 0) dX4_readTrip_5 (by decide)) (by decide) rfl wsX4_in tyX4_ok nmX4 (by decide) flX4_29 rfl rfl dX4_readTrip_6) (Sok.seq (pc1 := 16) (Sok.sCallV (pc1 := 13) (Aok.aR (pc1 := 13) (EokR.getf (pc1 := 10) (j := 1) (ci := 4) (T := TX4) (N := 3) (EokR.aload_n (q := 0) dX4_readTrip_9) rfl wsX4_in (by decide) flX4_20 dX4_readTrip_10) Aok.nil) (by decide) (kX8_start g) rfl ykX8_start vkX4_33 (by decide) (by decide) dX4_readTrip_13) (Sok.seq (pc1 := 55) (Sok.seq (pc1 := 55) (Sok.seq (pc1 := 18) (Sok.setI_n (q := 3) (pc1 := 17) (EokI.iconst (v := 0) dX4_readTrip_16 (by decide)) (by decide) dX4_readTrip_17 (show 3 < 4 by decide)) (olX4_readTrip_1 g )) (Sok.forget (pc := 55))) (Sok.seq (pc1 := 62) (Sok.sCallV (pc1 := 59) (Aok.aR (pc1 := 59) (EokR.getf (pc1 := 56) (j := 0) (ci := 4) (T := TX4) (N := 3) (EokR.aload_n (q := 0) dX4_readTrip_55) rfl wsX4_in (by decide) flX4_9 dX4_readTrip_56) Aok.nil) (by decide) (kX7_clear g) rfl ykX7_clear vkX4_53 (by decide) (by decide) dX4_readTrip_59) (Sok.retI (pc1 := 66) (EokI.getf (pc1 := 63) (j := 2) (ci := 4) (T := TX4) (N := 3) (EokR.aload_n (q := 0) dX4_readTrip_62) rfl wsX4_in (by decide) flX4_29 dX4_readTrip_63) (by decide) dX4_readTrip_66 rfl))))))
/-! PassHuts$Walk.numberAt(I)I -/
theorem dX10_numberAt_0 : decode cX10_numberAt 0 = .ok (.iload_n 1, 1) := by decide +kernel
theorem dX10_numberAt_1 : decode cX10_numberAt 1 = .ok (.ifCond .lt 27, 3) := by decide +kernel
theorem dX10_numberAt_4 : decode cX10_numberAt 4 = .ok (.iload_n 1, 1) := by decide +kernel
theorem dX10_numberAt_5 : decode cX10_numberAt 5 = .ok (.aload_n 0, 1) := by decide +kernel
theorem dX10_numberAt_6 : decode cX10_numberAt 6 = .ok (.getfield 37, 3) := by decide +kernel
theorem dX10_numberAt_9 : decode cX10_numberAt 9 = .ok (.if_icmp .ge 19, 3) := by decide +kernel
theorem dX10_numberAt_12 : decode cX10_numberAt 12 = .ok (.iload_n 1, 1) := by decide +kernel
theorem dX10_numberAt_13 : decode cX10_numberAt 13 = .ok (.sipush 6188, 3) := by decide +kernel
theorem dX10_numberAt_16 : decode cX10_numberAt 16 = .ok (.if_icmp .ge 12, 3) := by decide +kernel
theorem dX10_numberAt_19 : decode cX10_numberAt 19 = .ok (.aload_n 0, 1) := by decide +kernel
theorem dX10_numberAt_20 : decode cX10_numberAt 20 = .ok (.getfield 15, 3) := by decide +kernel
theorem dX10_numberAt_23 : decode cX10_numberAt 23 = .ok (.iload_n 1, 1) := by decide +kernel
theorem dX10_numberAt_24 : decode cX10_numberAt 24 = .ok (.iaload, 1) := by decide +kernel
theorem dX10_numberAt_25 : decode cX10_numberAt 25 = .ok (.goto 4, 3) := by decide +kernel
theorem dX10_numberAt_28 : decode cX10_numberAt 28 = .ok (.iconst (-1), 1) := by decide +kernel
theorem dX10_numberAt_29 : decode cX10_numberAt 29 = .ok (.ireturn, 1) := by decide +kernel
abbrev tX10_numberAt (k : Nat) : MT := (RX10, cX10_numberAt, 2, k, (some .int))
def mX10_numberAt : MX := bodyOf 2 (sRetI (iCond (cAnd (cAnd (cZ zge (iLoc 1)) (cB rlt (iLoc 1) (iGet 10 5 (rLoc 0)))) (cB rlt (iLoc 1) (iK 6188))) (iALd (rGet 10 2 (rLoc 0)) (iLoc 1)) (iK (-1))))
theorem kX10_numberAt (g : GT) : MK g 0 yX10_numberAt cX10_numberAt 2 (some .int) mX10_numberAt := MK.of (pcN := 99999) (pcB := 0) (pcC := 0) rfl (Sok.retI (pc1 := 29) (EokI.cond' (pc1 := 19) (pc2 := 28) (Cok.and (pc1 := 12) (Cok.and (pc1 := 4) (Cok.zero (pc1 := 1) (pcT := 4) (pcF := 28) (EokI.iload_n (q := 1) dX10_numberAt_0) (JZ.geF (tgt := 28) dX10_numberAt_1 (by decide))) (Cok.cmp (pc1 := 5) (pc2 := 9) (pcT := 12) (pcF := 28) (EokI.iload_n (q := 1) dX10_numberAt_4) (EokI.getf (pc1 := 6) (j := 5) (ci := 10) (T := TX10) (N := 8) (EokR.aload_n (q := 0) dX10_numberAt_5) rfl wsX10_in (by decide) flX10_37 dX10_numberAt_6) (JI.ltF (tgt := 28) dX10_numberAt_9 (by decide)))) (Cok.cmp (pc1 := 13) (pc2 := 16) (pcT := 19) (pcF := 28) (EokI.iload_n (q := 1) dX10_numberAt_12) (EokI.sipush (v := 6188) dX10_numberAt_13 (by decide)) (JI.ltF (tgt := 28) dX10_numberAt_16 (by decide)))) (EokI.goto (pc1 := 25) (pc2 := 29) (EokI.iALd (pc1 := 23) (pc2 := 24) (EokR.getf (pc1 := 20) (j := 2) (ci := 10) (T := TX10) (N := 8) (EokR.aload_n (q := 0) dX10_numberAt_19) rfl wsX10_in (by decide) flX10_15 dX10_numberAt_20) (EokI.iload_n (q := 1) dX10_numberAt_23) dX10_numberAt_24) dX10_numberAt_25 (by decide)) (EokI.iconst (v := (-1)) dX10_numberAt_28 (by decide))) (by decide) dX10_numberAt_29 rfl)
/-! PassHuts$Walk.setInfo(II)V -/
theorem dX10_setInfo_0 : decode cX10_setInfo 0 = .ok (.iload_n 1, 1) := by decide +kernel
theorem dX10_setInfo_1 : decode cX10_setInfo 1 = .ok (.ifCond .lt 17, 3) := by decide +kernel
theorem dX10_setInfo_4 : decode cX10_setInfo 4 = .ok (.iload_n 1, 1) := by decide +kernel
theorem dX10_setInfo_5 : decode cX10_setInfo 5 = .ok (.sipush 6188, 3) := by decide +kernel
theorem dX10_setInfo_8 : decode cX10_setInfo 8 = .ok (.if_icmp .ge 10, 3) := by decide +kernel
theorem dX10_setInfo_11 : decode cX10_setInfo 11 = .ok (.aload_n 0, 1) := by decide +kernel
theorem dX10_setInfo_12 : decode cX10_setInfo 12 = .ok (.getfield 9, 3) := by decide +kernel
theorem dX10_setInfo_15 : decode cX10_setInfo 15 = .ok (.iload_n 1, 1) := by decide +kernel
theorem dX10_setInfo_16 : decode cX10_setInfo 16 = .ok (.iload_n 2, 1) := by decide +kernel
theorem dX10_setInfo_17 : decode cX10_setInfo 17 = .ok (.iastore, 1) := by decide +kernel
theorem dX10_setInfo_18 : decode cX10_setInfo 18 = .ok (.return_, 1) := by decide +kernel
abbrev tX10_setInfo (k : Nat) : MT := (RX10, cX10_setInfo, 3, k, none)
def mX10_setInfo : MX := bodyOf 3 (sSeq (sIf (cAnd (cZ zge (iLoc 1)) (cB rlt (iLoc 1) (iK 6188))) (sASt 0 narI (rGet 10 1 (rLoc 0)) (iLoc 1) (iLoc 2)) sSkip) sRetV)
theorem kX10_setInfo (g : GT) : MK g 0 yX10_setInfo cX10_setInfo 3 none mX10_setInfo := MK.of (pcN := 99999) (pcB := 0) (pcC := 0) rfl (Sok.seq (pc1 := 18) (Sok.ite (pc1 := 11) (pc2 := 18) (Cok.and (pc1 := 4) (Cok.zero (pc1 := 1) (pcT := 4) (pcF := 18) (EokI.iload_n (q := 1) dX10_setInfo_0) (JZ.geF (tgt := 18) dX10_setInfo_1 (by decide))) (Cok.cmp (pc1 := 5) (pc2 := 8) (pcT := 11) (pcF := 18) (EokI.iload_n (q := 1) dX10_setInfo_4) (EokI.sipush (v := 6188) dX10_setInfo_5 (by decide)) (JI.ltF (tgt := 18) dX10_setInfo_8 (by decide)))) (by decide) (Sok.iASt (pc1 := 15) (pc2 := 16) (pc3 := 17) (EokR.getf (pc1 := 12) (j := 1) (ci := 10) (T := TX10) (N := 8) (EokR.aload_n (q := 0) dX10_setInfo_11) rfl wsX10_in (by decide) flX10_9 dX10_setInfo_12) (EokI.iload_n (q := 1) dX10_setInfo_15) (EokI.iload_n (q := 2) dX10_setInfo_16) (by decide) dX10_setInfo_17) (Sok.skip (pc := 18))) (Sok.retV dX10_setInfo_18 rfl))
/-! PassHuts$Walk.infoOf(I)I -/
theorem dX10_infoOf_0 : decode cX10_infoOf 0 = .ok (.iload_n 1, 1) := by decide +kernel
theorem dX10_infoOf_1 : decode cX10_infoOf 1 = .ok (.ifCond .lt 19, 3) := by decide +kernel
theorem dX10_infoOf_4 : decode cX10_infoOf 4 = .ok (.iload_n 1, 1) := by decide +kernel
theorem dX10_infoOf_5 : decode cX10_infoOf 5 = .ok (.sipush 6188, 3) := by decide +kernel
theorem dX10_infoOf_8 : decode cX10_infoOf 8 = .ok (.if_icmp .ge 12, 3) := by decide +kernel
theorem dX10_infoOf_11 : decode cX10_infoOf 11 = .ok (.aload_n 0, 1) := by decide +kernel
theorem dX10_infoOf_12 : decode cX10_infoOf 12 = .ok (.getfield 9, 3) := by decide +kernel
theorem dX10_infoOf_15 : decode cX10_infoOf 15 = .ok (.iload_n 1, 1) := by decide +kernel
theorem dX10_infoOf_16 : decode cX10_infoOf 16 = .ok (.iaload, 1) := by decide +kernel
theorem dX10_infoOf_17 : decode cX10_infoOf 17 = .ok (.goto 4, 3) := by decide +kernel
theorem dX10_infoOf_20 : decode cX10_infoOf 20 = .ok (.iconst 0, 1) := by decide +kernel
theorem dX10_infoOf_21 : decode cX10_infoOf 21 = .ok (.ireturn, 1) := by decide +kernel
abbrev tX10_infoOf (k : Nat) : MT := (RX10, cX10_infoOf, 2, k, (some .int))
def mX10_infoOf : MX := bodyOf 2 (sRetI (iCond (cAnd (cZ zge (iLoc 1)) (cB rlt (iLoc 1) (iK 6188))) (iALd (rGet 10 1 (rLoc 0)) (iLoc 1)) (iK 0)))
theorem kX10_infoOf (g : GT) : MK g 0 yX10_infoOf cX10_infoOf 2 (some .int) mX10_infoOf := MK.of (pcN := 99999) (pcB := 0) (pcC := 0) rfl (Sok.retI (pc1 := 21) (EokI.cond' (pc1 := 11) (pc2 := 20) (Cok.and (pc1 := 4) (Cok.zero (pc1 := 1) (pcT := 4) (pcF := 20) (EokI.iload_n (q := 1) dX10_infoOf_0) (JZ.geF (tgt := 20) dX10_infoOf_1 (by decide))) (Cok.cmp (pc1 := 5) (pc2 := 8) (pcT := 11) (pcF := 20) (EokI.iload_n (q := 1) dX10_infoOf_4) (EokI.sipush (v := 6188) dX10_infoOf_5 (by decide)) (JI.ltF (tgt := 20) dX10_infoOf_8 (by decide)))) (EokI.goto (pc1 := 17) (pc2 := 21) (EokI.iALd (pc1 := 15) (pc2 := 16) (EokR.getf (pc1 := 12) (j := 1) (ci := 10) (T := TX10) (N := 8) (EokR.aload_n (q := 0) dX10_infoOf_11) rfl wsX10_in (by decide) flX10_9 dX10_infoOf_12) (EokI.iload_n (q := 1) dX10_infoOf_15) dX10_infoOf_16) dX10_infoOf_17 (by decide)) (EokI.iconst (v := 0) dX10_infoOf_20 (by decide))) (by decide) dX10_infoOf_21 rfl)
/-! PassHuts$Walk.fewestOf(I)I -/
theorem dX10_fewestOf_0 : decode cX10_fewestOf 0 = .ok (.aload_n 0, 1) := by decide +kernel
theorem dX10_fewestOf_1 : decode cX10_fewestOf 1 = .ok (.iload_n 1, 1) := by decide +kernel
theorem dX10_fewestOf_2 : decode cX10_fewestOf 2 = .ok (.invokevirtual 72, 3) := by decide +kernel
theorem dX10_fewestOf_5 : decode cX10_fewestOf 5 = .ok (.bipush 15, 2) := by decide +kernel
theorem dX10_fewestOf_7 : decode cX10_fewestOf 7 = .ok (.iand, 1) := by decide +kernel
theorem dX10_fewestOf_8 : decode cX10_fewestOf 8 = .ok (.ireturn, 1) := by decide +kernel
abbrev tX10_fewestOf (k : Nat) : MT := (RX10, cX10_fewestOf, 2, k, (some .int))
def mX10_fewestOf : MX := bodyOf 2 (sRetI (iB gT2 (· &&& ·) (iCallV 10 mX10_infoOf (aR (rLoc 0) (aI (iLoc 1) aNil))) (iK 15)))
theorem kX10_fewestOf (g : GT) : MK g 1 yX10_fewestOf cX10_fewestOf 2 (some .int) mX10_fewestOf := MK.of (pcN := 99999) (pcB := 0) (pcC := 0) rfl (Sok.retI (pc1 := 8) (EokI.bin (pc1 := 5) (pc2 := 7) (EokI.iCallV (pc1 := 2) (Aok.aR (pc1 := 1) (EokR.aload_n (q := 0) dX10_fewestOf_0) (Aok.aI (pc1 := 2) (EokI.iload_n (q := 1) dX10_fewestOf_1) Aok.nil)) (kX10_infoOf g) rfl ykX10_infoOf vkX10_72 (by decide) (by decide) dX10_fewestOf_2) (EokI.bipush (v := 15) dX10_fewestOf_5 (by decide)) (OPI.iand dX10_fewestOf_7)) (by decide) dX10_fewestOf_8 rfl)
/-! PassHuts$Walk.longestOf(I)I -/
theorem dX10_longestOf_0 : decode cX10_longestOf 0 = .ok (.aload_n 0, 1) := by decide +kernel
theorem dX10_longestOf_1 : decode cX10_longestOf 1 = .ok (.iload_n 1, 1) := by decide +kernel
theorem dX10_longestOf_2 : decode cX10_longestOf 2 = .ok (.invokevirtual 72, 3) := by decide +kernel
theorem dX10_longestOf_5 : decode cX10_longestOf 5 = .ok (.iconst 4, 1) := by decide +kernel
theorem dX10_longestOf_6 : decode cX10_longestOf 6 = .ok (.ishr, 1) := by decide +kernel
theorem dX10_longestOf_7 : decode cX10_longestOf 7 = .ok (.bipush 15, 2) := by decide +kernel
theorem dX10_longestOf_9 : decode cX10_longestOf 9 = .ok (.iand, 1) := by decide +kernel
theorem dX10_longestOf_10 : decode cX10_longestOf 10 = .ok (.ireturn, 1) := by decide +kernel
abbrev tX10_longestOf (k : Nat) : MT := (RX10, cX10_longestOf, 2, k, (some .int))
def mX10_longestOf : MX := bodyOf 2 (sRetI (iB gT2 (· &&& ·) (iB gT2 jshr (iCallV 10 mX10_infoOf (aR (rLoc 0) (aI (iLoc 1) aNil))) (iK 4)) (iK 15)))
theorem kX10_longestOf (g : GT) : MK g 1 yX10_longestOf cX10_longestOf 2 (some .int) mX10_longestOf := MK.of (pcN := 99999) (pcB := 0) (pcC := 0) rfl (Sok.retI (pc1 := 10) (EokI.bin (pc1 := 7) (pc2 := 9) (EokI.bin (pc1 := 5) (pc2 := 6) (EokI.iCallV (pc1 := 2) (Aok.aR (pc1 := 1) (EokR.aload_n (q := 0) dX10_longestOf_0) (Aok.aI (pc1 := 2) (EokI.iload_n (q := 1) dX10_longestOf_1) Aok.nil)) (kX10_infoOf g) rfl ykX10_infoOf vkX10_72 (by decide) (by decide) dX10_longestOf_2) (EokI.iconst (v := 4) dX10_longestOf_5 (by decide)) (OPI.ishr dX10_longestOf_6)) (EokI.bipush (v := 15) dX10_longestOf_7 (by decide)) (OPI.iand dX10_longestOf_9)) (by decide) dX10_longestOf_10 rfl)
/-! PassHuts$Walk.merge(III)V -/
theorem dX10_merge_0 : decode cX10_merge 0 = .ok (.iload_n 2, 1) := by decide +kernel
theorem dX10_merge_1 : decode cX10_merge 1 = .ok (.istore 4, 2) := by decide +kernel
theorem dX10_merge_3 : decode cX10_merge 3 = .ok (.iload_n 3, 1) := by decide +kernel
theorem dX10_merge_4 : decode cX10_merge 4 = .ok (.istore 5, 2) := by decide +kernel
theorem dX10_merge_6 : decode cX10_merge 6 = .ok (.aload_n 0, 1) := by decide +kernel
theorem dX10_merge_7 : decode cX10_merge 7 = .ok (.iload_n 1, 1) := by decide +kernel
theorem dX10_merge_8 : decode cX10_merge 8 = .ok (.invokevirtual 72, 3) := by decide +kernel
theorem dX10_merge_11 : decode cX10_merge 11 = .ok (.ifCond .eq 27, 3) := by decide +kernel
theorem dX10_merge_14 : decode cX10_merge 14 = .ok (.iload 4, 2) := by decide +kernel
theorem dX10_merge_16 : decode cX10_merge 16 = .ok (.aload_n 0, 1) := by decide +kernel
theorem dX10_merge_17 : decode cX10_merge 17 = .ok (.iload_n 1, 1) := by decide +kernel
theorem dX10_merge_18 : decode cX10_merge 18 = .ok (.invokevirtual 81, 3) := by decide +kernel
theorem dX10_merge_21 : decode cX10_merge 21 = .ok (.invokestatic 94, 3) := by decide +kernel
theorem dX10_merge_24 : decode cX10_merge 24 = .ok (.istore 4, 2) := by decide +kernel
theorem dX10_merge_26 : decode cX10_merge 26 = .ok (.iload 5, 2) := by decide +kernel
theorem dX10_merge_28 : decode cX10_merge 28 = .ok (.aload_n 0, 1) := by decide +kernel
theorem dX10_merge_29 : decode cX10_merge 29 = .ok (.iload_n 1, 1) := by decide +kernel
theorem dX10_merge_30 : decode cX10_merge 30 = .ok (.invokevirtual 84, 3) := by decide +kernel
theorem dX10_merge_33 : decode cX10_merge 33 = .ok (.invokestatic 99, 3) := by decide +kernel
theorem dX10_merge_36 : decode cX10_merge 36 = .ok (.istore 5, 2) := by decide +kernel
theorem dX10_merge_38 : decode cX10_merge 38 = .ok (.aload_n 0, 1) := by decide +kernel
theorem dX10_merge_39 : decode cX10_merge 39 = .ok (.iload_n 1, 1) := by decide +kernel
theorem dX10_merge_40 : decode cX10_merge 40 = .ok (.sipush 256, 3) := by decide +kernel
theorem dX10_merge_43 : decode cX10_merge 43 = .ok (.iload 5, 2) := by decide +kernel
theorem dX10_merge_45 : decode cX10_merge 45 = .ok (.iconst 4, 1) := by decide +kernel
theorem dX10_merge_46 : decode cX10_merge 46 = .ok (.ishl, 1) := by decide +kernel
theorem dX10_merge_47 : decode cX10_merge 47 = .ok (.ior, 1) := by decide +kernel
theorem dX10_merge_48 : decode cX10_merge 48 = .ok (.iload 4, 2) := by decide +kernel
theorem dX10_merge_50 : decode cX10_merge 50 = .ok (.ior, 1) := by decide +kernel
theorem dX10_merge_51 : decode cX10_merge 51 = .ok (.invokevirtual 44, 3) := by decide +kernel
theorem dX10_merge_54 : decode cX10_merge 54 = .ok (.return_, 1) := by decide +kernel
abbrev tX10_merge (k : Nat) : MT := (RX10, cX10_merge, 6, k, none)
def mX10_merge : MX := bodyOf 6 (sSeq (sSeq (sSetI 4 (iLoc 2)) (sSeq (sSetI 5 (iLoc 3)) (sSeq (sIf (cZ zne (iCallV 10 mX10_infoOf (aR (rLoc 0) (aI (iLoc 1) aNil)))) (sSeq (sSetI 4 (iB gT2 jmin (iLoc 4) (iCallV 10 mX10_fewestOf (aR (rLoc 0) (aI (iLoc 1) aNil))))) (sSetI 5 (iB gT2 jmax (iLoc 5) (iCallV 10 mX10_longestOf (aR (rLoc 0) (aI (iLoc 1) aNil)))))) sSkip) (sCallV 10 mX10_setInfo (aR (rLoc 0) (aI (iLoc 1) (aI (iB gT2 (· ||| ·) (iB gT2 (· ||| ·) (iK 256) (iB gT2 jshl (iLoc 5) (iK 4))) (iLoc 4)) aNil))))))) sRetV)
theorem kX10_merge (g : GT) : MK g 2 yX10_merge cX10_merge 6 none mX10_merge := MK.of (pcN := 99999) (pcB := 0) (pcC := 0) rfl (Sok.seq (pc1 := 54) (Sok.seq (pc1 := 3) (Sok.setI (i := 4) (pc1 := 1) (EokI.iload_n (q := 2) dX10_merge_0) (by decide) dX10_merge_1 (show 4 < 6 by decide)) (Sok.seq (pc1 := 6) (Sok.setI (i := 5) (pc1 := 4) (EokI.iload_n (q := 3) dX10_merge_3) (by decide) dX10_merge_4 (show 5 < 6 by decide)) (Sok.seq (pc1 := 38) (Sok.ite (pc1 := 14) (pc2 := 38) (Cok.zero (pc1 := 11) (pcT := 14) (pcF := 38) (EokI.iCallV (pc1 := 8) (Aok.aR (pc1 := 7) (EokR.aload_n (q := 0) dX10_merge_6) (Aok.aI (pc1 := 8) (EokI.iload_n (q := 1) dX10_merge_7) Aok.nil)) (kX10_infoOf g) rfl ykX10_infoOf vkX10_72 (by decide) (by decide) dX10_merge_8) (JZ.neF (tgt := 38) dX10_merge_11 (by decide))) (by decide) (Sok.seq (pc1 := 26) (Sok.setI (i := 4) (pc1 := 24) (EokI.mmin (pc1 := 16) (pc2 := 21) (EokI.iload (i := 4) dX10_merge_14) (EokI.iCallV (pc1 := 18) (Aok.aR (pc1 := 17) (EokR.aload_n (q := 0) dX10_merge_16) (Aok.aI (pc1 := 18) (EokI.iload_n (q := 1) dX10_merge_17) Aok.nil)) (kX10_fewestOf g) rfl ykX10_fewestOf vkX10_81 (by decide) (by decide) dX10_merge_18) mlX10_94 wst_mmin wini_math wco_mmin (by decide) dX10_merge_21) (by decide) dX10_merge_24 (show 4 < 6 by decide)) (Sok.setI (i := 5) (pc1 := 36) (EokI.mmax (pc1 := 28) (pc2 := 33) (EokI.iload (i := 5) dX10_merge_26) (EokI.iCallV (pc1 := 30) (Aok.aR (pc1 := 29) (EokR.aload_n (q := 0) dX10_merge_28) (Aok.aI (pc1 := 30) (EokI.iload_n (q := 1) dX10_merge_29) Aok.nil)) (kX10_longestOf g) rfl ykX10_longestOf vkX10_84 (by decide) (by decide) dX10_merge_30) mlX10_99 wst_mmax wini_math wco_mmax (by decide) dX10_merge_33) (by decide) dX10_merge_36 (show 5 < 6 by decide))) (Sok.skip (pc := 38))) (Sok.sCallV (pc1 := 51) (Aok.aR (pc1 := 39) (EokR.aload_n (q := 0) dX10_merge_38) (Aok.aI (pc1 := 40) (EokI.iload_n (q := 1) dX10_merge_39) (Aok.aI (pc1 := 51) (EokI.bin (pc1 := 48) (pc2 := 50) (EokI.bin (pc1 := 43) (pc2 := 47) (EokI.sipush (v := 256) dX10_merge_40 (by decide)) (EokI.bin (pc1 := 45) (pc2 := 46) (EokI.iload (i := 5) dX10_merge_43) (EokI.iconst (v := 4) dX10_merge_45 (by decide)) (OPI.ishl dX10_merge_46)) (OPI.ior dX10_merge_47)) (EokI.iload (i := 4) dX10_merge_48) (OPI.ior dX10_merge_50)) Aok.nil))) (by decide) (kX10_setInfo g) rfl ykX10_setInfo vkX10_44 (by decide) (by decide) dX10_merge_51)))) (Sok.retV dX10_merge_54 rfl))
/-! PassHuts$Walk.spread(II)V -/
theorem dX10_spread_0 : decode cX10_spread 0 = .ok (.aload_n 0, 1) := by decide +kernel
theorem dX10_spread_1 : decode cX10_spread 1 = .ok (.getfield 37, 3) := by decide +kernel
theorem dX10_spread_4 : decode cX10_spread 4 = .ok (.sipush 6188, 3) := by decide +kernel
theorem dX10_spread_7 : decode cX10_spread 7 = .ok (.if_icmp .lt 4, 3) := by decide +kernel
theorem dX10_spread_10 : decode cX10_spread 10 = .ok (.return_, 1) := by decide +kernel
theorem dX10_spread_11 : decode cX10_spread 11 = .ok (.aload_n 0, 1) := by decide +kernel
theorem dX10_spread_12 : decode cX10_spread 12 = .ok (.getfield 15, 3) := by decide +kernel
theorem dX10_spread_15 : decode cX10_spread 15 = .ok (.aload_n 0, 1) := by decide +kernel
theorem dX10_spread_16 : decode cX10_spread 16 = .ok (.getfield 37, 3) := by decide +kernel
theorem dX10_spread_19 : decode cX10_spread 19 = .ok (.iload_n 1, 1) := by decide +kernel
theorem dX10_spread_20 : decode cX10_spread 20 = .ok (.iastore, 1) := by decide +kernel
theorem dX10_spread_21 : decode cX10_spread 21 = .ok (.aload_n 0, 1) := by decide +kernel
theorem dX10_spread_22 : decode cX10_spread 22 = .ok (.dup, 1) := by decide +kernel
theorem dX10_spread_23 : decode cX10_spread 23 = .ok (.getfield 37, 3) := by decide +kernel
theorem dX10_spread_26 : decode cX10_spread 26 = .ok (.iconst 1, 1) := by decide +kernel
theorem dX10_spread_27 : decode cX10_spread 27 = .ok (.iadd, 1) := by decide +kernel
theorem dX10_spread_28 : decode cX10_spread 28 = .ok (.putfield 37, 3) := by decide +kernel
theorem dX10_spread_31 : decode cX10_spread 31 = .ok (.aload_n 0, 1) := by decide +kernel
theorem dX10_spread_32 : decode cX10_spread 32 = .ok (.getfield 21, 3) := by decide +kernel
theorem dX10_spread_35 : decode cX10_spread 35 = .ok (.iload_n 1, 1) := by decide +kernel
theorem dX10_spread_36 : decode cX10_spread 36 = .ok (.invokevirtual 78, 3) := by decide +kernel
theorem dX10_spread_39 : decode cX10_spread 39 = .ok (.istore_n 3, 1) := by decide +kernel
theorem dX10_spread_40 : decode cX10_spread 40 = .ok (.aload_n 0, 1) := by decide +kernel
theorem dX10_spread_41 : decode cX10_spread 41 = .ok (.iload_n 1, 1) := by decide +kernel
theorem dX10_spread_42 : decode cX10_spread 42 = .ok (.invokevirtual 81, 3) := by decide +kernel
theorem dX10_spread_45 : decode cX10_spread 45 = .ok (.iconst 1, 1) := by decide +kernel
theorem dX10_spread_46 : decode cX10_spread 46 = .ok (.iadd, 1) := by decide +kernel
theorem dX10_spread_47 : decode cX10_spread 47 = .ok (.istore 4, 2) := by decide +kernel
theorem dX10_spread_49 : decode cX10_spread 49 = .ok (.aload_n 0, 1) := by decide +kernel
theorem dX10_spread_50 : decode cX10_spread 50 = .ok (.iload_n 1, 1) := by decide +kernel
theorem dX10_spread_51 : decode cX10_spread 51 = .ok (.invokevirtual 84, 3) := by decide +kernel
theorem dX10_spread_54 : decode cX10_spread 54 = .ok (.iconst 1, 1) := by decide +kernel
theorem dX10_spread_55 : decode cX10_spread 55 = .ok (.iadd, 1) := by decide +kernel
theorem dX10_spread_56 : decode cX10_spread 56 = .ok (.istore 5, 2) := by decide +kernel
theorem dX10_spread_58 : decode cX10_spread 58 = .ok (.iconst 0, 1) := by decide +kernel
theorem dX10_spread_59 : decode cX10_spread 59 = .ok (.istore 6, 2) := by decide +kernel
theorem dX10_spread_61 : decode cX10_spread 61 = .ok (.iload 6, 2) := by decide +kernel
theorem dX10_spread_63 : decode cX10_spread 63 = .ok (.aload_n 0, 1) := by decide +kernel
theorem dX10_spread_64 : decode cX10_spread 64 = .ok (.getfield 25, 3) := by decide +kernel
theorem dX10_spread_67 : decode cX10_spread 67 = .ok (.getfield 87, 3) := by decide +kernel
theorem dX10_spread_70 : decode cX10_spread 70 = .ok (.if_icmp .ge 55, 3) := by decide +kernel
theorem dX10_spread_73 : decode cX10_spread 73 = .ok (.aload_n 0, 1) := by decide +kernel
theorem dX10_spread_74 : decode cX10_spread 74 = .ok (.getfield 21, 3) := by decide +kernel
theorem dX10_spread_77 : decode cX10_spread 77 = .ok (.aload_n 0, 1) := by decide +kernel
theorem dX10_spread_78 : decode cX10_spread 78 = .ok (.getfield 25, 3) := by decide +kernel
theorem dX10_spread_81 : decode cX10_spread 81 = .ok (.iload_n 3, 1) := by decide +kernel
theorem dX10_spread_82 : decode cX10_spread 82 = .ok (.iload_n 2, 1) := by decide +kernel
theorem dX10_spread_83 : decode cX10_spread 83 = .ok (.iload 6, 2) := by decide +kernel
theorem dX10_spread_85 : decode cX10_spread 85 = .ok (.invokevirtual 90, 3) := by decide +kernel
theorem dX10_spread_88 : decode cX10_spread 88 = .ok (.istore 7, 2) := by decide +kernel
theorem dX10_spread_90 : decode cX10_spread 90 = .ok (.iload 7, 2) := by decide +kernel
theorem dX10_spread_92 : decode cX10_spread 92 = .ok (.ifCond .lt 27, 3) := by decide +kernel
theorem dX10_spread_95 : decode cX10_spread 95 = .ok (.aload_n 0, 1) := by decide +kernel
theorem dX10_spread_96 : decode cX10_spread 96 = .ok (.iload_n 1, 1) := by decide +kernel
theorem dX10_spread_97 : decode cX10_spread 97 = .ok (.aload_n 0, 1) := by decide +kernel
theorem dX10_spread_98 : decode cX10_spread 98 = .ok (.iload_n 1, 1) := by decide +kernel
theorem dX10_spread_99 : decode cX10_spread 99 = .ok (.invokevirtual 72, 3) := by decide +kernel
theorem dX10_spread_102 : decode cX10_spread 102 = .ok (.sipush 512, 3) := by decide +kernel
theorem dX10_spread_105 : decode cX10_spread 105 = .ok (.ior, 1) := by decide +kernel
theorem dX10_spread_106 : decode cX10_spread 106 = .ok (.invokevirtual 44, 3) := by decide +kernel
theorem dX10_spread_109 : decode cX10_spread 109 = .ok (.aload_n 0, 1) := by decide +kernel
theorem dX10_spread_110 : decode cX10_spread 110 = .ok (.iload 7, 2) := by decide +kernel
theorem dX10_spread_112 : decode cX10_spread 112 = .ok (.iload 4, 2) := by decide +kernel
theorem dX10_spread_114 : decode cX10_spread 114 = .ok (.iload 5, 2) := by decide +kernel
theorem dX10_spread_116 : decode cX10_spread 116 = .ok (.invokevirtual 59, 3) := by decide +kernel
theorem dX10_spread_119 : decode cX10_spread 119 = .ok (.iinc 6 1, 3) := by decide +kernel
theorem dX10_spread_122 : decode cX10_spread 122 = .ok (.goto (-61), 3) := by decide +kernel
theorem dX10_spread_125 : decode cX10_spread 125 = .ok (.return_, 1) := by decide +kernel
abbrev tX10_spread (k : Nat) : MT := (RX10, cX10_spread, 8, k, none)
def lX10_spread_1 : SX := (sLoop (cB rlt (iLoc 6) (iGet 0 4 (rGet 10 4 (rLoc 0)))) (sSeq (sSetI 7 (iCallV 2 mX2_numberBehind (aR (rGet 10 0 (rLoc 0)) (aR (rGet 10 4 (rLoc 0)) (aI (iLoc 3) (aI (iLoc 2) (aI (iLoc 6) aNil))))))) (sIf (cZ zge (iLoc 7)) (sSeq (sCallV 10 mX10_setInfo (aR (rLoc 0) (aI (iLoc 1) (aI (iB gT2 (· ||| ·) (iCallV 10 mX10_infoOf (aR (rLoc 0) (aI (iLoc 1) aNil))) (iK 512)) aNil)))) (sCallV 10 mX10_merge (aR (rLoc 0) (aI (iLoc 7) (aI (iLoc 4) (aI (iLoc 5) aNil)))))) sSkip)) (sSeq (sForget 7) (sInc 6 1)))
theorem olX10_spread_1 (g : GT) {pcB pcC : Nat} : Sok g (tX10_spread 5) 61 125 pcB pcC (lX10_spread_1) := (Sok.loop (pc := 61) (pc1 := 73) (pc2 := 119) (pcN := 125) (Cok.cmp (pc1 := 63) (pc2 := 70) (pcT := 73) (pcF := 125) (EokI.iload (i := 6) dX10_spread_61) (EokI.getf (pc1 := 67) (j := 4) (ci := 0) (T := TX0) (N := 17) (EokR.getf (pc1 := 64) (j := 4) (ci := 10) (T := TX10) (N := 8) (EokR.aload_n (q := 0) dX10_spread_63) rfl wsX10_in (by decide) flX10_25 dX10_spread_64) rfl wsX0_in (by decide) flX10_87 dX10_spread_67) (JI.ltF (tgt := 125) dX10_spread_70 (by decide))) (by decide) (Sok.seq (pc1 := 90) (Sok.setI (i := 7) (pc1 := 88) (EokI.iCallV (pc1 := 85) (Aok.aR (pc1 := 77) (EokR.getf (pc1 := 74) (j := 0) (ci := 10) (T := TX10) (N := 8) (EokR.aload_n (q := 0) dX10_spread_73) rfl wsX10_in (by decide) flX10_21 dX10_spread_74) (Aok.aR (pc1 := 81) (EokR.getf (pc1 := 78) (j := 4) (ci := 10) (T := TX10) (N := 8) (EokR.aload_n (q := 0) dX10_spread_77) rfl wsX10_in (by decide) flX10_25 dX10_spread_78) (Aok.aI (pc1 := 82) (EokI.iload_n (q := 3) dX10_spread_81) (Aok.aI (pc1 := 83) (EokI.iload_n (q := 2) dX10_spread_82) (Aok.aI (pc1 := 85) (EokI.iload (i := 6) dX10_spread_83) Aok.nil))))) (kX2_numberBehind g) rfl ykX2_numberBehind vkX10_90 (by decide) (by decide) dX10_spread_85) (by decide) dX10_spread_88 (show 7 < 8 by decide)) (Sok.ite (pc1 := 95) (pc2 := 119) (Cok.zero (pc1 := 92) (pcT := 95) (pcF := 119) (EokI.iload (i := 7) dX10_spread_90) (JZ.geF (tgt := 119) dX10_spread_92 (by decide))) (by decide) (Sok.seq (pc1 := 109) (Sok.sCallV (pc1 := 106) (Aok.aR (pc1 := 96) (EokR.aload_n (q := 0) dX10_spread_95) (Aok.aI (pc1 := 97) (EokI.iload_n (q := 1) dX10_spread_96) (Aok.aI (pc1 := 106) (EokI.bin (pc1 := 102) (pc2 := 105) (EokI.iCallV (pc1 := 99) (Aok.aR (pc1 := 98) (EokR.aload_n (q := 0) dX10_spread_97) (Aok.aI (pc1 := 99) (EokI.iload_n (q := 1) dX10_spread_98) Aok.nil)) (kX10_infoOf g) rfl ykX10_infoOf vkX10_72 (by decide) (by decide) dX10_spread_99) (EokI.sipush (v := 512) dX10_spread_102 (by decide)) (OPI.ior dX10_spread_105)) Aok.nil))) (by decide) (kX10_setInfo g) rfl ykX10_setInfo vkX10_44 (by decide) (by decide) dX10_spread_106) (Sok.sCallV (pc1 := 116) (Aok.aR (pc1 := 110) (EokR.aload_n (q := 0) dX10_spread_109) (Aok.aI (pc1 := 112) (EokI.iload (i := 7) dX10_spread_110) (Aok.aI (pc1 := 114) (EokI.iload (i := 4) dX10_spread_112) (Aok.aI (pc1 := 116) (EokI.iload (i := 5) dX10_spread_114) Aok.nil)))) (by decide) (kX10_merge g) rfl ykX10_merge vkX10_59 (by decide) (by decide) dX10_spread_116)) (Sok.skip (pc := 119)))) (Sok.seq (pc1 := 119) Sok.forget (Sok.goto (pc1 := 122) (pcN := 61) (Sok.iinc (i := 6) (v := 1) dX10_spread_119 (show 6 < 8 by decide) (by decide)) dX10_spread_122 (by decide))))
def mX10_spread : MX := bodyOf 8 (sSeq (sSeq (sIf (cB rge (iGet 10 5 (rLoc 0)) (iK 6188)) sRetV sSkip) (sSeq (sASt 0 narI (rGet 10 2 (rLoc 0)) (iGet 10 5 (rLoc 0)) (iLoc 1)) (sSeq (sUpd 10 5 gT2 (· + ·) (rLoc 0) (iK 1)) (sSeq (sSetI 3 (iCallV 2 mX2_lyingAt (aR (rGet 10 0 (rLoc 0)) (aI (iLoc 1) aNil)))) (sSeq (sSetI 4 (iB gT2 (· + ·) (iCallV 10 mX10_fewestOf (aR (rLoc 0) (aI (iLoc 1) aNil))) (iK 1))) (sSeq (sSetI 5 (iB gT2 (· + ·) (iCallV 10 mX10_longestOf (aR (rLoc 0) (aI (iLoc 1) aNil))) (iK 1))) (sSeq (sSeq (sSetI 6 (iK 0)) lX10_spread_1) (sForget 6)))))))) sRetV)
theorem kX10_spread (g : GT) : MK g 5 yX10_spread cX10_spread 8 none mX10_spread := MK.of (pcN := 99999) (pcB := 0) (pcC := 0) rfl (Sok.seq (pc1 := 125) (Sok.seq (pc1 := 11) (Sok.ite (pc1 := 10) (pc2 := 11) (Cok.cmp (pc1 := 4) (pc2 := 7) (pcT := 10) (pcF := 11) (EokI.getf (pc1 := 1) (j := 5) (ci := 10) (T := TX10) (N := 8) (EokR.aload_n (q := 0) dX10_spread_0) rfl wsX10_in (by decide) flX10_37 dX10_spread_1) (EokI.sipush (v := 6188) dX10_spread_4 (by decide)) (JI.geF (tgt := 11) dX10_spread_7 (by decide))) (by decide) (Sok.retV dX10_spread_10 rfl) (Sok.skip (pc := 11))) (Sok.seq (pc1 := 21) (Sok.iASt (pc1 := 15) (pc2 := 19) (pc3 := 20) (EokR.getf (pc1 := 12) (j := 2) (ci := 10) (T := TX10) (N := 8) (EokR.aload_n (q := 0) dX10_spread_11) rfl wsX10_in (by decide) flX10_15 dX10_spread_12) (EokI.getf (pc1 := 16) (j := 5) (ci := 10) (T := TX10) (N := 8) (EokR.aload_n (q := 0) dX10_spread_15) rfl wsX10_in (by decide) flX10_37 dX10_spread_16) (EokI.iload_n (q := 1) dX10_spread_19) (by decide) dX10_spread_20) (Sok.seq (pc1 := 31) (Sok.upd (ci := 10) (T := TX10) (NN := 8) (tt := tyX10) (j := 5) (pc1 := 22) (pc2 := 27) (EokR.aload_n (q := 0) dX10_spread_21) dX10_spread_22 dX10_spread_23 (EokI.iconst (v := 1) dX10_spread_26 (by decide)) (OPI.iadd dX10_spread_27) (by decide) rfl wsX10_in tyX10_ok nmX10 (by decide) flX10_37 rfl rfl dX10_spread_28) (Sok.seq (pc1 := 40) (Sok.setI_n (q := 3) (pc1 := 39) (EokI.iCallV (pc1 := 36) (Aok.aR (pc1 := 35) (EokR.getf (pc1 := 32) (j := 0) (ci := 10) (T := TX10) (N := 8) (EokR.aload_n (q := 0) dX10_spread_31) rfl wsX10_in (by decide) flX10_21 dX10_spread_32) (Aok.aI (pc1 := 36) (EokI.iload_n (q := 1) dX10_spread_35) Aok.nil)) (kX2_lyingAt g) rfl ykX2_lyingAt vkX10_78 (by decide) (by decide) dX10_spread_36) (by decide) dX10_spread_39 (show 3 < 8 by decide)) (Sok.seq (pc1 := 49) (Sok.setI (i := 4) (pc1 := 47) (EokI.bin (pc1 := 45) (pc2 := 46) (EokI.iCallV (pc1 := 42) (Aok.aR (pc1 := 41) (EokR.aload_n (q := 0) dX10_spread_40) (Aok.aI (pc1 := 42) (EokI.iload_n (q := 1) dX10_spread_41) Aok.nil)) (kX10_fewestOf g) rfl ykX10_fewestOf vkX10_81 (by decide) (by decide) dX10_spread_42) (EokI.iconst (v := 1) dX10_spread_45 (by decide)) (OPI.iadd dX10_spread_46)) (by decide) dX10_spread_47 (show 4 < 8 by decide)) (Sok.seq (pc1 := 58) (Sok.setI (i := 5) (pc1 := 56) (EokI.bin (pc1 := 54) (pc2 := 55) (EokI.iCallV (pc1 := 51) (Aok.aR (pc1 := 50) (EokR.aload_n (q := 0) dX10_spread_49) (Aok.aI (pc1 := 51) (EokI.iload_n (q := 1) dX10_spread_50) Aok.nil)) (kX10_longestOf g) rfl ykX10_longestOf vkX10_84 (by decide) (by decide) dX10_spread_51) (EokI.iconst (v := 1) dX10_spread_54 (by decide)) (OPI.iadd dX10_spread_55)) (by decide) dX10_spread_56 (show 5 < 8 by decide)) (Sok.seq (pc1 := 125) (Sok.seq (pc1 := 61) (Sok.setI (i := 6) (pc1 := 59) (EokI.iconst (v := 0) dX10_spread_58 (by decide)) (by decide) dX10_spread_59 (show 6 < 8 by decide)) (olX10_spread_1 g )) (Sok.forget (pc := 125))))))))) (Sok.retV dX10_spread_125 rfl))
/-! PassHuts$Walk.startAt(I)V -/
theorem dX10_startAt_0 : decode cX10_startAt 0 = .ok (.aload_n 0, 1) := by decide +kernel
theorem dX10_startAt_1 : decode cX10_startAt 1 = .ok (.getfield 29, 3) := by decide +kernel
theorem dX10_startAt_4 : decode cX10_startAt 4 = .ok (.ifCond .eq 12, 3) := by decide +kernel
theorem dX10_startAt_7 : decode cX10_startAt 7 = .ok (.aload_n 0, 1) := by decide +kernel
theorem dX10_startAt_8 : decode cX10_startAt 8 = .ok (.getfield 33, 3) := by decide +kernel
theorem dX10_startAt_11 : decode cX10_startAt 11 = .ok (.iload_n 1, 1) := by decide +kernel
theorem dX10_startAt_12 : decode cX10_startAt 12 = .ok (.if_icmp .ne 4, 3) := by decide +kernel
theorem dX10_startAt_15 : decode cX10_startAt 15 = .ok (.return_, 1) := by decide +kernel
theorem dX10_startAt_16 : decode cX10_startAt 16 = .ok (.iconst 0, 1) := by decide +kernel
theorem dX10_startAt_17 : decode cX10_startAt 17 = .ok (.istore_n 2, 1) := by decide +kernel
theorem dX10_startAt_18 : decode cX10_startAt 18 = .ok (.iload_n 2, 1) := by decide +kernel
theorem dX10_startAt_19 : decode cX10_startAt 19 = .ok (.aload_n 0, 1) := by decide +kernel
theorem dX10_startAt_20 : decode cX10_startAt 20 = .ok (.getfield 37, 3) := by decide +kernel
theorem dX10_startAt_23 : decode cX10_startAt 23 = .ok (.if_icmp .ge 19, 3) := by decide +kernel
theorem dX10_startAt_26 : decode cX10_startAt 26 = .ok (.aload_n 0, 1) := by decide +kernel
theorem dX10_startAt_27 : decode cX10_startAt 27 = .ok (.aload_n 0, 1) := by decide +kernel
theorem dX10_startAt_28 : decode cX10_startAt 28 = .ok (.iload_n 2, 1) := by decide +kernel
theorem dX10_startAt_29 : decode cX10_startAt 29 = .ok (.invokevirtual 40, 3) := by decide +kernel
theorem dX10_startAt_32 : decode cX10_startAt 32 = .ok (.iconst 0, 1) := by decide +kernel
theorem dX10_startAt_33 : decode cX10_startAt 33 = .ok (.invokevirtual 44, 3) := by decide +kernel
theorem dX10_startAt_36 : decode cX10_startAt 36 = .ok (.iinc 2 1, 3) := by decide +kernel
theorem dX10_startAt_39 : decode cX10_startAt 39 = .ok (.goto (-21), 3) := by decide +kernel
theorem dX10_startAt_42 : decode cX10_startAt 42 = .ok (.aload_n 0, 1) := by decide +kernel
theorem dX10_startAt_43 : decode cX10_startAt 43 = .ok (.iconst 0, 1) := by decide +kernel
theorem dX10_startAt_44 : decode cX10_startAt 44 = .ok (.putfield 37, 3) := by decide +kernel
theorem dX10_startAt_47 : decode cX10_startAt 47 = .ok (.aload_n 0, 1) := by decide +kernel
theorem dX10_startAt_48 : decode cX10_startAt 48 = .ok (.iconst 1, 1) := by decide +kernel
theorem dX10_startAt_49 : decode cX10_startAt 49 = .ok (.putfield 29, 3) := by decide +kernel
theorem dX10_startAt_52 : decode cX10_startAt 52 = .ok (.aload_n 0, 1) := by decide +kernel
theorem dX10_startAt_53 : decode cX10_startAt 53 = .ok (.iload_n 1, 1) := by decide +kernel
theorem dX10_startAt_54 : decode cX10_startAt 54 = .ok (.putfield 33, 3) := by decide +kernel
theorem dX10_startAt_57 : decode cX10_startAt 57 = .ok (.aload_n 0, 1) := by decide +kernel
theorem dX10_startAt_58 : decode cX10_startAt 58 = .ok (.getfield 25, 3) := by decide +kernel
theorem dX10_startAt_61 : decode cX10_startAt 61 = .ok (.iload_n 1, 1) := by decide +kernel
theorem dX10_startAt_62 : decode cX10_startAt 62 = .ok (.invokevirtual 48, 3) := by decide +kernel
theorem dX10_startAt_65 : decode cX10_startAt 65 = .ok (.istore_n 2, 1) := by decide +kernel
theorem dX10_startAt_66 : decode cX10_startAt 66 = .ok (.aload_n 0, 1) := by decide +kernel
theorem dX10_startAt_67 : decode cX10_startAt 67 = .ok (.aload_n 0, 1) := by decide +kernel
theorem dX10_startAt_68 : decode cX10_startAt 68 = .ok (.getfield 21, 3) := by decide +kernel
theorem dX10_startAt_71 : decode cX10_startAt 71 = .ok (.iload_n 1, 1) := by decide +kernel
theorem dX10_startAt_72 : decode cX10_startAt 72 = .ok (.iload_n 2, 1) := by decide +kernel
theorem dX10_startAt_73 : decode cX10_startAt 73 = .ok (.invokevirtual 53, 3) := by decide +kernel
theorem dX10_startAt_76 : decode cX10_startAt 76 = .ok (.iconst 0, 1) := by decide +kernel
theorem dX10_startAt_77 : decode cX10_startAt 77 = .ok (.iconst 0, 1) := by decide +kernel
theorem dX10_startAt_78 : decode cX10_startAt 78 = .ok (.invokevirtual 59, 3) := by decide +kernel
theorem dX10_startAt_81 : decode cX10_startAt 81 = .ok (.iload_n 2, 1) := by decide +kernel
theorem dX10_startAt_82 : decode cX10_startAt 82 = .ok (.istore_n 3, 1) := by decide +kernel
theorem dX10_startAt_83 : decode cX10_startAt 83 = .ok (.iload_n 3, 1) := by decide +kernel
theorem dX10_startAt_84 : decode cX10_startAt 84 = .ok (.ifCond .lt 67, 3) := by decide +kernel
theorem dX10_startAt_87 : decode cX10_startAt 87 = .ok (.aload_n 0, 1) := by decide +kernel
theorem dX10_startAt_88 : decode cX10_startAt 88 = .ok (.getfield 21, 3) := by decide +kernel
theorem dX10_startAt_91 : decode cX10_startAt 91 = .ok (.iload_n 3, 1) := by decide +kernel
theorem dX10_startAt_92 : decode cX10_startAt 92 = .ok (.invokevirtual 63, 3) := by decide +kernel
theorem dX10_startAt_95 : decode cX10_startAt 95 = .ok (.istore 4, 2) := by decide +kernel
theorem dX10_startAt_97 : decode cX10_startAt 97 = .ok (.aload_n 0, 1) := by decide +kernel
theorem dX10_startAt_98 : decode cX10_startAt 98 = .ok (.getfield 21, 3) := by decide +kernel
theorem dX10_startAt_101 : decode cX10_startAt 101 = .ok (.iload_n 3, 1) := by decide +kernel
theorem dX10_startAt_102 : decode cX10_startAt 102 = .ok (.aload_n 0, 1) := by decide +kernel
theorem dX10_startAt_103 : decode cX10_startAt 103 = .ok (.getfield 25, 3) := by decide +kernel
theorem dX10_startAt_106 : decode cX10_startAt 106 = .ok (.getfield 66, 3) := by decide +kernel
theorem dX10_startAt_109 : decode cX10_startAt 109 = .ok (.invokevirtual 69, 3) := by decide +kernel
theorem dX10_startAt_112 : decode cX10_startAt 112 = .ok (.iconst 1, 1) := by decide +kernel
theorem dX10_startAt_113 : decode cX10_startAt 113 = .ok (.isub, 1) := by decide +kernel
theorem dX10_startAt_114 : decode cX10_startAt 114 = .ok (.istore 5, 2) := by decide +kernel
theorem dX10_startAt_116 : decode cX10_startAt 116 = .ok (.iload 5, 2) := by decide +kernel
theorem dX10_startAt_118 : decode cX10_startAt 118 = .ok (.iload 4, 2) := by decide +kernel
theorem dX10_startAt_120 : decode cX10_startAt 120 = .ok (.if_icmp .lt 25, 3) := by decide +kernel
theorem dX10_startAt_123 : decode cX10_startAt 123 = .ok (.aload_n 0, 1) := by decide +kernel
theorem dX10_startAt_124 : decode cX10_startAt 124 = .ok (.iload 5, 2) := by decide +kernel
theorem dX10_startAt_126 : decode cX10_startAt 126 = .ok (.invokevirtual 72, 3) := by decide +kernel
theorem dX10_startAt_129 : decode cX10_startAt 129 = .ok (.ifCond .eq 10, 3) := by decide +kernel
theorem dX10_startAt_132 : decode cX10_startAt 132 = .ok (.aload_n 0, 1) := by decide +kernel
theorem dX10_startAt_133 : decode cX10_startAt 133 = .ok (.iload 5, 2) := by decide +kernel
theorem dX10_startAt_135 : decode cX10_startAt 135 = .ok (.iload_n 3, 1) := by decide +kernel
theorem dX10_startAt_136 : decode cX10_startAt 136 = .ok (.invokevirtual 75, 3) := by decide +kernel
theorem dX10_startAt_139 : decode cX10_startAt 139 = .ok (.iinc 5 (-1), 3) := by decide +kernel
theorem dX10_startAt_142 : decode cX10_startAt 142 = .ok (.goto (-26), 3) := by decide +kernel
theorem dX10_startAt_145 : decode cX10_startAt 145 = .ok (.iinc 3 (-1), 3) := by decide +kernel
theorem dX10_startAt_148 : decode cX10_startAt 148 = .ok (.goto (-65), 3) := by decide +kernel
theorem dX10_startAt_151 : decode cX10_startAt 151 = .ok (.return_, 1) := by decide +kernel
abbrev tX10_startAt (k : Nat) : MT := (RX10, cX10_startAt, 6, k, none)
def lX10_startAt_1 : SX := (sLoop (cB rlt (iLoc 2) (iGet 10 5 (rLoc 0))) (sCallV 10 mX10_setInfo (aR (rLoc 0) (aI (iCallV 10 mX10_numberAt (aR (rLoc 0) (aI (iLoc 2) aNil))) (aI (iK 0) aNil)))) (sInc 2 1))
def lX10_startAt_2 : SX := (sLoop (cB rge (iLoc 5) (iLoc 4)) (sIf (cZ zne (iCallV 10 mX10_infoOf (aR (rLoc 0) (aI (iLoc 5) aNil)))) (sCallV 10 mX10_spread (aR (rLoc 0) (aI (iLoc 5) (aI (iLoc 3) aNil)))) sSkip) (sInc 5 (-1)))
def lX10_startAt_3 : SX := (sLoop (cZ zge (iLoc 3)) (sSeq (sSetI 4 (iCallV 2 mX2_firstOf (aR (rGet 10 0 (rLoc 0)) (aI (iLoc 3) aNil)))) (sSeq (sSetI 5 (iB gT2 (· - ·) (iCallV 2 mX2_endOf (aR (rGet 10 0 (rLoc 0)) (aI (iLoc 3) (aI (iGet 0 3 (rGet 10 4 (rLoc 0))) aNil)))) (iK 1))) lX10_startAt_2)) (sSeq (sForget 4) (sInc 3 (-1))))
theorem olX10_startAt_2 (g : GT) {pcB pcC : Nat} : Sok g (tX10_startAt 6) 116 145 pcB pcC (lX10_startAt_2) := (Sok.loop (pc := 116) (pc1 := 123) (pc2 := 139) (pcN := 145) (Cok.cmp (pc1 := 118) (pc2 := 120) (pcT := 123) (pcF := 145) (EokI.iload (i := 5) dX10_startAt_116) (EokI.iload (i := 4) dX10_startAt_118) (JI.geF (tgt := 145) dX10_startAt_120 (by decide))) (by decide) (Sok.ite (pc1 := 132) (pc2 := 139) (Cok.zero (pc1 := 129) (pcT := 132) (pcF := 139) (EokI.iCallV (pc1 := 126) (Aok.aR (pc1 := 124) (EokR.aload_n (q := 0) dX10_startAt_123) (Aok.aI (pc1 := 126) (EokI.iload (i := 5) dX10_startAt_124) Aok.nil)) (kX10_infoOf g) rfl ykX10_infoOf vkX10_72 (by decide) (by decide) dX10_startAt_126) (JZ.neF (tgt := 139) dX10_startAt_129 (by decide))) (by decide) (Sok.sCallV (pc1 := 136) (Aok.aR (pc1 := 133) (EokR.aload_n (q := 0) dX10_startAt_132) (Aok.aI (pc1 := 135) (EokI.iload (i := 5) dX10_startAt_133) (Aok.aI (pc1 := 136) (EokI.iload_n (q := 3) dX10_startAt_135) Aok.nil))) (by decide) (kX10_spread g) rfl ykX10_spread vkX10_75 (by decide) (by decide) dX10_startAt_136) (Sok.skip (pc := 139))) (Sok.goto (pc1 := 142) (pcN := 116) (Sok.iinc (i := 5) (v := (-1)) dX10_startAt_139 (show 5 < 6 by decide) (by decide)) dX10_startAt_142 (by decide)))
theorem olX10_startAt_3 (g : GT) {pcB pcC : Nat} : Sok g (tX10_startAt 6) 83 151 pcB pcC (lX10_startAt_3) := (Sok.loop (pc := 83) (pc1 := 87) (pc2 := 145) (pcN := 151) (Cok.zero (pc1 := 84) (pcT := 87) (pcF := 151) (EokI.iload_n (q := 3) dX10_startAt_83) (JZ.geF (tgt := 151) dX10_startAt_84 (by decide))) (by decide) (Sok.seq (pc1 := 97) (Sok.setI (i := 4) (pc1 := 95) (EokI.iCallV (pc1 := 92) (Aok.aR (pc1 := 91) (EokR.getf (pc1 := 88) (j := 0) (ci := 10) (T := TX10) (N := 8) (EokR.aload_n (q := 0) dX10_startAt_87) rfl wsX10_in (by decide) flX10_21 dX10_startAt_88) (Aok.aI (pc1 := 92) (EokI.iload_n (q := 3) dX10_startAt_91) Aok.nil)) (kX2_firstOf g) rfl ykX2_firstOf vkX10_63 (by decide) (by decide) dX10_startAt_92) (by decide) dX10_startAt_95 (show 4 < 6 by decide)) (Sok.seq (pc1 := 116) (Sok.setI (i := 5) (pc1 := 114) (EokI.bin (pc1 := 112) (pc2 := 113) (EokI.iCallV (pc1 := 109) (Aok.aR (pc1 := 101) (EokR.getf (pc1 := 98) (j := 0) (ci := 10) (T := TX10) (N := 8) (EokR.aload_n (q := 0) dX10_startAt_97) rfl wsX10_in (by decide) flX10_21 dX10_startAt_98) (Aok.aI (pc1 := 102) (EokI.iload_n (q := 3) dX10_startAt_101) (Aok.aI (pc1 := 109) (EokI.getf (pc1 := 106) (j := 3) (ci := 0) (T := TX0) (N := 17) (EokR.getf (pc1 := 103) (j := 4) (ci := 10) (T := TX10) (N := 8) (EokR.aload_n (q := 0) dX10_startAt_102) rfl wsX10_in (by decide) flX10_25 dX10_startAt_103) rfl wsX0_in (by decide) flX10_66 dX10_startAt_106) Aok.nil))) (kX2_endOf g) rfl ykX2_endOf vkX10_69 (by decide) (by decide) dX10_startAt_109) (EokI.iconst (v := 1) dX10_startAt_112 (by decide)) (OPI.isub dX10_startAt_113)) (by decide) dX10_startAt_114 (show 5 < 6 by decide)) (olX10_startAt_2 g ))) (Sok.seq (pc1 := 145) Sok.forget (Sok.goto (pc1 := 148) (pcN := 83) (Sok.iinc (i := 3) (v := (-1)) dX10_startAt_145 (show 3 < 6 by decide) (by decide)) dX10_startAt_148 (by decide))))
theorem olX10_startAt_1 (g : GT) {pcB pcC : Nat} : Sok g (tX10_startAt 6) 18 42 pcB pcC (lX10_startAt_1) := (Sok.loop (pc := 18) (pc1 := 26) (pc2 := 36) (pcN := 42) (Cok.cmp (pc1 := 19) (pc2 := 23) (pcT := 26) (pcF := 42) (EokI.iload_n (q := 2) dX10_startAt_18) (EokI.getf (pc1 := 20) (j := 5) (ci := 10) (T := TX10) (N := 8) (EokR.aload_n (q := 0) dX10_startAt_19) rfl wsX10_in (by decide) flX10_37 dX10_startAt_20) (JI.ltF (tgt := 42) dX10_startAt_23 (by decide))) (by decide) (Sok.sCallV (pc1 := 33) (Aok.aR (pc1 := 27) (EokR.aload_n (q := 0) dX10_startAt_26) (Aok.aI (pc1 := 32) (EokI.iCallV (pc1 := 29) (Aok.aR (pc1 := 28) (EokR.aload_n (q := 0) dX10_startAt_27) (Aok.aI (pc1 := 29) (EokI.iload_n (q := 2) dX10_startAt_28) Aok.nil)) (kX10_numberAt g) rfl ykX10_numberAt vkX10_40 (by decide) (by decide) dX10_startAt_29) (Aok.aI (pc1 := 33) (EokI.iconst (v := 0) dX10_startAt_32 (by decide)) Aok.nil))) (by decide) (kX10_setInfo g) rfl ykX10_setInfo vkX10_44 (by decide) (by decide) dX10_startAt_33) (Sok.goto (pc1 := 39) (pcN := 18) (Sok.iinc (i := 2) (v := 1) dX10_startAt_36 (show 2 < 6 by decide) (by decide)) dX10_startAt_39 (by decide)))
def mX10_startAt : MX := bodyOf 6 (sSeq (sSeq (sIf (cAnd (cZ zne (iGet 10 7 (rLoc 0))) (cB req (iGet 10 6 (rLoc 0)) (iLoc 1))) sRetV sSkip) (sSeq (sSeq (sSeq (sSetI 2 (iK 0)) lX10_startAt_1) (sForget 2)) (sSeq (sPutI 10 5 .int (rLoc 0) (iK 0)) (sSeq (sPutI 10 7 .boolean (rLoc 0) (iK 1)) (sSeq (sPutI 10 6 .int (rLoc 0) (iLoc 1)) (sSeq (sSetI 2 (iCallV 0 mX0_sumOf (aR (rGet 10 4 (rLoc 0)) (aI (iLoc 1) aNil)))) (sSeq (sCallV 10 mX10_merge (aR (rLoc 0) (aI (iCallV 2 mX2_numberOf (aR (rGet 10 0 (rLoc 0)) (aI (iLoc 1) (aI (iLoc 2) aNil)))) (aI (iK 0) (aI (iK 0) aNil))))) (sSeq (sSeq (sSetI 3 (iLoc 2)) lX10_startAt_3) (sForget 3))))))))) sRetV)
theorem kX10_startAt (g : GT) : MK g 6 yX10_startAt cX10_startAt 6 none mX10_startAt := MK.of (pcN := 99999) (pcB := 0) (pcC := 0) rfl (Sok.seq (pc1 := 151) (Sok.seq (pc1 := 16) (Sok.ite (pc1 := 15) (pc2 := 16) (Cok.and (pc1 := 7) (Cok.zero (pc1 := 4) (pcT := 7) (pcF := 16) (EokI.getf (pc1 := 1) (j := 7) (ci := 10) (T := TX10) (N := 8) (EokR.aload_n (q := 0) dX10_startAt_0) rfl wsX10_in (by decide) flX10_29 dX10_startAt_1) (JZ.neF (tgt := 16) dX10_startAt_4 (by decide))) (Cok.cmp (pc1 := 11) (pc2 := 12) (pcT := 15) (pcF := 16) (EokI.getf (pc1 := 8) (j := 6) (ci := 10) (T := TX10) (N := 8) (EokR.aload_n (q := 0) dX10_startAt_7) rfl wsX10_in (by decide) flX10_33 dX10_startAt_8) (EokI.iload_n (q := 1) dX10_startAt_11) (JI.eqF (tgt := 16) dX10_startAt_12 (by decide)))) (by decide) (Sok.retV dX10_startAt_15 rfl) (Sok.skip (pc := 16))) (Sok.seq (pc1 := 42) (Sok.seq (pc1 := 42) (Sok.seq (pc1 := 18) (Sok.setI_n (q := 2) (pc1 := 17) (EokI.iconst (v := 0) dX10_startAt_16 (by decide)) (by decide) dX10_startAt_17 (show 2 < 6 by decide)) (olX10_startAt_1 g )) (Sok.forget (pc := 42))) (Sok.seq (pc1 := 47) (Sok.putI (ci := 10) (T := TX10) (NN := 8) (tt := tyX10) (j := 5) (pc1 := 43) (pc2 := 44) (ty := .int) (EokR.aload_n (q := 0) dX10_startAt_42) (EokI.iconst (v := 0) dX10_startAt_43 (by decide)) (by decide) rfl wsX10_in tyX10_ok nmX10 (by decide) flX10_37 rfl rfl dX10_startAt_44) (Sok.seq (pc1 := 52) (Sok.putI (ci := 10) (T := TX10) (NN := 8) (tt := tyX10) (j := 7) (pc1 := 48) (pc2 := 49) (ty := .boolean) (EokR.aload_n (q := 0) dX10_startAt_47) (EokI.iconst (v := 1) dX10_startAt_48 (by decide)) (by decide) rfl wsX10_in tyX10_ok nmX10 (by decide) flX10_29 rfl rfl dX10_startAt_49) (Sok.seq (pc1 := 57) (Sok.putI (ci := 10) (T := TX10) (NN := 8) (tt := tyX10) (j := 6) (pc1 := 53) (pc2 := 54) (ty := .int) (EokR.aload_n (q := 0) dX10_startAt_52) (EokI.iload_n (q := 1) dX10_startAt_53) (by decide) rfl wsX10_in tyX10_ok nmX10 (by decide) flX10_33 rfl rfl dX10_startAt_54) (Sok.seq (pc1 := 66) (Sok.setI_n (q := 2) (pc1 := 65) (EokI.iCallV (pc1 := 62) (Aok.aR (pc1 := 61) (EokR.getf (pc1 := 58) (j := 4) (ci := 10) (T := TX10) (N := 8) (EokR.aload_n (q := 0) dX10_startAt_57) rfl wsX10_in (by decide) flX10_25 dX10_startAt_58) (Aok.aI (pc1 := 62) (EokI.iload_n (q := 1) dX10_startAt_61) Aok.nil)) (kX0_sumOf g) rfl ykX0_sumOf vkX10_48 (by decide) (by decide) dX10_startAt_62) (by decide) dX10_startAt_65 (show 2 < 6 by decide)) (Sok.seq (pc1 := 81) (Sok.sCallV (pc1 := 78) (Aok.aR (pc1 := 67) (EokR.aload_n (q := 0) dX10_startAt_66) (Aok.aI (pc1 := 76) (EokI.iCallV (pc1 := 73) (Aok.aR (pc1 := 71) (EokR.getf (pc1 := 68) (j := 0) (ci := 10) (T := TX10) (N := 8) (EokR.aload_n (q := 0) dX10_startAt_67) rfl wsX10_in (by decide) flX10_21 dX10_startAt_68) (Aok.aI (pc1 := 72) (EokI.iload_n (q := 1) dX10_startAt_71) (Aok.aI (pc1 := 73) (EokI.iload_n (q := 2) dX10_startAt_72) Aok.nil))) (kX2_numberOf g) rfl ykX2_numberOf vkX10_53 (by decide) (by decide) dX10_startAt_73) (Aok.aI (pc1 := 77) (EokI.iconst (v := 0) dX10_startAt_76 (by decide)) (Aok.aI (pc1 := 78) (EokI.iconst (v := 0) dX10_startAt_77 (by decide)) Aok.nil)))) (by decide) (kX10_merge g) rfl ykX10_merge vkX10_59 (by decide) (by decide) dX10_startAt_78) (Sok.seq (pc1 := 151) (Sok.seq (pc1 := 83) (Sok.setI_n (q := 3) (pc1 := 82) (EokI.iload_n (q := 2) dX10_startAt_81) (by decide) dX10_startAt_82 (show 3 < 6 by decide)) (olX10_startAt_3 g )) (Sok.forget (pc := 151)))))))))) (Sok.retV dX10_startAt_151 rfl))
/-! PassHuts$Walk.mostLoads(I)I -/
theorem dX10_mostLoads_0 : decode cX10_mostLoads 0 = .ok (.iconst 0, 1) := by decide +kernel
theorem dX10_mostLoads_1 : decode cX10_mostLoads 1 = .ok (.istore_n 2, 1) := by decide +kernel
theorem dX10_mostLoads_2 : decode cX10_mostLoads 2 = .ok (.iconst 0, 1) := by decide +kernel
theorem dX10_mostLoads_3 : decode cX10_mostLoads 3 = .ok (.istore_n 3, 1) := by decide +kernel
theorem dX10_mostLoads_4 : decode cX10_mostLoads 4 = .ok (.iload_n 3, 1) := by decide +kernel
theorem dX10_mostLoads_5 : decode cX10_mostLoads 5 = .ok (.aload_n 0, 1) := by decide +kernel
theorem dX10_mostLoads_6 : decode cX10_mostLoads 6 = .ok (.getfield 37, 3) := by decide +kernel
theorem dX10_mostLoads_9 : decode cX10_mostLoads 9 = .ok (.if_icmp .ge 34, 3) := by decide +kernel
theorem dX10_mostLoads_12 : decode cX10_mostLoads 12 = .ok (.iload_n 2, 1) := by decide +kernel
theorem dX10_mostLoads_13 : decode cX10_mostLoads 13 = .ok (.aload_n 0, 1) := by decide +kernel
theorem dX10_mostLoads_14 : decode cX10_mostLoads 14 = .ok (.getfield 25, 3) := by decide +kernel
theorem dX10_mostLoads_17 : decode cX10_mostLoads 17 = .ok (.aload_n 0, 1) := by decide +kernel
theorem dX10_mostLoads_18 : decode cX10_mostLoads 18 = .ok (.getfield 21, 3) := by decide +kernel
theorem dX10_mostLoads_21 : decode cX10_mostLoads 21 = .ok (.aload_n 0, 1) := by decide +kernel
theorem dX10_mostLoads_22 : decode cX10_mostLoads 22 = .ok (.iload_n 3, 1) := by decide +kernel
theorem dX10_mostLoads_23 : decode cX10_mostLoads 23 = .ok (.invokevirtual 40, 3) := by decide +kernel
theorem dX10_mostLoads_26 : decode cX10_mostLoads 26 = .ok (.invokevirtual 78, 3) := by decide +kernel
theorem dX10_mostLoads_29 : decode cX10_mostLoads 29 = .ok (.iload_n 1, 1) := by decide +kernel
theorem dX10_mostLoads_30 : decode cX10_mostLoads 30 = .ok (.invokevirtual 102, 3) := by decide +kernel
theorem dX10_mostLoads_33 : decode cX10_mostLoads 33 = .ok (.invokestatic 99, 3) := by decide +kernel
theorem dX10_mostLoads_36 : decode cX10_mostLoads 36 = .ok (.istore_n 2, 1) := by decide +kernel
theorem dX10_mostLoads_37 : decode cX10_mostLoads 37 = .ok (.iinc 3 1, 3) := by decide +kernel
theorem dX10_mostLoads_40 : decode cX10_mostLoads 40 = .ok (.goto (-36), 3) := by decide +kernel
theorem dX10_mostLoads_43 : decode cX10_mostLoads 43 = .ok (.iload_n 2, 1) := by decide +kernel
theorem dX10_mostLoads_44 : decode cX10_mostLoads 44 = .ok (.ireturn, 1) := by decide +kernel
abbrev tX10_mostLoads (k : Nat) : MT := (RX10, cX10_mostLoads, 4, k, (some .int))
def lX10_mostLoads_1 : SX := (sLoop (cB rlt (iLoc 3) (iGet 10 5 (rLoc 0))) (sSetI 2 (iB gT2 jmax (iLoc 2) (iCallV 0 mX0_loadsIn (aR (rGet 10 4 (rLoc 0)) (aI (iCallV 2 mX2_lyingAt (aR (rGet 10 0 (rLoc 0)) (aI (iCallV 10 mX10_numberAt (aR (rLoc 0) (aI (iLoc 3) aNil))) aNil))) (aI (iLoc 1) aNil)))))) (sInc 3 1))
theorem olX10_mostLoads_1 (g : GT) {pcB pcC : Nat} : Sok g (tX10_mostLoads 2) 4 43 pcB pcC (lX10_mostLoads_1) := (Sok.loop (pc := 4) (pc1 := 12) (pc2 := 37) (pcN := 43) (Cok.cmp (pc1 := 5) (pc2 := 9) (pcT := 12) (pcF := 43) (EokI.iload_n (q := 3) dX10_mostLoads_4) (EokI.getf (pc1 := 6) (j := 5) (ci := 10) (T := TX10) (N := 8) (EokR.aload_n (q := 0) dX10_mostLoads_5) rfl wsX10_in (by decide) flX10_37 dX10_mostLoads_6) (JI.ltF (tgt := 43) dX10_mostLoads_9 (by decide))) (by decide) (Sok.setI_n (q := 2) (pc1 := 36) (EokI.mmax (pc1 := 13) (pc2 := 33) (EokI.iload_n (q := 2) dX10_mostLoads_12) (EokI.iCallV (pc1 := 30) (Aok.aR (pc1 := 17) (EokR.getf (pc1 := 14) (j := 4) (ci := 10) (T := TX10) (N := 8) (EokR.aload_n (q := 0) dX10_mostLoads_13) rfl wsX10_in (by decide) flX10_25 dX10_mostLoads_14) (Aok.aI (pc1 := 29) (EokI.iCallV (pc1 := 26) (Aok.aR (pc1 := 21) (EokR.getf (pc1 := 18) (j := 0) (ci := 10) (T := TX10) (N := 8) (EokR.aload_n (q := 0) dX10_mostLoads_17) rfl wsX10_in (by decide) flX10_21 dX10_mostLoads_18) (Aok.aI (pc1 := 26) (EokI.iCallV (pc1 := 23) (Aok.aR (pc1 := 22) (EokR.aload_n (q := 0) dX10_mostLoads_21) (Aok.aI (pc1 := 23) (EokI.iload_n (q := 3) dX10_mostLoads_22) Aok.nil)) (kX10_numberAt g) rfl ykX10_numberAt vkX10_40 (by decide) (by decide) dX10_mostLoads_23) Aok.nil)) (kX2_lyingAt g) rfl ykX2_lyingAt vkX10_78 (by decide) (by decide) dX10_mostLoads_26) (Aok.aI (pc1 := 30) (EokI.iload_n (q := 1) dX10_mostLoads_29) Aok.nil))) (kX0_loadsIn g) rfl ykX0_loadsIn vkX10_102 (by decide) (by decide) dX10_mostLoads_30) mlX10_99 wst_mmax wini_math wco_mmax (by decide) dX10_mostLoads_33) (by decide) dX10_mostLoads_36 (show 2 < 4 by decide)) (Sok.goto (pc1 := 40) (pcN := 4) (Sok.iinc (i := 3) (v := 1) dX10_mostLoads_37 (show 3 < 4 by decide) (by decide)) dX10_mostLoads_40 (by decide)))
def mX10_mostLoads : MX := bodyOf 4 (sSeq (sSetI 2 (iK 0)) (sSeq (sSeq (sSeq (sSetI 3 (iK 0)) lX10_mostLoads_1) (sForget 3)) (sRetI (iLoc 2))))
theorem kX10_mostLoads (g : GT) : MK g 2 yX10_mostLoads cX10_mostLoads 4 (some .int) mX10_mostLoads := MK.of (pcN := 99999) (pcB := 0) (pcC := 0) rfl (Sok.seq (pc1 := 2) (Sok.setI_n (q := 2) (pc1 := 1) (EokI.iconst (v := 0) dX10_mostLoads_0 (by decide)) (by decide) dX10_mostLoads_1 (show 2 < 4 by decide)) (Sok.seq (pc1 := 43) (Sok.seq (pc1 := 43) (Sok.seq (pc1 := 4) (Sok.setI_n (q := 3) (pc1 := 3) (EokI.iconst (v := 0) dX10_mostLoads_2 (by decide)) (by decide) dX10_mostLoads_3 (show 3 < 4 by decide)) (olX10_mostLoads_1 g )) (Sok.forget (pc := 43))) (Sok.retI (pc1 := 44) (EokI.iload_n (q := 2) dX10_mostLoads_43) (by decide) dX10_mostLoads_44 rfl)))
/-! PassHuts$Prospects.pullAt(I)I -/
theorem dX3_pullAt_0 : decode cX3_pullAt 0 = .ok (.iload_n 1, 1) := by decide +kernel
theorem dX3_pullAt_1 : decode cX3_pullAt 1 = .ok (.ifCond .lt 19, 3) := by decide +kernel
theorem dX3_pullAt_4 : decode cX3_pullAt 4 = .ok (.iload_n 1, 1) := by decide +kernel
theorem dX3_pullAt_5 : decode cX3_pullAt 5 = .ok (.sipush 6188, 3) := by decide +kernel
theorem dX3_pullAt_8 : decode cX3_pullAt 8 = .ok (.if_icmp .ge 12, 3) := by decide +kernel
theorem dX3_pullAt_11 : decode cX3_pullAt 11 = .ok (.aload_n 0, 1) := by decide +kernel
theorem dX3_pullAt_12 : decode cX3_pullAt 12 = .ok (.getfield 15, 3) := by decide +kernel
theorem dX3_pullAt_15 : decode cX3_pullAt 15 = .ok (.iload_n 1, 1) := by decide +kernel
theorem dX3_pullAt_16 : decode cX3_pullAt 16 = .ok (.iaload, 1) := by decide +kernel
theorem dX3_pullAt_17 : decode cX3_pullAt 17 = .ok (.goto 4, 3) := by decide +kernel
theorem dX3_pullAt_20 : decode cX3_pullAt 20 = .ok (.iconst 0, 1) := by decide +kernel
theorem dX3_pullAt_21 : decode cX3_pullAt 21 = .ok (.ireturn, 1) := by decide +kernel
abbrev tX3_pullAt (k : Nat) : MT := (RX3, cX3_pullAt, 2, k, (some .int))
def mX3_pullAt : MX := bodyOf 2 (sRetI (iCond (cAnd (cZ zge (iLoc 1)) (cB rlt (iLoc 1) (iK 6188))) (iALd (rGet 3 2 (rLoc 0)) (iLoc 1)) (iK 0)))
theorem kX3_pullAt (g : GT) : MK g 0 yX3_pullAt cX3_pullAt 2 (some .int) mX3_pullAt := MK.of (pcN := 99999) (pcB := 0) (pcC := 0) rfl (Sok.retI (pc1 := 21) (EokI.cond' (pc1 := 11) (pc2 := 20) (Cok.and (pc1 := 4) (Cok.zero (pc1 := 1) (pcT := 4) (pcF := 20) (EokI.iload_n (q := 1) dX3_pullAt_0) (JZ.geF (tgt := 20) dX3_pullAt_1 (by decide))) (Cok.cmp (pc1 := 5) (pc2 := 8) (pcT := 11) (pcF := 20) (EokI.iload_n (q := 1) dX3_pullAt_4) (EokI.sipush (v := 6188) dX3_pullAt_5 (by decide)) (JI.ltF (tgt := 20) dX3_pullAt_8 (by decide)))) (EokI.goto (pc1 := 17) (pc2 := 21) (EokI.iALd (pc1 := 15) (pc2 := 16) (EokR.getf (pc1 := 12) (j := 2) (ci := 3) (T := TX3) (N := 5) (EokR.aload_n (q := 0) dX3_pullAt_11) rfl wsX3_in (by decide) flX3_15 dX3_pullAt_12) (EokI.iload_n (q := 1) dX3_pullAt_15) dX3_pullAt_16) dX3_pullAt_17 (by decide)) (EokI.iconst (v := 0) dX3_pullAt_20 (by decide))) (by decide) dX3_pullAt_21 rfl)
/-! PassHuts$Prospects.comingsAt(I)J -/
theorem dX3_comingsAt_0 : decode cX3_comingsAt 0 = .ok (.iload_n 1, 1) := by decide +kernel
theorem dX3_comingsAt_1 : decode cX3_comingsAt 1 = .ok (.ifCond .lt 19, 3) := by decide +kernel
theorem dX3_comingsAt_4 : decode cX3_comingsAt 4 = .ok (.iload_n 1, 1) := by decide +kernel
theorem dX3_comingsAt_5 : decode cX3_comingsAt 5 = .ok (.sipush 6188, 3) := by decide +kernel
theorem dX3_comingsAt_8 : decode cX3_comingsAt 8 = .ok (.if_icmp .ge 12, 3) := by decide +kernel
theorem dX3_comingsAt_11 : decode cX3_comingsAt 11 = .ok (.aload_n 0, 1) := by decide +kernel
theorem dX3_comingsAt_12 : decode cX3_comingsAt 12 = .ok (.getfield 9, 3) := by decide +kernel
theorem dX3_comingsAt_15 : decode cX3_comingsAt 15 = .ok (.iload_n 1, 1) := by decide +kernel
theorem dX3_comingsAt_16 : decode cX3_comingsAt 16 = .ok (.laload, 1) := by decide +kernel
theorem dX3_comingsAt_17 : decode cX3_comingsAt 17 = .ok (.goto 4, 3) := by decide +kernel
theorem dX3_comingsAt_20 : decode cX3_comingsAt 20 = .ok (.lconst 0, 1) := by decide +kernel
theorem dX3_comingsAt_21 : decode cX3_comingsAt 21 = .ok (.lreturn, 1) := by decide +kernel
abbrev tX3_comingsAt (k : Nat) : MT := (RX3, cX3_comingsAt, 2, k, (some .long))
def mX3_comingsAt : MX := bodyOf 2 (sRetL (lCond (cAnd (cZ zge (iLoc 1)) (cB rlt (iLoc 1) (iK 6188))) (lALd (rGet 3 1 (rLoc 0)) (iLoc 1)) (lK 0)))
theorem kX3_comingsAt (g : GT) : MK g 0 yX3_comingsAt cX3_comingsAt 2 (some .long) mX3_comingsAt := MK.of (pcN := 99999) (pcB := 0) (pcC := 0) rfl (Sok.retL (pc1 := 21) (EokL.cond' (pc1 := 11) (pc2 := 20) (Cok.and (pc1 := 4) (Cok.zero (pc1 := 1) (pcT := 4) (pcF := 20) (EokI.iload_n (q := 1) dX3_comingsAt_0) (JZ.geF (tgt := 20) dX3_comingsAt_1 (by decide))) (Cok.cmp (pc1 := 5) (pc2 := 8) (pcT := 11) (pcF := 20) (EokI.iload_n (q := 1) dX3_comingsAt_4) (EokI.sipush (v := 6188) dX3_comingsAt_5 (by decide)) (JI.ltF (tgt := 20) dX3_comingsAt_8 (by decide)))) (EokL.goto (pc1 := 17) (pc2 := 21) (EokL.lALd (pc1 := 15) (pc2 := 16) (EokR.getf (pc1 := 12) (j := 1) (ci := 3) (T := TX3) (N := 5) (EokR.aload_n (q := 0) dX3_comingsAt_11) rfl wsX3_in (by decide) flX3_9 dX3_comingsAt_12) (EokI.iload_n (q := 1) dX3_comingsAt_15) dX3_comingsAt_16) dX3_comingsAt_17 (by decide)) (EokL.lconst (v := 0) dX3_comingsAt_20 (by decide))) (by decide) dX3_comingsAt_21 rfl)
/-! PassHuts$Prospects.isBetterPull(II)Z -/
theorem dX3_isBetterPull_0 : decode cX3_isBetterPull 0 = .ok (.iload_n 0, 1) := by decide +kernel
theorem dX3_isBetterPull_1 : decode cX3_isBetterPull 1 = .ok (.iconst 2, 1) := by decide +kernel
theorem dX3_isBetterPull_2 : decode cX3_isBetterPull 2 = .ok (.irem, 1) := by decide +kernel
theorem dX3_isBetterPull_3 : decode cX3_isBetterPull 3 = .ok (.ifCond .ne 7, 3) := by decide +kernel
theorem dX3_isBetterPull_6 : decode cX3_isBetterPull 6 = .ok (.iconst 1, 1) := by decide +kernel
theorem dX3_isBetterPull_7 : decode cX3_isBetterPull 7 = .ok (.goto 4, 3) := by decide +kernel
theorem dX3_isBetterPull_10 : decode cX3_isBetterPull 10 = .ok (.iconst 0, 1) := by decide +kernel
theorem dX3_isBetterPull_11 : decode cX3_isBetterPull 11 = .ok (.istore_n 2, 1) := by decide +kernel
theorem dX3_isBetterPull_12 : decode cX3_isBetterPull 12 = .ok (.iload_n 1, 1) := by decide +kernel
theorem dX3_isBetterPull_13 : decode cX3_isBetterPull 13 = .ok (.iconst 2, 1) := by decide +kernel
theorem dX3_isBetterPull_14 : decode cX3_isBetterPull 14 = .ok (.irem, 1) := by decide +kernel
theorem dX3_isBetterPull_15 : decode cX3_isBetterPull 15 = .ok (.ifCond .ne 7, 3) := by decide +kernel
theorem dX3_isBetterPull_18 : decode cX3_isBetterPull 18 = .ok (.iconst 1, 1) := by decide +kernel
theorem dX3_isBetterPull_19 : decode cX3_isBetterPull 19 = .ok (.goto 4, 3) := by decide +kernel
theorem dX3_isBetterPull_22 : decode cX3_isBetterPull 22 = .ok (.iconst 0, 1) := by decide +kernel
theorem dX3_isBetterPull_23 : decode cX3_isBetterPull 23 = .ok (.istore_n 3, 1) := by decide +kernel
theorem dX3_isBetterPull_24 : decode cX3_isBetterPull 24 = .ok (.iload_n 1, 1) := by decide +kernel
theorem dX3_isBetterPull_25 : decode cX3_isBetterPull 25 = .ok (.iconst (-1), 1) := by decide +kernel
theorem dX3_isBetterPull_26 : decode cX3_isBetterPull 26 = .ok (.if_icmp .eq 8, 3) := by decide +kernel
theorem dX3_isBetterPull_29 : decode cX3_isBetterPull 29 = .ok (.iload_n 2, 1) := by decide +kernel
theorem dX3_isBetterPull_30 : decode cX3_isBetterPull 30 = .ok (.iload_n 3, 1) := by decide +kernel
theorem dX3_isBetterPull_31 : decode cX3_isBetterPull 31 = .ok (.if_icmp .eq 18, 3) := by decide +kernel
theorem dX3_isBetterPull_34 : decode cX3_isBetterPull 34 = .ok (.iload_n 1, 1) := by decide +kernel
theorem dX3_isBetterPull_35 : decode cX3_isBetterPull 35 = .ok (.iconst (-1), 1) := by decide +kernel
theorem dX3_isBetterPull_36 : decode cX3_isBetterPull 36 = .ok (.if_icmp .eq 7, 3) := by decide +kernel
theorem dX3_isBetterPull_39 : decode cX3_isBetterPull 39 = .ok (.iload_n 2, 1) := by decide +kernel
theorem dX3_isBetterPull_40 : decode cX3_isBetterPull 40 = .ok (.ifCond .eq 7, 3) := by decide +kernel
theorem dX3_isBetterPull_43 : decode cX3_isBetterPull 43 = .ok (.iconst 1, 1) := by decide +kernel
theorem dX3_isBetterPull_44 : decode cX3_isBetterPull 44 = .ok (.goto 4, 3) := by decide +kernel
theorem dX3_isBetterPull_47 : decode cX3_isBetterPull 47 = .ok (.iconst 0, 1) := by decide +kernel
theorem dX3_isBetterPull_48 : decode cX3_isBetterPull 48 = .ok (.ireturn, 1) := by decide +kernel
theorem dX3_isBetterPull_49 : decode cX3_isBetterPull 49 = .ok (.iload_n 2, 1) := by decide +kernel
theorem dX3_isBetterPull_50 : decode cX3_isBetterPull 50 = .ok (.ifCond .eq 16, 3) := by decide +kernel
theorem dX3_isBetterPull_53 : decode cX3_isBetterPull 53 = .ok (.iload_n 0, 1) := by decide +kernel
theorem dX3_isBetterPull_54 : decode cX3_isBetterPull 54 = .ok (.iload_n 1, 1) := by decide +kernel
theorem dX3_isBetterPull_55 : decode cX3_isBetterPull 55 = .ok (.if_icmp .ge 7, 3) := by decide +kernel
theorem dX3_isBetterPull_58 : decode cX3_isBetterPull 58 = .ok (.iconst 1, 1) := by decide +kernel
theorem dX3_isBetterPull_59 : decode cX3_isBetterPull 59 = .ok (.goto 17, 3) := by decide +kernel
theorem dX3_isBetterPull_62 : decode cX3_isBetterPull 62 = .ok (.iconst 0, 1) := by decide +kernel
theorem dX3_isBetterPull_63 : decode cX3_isBetterPull 63 = .ok (.goto 13, 3) := by decide +kernel
theorem dX3_isBetterPull_66 : decode cX3_isBetterPull 66 = .ok (.iload_n 0, 1) := by decide +kernel
theorem dX3_isBetterPull_67 : decode cX3_isBetterPull 67 = .ok (.iload_n 1, 1) := by decide +kernel
theorem dX3_isBetterPull_68 : decode cX3_isBetterPull 68 = .ok (.if_icmp .le 7, 3) := by decide +kernel
theorem dX3_isBetterPull_71 : decode cX3_isBetterPull 71 = .ok (.iconst 1, 1) := by decide +kernel
theorem dX3_isBetterPull_72 : decode cX3_isBetterPull 72 = .ok (.goto 4, 3) := by decide +kernel
theorem dX3_isBetterPull_75 : decode cX3_isBetterPull 75 = .ok (.iconst 0, 1) := by decide +kernel
theorem dX3_isBetterPull_76 : decode cX3_isBetterPull 76 = .ok (.ireturn, 1) := by decide +kernel
abbrev tX3_isBetterPull (k : Nat) : MT := (RX3, cX3_isBetterPull, 4, k, (some .boolean))
def mX3_isBetterPull : MX := bodyOf 4 (sSeq (sSetI 2 (iBool (cZ zeq (iB gNZ jrem (iLoc 0) (iK 2))))) (sSeq (sSetI 3 (iBool (cZ zeq (iB gNZ jrem (iLoc 1) (iK 2))))) (sSeq (sIf (cOr (cB req (iLoc 1) (iK (-1))) (cB rne (iLoc 2) (iLoc 3))) (sRetZ (iBool (cOr (cB req (iLoc 1) (iK (-1))) (cZ zne (iLoc 2))))) sSkip) (sRetZ (iCond (cZ zne (iLoc 2)) (iBool (cB rlt (iLoc 0) (iLoc 1))) (iBool (cB rgt (iLoc 0) (iLoc 1))))))))
theorem kX3_isBetterPull (g : GT) : MK g 0 yX3_isBetterPull cX3_isBetterPull 4 (some .boolean) mX3_isBetterPull := MK.of (pcN := 99999) (pcB := 0) (pcC := 0) rfl (Sok.seq (pc1 := 12) (Sok.setI_n (q := 2) (pc1 := 11) (EokI.cond' (pc1 := 6) (pc2 := 10) (Cok.zero (pc1 := 3) (pcT := 6) (pcF := 10) (EokI.bin (pc1 := 1) (pc2 := 2) (EokI.iload_n (q := 0) dX3_isBetterPull_0) (EokI.iconst (v := 2) dX3_isBetterPull_1 (by decide)) (OPI.irem dX3_isBetterPull_2)) (JZ.eqF (tgt := 10) dX3_isBetterPull_3 (by decide))) (EokI.goto (pc1 := 7) (pc2 := 11) (EokI.iconst (v := 1) dX3_isBetterPull_6 (by decide)) dX3_isBetterPull_7 (by decide)) (EokI.iconst (v := 0) dX3_isBetterPull_10 (by decide))) (by decide) dX3_isBetterPull_11 (show 2 < 4 by decide)) (Sok.seq (pc1 := 24) (Sok.setI_n (q := 3) (pc1 := 23) (EokI.cond' (pc1 := 18) (pc2 := 22) (Cok.zero (pc1 := 15) (pcT := 18) (pcF := 22) (EokI.bin (pc1 := 13) (pc2 := 14) (EokI.iload_n (q := 1) dX3_isBetterPull_12) (EokI.iconst (v := 2) dX3_isBetterPull_13 (by decide)) (OPI.irem dX3_isBetterPull_14)) (JZ.eqF (tgt := 22) dX3_isBetterPull_15 (by decide))) (EokI.goto (pc1 := 19) (pc2 := 23) (EokI.iconst (v := 1) dX3_isBetterPull_18 (by decide)) dX3_isBetterPull_19 (by decide)) (EokI.iconst (v := 0) dX3_isBetterPull_22 (by decide))) (by decide) dX3_isBetterPull_23 (show 3 < 4 by decide)) (Sok.seq (pc1 := 49) (Sok.ite (pc1 := 34) (pc2 := 49) (Cok.or (pc1 := 29) (Cok.cmp (pc1 := 25) (pc2 := 26) (pcT := 34) (pcF := 29) (EokI.iload_n (q := 1) dX3_isBetterPull_24) (EokI.iconst (v := (-1)) dX3_isBetterPull_25 (by decide)) (JI.eqT (tgt := 34) dX3_isBetterPull_26 (by decide))) (Cok.cmp (pc1 := 30) (pc2 := 31) (pcT := 34) (pcF := 49) (EokI.iload_n (q := 2) dX3_isBetterPull_29) (EokI.iload_n (q := 3) dX3_isBetterPull_30) (JI.neF (tgt := 49) dX3_isBetterPull_31 (by decide)))) (by decide) (Sok.retZ (pc1 := 48) (EokI.cond' (pc1 := 43) (pc2 := 47) (Cok.or (pc1 := 39) (Cok.cmp (pc1 := 35) (pc2 := 36) (pcT := 43) (pcF := 39) (EokI.iload_n (q := 1) dX3_isBetterPull_34) (EokI.iconst (v := (-1)) dX3_isBetterPull_35 (by decide)) (JI.eqT (tgt := 43) dX3_isBetterPull_36 (by decide))) (Cok.zero (pc1 := 40) (pcT := 43) (pcF := 47) (EokI.iload_n (q := 2) dX3_isBetterPull_39) (JZ.neF (tgt := 47) dX3_isBetterPull_40 (by decide)))) (EokI.goto (pc1 := 44) (pc2 := 48) (EokI.iconst (v := 1) dX3_isBetterPull_43 (by decide)) dX3_isBetterPull_44 (by decide)) (EokI.iconst (v := 0) dX3_isBetterPull_47 (by decide))) (by decide) dX3_isBetterPull_48 rfl) (Sok.skip (pc := 49))) (Sok.retZ (pc1 := 76) (EokI.cond' (pc1 := 53) (pc2 := 66) (Cok.zero (pc1 := 50) (pcT := 53) (pcF := 66) (EokI.iload_n (q := 2) dX3_isBetterPull_49) (JZ.neF (tgt := 66) dX3_isBetterPull_50 (by decide))) (EokI.cond' (pc1 := 58) (pc2 := 62) (Cok.cmp (pc1 := 54) (pc2 := 55) (pcT := 58) (pcF := 62) (EokI.iload_n (q := 0) dX3_isBetterPull_53) (EokI.iload_n (q := 1) dX3_isBetterPull_54) (JI.ltF (tgt := 62) dX3_isBetterPull_55 (by decide))) (EokI.goto (pc1 := 59) (pc2 := 76) (EokI.iconst (v := 1) dX3_isBetterPull_58 (by decide)) dX3_isBetterPull_59 (by decide)) (EokI.goto (pc1 := 63) (pc2 := 76) (EokI.iconst (v := 0) dX3_isBetterPull_62 (by decide)) dX3_isBetterPull_63 (by decide))) (EokI.cond' (pc1 := 71) (pc2 := 75) (Cok.cmp (pc1 := 67) (pc2 := 68) (pcT := 71) (pcF := 75) (EokI.iload_n (q := 0) dX3_isBetterPull_66) (EokI.iload_n (q := 1) dX3_isBetterPull_67) (JI.gtF (tgt := 75) dX3_isBetterPull_68 (by decide))) (EokI.goto (pc1 := 72) (pc2 := 76) (EokI.iconst (v := 1) dX3_isBetterPull_71 (by decide)) dX3_isBetterPull_72 (by decide)) (EokI.iconst (v := 0) dX3_isBetterPull_75 (by decide)))) (by decide) dX3_isBetterPull_76 rfl))))
/-! PassHuts$Prospects.reckonOne(II)V -/
theorem dX3_reckonOne_0 : decode cX3_reckonOne 0 = .ok (.aload_n 0, 1) := by decide +kernel
theorem dX3_reckonOne_1 : decode cX3_reckonOne 1 = .ok (.getfield 19, 3) := by decide +kernel
theorem dX3_reckonOne_4 : decode cX3_reckonOne 4 = .ok (.iload_n 1, 1) := by decide +kernel
theorem dX3_reckonOne_5 : decode cX3_reckonOne 5 = .ok (.invokevirtual 47, 3) := by decide +kernel
theorem dX3_reckonOne_8 : decode cX3_reckonOne 8 = .ok (.istore_n 3, 1) := by decide +kernel
theorem dX3_reckonOne_9 : decode cX3_reckonOne 9 = .ok (.lconst 0, 1) := by decide +kernel
theorem dX3_reckonOne_10 : decode cX3_reckonOne 10 = .ok (.lstore 4, 2) := by decide +kernel
theorem dX3_reckonOne_12 : decode cX3_reckonOne 12 = .ok (.iconst (-1), 1) := by decide +kernel
theorem dX3_reckonOne_13 : decode cX3_reckonOne 13 = .ok (.istore 6, 2) := by decide +kernel
theorem dX3_reckonOne_15 : decode cX3_reckonOne 15 = .ok (.iconst 0, 1) := by decide +kernel
theorem dX3_reckonOne_16 : decode cX3_reckonOne 16 = .ok (.istore 7, 2) := by decide +kernel
theorem dX3_reckonOne_18 : decode cX3_reckonOne 18 = .ok (.iload 7, 2) := by decide +kernel
theorem dX3_reckonOne_20 : decode cX3_reckonOne 20 = .ok (.aload_n 0, 1) := by decide +kernel
theorem dX3_reckonOne_21 : decode cX3_reckonOne 21 = .ok (.getfield 23, 3) := by decide +kernel
theorem dX3_reckonOne_24 : decode cX3_reckonOne 24 = .ok (.getfield 58, 3) := by decide +kernel
theorem dX3_reckonOne_27 : decode cX3_reckonOne 27 = .ok (.if_icmp .ge 69, 3) := by decide +kernel
theorem dX3_reckonOne_30 : decode cX3_reckonOne 30 = .ok (.aload_n 0, 1) := by decide +kernel
theorem dX3_reckonOne_31 : decode cX3_reckonOne 31 = .ok (.getfield 19, 3) := by decide +kernel
theorem dX3_reckonOne_34 : decode cX3_reckonOne 34 = .ok (.aload_n 0, 1) := by decide +kernel
theorem dX3_reckonOne_35 : decode cX3_reckonOne 35 = .ok (.getfield 23, 3) := by decide +kernel
theorem dX3_reckonOne_38 : decode cX3_reckonOne 38 = .ok (.iload_n 3, 1) := by decide +kernel
theorem dX3_reckonOne_39 : decode cX3_reckonOne 39 = .ok (.iload_n 2, 1) := by decide +kernel
theorem dX3_reckonOne_40 : decode cX3_reckonOne 40 = .ok (.iload 7, 2) := by decide +kernel
theorem dX3_reckonOne_42 : decode cX3_reckonOne 42 = .ok (.invokevirtual 61, 3) := by decide +kernel
theorem dX3_reckonOne_45 : decode cX3_reckonOne 45 = .ok (.istore 8, 2) := by decide +kernel
theorem dX3_reckonOne_47 : decode cX3_reckonOne 47 = .ok (.iload 8, 2) := by decide +kernel
theorem dX3_reckonOne_49 : decode cX3_reckonOne 49 = .ok (.ifCond .lt 41, 3) := by decide +kernel
theorem dX3_reckonOne_52 : decode cX3_reckonOne 52 = .ok (.aload_n 0, 1) := by decide +kernel
theorem dX3_reckonOne_53 : decode cX3_reckonOne 53 = .ok (.iload 8, 2) := by decide +kernel
theorem dX3_reckonOne_55 : decode cX3_reckonOne 55 = .ok (.invokevirtual 65, 3) := by decide +kernel
theorem dX3_reckonOne_58 : decode cX3_reckonOne 58 = .ok (.istore 9, 2) := by decide +kernel
theorem dX3_reckonOne_60 : decode cX3_reckonOne 60 = .ok (.lload 4, 2) := by decide +kernel
theorem dX3_reckonOne_62 : decode cX3_reckonOne 62 = .ok (.aload_n 0, 1) := by decide +kernel
theorem dX3_reckonOne_63 : decode cX3_reckonOne 63 = .ok (.iload 8, 2) := by decide +kernel
theorem dX3_reckonOne_65 : decode cX3_reckonOne 65 = .ok (.invokevirtual 68, 3) := by decide +kernel
theorem dX3_reckonOne_68 : decode cX3_reckonOne 68 = .ok (.lor, 1) := by decide +kernel
theorem dX3_reckonOne_69 : decode cX3_reckonOne 69 = .ok (.lstore 4, 2) := by decide +kernel
theorem dX3_reckonOne_71 : decode cX3_reckonOne 71 = .ok (.iload 9, 2) := by decide +kernel
theorem dX3_reckonOne_73 : decode cX3_reckonOne 73 = .ok (.iload 6, 2) := by decide +kernel
theorem dX3_reckonOne_75 : decode cX3_reckonOne 75 = .ok (.invokestatic 72, 3) := by decide +kernel
theorem dX3_reckonOne_78 : decode cX3_reckonOne 78 = .ok (.ifCond .eq 8, 3) := by decide +kernel
theorem dX3_reckonOne_81 : decode cX3_reckonOne 81 = .ok (.iload 9, 2) := by decide +kernel
theorem dX3_reckonOne_83 : decode cX3_reckonOne 83 = .ok (.goto 5, 3) := by decide +kernel
theorem dX3_reckonOne_86 : decode cX3_reckonOne 86 = .ok (.iload 6, 2) := by decide +kernel
theorem dX3_reckonOne_88 : decode cX3_reckonOne 88 = .ok (.istore 6, 2) := by decide +kernel
theorem dX3_reckonOne_90 : decode cX3_reckonOne 90 = .ok (.iinc 7 1, 3) := by decide +kernel
theorem dX3_reckonOne_93 : decode cX3_reckonOne 93 = .ok (.goto (-75), 3) := by decide +kernel
theorem dX3_reckonOne_96 : decode cX3_reckonOne 96 = .ok (.lconst 0, 1) := by decide +kernel
theorem dX3_reckonOne_97 : decode cX3_reckonOne 97 = .ok (.lstore 7, 2) := by decide +kernel
theorem dX3_reckonOne_99 : decode cX3_reckonOne 99 = .ok (.iconst 0, 1) := by decide +kernel
theorem dX3_reckonOne_100 : decode cX3_reckonOne 100 = .ok (.istore 9, 2) := by decide +kernel
theorem dX3_reckonOne_102 : decode cX3_reckonOne 102 = .ok (.iload 9, 2) := by decide +kernel
theorem dX3_reckonOne_104 : decode cX3_reckonOne 104 = .ok (.aload_n 0, 1) := by decide +kernel
theorem dX3_reckonOne_105 : decode cX3_reckonOne 105 = .ok (.getfield 23, 3) := by decide +kernel
theorem dX3_reckonOne_108 : decode cX3_reckonOne 108 = .ok (.getfield 31, 3) := by decide +kernel
theorem dX3_reckonOne_111 : decode cX3_reckonOne 111 = .ok (.if_icmp .ge 34, 3) := by decide +kernel
theorem dX3_reckonOne_114 : decode cX3_reckonOne 114 = .ok (.aload_n 0, 1) := by decide +kernel
theorem dX3_reckonOne_115 : decode cX3_reckonOne 115 = .ok (.getfield 23, 3) := by decide +kernel
theorem dX3_reckonOne_118 : decode cX3_reckonOne 118 = .ok (.iload_n 3, 1) := by decide +kernel
theorem dX3_reckonOne_119 : decode cX3_reckonOne 119 = .ok (.iload 9, 2) := by decide +kernel
theorem dX3_reckonOne_121 : decode cX3_reckonOne 121 = .ok (.invokevirtual 76, 3) := by decide +kernel
theorem dX3_reckonOne_124 : decode cX3_reckonOne 124 = .ok (.ifCond .le 15, 3) := by decide +kernel
theorem dX3_reckonOne_127 : decode cX3_reckonOne 127 = .ok (.lload 7, 2) := by decide +kernel
theorem dX3_reckonOne_129 : decode cX3_reckonOne 129 = .ok (.lconst 1, 1) := by decide +kernel
theorem dX3_reckonOne_130 : decode cX3_reckonOne 130 = .ok (.bipush 12, 2) := by decide +kernel
theorem dX3_reckonOne_132 : decode cX3_reckonOne 132 = .ok (.iload 9, 2) := by decide +kernel
theorem dX3_reckonOne_134 : decode cX3_reckonOne 134 = .ok (.imul, 1) := by decide +kernel
theorem dX3_reckonOne_135 : decode cX3_reckonOne 135 = .ok (.lshl, 1) := by decide +kernel
theorem dX3_reckonOne_136 : decode cX3_reckonOne 136 = .ok (.lor, 1) := by decide +kernel
theorem dX3_reckonOne_137 : decode cX3_reckonOne 137 = .ok (.lstore 7, 2) := by decide +kernel
theorem dX3_reckonOne_139 : decode cX3_reckonOne 139 = .ok (.iinc 9 1, 3) := by decide +kernel
theorem dX3_reckonOne_142 : decode cX3_reckonOne 142 = .ok (.goto (-40), 3) := by decide +kernel
theorem dX3_reckonOne_145 : decode cX3_reckonOne 145 = .ok (.aload_n 0, 1) := by decide +kernel
theorem dX3_reckonOne_146 : decode cX3_reckonOne 146 = .ok (.getfield 9, 3) := by decide +kernel
theorem dX3_reckonOne_149 : decode cX3_reckonOne 149 = .ok (.iload_n 1, 1) := by decide +kernel
theorem dX3_reckonOne_150 : decode cX3_reckonOne 150 = .ok (.lload 4, 2) := by decide +kernel
theorem dX3_reckonOne_152 : decode cX3_reckonOne 152 = .ok (.iconst 1, 1) := by decide +kernel
theorem dX3_reckonOne_153 : decode cX3_reckonOne 153 = .ok (.lshl, 1) := by decide +kernel
theorem dX3_reckonOne_154 : decode cX3_reckonOne 154 = .ok (.lload 7, 2) := by decide +kernel
theorem dX3_reckonOne_156 : decode cX3_reckonOne 156 = .ok (.lor, 1) := by decide +kernel
theorem dX3_reckonOne_157 : decode cX3_reckonOne 157 = .ok (.lastore, 1) := by decide +kernel
theorem dX3_reckonOne_158 : decode cX3_reckonOne 158 = .ok (.aload_n 0, 1) := by decide +kernel
theorem dX3_reckonOne_159 : decode cX3_reckonOne 159 = .ok (.getfield 15, 3) := by decide +kernel
theorem dX3_reckonOne_162 : decode cX3_reckonOne 162 = .ok (.iload_n 1, 1) := by decide +kernel
theorem dX3_reckonOne_163 : decode cX3_reckonOne 163 = .ok (.iload 6, 2) := by decide +kernel
theorem dX3_reckonOne_165 : decode cX3_reckonOne 165 = .ok (.iconst 1, 1) := by decide +kernel
theorem dX3_reckonOne_166 : decode cX3_reckonOne 166 = .ok (.iadd, 1) := by decide +kernel
theorem dX3_reckonOne_167 : decode cX3_reckonOne 167 = .ok (.iastore, 1) := by decide +kernel
theorem dX3_reckonOne_168 : decode cX3_reckonOne 168 = .ok (.return_, 1) := by decide +kernel
abbrev tX3_reckonOne (k : Nat) : MT := (RX3, cX3_reckonOne, 10, k, none)
def lX3_reckonOne_1 : SX := (sLoop (cB rlt (iLoc 7) (iGet 0 4 (rGet 3 3 (rLoc 0)))) (sSeq (sSetI 8 (iCallV 2 mX2_numberBehind (aR (rGet 3 0 (rLoc 0)) (aR (rGet 3 3 (rLoc 0)) (aI (iLoc 3) (aI (iLoc 2) (aI (iLoc 7) aNil))))))) (sIf (cZ zge (iLoc 8)) (sSeq (sSetI 9 (iCallV 3 mX3_pullAt (aR (rLoc 0) (aI (iLoc 8) aNil)))) (sSeq (sSetL 4 (lB gT2 (· ||| ·) (lLoc 4) (lCallV 3 mX3_comingsAt (aR (rLoc 0) (aI (iLoc 8) aNil))))) (sSetI 6 (iCond (cZ zne (iCallS mX3_isBetterPull (aI (iLoc 9) (aI (iLoc 6) aNil)))) (iLoc 9) (iLoc 6))))) sSkip)) (sSeq (sForget 8) (sInc 7 1)))
def lX3_reckonOne_2 : SX := (sLoop (cB rlt (iLoc 9) (iGet 0 3 (rGet 3 3 (rLoc 0)))) (sIf (cZ zgt (iCallV 0 mX0_loadsIn (aR (rGet 3 3 (rLoc 0)) (aI (iLoc 3) (aI (iLoc 9) aNil))))) (sSetL 7 (lB gT2 (· ||| ·) (lLoc 7) (lBI jlshl (lK 1) (iB gT2 (· * ·) (iK 12) (iLoc 9))))) sSkip) (sInc 9 1))
theorem olX3_reckonOne_2 (g : GT) {pcB pcC : Nat} : Sok g (tX3_reckonOne 5) 102 145 pcB pcC (lX3_reckonOne_2) := (Sok.loop (pc := 102) (pc1 := 114) (pc2 := 139) (pcN := 145) (Cok.cmp (pc1 := 104) (pc2 := 111) (pcT := 114) (pcF := 145) (EokI.iload (i := 9) dX3_reckonOne_102) (EokI.getf (pc1 := 108) (j := 3) (ci := 0) (T := TX0) (N := 17) (EokR.getf (pc1 := 105) (j := 3) (ci := 3) (T := TX3) (N := 5) (EokR.aload_n (q := 0) dX3_reckonOne_104) rfl wsX3_in (by decide) flX3_23 dX3_reckonOne_105) rfl wsX0_in (by decide) flX3_31 dX3_reckonOne_108) (JI.ltF (tgt := 145) dX3_reckonOne_111 (by decide))) (by decide) (Sok.ite (pc1 := 127) (pc2 := 139) (Cok.zero (pc1 := 124) (pcT := 127) (pcF := 139) (EokI.iCallV (pc1 := 121) (Aok.aR (pc1 := 118) (EokR.getf (pc1 := 115) (j := 3) (ci := 3) (T := TX3) (N := 5) (EokR.aload_n (q := 0) dX3_reckonOne_114) rfl wsX3_in (by decide) flX3_23 dX3_reckonOne_115) (Aok.aI (pc1 := 119) (EokI.iload_n (q := 3) dX3_reckonOne_118) (Aok.aI (pc1 := 121) (EokI.iload (i := 9) dX3_reckonOne_119) Aok.nil))) (kX0_loadsIn g) rfl ykX0_loadsIn vkX3_76 (by decide) (by decide) dX3_reckonOne_121) (JZ.gtF (tgt := 139) dX3_reckonOne_124 (by decide))) (by decide) (Sok.setL (i := 7) (pc1 := 137) (EokL.bin (pc1 := 129) (pc2 := 136) (EokL.lload (i := 7) dX3_reckonOne_127) (EokL.binI (pc1 := 130) (pc2 := 135) (EokL.lconst (v := 1) dX3_reckonOne_129 (by decide)) (EokI.bin (pc1 := 132) (pc2 := 134) (EokI.bipush (v := 12) dX3_reckonOne_130 (by decide)) (EokI.iload (i := 9) dX3_reckonOne_132) (OPI.imul dX3_reckonOne_134)) (OPLI.lshl dX3_reckonOne_135)) (OPL.lor dX3_reckonOne_136)) (by decide) dX3_reckonOne_137 (show 8 < 10 by decide)) (Sok.skip (pc := 139))) (Sok.goto (pc1 := 142) (pcN := 102) (Sok.iinc (i := 9) (v := 1) dX3_reckonOne_139 (show 9 < 10 by decide) (by decide)) dX3_reckonOne_142 (by decide)))
theorem olX3_reckonOne_1 (g : GT) {pcB pcC : Nat} : Sok g (tX3_reckonOne 5) 18 96 pcB pcC (lX3_reckonOne_1) := (Sok.loop (pc := 18) (pc1 := 30) (pc2 := 90) (pcN := 96) (Cok.cmp (pc1 := 20) (pc2 := 27) (pcT := 30) (pcF := 96) (EokI.iload (i := 7) dX3_reckonOne_18) (EokI.getf (pc1 := 24) (j := 4) (ci := 0) (T := TX0) (N := 17) (EokR.getf (pc1 := 21) (j := 3) (ci := 3) (T := TX3) (N := 5) (EokR.aload_n (q := 0) dX3_reckonOne_20) rfl wsX3_in (by decide) flX3_23 dX3_reckonOne_21) rfl wsX0_in (by decide) flX3_58 dX3_reckonOne_24) (JI.ltF (tgt := 96) dX3_reckonOne_27 (by decide))) (by decide) (Sok.seq (pc1 := 47) (Sok.setI (i := 8) (pc1 := 45) (EokI.iCallV (pc1 := 42) (Aok.aR (pc1 := 34) (EokR.getf (pc1 := 31) (j := 0) (ci := 3) (T := TX3) (N := 5) (EokR.aload_n (q := 0) dX3_reckonOne_30) rfl wsX3_in (by decide) flX3_19 dX3_reckonOne_31) (Aok.aR (pc1 := 38) (EokR.getf (pc1 := 35) (j := 3) (ci := 3) (T := TX3) (N := 5) (EokR.aload_n (q := 0) dX3_reckonOne_34) rfl wsX3_in (by decide) flX3_23 dX3_reckonOne_35) (Aok.aI (pc1 := 39) (EokI.iload_n (q := 3) dX3_reckonOne_38) (Aok.aI (pc1 := 40) (EokI.iload_n (q := 2) dX3_reckonOne_39) (Aok.aI (pc1 := 42) (EokI.iload (i := 7) dX3_reckonOne_40) Aok.nil))))) (kX2_numberBehind g) rfl ykX2_numberBehind vkX3_61 (by decide) (by decide) dX3_reckonOne_42) (by decide) dX3_reckonOne_45 (show 8 < 10 by decide)) (Sok.ite (pc1 := 52) (pc2 := 90) (Cok.zero (pc1 := 49) (pcT := 52) (pcF := 90) (EokI.iload (i := 8) dX3_reckonOne_47) (JZ.geF (tgt := 90) dX3_reckonOne_49 (by decide))) (by decide) (Sok.seq (pc1 := 60) (Sok.setI (i := 9) (pc1 := 58) (EokI.iCallV (pc1 := 55) (Aok.aR (pc1 := 53) (EokR.aload_n (q := 0) dX3_reckonOne_52) (Aok.aI (pc1 := 55) (EokI.iload (i := 8) dX3_reckonOne_53) Aok.nil)) (kX3_pullAt g) rfl ykX3_pullAt vkX3_65 (by decide) (by decide) dX3_reckonOne_55) (by decide) dX3_reckonOne_58 (show 9 < 10 by decide)) (Sok.seq (pc1 := 71) (Sok.setL (i := 4) (pc1 := 69) (EokL.bin (pc1 := 62) (pc2 := 68) (EokL.lload (i := 4) dX3_reckonOne_60) (EokL.lCallV (pc1 := 65) (Aok.aR (pc1 := 63) (EokR.aload_n (q := 0) dX3_reckonOne_62) (Aok.aI (pc1 := 65) (EokI.iload (i := 8) dX3_reckonOne_63) Aok.nil)) (kX3_comingsAt g) rfl ykX3_comingsAt vkX3_68 (by decide) (by decide) dX3_reckonOne_65) (OPL.lor dX3_reckonOne_68)) (by decide) dX3_reckonOne_69 (show 5 < 10 by decide)) (Sok.setI (i := 6) (pc1 := 88) (EokI.cond' (pc1 := 81) (pc2 := 86) (Cok.zero (pc1 := 78) (pcT := 81) (pcF := 86) (EokI.iCallS (pc1 := 75) (Aok.aI (pc1 := 73) (EokI.iload (i := 9) dX3_reckonOne_71) (Aok.aI (pc1 := 75) (EokI.iload (i := 6) dX3_reckonOne_73) Aok.nil)) (kX3_isBetterPull g) ykX3_isBetterPull skX3_72 (by decide) (by decide) dX3_reckonOne_75) (JZ.neF (tgt := 86) dX3_reckonOne_78 (by decide))) (EokI.goto (pc1 := 83) (pc2 := 88) (EokI.iload (i := 9) dX3_reckonOne_81) dX3_reckonOne_83 (by decide)) (EokI.iload (i := 6) dX3_reckonOne_86)) (by decide) dX3_reckonOne_88 (show 6 < 10 by decide)))) (Sok.skip (pc := 90)))) (Sok.seq (pc1 := 90) Sok.forget (Sok.goto (pc1 := 93) (pcN := 18) (Sok.iinc (i := 7) (v := 1) dX3_reckonOne_90 (show 7 < 10 by decide) (by decide)) dX3_reckonOne_93 (by decide))))
def mX3_reckonOne : MX := bodyOf 10 (sSeq (sSeq (sSetI 3 (iCallV 2 mX2_lyingAt (aR (rGet 3 0 (rLoc 0)) (aI (iLoc 1) aNil)))) (sSeq (sSetL 4 (lK 0)) (sSeq (sSetI 6 (iK (-1))) (sSeq (sSeq (sSeq (sSetI 7 (iK 0)) lX3_reckonOne_1) (sForget 7)) (sSeq (sSetL 7 (lK 0)) (sSeq (sSeq (sSeq (sSetI 9 (iK 0)) lX3_reckonOne_2) (sForget 9)) (sSeq (sAStL (rGet 3 1 (rLoc 0)) (iLoc 1) (lB gT2 (· ||| ·) (lBI jlshl (lLoc 4) (iK 1)) (lLoc 7))) (sASt 0 narI (rGet 3 2 (rLoc 0)) (iLoc 1) (iB gT2 (· + ·) (iLoc 6) (iK 1)))))))))) sRetV)
theorem kX3_reckonOne (g : GT) : MK g 5 yX3_reckonOne cX3_reckonOne 10 none mX3_reckonOne := MK.of (pcN := 99999) (pcB := 0) (pcC := 0) rfl (Sok.seq (pc1 := 168) (Sok.seq (pc1 := 9) (Sok.setI_n (q := 3) (pc1 := 8) (EokI.iCallV (pc1 := 5) (Aok.aR (pc1 := 4) (EokR.getf (pc1 := 1) (j := 0) (ci := 3) (T := TX3) (N := 5) (EokR.aload_n (q := 0) dX3_reckonOne_0) rfl wsX3_in (by decide) flX3_19 dX3_reckonOne_1) (Aok.aI (pc1 := 5) (EokI.iload_n (q := 1) dX3_reckonOne_4) Aok.nil)) (kX2_lyingAt g) rfl ykX2_lyingAt vkX3_47 (by decide) (by decide) dX3_reckonOne_5) (by decide) dX3_reckonOne_8 (show 3 < 10 by decide)) (Sok.seq (pc1 := 12) (Sok.setL (i := 4) (pc1 := 10) (EokL.lconst (v := 0) dX3_reckonOne_9 (by decide)) (by decide) dX3_reckonOne_10 (show 5 < 10 by decide)) (Sok.seq (pc1 := 15) (Sok.setI (i := 6) (pc1 := 13) (EokI.iconst (v := (-1)) dX3_reckonOne_12 (by decide)) (by decide) dX3_reckonOne_13 (show 6 < 10 by decide)) (Sok.seq (pc1 := 96) (Sok.seq (pc1 := 96) (Sok.seq (pc1 := 18) (Sok.setI (i := 7) (pc1 := 16) (EokI.iconst (v := 0) dX3_reckonOne_15 (by decide)) (by decide) dX3_reckonOne_16 (show 7 < 10 by decide)) (olX3_reckonOne_1 g )) (Sok.forget (pc := 96))) (Sok.seq (pc1 := 99) (Sok.setL (i := 7) (pc1 := 97) (EokL.lconst (v := 0) dX3_reckonOne_96 (by decide)) (by decide) dX3_reckonOne_97 (show 8 < 10 by decide)) (Sok.seq (pc1 := 145) (Sok.seq (pc1 := 145) (Sok.seq (pc1 := 102) (Sok.setI (i := 9) (pc1 := 100) (EokI.iconst (v := 0) dX3_reckonOne_99 (by decide)) (by decide) dX3_reckonOne_100 (show 9 < 10 by decide)) (olX3_reckonOne_2 g )) (Sok.forget (pc := 145))) (Sok.seq (pc1 := 158) (Sok.lASt (pc1 := 149) (pc2 := 150) (pc3 := 157) (EokR.getf (pc1 := 146) (j := 1) (ci := 3) (T := TX3) (N := 5) (EokR.aload_n (q := 0) dX3_reckonOne_145) rfl wsX3_in (by decide) flX3_9 dX3_reckonOne_146) (EokI.iload_n (q := 1) dX3_reckonOne_149) (EokL.bin (pc1 := 154) (pc2 := 156) (EokL.binI (pc1 := 152) (pc2 := 153) (EokL.lload (i := 4) dX3_reckonOne_150) (EokI.iconst (v := 1) dX3_reckonOne_152 (by decide)) (OPLI.lshl dX3_reckonOne_153)) (EokL.lload (i := 7) dX3_reckonOne_154) (OPL.lor dX3_reckonOne_156)) (by decide) dX3_reckonOne_157) (Sok.iASt (pc1 := 162) (pc2 := 163) (pc3 := 167) (EokR.getf (pc1 := 159) (j := 2) (ci := 3) (T := TX3) (N := 5) (EokR.aload_n (q := 0) dX3_reckonOne_158) rfl wsX3_in (by decide) flX3_15 dX3_reckonOne_159) (EokI.iload_n (q := 1) dX3_reckonOne_162) (EokI.bin (pc1 := 165) (pc2 := 166) (EokI.iload (i := 6) dX3_reckonOne_163) (EokI.iconst (v := 1) dX3_reckonOne_165 (by decide)) (OPI.iadd dX3_reckonOne_166)) (by decide) dX3_reckonOne_167)))))))) (Sok.retV dX3_reckonOne_168 rfl))
/-! PassHuts$Prospects.prepare()V -/
theorem dX3_prepare_0 : decode cX3_prepare 0 = .ok (.aload_n 0, 1) := by decide +kernel
theorem dX3_prepare_1 : decode cX3_prepare 1 = .ok (.getfield 27, 3) := by decide +kernel
theorem dX3_prepare_4 : decode cX3_prepare 4 = .ok (.ifCond .eq 4, 3) := by decide +kernel
theorem dX3_prepare_7 : decode cX3_prepare 7 = .ok (.return_, 1) := by decide +kernel
theorem dX3_prepare_8 : decode cX3_prepare 8 = .ok (.aload_n 0, 1) := by decide +kernel
theorem dX3_prepare_9 : decode cX3_prepare 9 = .ok (.iconst 1, 1) := by decide +kernel
theorem dX3_prepare_10 : decode cX3_prepare 10 = .ok (.putfield 27, 3) := by decide +kernel
theorem dX3_prepare_13 : decode cX3_prepare 13 = .ok (.iconst 0, 1) := by decide +kernel
theorem dX3_prepare_14 : decode cX3_prepare 14 = .ok (.istore_n 1, 1) := by decide +kernel
theorem dX3_prepare_15 : decode cX3_prepare 15 = .ok (.iload_n 1, 1) := by decide +kernel
theorem dX3_prepare_16 : decode cX3_prepare 16 = .ok (.bipush 12, 2) := by decide +kernel
theorem dX3_prepare_18 : decode cX3_prepare 18 = .ok (.if_icmp .gt 76, 3) := by decide +kernel
theorem dX3_prepare_21 : decode cX3_prepare 21 = .ok (.aload_n 0, 1) := by decide +kernel
theorem dX3_prepare_22 : decode cX3_prepare 22 = .ok (.getfield 19, 3) := by decide +kernel
theorem dX3_prepare_25 : decode cX3_prepare 25 = .ok (.iload_n 1, 1) := by decide +kernel
theorem dX3_prepare_26 : decode cX3_prepare 26 = .ok (.aload_n 0, 1) := by decide +kernel
theorem dX3_prepare_27 : decode cX3_prepare 27 = .ok (.getfield 23, 3) := by decide +kernel
theorem dX3_prepare_30 : decode cX3_prepare 30 = .ok (.getfield 31, 3) := by decide +kernel
theorem dX3_prepare_33 : decode cX3_prepare 33 = .ok (.invokevirtual 37, 3) := by decide +kernel
theorem dX3_prepare_36 : decode cX3_prepare 36 = .ok (.istore_n 2, 1) := by decide +kernel
theorem dX3_prepare_37 : decode cX3_prepare 37 = .ok (.aload_n 0, 1) := by decide +kernel
theorem dX3_prepare_38 : decode cX3_prepare 38 = .ok (.getfield 19, 3) := by decide +kernel
theorem dX3_prepare_41 : decode cX3_prepare 41 = .ok (.iload_n 1, 1) := by decide +kernel
theorem dX3_prepare_42 : decode cX3_prepare 42 = .ok (.invokevirtual 43, 3) := by decide +kernel
theorem dX3_prepare_45 : decode cX3_prepare 45 = .ok (.istore_n 3, 1) := by decide +kernel
theorem dX3_prepare_46 : decode cX3_prepare 46 = .ok (.iload_n 3, 1) := by decide +kernel
theorem dX3_prepare_47 : decode cX3_prepare 47 = .ok (.iload_n 2, 1) := by decide +kernel
theorem dX3_prepare_48 : decode cX3_prepare 48 = .ok (.if_icmp .ge 40, 3) := by decide +kernel
theorem dX3_prepare_51 : decode cX3_prepare 51 = .ok (.iload_n 3, 1) := by decide +kernel
theorem dX3_prepare_52 : decode cX3_prepare 52 = .ok (.sipush 6188, 3) := by decide +kernel
theorem dX3_prepare_55 : decode cX3_prepare 55 = .ok (.if_icmp .ge 33, 3) := by decide +kernel
theorem dX3_prepare_58 : decode cX3_prepare 58 = .ok (.aload_n 0, 1) := by decide +kernel
theorem dX3_prepare_59 : decode cX3_prepare 59 = .ok (.getfield 23, 3) := by decide +kernel
theorem dX3_prepare_62 : decode cX3_prepare 62 = .ok (.aload_n 0, 1) := by decide +kernel
theorem dX3_prepare_63 : decode cX3_prepare 63 = .ok (.getfield 19, 3) := by decide +kernel
theorem dX3_prepare_66 : decode cX3_prepare 66 = .ok (.iload_n 3, 1) := by decide +kernel
theorem dX3_prepare_67 : decode cX3_prepare 67 = .ok (.invokevirtual 47, 3) := by decide +kernel
theorem dX3_prepare_70 : decode cX3_prepare 70 = .ok (.invokevirtual 50, 3) := by decide +kernel
theorem dX3_prepare_73 : decode cX3_prepare 73 = .ok (.ifCond .eq 9, 3) := by decide +kernel
theorem dX3_prepare_76 : decode cX3_prepare 76 = .ok (.aload_n 0, 1) := by decide +kernel
theorem dX3_prepare_77 : decode cX3_prepare 77 = .ok (.iload_n 3, 1) := by decide +kernel
theorem dX3_prepare_78 : decode cX3_prepare 78 = .ok (.iload_n 1, 1) := by decide +kernel
theorem dX3_prepare_79 : decode cX3_prepare 79 = .ok (.invokevirtual 54, 3) := by decide +kernel
theorem dX3_prepare_82 : decode cX3_prepare 82 = .ok (.iinc 3 1, 3) := by decide +kernel
theorem dX3_prepare_85 : decode cX3_prepare 85 = .ok (.goto (-39), 3) := by decide +kernel
theorem dX3_prepare_88 : decode cX3_prepare 88 = .ok (.iinc 1 1, 3) := by decide +kernel
theorem dX3_prepare_91 : decode cX3_prepare 91 = .ok (.goto (-76), 3) := by decide +kernel
theorem dX3_prepare_94 : decode cX3_prepare 94 = .ok (.return_, 1) := by decide +kernel
abbrev tX3_prepare (k : Nat) : MT := (RX3, cX3_prepare, 4, k, none)
def lX3_prepare_1 : SX := (sLoop (cAnd (cB rlt (iLoc 3) (iLoc 2)) (cB rlt (iLoc 3) (iK 6188))) (sIf (cZ zne (iCallV 0 mX0_isWayToLie (aR (rGet 3 3 (rLoc 0)) (aI (iCallV 2 mX2_lyingAt (aR (rGet 3 0 (rLoc 0)) (aI (iLoc 3) aNil))) aNil)))) (sCallV 3 mX3_reckonOne (aR (rLoc 0) (aI (iLoc 3) (aI (iLoc 1) aNil)))) sSkip) (sInc 3 1))
def lX3_prepare_2 : SX := (sLoop (cB rle (iLoc 1) (iK 12)) (sSeq (sSetI 2 (iCallV 2 mX2_endOf (aR (rGet 3 0 (rLoc 0)) (aI (iLoc 1) (aI (iGet 0 3 (rGet 3 3 (rLoc 0))) aNil))))) (sSeq (sSetI 3 (iCallV 2 mX2_firstOf (aR (rGet 3 0 (rLoc 0)) (aI (iLoc 1) aNil)))) lX3_prepare_1)) (sSeq (sForget 2) (sInc 1 1)))
theorem olX3_prepare_1 (g : GT) {pcB pcC : Nat} : Sok g (tX3_prepare 6) 46 88 pcB pcC (lX3_prepare_1) := (Sok.loop (pc := 46) (pc1 := 58) (pc2 := 82) (pcN := 88) (Cok.and (pc1 := 51) (Cok.cmp (pc1 := 47) (pc2 := 48) (pcT := 51) (pcF := 88) (EokI.iload_n (q := 3) dX3_prepare_46) (EokI.iload_n (q := 2) dX3_prepare_47) (JI.ltF (tgt := 88) dX3_prepare_48 (by decide))) (Cok.cmp (pc1 := 52) (pc2 := 55) (pcT := 58) (pcF := 88) (EokI.iload_n (q := 3) dX3_prepare_51) (EokI.sipush (v := 6188) dX3_prepare_52 (by decide)) (JI.ltF (tgt := 88) dX3_prepare_55 (by decide)))) (by decide) (Sok.ite (pc1 := 76) (pc2 := 82) (Cok.zero (pc1 := 73) (pcT := 76) (pcF := 82) (EokI.iCallV (pc1 := 70) (Aok.aR (pc1 := 62) (EokR.getf (pc1 := 59) (j := 3) (ci := 3) (T := TX3) (N := 5) (EokR.aload_n (q := 0) dX3_prepare_58) rfl wsX3_in (by decide) flX3_23 dX3_prepare_59) (Aok.aI (pc1 := 70) (EokI.iCallV (pc1 := 67) (Aok.aR (pc1 := 66) (EokR.getf (pc1 := 63) (j := 0) (ci := 3) (T := TX3) (N := 5) (EokR.aload_n (q := 0) dX3_prepare_62) rfl wsX3_in (by decide) flX3_19 dX3_prepare_63) (Aok.aI (pc1 := 67) (EokI.iload_n (q := 3) dX3_prepare_66) Aok.nil)) (kX2_lyingAt g) rfl ykX2_lyingAt vkX3_47 (by decide) (by decide) dX3_prepare_67) Aok.nil)) (kX0_isWayToLie g) rfl ykX0_isWayToLie vkX3_50 (by decide) (by decide) dX3_prepare_70) (JZ.neF (tgt := 82) dX3_prepare_73 (by decide))) (by decide) (Sok.sCallV (pc1 := 79) (Aok.aR (pc1 := 77) (EokR.aload_n (q := 0) dX3_prepare_76) (Aok.aI (pc1 := 78) (EokI.iload_n (q := 3) dX3_prepare_77) (Aok.aI (pc1 := 79) (EokI.iload_n (q := 1) dX3_prepare_78) Aok.nil))) (by decide) (kX3_reckonOne g) rfl ykX3_reckonOne vkX3_54 (by decide) (by decide) dX3_prepare_79) (Sok.skip (pc := 82))) (Sok.goto (pc1 := 85) (pcN := 46) (Sok.iinc (i := 3) (v := 1) dX3_prepare_82 (show 3 < 4 by decide) (by decide)) dX3_prepare_85 (by decide)))
theorem olX3_prepare_2 (g : GT) {pcB pcC : Nat} : Sok g (tX3_prepare 6) 15 94 pcB pcC (lX3_prepare_2) := (Sok.loop (pc := 15) (pc1 := 21) (pc2 := 88) (pcN := 94) (Cok.cmp (pc1 := 16) (pc2 := 18) (pcT := 21) (pcF := 94) (EokI.iload_n (q := 1) dX3_prepare_15) (EokI.bipush (v := 12) dX3_prepare_16 (by decide)) (JI.leF (tgt := 94) dX3_prepare_18 (by decide))) (by decide) (Sok.seq (pc1 := 37) (Sok.setI_n (q := 2) (pc1 := 36) (EokI.iCallV (pc1 := 33) (Aok.aR (pc1 := 25) (EokR.getf (pc1 := 22) (j := 0) (ci := 3) (T := TX3) (N := 5) (EokR.aload_n (q := 0) dX3_prepare_21) rfl wsX3_in (by decide) flX3_19 dX3_prepare_22) (Aok.aI (pc1 := 26) (EokI.iload_n (q := 1) dX3_prepare_25) (Aok.aI (pc1 := 33) (EokI.getf (pc1 := 30) (j := 3) (ci := 0) (T := TX0) (N := 17) (EokR.getf (pc1 := 27) (j := 3) (ci := 3) (T := TX3) (N := 5) (EokR.aload_n (q := 0) dX3_prepare_26) rfl wsX3_in (by decide) flX3_23 dX3_prepare_27) rfl wsX0_in (by decide) flX3_31 dX3_prepare_30) Aok.nil))) (kX2_endOf g) rfl ykX2_endOf vkX3_37 (by decide) (by decide) dX3_prepare_33) (by decide) dX3_prepare_36 (show 2 < 4 by decide)) (Sok.seq (pc1 := 46) (Sok.setI_n (q := 3) (pc1 := 45) (EokI.iCallV (pc1 := 42) (Aok.aR (pc1 := 41) (EokR.getf (pc1 := 38) (j := 0) (ci := 3) (T := TX3) (N := 5) (EokR.aload_n (q := 0) dX3_prepare_37) rfl wsX3_in (by decide) flX3_19 dX3_prepare_38) (Aok.aI (pc1 := 42) (EokI.iload_n (q := 1) dX3_prepare_41) Aok.nil)) (kX2_firstOf g) rfl ykX2_firstOf vkX3_43 (by decide) (by decide) dX3_prepare_42) (by decide) dX3_prepare_45 (show 3 < 4 by decide)) (olX3_prepare_1 g ))) (Sok.seq (pc1 := 88) Sok.forget (Sok.goto (pc1 := 91) (pcN := 15) (Sok.iinc (i := 1) (v := 1) dX3_prepare_88 (show 1 < 4 by decide) (by decide)) dX3_prepare_91 (by decide))))
def mX3_prepare : MX := bodyOf 4 (sSeq (sSeq (sIf (cZ zne (iGet 3 4 (rLoc 0))) sRetV sSkip) (sSeq (sPutI 3 4 .boolean (rLoc 0) (iK 1)) (sSeq (sSeq (sSetI 1 (iK 0)) lX3_prepare_2) (sForget 1)))) sRetV)
theorem kX3_prepare (g : GT) : MK g 6 yX3_prepare cX3_prepare 4 none mX3_prepare := MK.of (pcN := 99999) (pcB := 0) (pcC := 0) rfl (Sok.seq (pc1 := 94) (Sok.seq (pc1 := 8) (Sok.ite (pc1 := 7) (pc2 := 8) (Cok.zero (pc1 := 4) (pcT := 7) (pcF := 8) (EokI.getf (pc1 := 1) (j := 4) (ci := 3) (T := TX3) (N := 5) (EokR.aload_n (q := 0) dX3_prepare_0) rfl wsX3_in (by decide) flX3_27 dX3_prepare_1) (JZ.neF (tgt := 8) dX3_prepare_4 (by decide))) (by decide) (Sok.retV dX3_prepare_7 rfl) (Sok.skip (pc := 8))) (Sok.seq (pc1 := 13) (Sok.putI (ci := 3) (T := TX3) (NN := 5) (tt := tyX3) (j := 4) (pc1 := 9) (pc2 := 10) (ty := .boolean) (EokR.aload_n (q := 0) dX3_prepare_8) (EokI.iconst (v := 1) dX3_prepare_9 (by decide)) (by decide) rfl wsX3_in tyX3_ok nmX3 (by decide) flX3_27 rfl rfl dX3_prepare_10) (Sok.seq (pc1 := 94) (Sok.seq (pc1 := 15) (Sok.setI_n (q := 1) (pc1 := 14) (EokI.iconst (v := 0) dX3_prepare_13 (by decide)) (by decide) dX3_prepare_14 (show 1 < 4 by decide)) (olX3_prepare_2 g )) (Sok.forget (pc := 94))))) (Sok.retV dX3_prepare_94 rfl))
/-! PassHuts$Prospects.comingsOf(I)J -/
theorem dX3_comingsOf_0 : decode cX3_comingsOf 0 = .ok (.aload_n 0, 1) := by decide +kernel
theorem dX3_comingsOf_1 : decode cX3_comingsOf 1 = .ok (.aload_n 0, 1) := by decide +kernel
theorem dX3_comingsOf_2 : decode cX3_comingsOf 2 = .ok (.getfield 19, 3) := by decide +kernel
theorem dX3_comingsOf_5 : decode cX3_comingsOf 5 = .ok (.iload_n 1, 1) := by decide +kernel
theorem dX3_comingsOf_6 : decode cX3_comingsOf 6 = .ok (.aload_n 0, 1) := by decide +kernel
theorem dX3_comingsOf_7 : decode cX3_comingsOf 7 = .ok (.getfield 23, 3) := by decide +kernel
theorem dX3_comingsOf_10 : decode cX3_comingsOf 10 = .ok (.iload_n 1, 1) := by decide +kernel
theorem dX3_comingsOf_11 : decode cX3_comingsOf 11 = .ok (.invokevirtual 79, 3) := by decide +kernel
theorem dX3_comingsOf_14 : decode cX3_comingsOf 14 = .ok (.invokevirtual 82, 3) := by decide +kernel
theorem dX3_comingsOf_17 : decode cX3_comingsOf 17 = .ok (.invokevirtual 68, 3) := by decide +kernel
theorem dX3_comingsOf_20 : decode cX3_comingsOf 20 = .ok (.lreturn, 1) := by decide +kernel
abbrev tX3_comingsOf (k : Nat) : MT := (RX3, cX3_comingsOf, 2, k, (some .long))
def mX3_comingsOf : MX := bodyOf 2 (sRetL (lCallV 3 mX3_comingsAt (aR (rLoc 0) (aI (iCallV 2 mX2_numberOf (aR (rGet 3 0 (rLoc 0)) (aI (iLoc 1) (aI (iCallV 0 mX0_sumOf (aR (rGet 3 3 (rLoc 0)) (aI (iLoc 1) aNil))) aNil)))) aNil))))
theorem kX3_comingsOf (g : GT) : MK g 3 yX3_comingsOf cX3_comingsOf 2 (some .long) mX3_comingsOf := MK.of (pcN := 99999) (pcB := 0) (pcC := 0) rfl (Sok.retL (pc1 := 20) (EokL.lCallV (pc1 := 17) (Aok.aR (pc1 := 1) (EokR.aload_n (q := 0) dX3_comingsOf_0) (Aok.aI (pc1 := 17) (EokI.iCallV (pc1 := 14) (Aok.aR (pc1 := 5) (EokR.getf (pc1 := 2) (j := 0) (ci := 3) (T := TX3) (N := 5) (EokR.aload_n (q := 0) dX3_comingsOf_1) rfl wsX3_in (by decide) flX3_19 dX3_comingsOf_2) (Aok.aI (pc1 := 6) (EokI.iload_n (q := 1) dX3_comingsOf_5) (Aok.aI (pc1 := 14) (EokI.iCallV (pc1 := 11) (Aok.aR (pc1 := 10) (EokR.getf (pc1 := 7) (j := 3) (ci := 3) (T := TX3) (N := 5) (EokR.aload_n (q := 0) dX3_comingsOf_6) rfl wsX3_in (by decide) flX3_23 dX3_comingsOf_7) (Aok.aI (pc1 := 11) (EokI.iload_n (q := 1) dX3_comingsOf_10) Aok.nil)) (kX0_sumOf g) rfl ykX0_sumOf vkX3_79 (by decide) (by decide) dX3_comingsOf_11) Aok.nil))) (kX2_numberOf g) rfl ykX2_numberOf vkX3_82 (by decide) (by decide) dX3_comingsOf_14) Aok.nil)) (kX3_comingsAt g) rfl ykX3_comingsAt vkX3_68 (by decide) (by decide) dX3_comingsOf_17) (by decide) dX3_comingsOf_20 rfl)
/-! PassHuts$Prospects.fewest(JI)I -/
theorem dX3_fewest_0 : decode cX3_fewest 0 = .ok (.lload_n 0, 1) := by decide +kernel
theorem dX3_fewest_1 : decode cX3_fewest 1 = .ok (.bipush 12, 2) := by decide +kernel
theorem dX3_fewest_3 : decode cX3_fewest 3 = .ok (.iload_n 2, 1) := by decide +kernel
theorem dX3_fewest_4 : decode cX3_fewest 4 = .ok (.imul, 1) := by decide +kernel
theorem dX3_fewest_5 : decode cX3_fewest 5 = .ok (.lshr, 1) := by decide +kernel
theorem dX3_fewest_6 : decode cX3_fewest 6 = .ok (.ldc2_w 85, 3) := by decide +kernel
theorem dX3_fewest_9 : decode cX3_fewest 9 = .ok (.land, 1) := by decide +kernel
theorem dX3_fewest_10 : decode cX3_fewest 10 = .ok (.l2i, 1) := by decide +kernel
theorem dX3_fewest_11 : decode cX3_fewest 11 = .ok (.istore_n 3, 1) := by decide +kernel
theorem dX3_fewest_12 : decode cX3_fewest 12 = .ok (.iconst 0, 1) := by decide +kernel
theorem dX3_fewest_13 : decode cX3_fewest 13 = .ok (.istore 4, 2) := by decide +kernel
theorem dX3_fewest_15 : decode cX3_fewest 15 = .ok (.iload 4, 2) := by decide +kernel
theorem dX3_fewest_17 : decode cX3_fewest 17 = .ok (.bipush 12, 2) := by decide +kernel
theorem dX3_fewest_19 : decode cX3_fewest 19 = .ok (.if_icmp .ge 21, 3) := by decide +kernel
theorem dX3_fewest_22 : decode cX3_fewest 22 = .ok (.iload_n 3, 1) := by decide +kernel
theorem dX3_fewest_23 : decode cX3_fewest 23 = .ok (.iload 4, 2) := by decide +kernel
theorem dX3_fewest_25 : decode cX3_fewest 25 = .ok (.ishr, 1) := by decide +kernel
theorem dX3_fewest_26 : decode cX3_fewest 26 = .ok (.iconst 1, 1) := by decide +kernel
theorem dX3_fewest_27 : decode cX3_fewest 27 = .ok (.iand, 1) := by decide +kernel
theorem dX3_fewest_28 : decode cX3_fewest 28 = .ok (.ifCond .eq 6, 3) := by decide +kernel
theorem dX3_fewest_31 : decode cX3_fewest 31 = .ok (.iload 4, 2) := by decide +kernel
theorem dX3_fewest_33 : decode cX3_fewest 33 = .ok (.ireturn, 1) := by decide +kernel
theorem dX3_fewest_34 : decode cX3_fewest 34 = .ok (.iinc 4 1, 3) := by decide +kernel
theorem dX3_fewest_37 : decode cX3_fewest 37 = .ok (.goto (-22), 3) := by decide +kernel
theorem dX3_fewest_40 : decode cX3_fewest 40 = .ok (.iconst (-1), 1) := by decide +kernel
theorem dX3_fewest_41 : decode cX3_fewest 41 = .ok (.ireturn, 1) := by decide +kernel
abbrev tX3_fewest (k : Nat) : MT := (RX3, cX3_fewest, 5, k, (some .int))
def lX3_fewest_1 : SX := (sLoop (cB rlt (iLoc 4) (iK 12)) (sIf (cZ zne (iB gT2 (· &&& ·) (iB gT2 jshr (iLoc 3) (iLoc 4)) (iK 1))) (sRetI (iLoc 4)) sSkip) (sInc 4 1))
theorem olX3_fewest_1 (g : GT) {pcB pcC : Nat} : Sok g (tX3_fewest 0) 15 40 pcB pcC (lX3_fewest_1) := (Sok.loop (pc := 15) (pc1 := 22) (pc2 := 34) (pcN := 40) (Cok.cmp (pc1 := 17) (pc2 := 19) (pcT := 22) (pcF := 40) (EokI.iload (i := 4) dX3_fewest_15) (EokI.bipush (v := 12) dX3_fewest_17 (by decide)) (JI.ltF (tgt := 40) dX3_fewest_19 (by decide))) (by decide) (Sok.ite (pc1 := 31) (pc2 := 34) (Cok.zero (pc1 := 28) (pcT := 31) (pcF := 34) (EokI.bin (pc1 := 26) (pc2 := 27) (EokI.bin (pc1 := 23) (pc2 := 25) (EokI.iload_n (q := 3) dX3_fewest_22) (EokI.iload (i := 4) dX3_fewest_23) (OPI.ishr dX3_fewest_25)) (EokI.iconst (v := 1) dX3_fewest_26 (by decide)) (OPI.iand dX3_fewest_27)) (JZ.neF (tgt := 34) dX3_fewest_28 (by decide))) (by decide) (Sok.retI (pc1 := 33) (EokI.iload (i := 4) dX3_fewest_31) (by decide) dX3_fewest_33 rfl) (Sok.skip (pc := 34))) (Sok.goto (pc1 := 37) (pcN := 15) (Sok.iinc (i := 4) (v := 1) dX3_fewest_34 (show 4 < 5 by decide) (by decide)) dX3_fewest_37 (by decide)))
def mX3_fewest : MX := bodyOf 5 (sSeq (sSetI 3 (iOfL (lB gT2 (· &&& ·) (lBI jlshr (lLoc 0) (iB gT2 (· * ·) (iK 12) (iLoc 2))) (lK 4095)))) (sSeq (sSeq (sSeq (sSetI 4 (iK 0)) lX3_fewest_1) (sForget 4)) (sRetI (iK (-1)))))
theorem kX3_fewest (g : GT) : MK g 0 yX3_fewest cX3_fewest 5 (some .int) mX3_fewest := MK.of (pcN := 99999) (pcB := 0) (pcC := 0) rfl (Sok.seq (pc1 := 12) (Sok.setI_n (q := 3) (pc1 := 11) (EokI.l2i (pc1 := 10) (EokL.bin (pc1 := 6) (pc2 := 9) (EokL.binI (pc1 := 1) (pc2 := 5) (EokL.lload_n (q := 0) dX3_fewest_0) (EokI.bin (pc1 := 3) (pc2 := 4) (EokI.bipush (v := 12) dX3_fewest_1 (by decide)) (EokI.iload_n (q := 2) dX3_fewest_3) (OPI.imul dX3_fewest_4)) (OPLI.lshr dX3_fewest_5)) (EokL.ldc2 (v := 4095) ckX3_85 dX3_fewest_6) (OPL.land dX3_fewest_9)) dX3_fewest_10) (by decide) dX3_fewest_11 (show 3 < 5 by decide)) (Sok.seq (pc1 := 40) (Sok.seq (pc1 := 40) (Sok.seq (pc1 := 15) (Sok.setI (i := 4) (pc1 := 13) (EokI.iconst (v := 0) dX3_fewest_12 (by decide)) (by decide) dX3_fewest_13 (show 4 < 5 by decide)) (olX3_fewest_1 g )) (Sok.forget (pc := 40))) (Sok.retI (pc1 := 41) (EokI.iconst (v := (-1)) dX3_fewest_40 (by decide)) (by decide) dX3_fewest_41 rfl)))
/-! PassHuts$Prospects.fewestTo(II)I -/
theorem dX3_fewestTo_0 : decode cX3_fewestTo 0 = .ok (.aload_n 0, 1) := by decide +kernel
theorem dX3_fewestTo_1 : decode cX3_fewestTo 1 = .ok (.iload_n 1, 1) := by decide +kernel
theorem dX3_fewestTo_2 : decode cX3_fewestTo 2 = .ok (.invokevirtual 87, 3) := by decide +kernel
theorem dX3_fewestTo_5 : decode cX3_fewestTo 5 = .ok (.iload_n 2, 1) := by decide +kernel
theorem dX3_fewestTo_6 : decode cX3_fewestTo 6 = .ok (.invokestatic 90, 3) := by decide +kernel
theorem dX3_fewestTo_9 : decode cX3_fewestTo 9 = .ok (.ireturn, 1) := by decide +kernel
abbrev tX3_fewestTo (k : Nat) : MT := (RX3, cX3_fewestTo, 3, k, (some .int))
def mX3_fewestTo : MX := bodyOf 3 (sRetI (iCallS mX3_fewest (aL (lCallV 3 mX3_comingsOf (aR (rLoc 0) (aI (iLoc 1) aNil))) (aI (iLoc 2) aNil))))
theorem kX3_fewestTo (g : GT) : MK g 4 yX3_fewestTo cX3_fewestTo 3 (some .int) mX3_fewestTo := MK.of (pcN := 99999) (pcB := 0) (pcC := 0) rfl (Sok.retI (pc1 := 9) (EokI.iCallS (pc1 := 6) (Aok.aL (pc1 := 5) (EokL.lCallV (pc1 := 2) (Aok.aR (pc1 := 1) (EokR.aload_n (q := 0) dX3_fewestTo_0) (Aok.aI (pc1 := 2) (EokI.iload_n (q := 1) dX3_fewestTo_1) Aok.nil)) (kX3_comingsOf g) rfl ykX3_comingsOf vkX3_87 (by decide) (by decide) dX3_fewestTo_2) (Aok.aI (pc1 := 6) (EokI.iload_n (q := 2) dX3_fewestTo_5) Aok.nil)) (kX3_fewest g) ykX3_fewest skX3_90 (by decide) (by decide) dX3_fewestTo_6) (by decide) dX3_fewestTo_9 rfl)
/-! PassHuts$Prospects.firstWayTowards(III)I -/
theorem dX3_firstWayTowards_0 : decode cX3_firstWayTowards 0 = .ok (.aload_n 0, 1) := by decide +kernel
theorem dX3_firstWayTowards_1 : decode cX3_firstWayTowards 1 = .ok (.getfield 23, 3) := by decide +kernel
theorem dX3_firstWayTowards_4 : decode cX3_firstWayTowards 4 = .ok (.iload_n 1, 1) := by decide +kernel
theorem dX3_firstWayTowards_5 : decode cX3_firstWayTowards 5 = .ok (.invokevirtual 79, 3) := by decide +kernel
theorem dX3_firstWayTowards_8 : decode cX3_firstWayTowards 8 = .ok (.istore 4, 2) := by decide +kernel
theorem dX3_firstWayTowards_10 : decode cX3_firstWayTowards 10 = .ok (.iconst 0, 1) := by decide +kernel
theorem dX3_firstWayTowards_11 : decode cX3_firstWayTowards 11 = .ok (.istore 5, 2) := by decide +kernel
theorem dX3_firstWayTowards_13 : decode cX3_firstWayTowards 13 = .ok (.iload 5, 2) := by decide +kernel
theorem dX3_firstWayTowards_15 : decode cX3_firstWayTowards 15 = .ok (.aload_n 0, 1) := by decide +kernel
theorem dX3_firstWayTowards_16 : decode cX3_firstWayTowards 16 = .ok (.getfield 23, 3) := by decide +kernel
theorem dX3_firstWayTowards_19 : decode cX3_firstWayTowards 19 = .ok (.getfield 58, 3) := by decide +kernel
theorem dX3_firstWayTowards_22 : decode cX3_firstWayTowards 22 = .ok (.if_icmp .ge 42, 3) := by decide +kernel
theorem dX3_firstWayTowards_25 : decode cX3_firstWayTowards 25 = .ok (.aload_n 0, 1) := by decide +kernel
theorem dX3_firstWayTowards_26 : decode cX3_firstWayTowards 26 = .ok (.getfield 23, 3) := by decide +kernel
theorem dX3_firstWayTowards_29 : decode cX3_firstWayTowards 29 = .ok (.iload_n 1, 1) := by decide +kernel
theorem dX3_firstWayTowards_30 : decode cX3_firstWayTowards 30 = .ok (.iload 4, 2) := by decide +kernel
theorem dX3_firstWayTowards_32 : decode cX3_firstWayTowards 32 = .ok (.iload 5, 2) := by decide +kernel
theorem dX3_firstWayTowards_34 : decode cX3_firstWayTowards 34 = .ok (.invokevirtual 108, 3) := by decide +kernel
theorem dX3_firstWayTowards_37 : decode cX3_firstWayTowards 37 = .ok (.istore 6, 2) := by decide +kernel
theorem dX3_firstWayTowards_39 : decode cX3_firstWayTowards 39 = .ok (.iload 6, 2) := by decide +kernel
theorem dX3_firstWayTowards_41 : decode cX3_firstWayTowards 41 = .ok (.ifCond .lt 17, 3) := by decide +kernel
theorem dX3_firstWayTowards_44 : decode cX3_firstWayTowards 44 = .ok (.aload_n 0, 1) := by decide +kernel
theorem dX3_firstWayTowards_45 : decode cX3_firstWayTowards 45 = .ok (.iload 6, 2) := by decide +kernel
theorem dX3_firstWayTowards_47 : decode cX3_firstWayTowards 47 = .ok (.iload_n 2, 1) := by decide +kernel
theorem dX3_firstWayTowards_48 : decode cX3_firstWayTowards 48 = .ok (.invokevirtual 98, 3) := by decide +kernel
theorem dX3_firstWayTowards_51 : decode cX3_firstWayTowards 51 = .ok (.iload_n 3, 1) := by decide +kernel
theorem dX3_firstWayTowards_52 : decode cX3_firstWayTowards 52 = .ok (.if_icmp .ne 6, 3) := by decide +kernel
theorem dX3_firstWayTowards_55 : decode cX3_firstWayTowards 55 = .ok (.iload 5, 2) := by decide +kernel
theorem dX3_firstWayTowards_57 : decode cX3_firstWayTowards 57 = .ok (.ireturn, 1) := by decide +kernel
theorem dX3_firstWayTowards_58 : decode cX3_firstWayTowards 58 = .ok (.iinc 5 1, 3) := by decide +kernel
theorem dX3_firstWayTowards_61 : decode cX3_firstWayTowards 61 = .ok (.goto (-48), 3) := by decide +kernel
theorem dX3_firstWayTowards_64 : decode cX3_firstWayTowards 64 = .ok (.iconst (-1), 1) := by decide +kernel
theorem dX3_firstWayTowards_65 : decode cX3_firstWayTowards 65 = .ok (.ireturn, 1) := by decide +kernel
abbrev tX3_firstWayTowards (k : Nat) : MT := (RX3, cX3_firstWayTowards, 7, k, (some .int))
def lX3_firstWayTowards_1 : SX := (sLoop (cB rlt (iLoc 5) (iGet 0 4 (rGet 3 3 (rLoc 0)))) (sSeq (sSetI 6 (iCallV 0 mX0_afterWay (aR (rGet 3 3 (rLoc 0)) (aI (iLoc 1) (aI (iLoc 4) (aI (iLoc 5) aNil)))))) (sIf (cAnd (cZ zge (iLoc 6)) (cB req (iCallV 3 mX3_fewestTo (aR (rLoc 0) (aI (iLoc 6) (aI (iLoc 2) aNil)))) (iLoc 3))) (sRetI (iLoc 5)) sSkip)) (sSeq (sForget 6) (sInc 5 1)))
theorem olX3_firstWayTowards_1 (g : GT) {pcB pcC : Nat} : Sok g (tX3_firstWayTowards 5) 13 64 pcB pcC (lX3_firstWayTowards_1) := (Sok.loop (pc := 13) (pc1 := 25) (pc2 := 58) (pcN := 64) (Cok.cmp (pc1 := 15) (pc2 := 22) (pcT := 25) (pcF := 64) (EokI.iload (i := 5) dX3_firstWayTowards_13) (EokI.getf (pc1 := 19) (j := 4) (ci := 0) (T := TX0) (N := 17) (EokR.getf (pc1 := 16) (j := 3) (ci := 3) (T := TX3) (N := 5) (EokR.aload_n (q := 0) dX3_firstWayTowards_15) rfl wsX3_in (by decide) flX3_23 dX3_firstWayTowards_16) rfl wsX0_in (by decide) flX3_58 dX3_firstWayTowards_19) (JI.ltF (tgt := 64) dX3_firstWayTowards_22 (by decide))) (by decide) (Sok.seq (pc1 := 39) (Sok.setI (i := 6) (pc1 := 37) (EokI.iCallV (pc1 := 34) (Aok.aR (pc1 := 29) (EokR.getf (pc1 := 26) (j := 3) (ci := 3) (T := TX3) (N := 5) (EokR.aload_n (q := 0) dX3_firstWayTowards_25) rfl wsX3_in (by decide) flX3_23 dX3_firstWayTowards_26) (Aok.aI (pc1 := 30) (EokI.iload_n (q := 1) dX3_firstWayTowards_29) (Aok.aI (pc1 := 32) (EokI.iload (i := 4) dX3_firstWayTowards_30) (Aok.aI (pc1 := 34) (EokI.iload (i := 5) dX3_firstWayTowards_32) Aok.nil)))) (kX0_afterWay g) rfl ykX0_afterWay vkX3_108 (by decide) (by decide) dX3_firstWayTowards_34) (by decide) dX3_firstWayTowards_37 (show 6 < 7 by decide)) (Sok.ite (pc1 := 55) (pc2 := 58) (Cok.and (pc1 := 44) (Cok.zero (pc1 := 41) (pcT := 44) (pcF := 58) (EokI.iload (i := 6) dX3_firstWayTowards_39) (JZ.geF (tgt := 58) dX3_firstWayTowards_41 (by decide))) (Cok.cmp (pc1 := 51) (pc2 := 52) (pcT := 55) (pcF := 58) (EokI.iCallV (pc1 := 48) (Aok.aR (pc1 := 45) (EokR.aload_n (q := 0) dX3_firstWayTowards_44) (Aok.aI (pc1 := 47) (EokI.iload (i := 6) dX3_firstWayTowards_45) (Aok.aI (pc1 := 48) (EokI.iload_n (q := 2) dX3_firstWayTowards_47) Aok.nil))) (kX3_fewestTo g) rfl ykX3_fewestTo vkX3_98 (by decide) (by decide) dX3_firstWayTowards_48) (EokI.iload_n (q := 3) dX3_firstWayTowards_51) (JI.eqF (tgt := 58) dX3_firstWayTowards_52 (by decide)))) (by decide) (Sok.retI (pc1 := 57) (EokI.iload (i := 5) dX3_firstWayTowards_55) (by decide) dX3_firstWayTowards_57 rfl) (Sok.skip (pc := 58)))) (Sok.seq (pc1 := 58) Sok.forget (Sok.goto (pc1 := 61) (pcN := 13) (Sok.iinc (i := 5) (v := 1) dX3_firstWayTowards_58 (show 5 < 7 by decide) (by decide)) dX3_firstWayTowards_61 (by decide))))
def mX3_firstWayTowards : MX := bodyOf 7 (sSeq (sSetI 4 (iCallV 0 mX0_sumOf (aR (rGet 3 3 (rLoc 0)) (aI (iLoc 1) aNil)))) (sSeq (sSeq (sSeq (sSetI 5 (iK 0)) lX3_firstWayTowards_1) (sForget 5)) (sRetI (iK (-1)))))
theorem kX3_firstWayTowards (g : GT) : MK g 5 yX3_firstWayTowards cX3_firstWayTowards 7 (some .int) mX3_firstWayTowards := MK.of (pcN := 99999) (pcB := 0) (pcC := 0) rfl (Sok.seq (pc1 := 10) (Sok.setI (i := 4) (pc1 := 8) (EokI.iCallV (pc1 := 5) (Aok.aR (pc1 := 4) (EokR.getf (pc1 := 1) (j := 3) (ci := 3) (T := TX3) (N := 5) (EokR.aload_n (q := 0) dX3_firstWayTowards_0) rfl wsX3_in (by decide) flX3_23 dX3_firstWayTowards_1) (Aok.aI (pc1 := 5) (EokI.iload_n (q := 1) dX3_firstWayTowards_4) Aok.nil)) (kX0_sumOf g) rfl ykX0_sumOf vkX3_79 (by decide) (by decide) dX3_firstWayTowards_5) (by decide) dX3_firstWayTowards_8 (show 4 < 7 by decide)) (Sok.seq (pc1 := 64) (Sok.seq (pc1 := 64) (Sok.seq (pc1 := 13) (Sok.setI (i := 5) (pc1 := 11) (EokI.iconst (v := 0) dX3_firstWayTowards_10 (by decide)) (by decide) dX3_firstWayTowards_11 (show 5 < 7 by decide)) (olX3_firstWayTowards_1 g )) (Sok.forget (pc := 64))) (Sok.retI (pc1 := 65) (EokI.iconst (v := (-1)) dX3_firstWayTowards_64 (by decide)) (by decide) dX3_firstWayTowards_65 rfl)))
/-! PassHuts$Prospects.stepOfRow(III)I -/
theorem dX3_stepOfRow_0 : decode cX3_stepOfRow 0 = .ok (.iload_n 1, 1) := by decide +kernel
theorem dX3_stepOfRow_1 : decode cX3_stepOfRow 1 = .ok (.istore 4, 2) := by decide +kernel
theorem dX3_stepOfRow_3 : decode cX3_stepOfRow 3 = .ok (.aload_n 0, 1) := by decide +kernel
theorem dX3_stepOfRow_4 : decode cX3_stepOfRow 4 = .ok (.iload_n 1, 1) := by decide +kernel
theorem dX3_stepOfRow_5 : decode cX3_stepOfRow 5 = .ok (.iload_n 2, 1) := by decide +kernel
theorem dX3_stepOfRow_6 : decode cX3_stepOfRow 6 = .ok (.invokevirtual 98, 3) := by decide +kernel
theorem dX3_stepOfRow_9 : decode cX3_stepOfRow 9 = .ok (.istore 5, 2) := by decide +kernel
theorem dX3_stepOfRow_11 : decode cX3_stepOfRow 11 = .ok (.iconst 0, 1) := by decide +kernel
theorem dX3_stepOfRow_12 : decode cX3_stepOfRow 12 = .ok (.istore 6, 2) := by decide +kernel
theorem dX3_stepOfRow_14 : decode cX3_stepOfRow 14 = .ok (.iload 6, 2) := by decide +kernel
theorem dX3_stepOfRow_16 : decode cX3_stepOfRow 16 = .ok (.iload 5, 2) := by decide +kernel
theorem dX3_stepOfRow_18 : decode cX3_stepOfRow 18 = .ok (.if_icmp .ge 74, 3) := by decide +kernel
theorem dX3_stepOfRow_21 : decode cX3_stepOfRow 21 = .ok (.iload 6, 2) := by decide +kernel
theorem dX3_stepOfRow_23 : decode cX3_stepOfRow 23 = .ok (.iload_n 3, 1) := by decide +kernel
theorem dX3_stepOfRow_24 : decode cX3_stepOfRow 24 = .ok (.if_icmp .gt 68, 3) := by decide +kernel
theorem dX3_stepOfRow_27 : decode cX3_stepOfRow 27 = .ok (.aload_n 0, 1) := by decide +kernel
theorem dX3_stepOfRow_28 : decode cX3_stepOfRow 28 = .ok (.iload 4, 2) := by decide +kernel
theorem dX3_stepOfRow_30 : decode cX3_stepOfRow 30 = .ok (.iload_n 2, 1) := by decide +kernel
theorem dX3_stepOfRow_31 : decode cX3_stepOfRow 31 = .ok (.iload 5, 2) := by decide +kernel
theorem dX3_stepOfRow_33 : decode cX3_stepOfRow 33 = .ok (.iload 6, 2) := by decide +kernel
theorem dX3_stepOfRow_35 : decode cX3_stepOfRow 35 = .ok (.isub, 1) := by decide +kernel
theorem dX3_stepOfRow_36 : decode cX3_stepOfRow 36 = .ok (.iconst 1, 1) := by decide +kernel
theorem dX3_stepOfRow_37 : decode cX3_stepOfRow 37 = .ok (.isub, 1) := by decide +kernel
theorem dX3_stepOfRow_38 : decode cX3_stepOfRow 38 = .ok (.invokevirtual 101, 3) := by decide +kernel
theorem dX3_stepOfRow_41 : decode cX3_stepOfRow 41 = .ok (.istore 7, 2) := by decide +kernel
theorem dX3_stepOfRow_43 : decode cX3_stepOfRow 43 = .ok (.iload 7, 2) := by decide +kernel
theorem dX3_stepOfRow_45 : decode cX3_stepOfRow 45 = .ok (.ifCond .lt 9, 3) := by decide +kernel
theorem dX3_stepOfRow_48 : decode cX3_stepOfRow 48 = .ok (.iload 6, 2) := by decide +kernel
theorem dX3_stepOfRow_50 : decode cX3_stepOfRow 50 = .ok (.iload_n 3, 1) := by decide +kernel
theorem dX3_stepOfRow_51 : decode cX3_stepOfRow 51 = .ok (.if_icmp .ne 13, 3) := by decide +kernel
theorem dX3_stepOfRow_54 : decode cX3_stepOfRow 54 = .ok (.aload_n 0, 1) := by decide +kernel
theorem dX3_stepOfRow_55 : decode cX3_stepOfRow 55 = .ok (.getfield 23, 3) := by decide +kernel
theorem dX3_stepOfRow_58 : decode cX3_stepOfRow 58 = .ok (.iload 7, 2) := by decide +kernel
theorem dX3_stepOfRow_60 : decode cX3_stepOfRow 60 = .ok (.invokevirtual 105, 3) := by decide +kernel
theorem dX3_stepOfRow_63 : decode cX3_stepOfRow 63 = .ok (.ireturn, 1) := by decide +kernel
theorem dX3_stepOfRow_64 : decode cX3_stepOfRow 64 = .ok (.aload_n 0, 1) := by decide +kernel
theorem dX3_stepOfRow_65 : decode cX3_stepOfRow 65 = .ok (.getfield 23, 3) := by decide +kernel
theorem dX3_stepOfRow_68 : decode cX3_stepOfRow 68 = .ok (.iload 4, 2) := by decide +kernel
theorem dX3_stepOfRow_70 : decode cX3_stepOfRow 70 = .ok (.aload_n 0, 1) := by decide +kernel
theorem dX3_stepOfRow_71 : decode cX3_stepOfRow 71 = .ok (.getfield 23, 3) := by decide +kernel
theorem dX3_stepOfRow_74 : decode cX3_stepOfRow 74 = .ok (.iload 4, 2) := by decide +kernel
theorem dX3_stepOfRow_76 : decode cX3_stepOfRow 76 = .ok (.invokevirtual 79, 3) := by decide +kernel
theorem dX3_stepOfRow_79 : decode cX3_stepOfRow 79 = .ok (.iload 7, 2) := by decide +kernel
theorem dX3_stepOfRow_81 : decode cX3_stepOfRow 81 = .ok (.invokevirtual 108, 3) := by decide +kernel
theorem dX3_stepOfRow_84 : decode cX3_stepOfRow 84 = .ok (.istore 4, 2) := by decide +kernel
theorem dX3_stepOfRow_86 : decode cX3_stepOfRow 86 = .ok (.iinc 6 1, 3) := by decide +kernel
theorem dX3_stepOfRow_89 : decode cX3_stepOfRow 89 = .ok (.goto (-75), 3) := by decide +kernel
theorem dX3_stepOfRow_92 : decode cX3_stepOfRow 92 = .ok (.iconst (-1), 1) := by decide +kernel
theorem dX3_stepOfRow_93 : decode cX3_stepOfRow 93 = .ok (.ireturn, 1) := by decide +kernel
abbrev tX3_stepOfRow (k : Nat) : MT := (RX3, cX3_stepOfRow, 8, k, (some .int))
def lX3_stepOfRow_1 : SX := (sLoop (cAnd (cB rlt (iLoc 6) (iLoc 5)) (cB rle (iLoc 6) (iLoc 3))) (sSeq (sSetI 7 (iCallV 3 mX3_firstWayTowards (aR (rLoc 0) (aI (iLoc 4) (aI (iLoc 2) (aI (iB gT2 (· - ·) (iB gT2 (· - ·) (iLoc 5) (iLoc 6)) (iK 1)) aNil)))))) (sSeq (sIf (cOr (cZ zlt (iLoc 7)) (cB req (iLoc 6) (iLoc 3))) (sRetI (iCallV 0 mX0_codeOf (aR (rGet 3 3 (rLoc 0)) (aI (iLoc 7) aNil)))) sSkip) (sSetI 4 (iCallV 0 mX0_afterWay (aR (rGet 3 3 (rLoc 0)) (aI (iLoc 4) (aI (iCallV 0 mX0_sumOf (aR (rGet 3 3 (rLoc 0)) (aI (iLoc 4) aNil))) (aI (iLoc 7) aNil)))))))) (sSeq (sForget 7) (sInc 6 1)))
theorem olX3_stepOfRow_1 (g : GT) {pcB pcC : Nat} : Sok g (tX3_stepOfRow 6) 14 92 pcB pcC (lX3_stepOfRow_1) := (Sok.loop (pc := 14) (pc1 := 27) (pc2 := 86) (pcN := 92) (Cok.and (pc1 := 21) (Cok.cmp (pc1 := 16) (pc2 := 18) (pcT := 21) (pcF := 92) (EokI.iload (i := 6) dX3_stepOfRow_14) (EokI.iload (i := 5) dX3_stepOfRow_16) (JI.ltF (tgt := 92) dX3_stepOfRow_18 (by decide))) (Cok.cmp (pc1 := 23) (pc2 := 24) (pcT := 27) (pcF := 92) (EokI.iload (i := 6) dX3_stepOfRow_21) (EokI.iload_n (q := 3) dX3_stepOfRow_23) (JI.leF (tgt := 92) dX3_stepOfRow_24 (by decide)))) (by decide) (Sok.seq (pc1 := 43) (Sok.setI (i := 7) (pc1 := 41) (EokI.iCallV (pc1 := 38) (Aok.aR (pc1 := 28) (EokR.aload_n (q := 0) dX3_stepOfRow_27) (Aok.aI (pc1 := 30) (EokI.iload (i := 4) dX3_stepOfRow_28) (Aok.aI (pc1 := 31) (EokI.iload_n (q := 2) dX3_stepOfRow_30) (Aok.aI (pc1 := 38) (EokI.bin (pc1 := 36) (pc2 := 37) (EokI.bin (pc1 := 33) (pc2 := 35) (EokI.iload (i := 5) dX3_stepOfRow_31) (EokI.iload (i := 6) dX3_stepOfRow_33) (OPI.isub dX3_stepOfRow_35)) (EokI.iconst (v := 1) dX3_stepOfRow_36 (by decide)) (OPI.isub dX3_stepOfRow_37)) Aok.nil)))) (kX3_firstWayTowards g) rfl ykX3_firstWayTowards vkX3_101 (by decide) (by decide) dX3_stepOfRow_38) (by decide) dX3_stepOfRow_41 (show 7 < 8 by decide)) (Sok.seq (pc1 := 64) (Sok.ite (pc1 := 54) (pc2 := 64) (Cok.or (pc1 := 48) (Cok.zero (pc1 := 45) (pcT := 54) (pcF := 48) (EokI.iload (i := 7) dX3_stepOfRow_43) (JZ.ltT (tgt := 54) dX3_stepOfRow_45 (by decide))) (Cok.cmp (pc1 := 50) (pc2 := 51) (pcT := 54) (pcF := 64) (EokI.iload (i := 6) dX3_stepOfRow_48) (EokI.iload_n (q := 3) dX3_stepOfRow_50) (JI.eqF (tgt := 64) dX3_stepOfRow_51 (by decide)))) (by decide) (Sok.retI (pc1 := 63) (EokI.iCallV (pc1 := 60) (Aok.aR (pc1 := 58) (EokR.getf (pc1 := 55) (j := 3) (ci := 3) (T := TX3) (N := 5) (EokR.aload_n (q := 0) dX3_stepOfRow_54) rfl wsX3_in (by decide) flX3_23 dX3_stepOfRow_55) (Aok.aI (pc1 := 60) (EokI.iload (i := 7) dX3_stepOfRow_58) Aok.nil)) (kX0_codeOf g) rfl ykX0_codeOf vkX3_105 (by decide) (by decide) dX3_stepOfRow_60) (by decide) dX3_stepOfRow_63 rfl) (Sok.skip (pc := 64))) (Sok.setI (i := 4) (pc1 := 84) (EokI.iCallV (pc1 := 81) (Aok.aR (pc1 := 68) (EokR.getf (pc1 := 65) (j := 3) (ci := 3) (T := TX3) (N := 5) (EokR.aload_n (q := 0) dX3_stepOfRow_64) rfl wsX3_in (by decide) flX3_23 dX3_stepOfRow_65) (Aok.aI (pc1 := 70) (EokI.iload (i := 4) dX3_stepOfRow_68) (Aok.aI (pc1 := 79) (EokI.iCallV (pc1 := 76) (Aok.aR (pc1 := 74) (EokR.getf (pc1 := 71) (j := 3) (ci := 3) (T := TX3) (N := 5) (EokR.aload_n (q := 0) dX3_stepOfRow_70) rfl wsX3_in (by decide) flX3_23 dX3_stepOfRow_71) (Aok.aI (pc1 := 76) (EokI.iload (i := 4) dX3_stepOfRow_74) Aok.nil)) (kX0_sumOf g) rfl ykX0_sumOf vkX3_79 (by decide) (by decide) dX3_stepOfRow_76) (Aok.aI (pc1 := 81) (EokI.iload (i := 7) dX3_stepOfRow_79) Aok.nil)))) (kX0_afterWay g) rfl ykX0_afterWay vkX3_108 (by decide) (by decide) dX3_stepOfRow_81) (by decide) dX3_stepOfRow_84 (show 4 < 8 by decide)))) (Sok.seq (pc1 := 86) Sok.forget (Sok.goto (pc1 := 89) (pcN := 14) (Sok.iinc (i := 6) (v := 1) dX3_stepOfRow_86 (show 6 < 8 by decide) (by decide)) dX3_stepOfRow_89 (by decide))))
def mX3_stepOfRow : MX := bodyOf 8 (sSeq (sSetI 4 (iLoc 1)) (sSeq (sSetI 5 (iCallV 3 mX3_fewestTo (aR (rLoc 0) (aI (iLoc 1) (aI (iLoc 2) aNil))))) (sSeq (sSeq (sSeq (sSetI 6 (iK 0)) lX3_stepOfRow_1) (sForget 6)) (sRetI (iK (-1))))))
theorem kX3_stepOfRow (g : GT) : MK g 6 yX3_stepOfRow cX3_stepOfRow 8 (some .int) mX3_stepOfRow := MK.of (pcN := 99999) (pcB := 0) (pcC := 0) rfl (Sok.seq (pc1 := 3) (Sok.setI (i := 4) (pc1 := 1) (EokI.iload_n (q := 1) dX3_stepOfRow_0) (by decide) dX3_stepOfRow_1 (show 4 < 8 by decide)) (Sok.seq (pc1 := 11) (Sok.setI (i := 5) (pc1 := 9) (EokI.iCallV (pc1 := 6) (Aok.aR (pc1 := 4) (EokR.aload_n (q := 0) dX3_stepOfRow_3) (Aok.aI (pc1 := 5) (EokI.iload_n (q := 1) dX3_stepOfRow_4) (Aok.aI (pc1 := 6) (EokI.iload_n (q := 2) dX3_stepOfRow_5) Aok.nil))) (kX3_fewestTo g) rfl ykX3_fewestTo vkX3_98 (by decide) (by decide) dX3_stepOfRow_6) (by decide) dX3_stepOfRow_9 (show 5 < 8 by decide)) (Sok.seq (pc1 := 92) (Sok.seq (pc1 := 92) (Sok.seq (pc1 := 14) (Sok.setI (i := 6) (pc1 := 12) (EokI.iconst (v := 0) dX3_stepOfRow_11 (by decide)) (by decide) dX3_stepOfRow_12 (show 6 < 8 by decide)) (olX3_stepOfRow_1 g )) (Sok.forget (pc := 92))) (Sok.retI (pc1 := 93) (EokI.iconst (v := (-1)) dX3_stepOfRow_92 (by decide)) (by decide) dX3_stepOfRow_93 rfl))))
/-! PassHuts$Walk.setTally(II)V -/
theorem dX10_setTally_0 : decode cX10_setTally 0 = .ok (.iload_n 1, 1) := by decide +kernel
theorem dX10_setTally_1 : decode cX10_setTally 1 = .ok (.ifCond .lt 17, 3) := by decide +kernel
theorem dX10_setTally_4 : decode cX10_setTally 4 = .ok (.iload_n 1, 1) := by decide +kernel
theorem dX10_setTally_5 : decode cX10_setTally 5 = .ok (.sipush 6188, 3) := by decide +kernel
theorem dX10_setTally_8 : decode cX10_setTally 8 = .ok (.if_icmp .ge 10, 3) := by decide +kernel
theorem dX10_setTally_11 : decode cX10_setTally 11 = .ok (.aload_n 0, 1) := by decide +kernel
theorem dX10_setTally_12 : decode cX10_setTally 12 = .ok (.getfield 18, 3) := by decide +kernel
theorem dX10_setTally_15 : decode cX10_setTally 15 = .ok (.iload_n 1, 1) := by decide +kernel
theorem dX10_setTally_16 : decode cX10_setTally 16 = .ok (.iload_n 2, 1) := by decide +kernel
theorem dX10_setTally_17 : decode cX10_setTally 17 = .ok (.iastore, 1) := by decide +kernel
theorem dX10_setTally_18 : decode cX10_setTally 18 = .ok (.return_, 1) := by decide +kernel
abbrev tX10_setTally (k : Nat) : MT := (RX10, cX10_setTally, 3, k, none)
def mX10_setTally : MX := bodyOf 3 (sSeq (sIf (cAnd (cZ zge (iLoc 1)) (cB rlt (iLoc 1) (iK 6188))) (sASt 0 narI (rGet 10 3 (rLoc 0)) (iLoc 1) (iLoc 2)) sSkip) sRetV)
theorem kX10_setTally (g : GT) : MK g 0 yX10_setTally cX10_setTally 3 none mX10_setTally := MK.of (pcN := 99999) (pcB := 0) (pcC := 0) rfl (Sok.seq (pc1 := 18) (Sok.ite (pc1 := 11) (pc2 := 18) (Cok.and (pc1 := 4) (Cok.zero (pc1 := 1) (pcT := 4) (pcF := 18) (EokI.iload_n (q := 1) dX10_setTally_0) (JZ.geF (tgt := 18) dX10_setTally_1 (by decide))) (Cok.cmp (pc1 := 5) (pc2 := 8) (pcT := 11) (pcF := 18) (EokI.iload_n (q := 1) dX10_setTally_4) (EokI.sipush (v := 6188) dX10_setTally_5 (by decide)) (JI.ltF (tgt := 18) dX10_setTally_8 (by decide)))) (by decide) (Sok.iASt (pc1 := 15) (pc2 := 16) (pc3 := 17) (EokR.getf (pc1 := 12) (j := 3) (ci := 10) (T := TX10) (N := 8) (EokR.aload_n (q := 0) dX10_setTally_11) rfl wsX10_in (by decide) flX10_18 dX10_setTally_12) (EokI.iload_n (q := 1) dX10_setTally_15) (EokI.iload_n (q := 2) dX10_setTally_16) (by decide) dX10_setTally_17) (Sok.skip (pc := 18))) (Sok.retV dX10_setTally_18 rfl))
/-! PassHuts$Walk.clearTally()V -/
theorem dX10_clearTally_0 : decode cX10_clearTally 0 = .ok (.iconst 0, 1) := by decide +kernel
theorem dX10_clearTally_1 : decode cX10_clearTally 1 = .ok (.istore_n 1, 1) := by decide +kernel
theorem dX10_clearTally_2 : decode cX10_clearTally 2 = .ok (.iload_n 1, 1) := by decide +kernel
theorem dX10_clearTally_3 : decode cX10_clearTally 3 = .ok (.aload_n 0, 1) := by decide +kernel
theorem dX10_clearTally_4 : decode cX10_clearTally 4 = .ok (.getfield 37, 3) := by decide +kernel
theorem dX10_clearTally_7 : decode cX10_clearTally 7 = .ok (.if_icmp .ge 19, 3) := by decide +kernel
theorem dX10_clearTally_10 : decode cX10_clearTally 10 = .ok (.aload_n 0, 1) := by decide +kernel
theorem dX10_clearTally_11 : decode cX10_clearTally 11 = .ok (.aload_n 0, 1) := by decide +kernel
theorem dX10_clearTally_12 : decode cX10_clearTally 12 = .ok (.iload_n 1, 1) := by decide +kernel
theorem dX10_clearTally_13 : decode cX10_clearTally 13 = .ok (.invokevirtual 40, 3) := by decide +kernel
theorem dX10_clearTally_16 : decode cX10_clearTally 16 = .ok (.iconst 0, 1) := by decide +kernel
theorem dX10_clearTally_17 : decode cX10_clearTally 17 = .ok (.invokevirtual 108, 3) := by decide +kernel
theorem dX10_clearTally_20 : decode cX10_clearTally 20 = .ok (.iinc 1 1, 3) := by decide +kernel
theorem dX10_clearTally_23 : decode cX10_clearTally 23 = .ok (.goto (-21), 3) := by decide +kernel
theorem dX10_clearTally_26 : decode cX10_clearTally 26 = .ok (.aload_n 0, 1) := by decide +kernel
theorem dX10_clearTally_27 : decode cX10_clearTally 27 = .ok (.aload_n 0, 1) := by decide +kernel
theorem dX10_clearTally_28 : decode cX10_clearTally 28 = .ok (.iconst 0, 1) := by decide +kernel
theorem dX10_clearTally_29 : decode cX10_clearTally 29 = .ok (.invokevirtual 40, 3) := by decide +kernel
theorem dX10_clearTally_32 : decode cX10_clearTally 32 = .ok (.iconst 1, 1) := by decide +kernel
theorem dX10_clearTally_33 : decode cX10_clearTally 33 = .ok (.invokevirtual 108, 3) := by decide +kernel
theorem dX10_clearTally_36 : decode cX10_clearTally 36 = .ok (.return_, 1) := by decide +kernel
abbrev tX10_clearTally (k : Nat) : MT := (RX10, cX10_clearTally, 2, k, none)
def lX10_clearTally_1 : SX := (sLoop (cB rlt (iLoc 1) (iGet 10 5 (rLoc 0))) (sCallV 10 mX10_setTally (aR (rLoc 0) (aI (iCallV 10 mX10_numberAt (aR (rLoc 0) (aI (iLoc 1) aNil))) (aI (iK 0) aNil)))) (sInc 1 1))
theorem olX10_clearTally_1 (g : GT) {pcB pcC : Nat} : Sok g (tX10_clearTally 1) 2 26 pcB pcC (lX10_clearTally_1) := (Sok.loop (pc := 2) (pc1 := 10) (pc2 := 20) (pcN := 26) (Cok.cmp (pc1 := 3) (pc2 := 7) (pcT := 10) (pcF := 26) (EokI.iload_n (q := 1) dX10_clearTally_2) (EokI.getf (pc1 := 4) (j := 5) (ci := 10) (T := TX10) (N := 8) (EokR.aload_n (q := 0) dX10_clearTally_3) rfl wsX10_in (by decide) flX10_37 dX10_clearTally_4) (JI.ltF (tgt := 26) dX10_clearTally_7 (by decide))) (by decide) (Sok.sCallV (pc1 := 17) (Aok.aR (pc1 := 11) (EokR.aload_n (q := 0) dX10_clearTally_10) (Aok.aI (pc1 := 16) (EokI.iCallV (pc1 := 13) (Aok.aR (pc1 := 12) (EokR.aload_n (q := 0) dX10_clearTally_11) (Aok.aI (pc1 := 13) (EokI.iload_n (q := 1) dX10_clearTally_12) Aok.nil)) (kX10_numberAt g) rfl ykX10_numberAt vkX10_40 (by decide) (by decide) dX10_clearTally_13) (Aok.aI (pc1 := 17) (EokI.iconst (v := 0) dX10_clearTally_16 (by decide)) Aok.nil))) (by decide) (kX10_setTally g) rfl ykX10_setTally vkX10_108 (by decide) (by decide) dX10_clearTally_17) (Sok.goto (pc1 := 23) (pcN := 2) (Sok.iinc (i := 1) (v := 1) dX10_clearTally_20 (show 1 < 2 by decide) (by decide)) dX10_clearTally_23 (by decide)))
def mX10_clearTally : MX := bodyOf 2 (sSeq (sSeq (sSeq (sSeq (sSetI 1 (iK 0)) lX10_clearTally_1) (sForget 1)) (sCallV 10 mX10_setTally (aR (rLoc 0) (aI (iCallV 10 mX10_numberAt (aR (rLoc 0) (aI (iK 0) aNil))) (aI (iK 1) aNil))))) sRetV)
theorem kX10_clearTally (g : GT) : MK g 1 yX10_clearTally cX10_clearTally 2 none mX10_clearTally := MK.of (pcN := 99999) (pcB := 0) (pcC := 0) rfl (Sok.seq (pc1 := 36) (Sok.seq (pc1 := 26) (Sok.seq (pc1 := 26) (Sok.seq (pc1 := 2) (Sok.setI_n (q := 1) (pc1 := 1) (EokI.iconst (v := 0) dX10_clearTally_0 (by decide)) (by decide) dX10_clearTally_1 (show 1 < 2 by decide)) (olX10_clearTally_1 g )) (Sok.forget (pc := 26))) (Sok.sCallV (pc1 := 33) (Aok.aR (pc1 := 27) (EokR.aload_n (q := 0) dX10_clearTally_26) (Aok.aI (pc1 := 32) (EokI.iCallV (pc1 := 29) (Aok.aR (pc1 := 28) (EokR.aload_n (q := 0) dX10_clearTally_27) (Aok.aI (pc1 := 29) (EokI.iconst (v := 0) dX10_clearTally_28 (by decide)) Aok.nil)) (kX10_numberAt g) rfl ykX10_numberAt vkX10_40 (by decide) (by decide) dX10_clearTally_29) (Aok.aI (pc1 := 33) (EokI.iconst (v := 1) dX10_clearTally_32 (by decide)) Aok.nil))) (by decide) (kX10_setTally g) rfl ykX10_setTally vkX10_108 (by decide) (by decide) dX10_clearTally_33)) (Sok.retV dX10_clearTally_36 rfl))
/-! PassHuts$Walk.tallyOf(I)I -/
theorem dX10_tallyOf_0 : decode cX10_tallyOf 0 = .ok (.iload_n 1, 1) := by decide +kernel
theorem dX10_tallyOf_1 : decode cX10_tallyOf 1 = .ok (.ifCond .lt 19, 3) := by decide +kernel
theorem dX10_tallyOf_4 : decode cX10_tallyOf 4 = .ok (.iload_n 1, 1) := by decide +kernel
theorem dX10_tallyOf_5 : decode cX10_tallyOf 5 = .ok (.sipush 6188, 3) := by decide +kernel
theorem dX10_tallyOf_8 : decode cX10_tallyOf 8 = .ok (.if_icmp .ge 12, 3) := by decide +kernel
theorem dX10_tallyOf_11 : decode cX10_tallyOf 11 = .ok (.aload_n 0, 1) := by decide +kernel
theorem dX10_tallyOf_12 : decode cX10_tallyOf 12 = .ok (.getfield 18, 3) := by decide +kernel
theorem dX10_tallyOf_15 : decode cX10_tallyOf 15 = .ok (.iload_n 1, 1) := by decide +kernel
theorem dX10_tallyOf_16 : decode cX10_tallyOf 16 = .ok (.iaload, 1) := by decide +kernel
theorem dX10_tallyOf_17 : decode cX10_tallyOf 17 = .ok (.goto 4, 3) := by decide +kernel
theorem dX10_tallyOf_20 : decode cX10_tallyOf 20 = .ok (.iconst 0, 1) := by decide +kernel
theorem dX10_tallyOf_21 : decode cX10_tallyOf 21 = .ok (.ireturn, 1) := by decide +kernel
abbrev tX10_tallyOf (k : Nat) : MT := (RX10, cX10_tallyOf, 2, k, (some .int))
def mX10_tallyOf : MX := bodyOf 2 (sRetI (iCond (cAnd (cZ zge (iLoc 1)) (cB rlt (iLoc 1) (iK 6188))) (iALd (rGet 10 3 (rLoc 0)) (iLoc 1)) (iK 0)))
theorem kX10_tallyOf (g : GT) : MK g 0 yX10_tallyOf cX10_tallyOf 2 (some .int) mX10_tallyOf := MK.of (pcN := 99999) (pcB := 0) (pcC := 0) rfl (Sok.retI (pc1 := 21) (EokI.cond' (pc1 := 11) (pc2 := 20) (Cok.and (pc1 := 4) (Cok.zero (pc1 := 1) (pcT := 4) (pcF := 20) (EokI.iload_n (q := 1) dX10_tallyOf_0) (JZ.geF (tgt := 20) dX10_tallyOf_1 (by decide))) (Cok.cmp (pc1 := 5) (pc2 := 8) (pcT := 11) (pcF := 20) (EokI.iload_n (q := 1) dX10_tallyOf_4) (EokI.sipush (v := 6188) dX10_tallyOf_5 (by decide)) (JI.ltF (tgt := 20) dX10_tallyOf_8 (by decide)))) (EokI.goto (pc1 := 17) (pc2 := 21) (EokI.iALd (pc1 := 15) (pc2 := 16) (EokR.getf (pc1 := 12) (j := 3) (ci := 10) (T := TX10) (N := 8) (EokR.aload_n (q := 0) dX10_tallyOf_11) rfl wsX10_in (by decide) flX10_18 dX10_tallyOf_12) (EokI.iload_n (q := 1) dX10_tallyOf_15) dX10_tallyOf_16) dX10_tallyOf_17 (by decide)) (EokI.iconst (v := 0) dX10_tallyOf_20 (by decide))) (by decide) dX10_tallyOf_21 rfl)
/-! PassHuts$Walk.addRows(II)I -/
theorem dX10_addRows_0 : decode cX10_addRows 0 = .ok (.iload_n 0, 1) := by decide +kernel
theorem dX10_addRows_1 : decode cX10_addRows 1 = .ok (.i2l, 1) := by decide +kernel
theorem dX10_addRows_2 : decode cX10_addRows 2 = .ok (.iload_n 1, 1) := by decide +kernel
theorem dX10_addRows_3 : decode cX10_addRows 3 = .ok (.i2l, 1) := by decide +kernel
theorem dX10_addRows_4 : decode cX10_addRows 4 = .ok (.ladd, 1) := by decide +kernel
theorem dX10_addRows_5 : decode cX10_addRows 5 = .ok (.ldc2_w 124, 3) := by decide +kernel
theorem dX10_addRows_8 : decode cX10_addRows 8 = .ok (.invokestatic 126, 3) := by decide +kernel
theorem dX10_addRows_11 : decode cX10_addRows 11 = .ok (.l2i, 1) := by decide +kernel
theorem dX10_addRows_12 : decode cX10_addRows 12 = .ok (.ireturn, 1) := by decide +kernel
abbrev tX10_addRows (k : Nat) : MT := (RX10, cX10_addRows, 2, k, (some .int))
def mX10_addRows : MX := bodyOf 2 (sRetI (iOfL (lB gT2 jlmin (lB gT2 (· + ·) (lOfI (iLoc 0)) (lOfI (iLoc 1))) (lK 2000000000))))
theorem kX10_addRows (g : GT) : MK g 1 yX10_addRows cX10_addRows 2 (some .int) mX10_addRows := MK.of (pcN := 99999) (pcB := 0) (pcC := 0) rfl (Sok.retI (pc1 := 12) (EokI.l2i (pc1 := 11) (EokL.lmin (pc1 := 5) (pc2 := 8) (EokL.bin (pc1 := 2) (pc2 := 4) (EokL.i2l (pc1 := 1) (EokI.iload_n (q := 0) dX10_addRows_0) dX10_addRows_1) (EokL.i2l (pc1 := 3) (EokI.iload_n (q := 1) dX10_addRows_2) dX10_addRows_3) (OPL.ladd dX10_addRows_4)) (EokL.ldc2 (v := 2000000000) ckX10_124 dX10_addRows_5) mlX10_126 wst_lmin wini_math wco_lmin (by decide) dX10_addRows_8) dX10_addRows_11) (by decide) dX10_addRows_12 rfl)
/-! PassHuts$Walk.passRowsOn(I)V -/
theorem dX10_passRowsOn_0 : decode cX10_passRowsOn 0 = .ok (.aload_n 0, 1) := by decide +kernel
theorem dX10_passRowsOn_1 : decode cX10_passRowsOn 1 = .ok (.getfield 21, 3) := by decide +kernel
theorem dX10_passRowsOn_4 : decode cX10_passRowsOn 4 = .ok (.iload_n 1, 1) := by decide +kernel
theorem dX10_passRowsOn_5 : decode cX10_passRowsOn 5 = .ok (.invokevirtual 78, 3) := by decide +kernel
theorem dX10_passRowsOn_8 : decode cX10_passRowsOn 8 = .ok (.istore_n 2, 1) := by decide +kernel
theorem dX10_passRowsOn_9 : decode cX10_passRowsOn 9 = .ok (.aload_n 0, 1) := by decide +kernel
theorem dX10_passRowsOn_10 : decode cX10_passRowsOn 10 = .ok (.getfield 25, 3) := by decide +kernel
theorem dX10_passRowsOn_13 : decode cX10_passRowsOn 13 = .ok (.iload_n 2, 1) := by decide +kernel
theorem dX10_passRowsOn_14 : decode cX10_passRowsOn 14 = .ok (.invokevirtual 48, 3) := by decide +kernel
theorem dX10_passRowsOn_17 : decode cX10_passRowsOn 17 = .ok (.istore_n 3, 1) := by decide +kernel
theorem dX10_passRowsOn_18 : decode cX10_passRowsOn 18 = .ok (.iconst 0, 1) := by decide +kernel
theorem dX10_passRowsOn_19 : decode cX10_passRowsOn 19 = .ok (.istore 4, 2) := by decide +kernel
theorem dX10_passRowsOn_21 : decode cX10_passRowsOn 21 = .ok (.iload 4, 2) := by decide +kernel
theorem dX10_passRowsOn_23 : decode cX10_passRowsOn 23 = .ok (.aload_n 0, 1) := by decide +kernel
theorem dX10_passRowsOn_24 : decode cX10_passRowsOn 24 = .ok (.getfield 25, 3) := by decide +kernel
theorem dX10_passRowsOn_27 : decode cX10_passRowsOn 27 = .ok (.getfield 87, 3) := by decide +kernel
theorem dX10_passRowsOn_30 : decode cX10_passRowsOn 30 = .ok (.if_icmp .ge 67, 3) := by decide +kernel
theorem dX10_passRowsOn_33 : decode cX10_passRowsOn 33 = .ok (.aload_n 0, 1) := by decide +kernel
theorem dX10_passRowsOn_34 : decode cX10_passRowsOn 34 = .ok (.getfield 21, 3) := by decide +kernel
theorem dX10_passRowsOn_37 : decode cX10_passRowsOn 37 = .ok (.aload_n 0, 1) := by decide +kernel
theorem dX10_passRowsOn_38 : decode cX10_passRowsOn 38 = .ok (.getfield 25, 3) := by decide +kernel
theorem dX10_passRowsOn_41 : decode cX10_passRowsOn 41 = .ok (.iload_n 2, 1) := by decide +kernel
theorem dX10_passRowsOn_42 : decode cX10_passRowsOn 42 = .ok (.iload_n 3, 1) := by decide +kernel
theorem dX10_passRowsOn_43 : decode cX10_passRowsOn 43 = .ok (.iload 4, 2) := by decide +kernel
theorem dX10_passRowsOn_45 : decode cX10_passRowsOn 45 = .ok (.invokevirtual 90, 3) := by decide +kernel
theorem dX10_passRowsOn_48 : decode cX10_passRowsOn 48 = .ok (.istore 5, 2) := by decide +kernel
theorem dX10_passRowsOn_50 : decode cX10_passRowsOn 50 = .ok (.iload 5, 2) := by decide +kernel
theorem dX10_passRowsOn_52 : decode cX10_passRowsOn 52 = .ok (.ifCond .lt 39, 3) := by decide +kernel
theorem dX10_passRowsOn_55 : decode cX10_passRowsOn 55 = .ok (.aload_n 0, 1) := by decide +kernel
theorem dX10_passRowsOn_56 : decode cX10_passRowsOn 56 = .ok (.iload 5, 2) := by decide +kernel
theorem dX10_passRowsOn_58 : decode cX10_passRowsOn 58 = .ok (.invokevirtual 81, 3) := by decide +kernel
theorem dX10_passRowsOn_61 : decode cX10_passRowsOn 61 = .ok (.aload_n 0, 1) := by decide +kernel
theorem dX10_passRowsOn_62 : decode cX10_passRowsOn 62 = .ok (.iload_n 1, 1) := by decide +kernel
theorem dX10_passRowsOn_63 : decode cX10_passRowsOn 63 = .ok (.invokevirtual 81, 3) := by decide +kernel
theorem dX10_passRowsOn_66 : decode cX10_passRowsOn 66 = .ok (.iconst 1, 1) := by decide +kernel
theorem dX10_passRowsOn_67 : decode cX10_passRowsOn 67 = .ok (.iadd, 1) := by decide +kernel
theorem dX10_passRowsOn_68 : decode cX10_passRowsOn 68 = .ok (.if_icmp .ne 23, 3) := by decide +kernel
theorem dX10_passRowsOn_71 : decode cX10_passRowsOn 71 = .ok (.aload_n 0, 1) := by decide +kernel
theorem dX10_passRowsOn_72 : decode cX10_passRowsOn 72 = .ok (.iload 5, 2) := by decide +kernel
theorem dX10_passRowsOn_74 : decode cX10_passRowsOn 74 = .ok (.aload_n 0, 1) := by decide +kernel
theorem dX10_passRowsOn_75 : decode cX10_passRowsOn 75 = .ok (.iload 5, 2) := by decide +kernel
theorem dX10_passRowsOn_77 : decode cX10_passRowsOn 77 = .ok (.invokevirtual 118, 3) := by decide +kernel
theorem dX10_passRowsOn_80 : decode cX10_passRowsOn 80 = .ok (.aload_n 0, 1) := by decide +kernel
theorem dX10_passRowsOn_81 : decode cX10_passRowsOn 81 = .ok (.iload_n 1, 1) := by decide +kernel
theorem dX10_passRowsOn_82 : decode cX10_passRowsOn 82 = .ok (.invokevirtual 118, 3) := by decide +kernel
theorem dX10_passRowsOn_85 : decode cX10_passRowsOn 85 = .ok (.invokestatic 121, 3) := by decide +kernel
theorem dX10_passRowsOn_88 : decode cX10_passRowsOn 88 = .ok (.invokevirtual 108, 3) := by decide +kernel
theorem dX10_passRowsOn_91 : decode cX10_passRowsOn 91 = .ok (.iinc 4 1, 3) := by decide +kernel
theorem dX10_passRowsOn_94 : decode cX10_passRowsOn 94 = .ok (.goto (-73), 3) := by decide +kernel
theorem dX10_passRowsOn_97 : decode cX10_passRowsOn 97 = .ok (.return_, 1) := by decide +kernel
abbrev tX10_passRowsOn (k : Nat) : MT := (RX10, cX10_passRowsOn, 6, k, none)
def lX10_passRowsOn_1 : SX := (sLoop (cB rlt (iLoc 4) (iGet 0 4 (rGet 10 4 (rLoc 0)))) (sSeq (sSetI 5 (iCallV 2 mX2_numberBehind (aR (rGet 10 0 (rLoc 0)) (aR (rGet 10 4 (rLoc 0)) (aI (iLoc 2) (aI (iLoc 3) (aI (iLoc 4) aNil))))))) (sIf (cAnd (cZ zge (iLoc 5)) (cB req (iCallV 10 mX10_fewestOf (aR (rLoc 0) (aI (iLoc 5) aNil))) (iB gT2 (· + ·) (iCallV 10 mX10_fewestOf (aR (rLoc 0) (aI (iLoc 1) aNil))) (iK 1)))) (sCallV 10 mX10_setTally (aR (rLoc 0) (aI (iLoc 5) (aI (iCallS mX10_addRows (aI (iCallV 10 mX10_tallyOf (aR (rLoc 0) (aI (iLoc 5) aNil))) (aI (iCallV 10 mX10_tallyOf (aR (rLoc 0) (aI (iLoc 1) aNil))) aNil))) aNil)))) sSkip)) (sSeq (sForget 5) (sInc 4 1)))
theorem olX10_passRowsOn_1 (g : GT) {pcB pcC : Nat} : Sok g (tX10_passRowsOn 5) 21 97 pcB pcC (lX10_passRowsOn_1) := (Sok.loop (pc := 21) (pc1 := 33) (pc2 := 91) (pcN := 97) (Cok.cmp (pc1 := 23) (pc2 := 30) (pcT := 33) (pcF := 97) (EokI.iload (i := 4) dX10_passRowsOn_21) (EokI.getf (pc1 := 27) (j := 4) (ci := 0) (T := TX0) (N := 17) (EokR.getf (pc1 := 24) (j := 4) (ci := 10) (T := TX10) (N := 8) (EokR.aload_n (q := 0) dX10_passRowsOn_23) rfl wsX10_in (by decide) flX10_25 dX10_passRowsOn_24) rfl wsX0_in (by decide) flX10_87 dX10_passRowsOn_27) (JI.ltF (tgt := 97) dX10_passRowsOn_30 (by decide))) (by decide) (Sok.seq (pc1 := 50) (Sok.setI (i := 5) (pc1 := 48) (EokI.iCallV (pc1 := 45) (Aok.aR (pc1 := 37) (EokR.getf (pc1 := 34) (j := 0) (ci := 10) (T := TX10) (N := 8) (EokR.aload_n (q := 0) dX10_passRowsOn_33) rfl wsX10_in (by decide) flX10_21 dX10_passRowsOn_34) (Aok.aR (pc1 := 41) (EokR.getf (pc1 := 38) (j := 4) (ci := 10) (T := TX10) (N := 8) (EokR.aload_n (q := 0) dX10_passRowsOn_37) rfl wsX10_in (by decide) flX10_25 dX10_passRowsOn_38) (Aok.aI (pc1 := 42) (EokI.iload_n (q := 2) dX10_passRowsOn_41) (Aok.aI (pc1 := 43) (EokI.iload_n (q := 3) dX10_passRowsOn_42) (Aok.aI (pc1 := 45) (EokI.iload (i := 4) dX10_passRowsOn_43) Aok.nil))))) (kX2_numberBehind g) rfl ykX2_numberBehind vkX10_90 (by decide) (by decide) dX10_passRowsOn_45) (by decide) dX10_passRowsOn_48 (show 5 < 6 by decide)) (Sok.ite (pc1 := 71) (pc2 := 91) (Cok.and (pc1 := 55) (Cok.zero (pc1 := 52) (pcT := 55) (pcF := 91) (EokI.iload (i := 5) dX10_passRowsOn_50) (JZ.geF (tgt := 91) dX10_passRowsOn_52 (by decide))) (Cok.cmp (pc1 := 61) (pc2 := 68) (pcT := 71) (pcF := 91) (EokI.iCallV (pc1 := 58) (Aok.aR (pc1 := 56) (EokR.aload_n (q := 0) dX10_passRowsOn_55) (Aok.aI (pc1 := 58) (EokI.iload (i := 5) dX10_passRowsOn_56) Aok.nil)) (kX10_fewestOf g) rfl ykX10_fewestOf vkX10_81 (by decide) (by decide) dX10_passRowsOn_58) (EokI.bin (pc1 := 66) (pc2 := 67) (EokI.iCallV (pc1 := 63) (Aok.aR (pc1 := 62) (EokR.aload_n (q := 0) dX10_passRowsOn_61) (Aok.aI (pc1 := 63) (EokI.iload_n (q := 1) dX10_passRowsOn_62) Aok.nil)) (kX10_fewestOf g) rfl ykX10_fewestOf vkX10_81 (by decide) (by decide) dX10_passRowsOn_63) (EokI.iconst (v := 1) dX10_passRowsOn_66 (by decide)) (OPI.iadd dX10_passRowsOn_67)) (JI.eqF (tgt := 91) dX10_passRowsOn_68 (by decide)))) (by decide) (Sok.sCallV (pc1 := 88) (Aok.aR (pc1 := 72) (EokR.aload_n (q := 0) dX10_passRowsOn_71) (Aok.aI (pc1 := 74) (EokI.iload (i := 5) dX10_passRowsOn_72) (Aok.aI (pc1 := 88) (EokI.iCallS (pc1 := 85) (Aok.aI (pc1 := 80) (EokI.iCallV (pc1 := 77) (Aok.aR (pc1 := 75) (EokR.aload_n (q := 0) dX10_passRowsOn_74) (Aok.aI (pc1 := 77) (EokI.iload (i := 5) dX10_passRowsOn_75) Aok.nil)) (kX10_tallyOf g) rfl ykX10_tallyOf vkX10_118 (by decide) (by decide) dX10_passRowsOn_77) (Aok.aI (pc1 := 85) (EokI.iCallV (pc1 := 82) (Aok.aR (pc1 := 81) (EokR.aload_n (q := 0) dX10_passRowsOn_80) (Aok.aI (pc1 := 82) (EokI.iload_n (q := 1) dX10_passRowsOn_81) Aok.nil)) (kX10_tallyOf g) rfl ykX10_tallyOf vkX10_118 (by decide) (by decide) dX10_passRowsOn_82) Aok.nil)) (kX10_addRows g) ykX10_addRows skX10_121 (by decide) (by decide) dX10_passRowsOn_85) Aok.nil))) (by decide) (kX10_setTally g) rfl ykX10_setTally vkX10_108 (by decide) (by decide) dX10_passRowsOn_88) (Sok.skip (pc := 91)))) (Sok.seq (pc1 := 91) Sok.forget (Sok.goto (pc1 := 94) (pcN := 21) (Sok.iinc (i := 4) (v := 1) dX10_passRowsOn_91 (show 4 < 6 by decide) (by decide)) dX10_passRowsOn_94 (by decide))))
def mX10_passRowsOn : MX := bodyOf 6 (sSeq (sSeq (sSetI 2 (iCallV 2 mX2_lyingAt (aR (rGet 10 0 (rLoc 0)) (aI (iLoc 1) aNil)))) (sSeq (sSetI 3 (iCallV 0 mX0_sumOf (aR (rGet 10 4 (rLoc 0)) (aI (iLoc 2) aNil)))) (sSeq (sSeq (sSetI 4 (iK 0)) lX10_passRowsOn_1) (sForget 4)))) sRetV)
theorem kX10_passRowsOn (g : GT) : MK g 5 yX10_passRowsOn cX10_passRowsOn 6 none mX10_passRowsOn := MK.of (pcN := 99999) (pcB := 0) (pcC := 0) rfl (Sok.seq (pc1 := 97) (Sok.seq (pc1 := 9) (Sok.setI_n (q := 2) (pc1 := 8) (EokI.iCallV (pc1 := 5) (Aok.aR (pc1 := 4) (EokR.getf (pc1 := 1) (j := 0) (ci := 10) (T := TX10) (N := 8) (EokR.aload_n (q := 0) dX10_passRowsOn_0) rfl wsX10_in (by decide) flX10_21 dX10_passRowsOn_1) (Aok.aI (pc1 := 5) (EokI.iload_n (q := 1) dX10_passRowsOn_4) Aok.nil)) (kX2_lyingAt g) rfl ykX2_lyingAt vkX10_78 (by decide) (by decide) dX10_passRowsOn_5) (by decide) dX10_passRowsOn_8 (show 2 < 6 by decide)) (Sok.seq (pc1 := 18) (Sok.setI_n (q := 3) (pc1 := 17) (EokI.iCallV (pc1 := 14) (Aok.aR (pc1 := 13) (EokR.getf (pc1 := 10) (j := 4) (ci := 10) (T := TX10) (N := 8) (EokR.aload_n (q := 0) dX10_passRowsOn_9) rfl wsX10_in (by decide) flX10_25 dX10_passRowsOn_10) (Aok.aI (pc1 := 14) (EokI.iload_n (q := 2) dX10_passRowsOn_13) Aok.nil)) (kX0_sumOf g) rfl ykX0_sumOf vkX10_48 (by decide) (by decide) dX10_passRowsOn_14) (by decide) dX10_passRowsOn_17 (show 3 < 6 by decide)) (Sok.seq (pc1 := 97) (Sok.seq (pc1 := 21) (Sok.setI (i := 4) (pc1 := 19) (EokI.iconst (v := 0) dX10_passRowsOn_18 (by decide)) (by decide) dX10_passRowsOn_19 (show 4 < 6 by decide)) (olX10_passRowsOn_1 g )) (Sok.forget (pc := 97))))) (Sok.retV dX10_passRowsOn_97 rfl))
/-! PassHuts$Walk.countRows(II)I -/
theorem dX10_countRows_0 : decode cX10_countRows 0 = .ok (.aload_n 0, 1) := by decide +kernel
theorem dX10_countRows_1 : decode cX10_countRows 1 = .ok (.invokevirtual 111, 3) := by decide +kernel
theorem dX10_countRows_4 : decode cX10_countRows 4 = .ok (.iconst 0, 1) := by decide +kernel
theorem dX10_countRows_5 : decode cX10_countRows 5 = .ok (.istore_n 3, 1) := by decide +kernel
theorem dX10_countRows_6 : decode cX10_countRows 6 = .ok (.iconst 0, 1) := by decide +kernel
theorem dX10_countRows_7 : decode cX10_countRows 7 = .ok (.istore 4, 2) := by decide +kernel
theorem dX10_countRows_9 : decode cX10_countRows 9 = .ok (.iload 4, 2) := by decide +kernel
theorem dX10_countRows_11 : decode cX10_countRows 11 = .ok (.aload_n 0, 1) := by decide +kernel
theorem dX10_countRows_12 : decode cX10_countRows 12 = .ok (.getfield 37, 3) := by decide +kernel
theorem dX10_countRows_15 : decode cX10_countRows 15 = .ok (.if_icmp .ge 77, 3) := by decide +kernel
theorem dX10_countRows_18 : decode cX10_countRows 18 = .ok (.aload_n 0, 1) := by decide +kernel
theorem dX10_countRows_19 : decode cX10_countRows 19 = .ok (.iload 4, 2) := by decide +kernel
theorem dX10_countRows_21 : decode cX10_countRows 21 = .ok (.invokevirtual 40, 3) := by decide +kernel
theorem dX10_countRows_24 : decode cX10_countRows 24 = .ok (.istore 5, 2) := by decide +kernel
theorem dX10_countRows_26 : decode cX10_countRows 26 = .ok (.aload_n 0, 1) := by decide +kernel
theorem dX10_countRows_27 : decode cX10_countRows 27 = .ok (.iload 5, 2) := by decide +kernel
theorem dX10_countRows_29 : decode cX10_countRows 29 = .ok (.invokevirtual 81, 3) := by decide +kernel
theorem dX10_countRows_32 : decode cX10_countRows 32 = .ok (.iload_n 2, 1) := by decide +kernel
theorem dX10_countRows_33 : decode cX10_countRows 33 = .ok (.if_icmp .ge 12, 3) := by decide +kernel
theorem dX10_countRows_36 : decode cX10_countRows 36 = .ok (.aload_n 0, 1) := by decide +kernel
theorem dX10_countRows_37 : decode cX10_countRows 37 = .ok (.iload 5, 2) := by decide +kernel
theorem dX10_countRows_39 : decode cX10_countRows 39 = .ok (.invokevirtual 114, 3) := by decide +kernel
theorem dX10_countRows_42 : decode cX10_countRows 42 = .ok (.goto 44, 3) := by decide +kernel
theorem dX10_countRows_45 : decode cX10_countRows 45 = .ok (.aload_n 0, 1) := by decide +kernel
theorem dX10_countRows_46 : decode cX10_countRows 46 = .ok (.iload 5, 2) := by decide +kernel
theorem dX10_countRows_48 : decode cX10_countRows 48 = .ok (.invokevirtual 81, 3) := by decide +kernel
theorem dX10_countRows_51 : decode cX10_countRows 51 = .ok (.iload_n 2, 1) := by decide +kernel
theorem dX10_countRows_52 : decode cX10_countRows 52 = .ok (.if_icmp .ne 34, 3) := by decide +kernel
theorem dX10_countRows_55 : decode cX10_countRows 55 = .ok (.aload_n 0, 1) := by decide +kernel
theorem dX10_countRows_56 : decode cX10_countRows 56 = .ok (.getfield 25, 3) := by decide +kernel
theorem dX10_countRows_59 : decode cX10_countRows 59 = .ok (.aload_n 0, 1) := by decide +kernel
theorem dX10_countRows_60 : decode cX10_countRows 60 = .ok (.getfield 21, 3) := by decide +kernel
theorem dX10_countRows_63 : decode cX10_countRows 63 = .ok (.iload 5, 2) := by decide +kernel
theorem dX10_countRows_65 : decode cX10_countRows 65 = .ok (.invokevirtual 78, 3) := by decide +kernel
theorem dX10_countRows_68 : decode cX10_countRows 68 = .ok (.iload_n 1, 1) := by decide +kernel
theorem dX10_countRows_69 : decode cX10_countRows 69 = .ok (.invokevirtual 102, 3) := by decide +kernel
theorem dX10_countRows_72 : decode cX10_countRows 72 = .ok (.ifCond .le 14, 3) := by decide +kernel
theorem dX10_countRows_75 : decode cX10_countRows 75 = .ok (.iload_n 3, 1) := by decide +kernel
theorem dX10_countRows_76 : decode cX10_countRows 76 = .ok (.aload_n 0, 1) := by decide +kernel
theorem dX10_countRows_77 : decode cX10_countRows 77 = .ok (.iload 5, 2) := by decide +kernel
theorem dX10_countRows_79 : decode cX10_countRows 79 = .ok (.invokevirtual 118, 3) := by decide +kernel
theorem dX10_countRows_82 : decode cX10_countRows 82 = .ok (.invokestatic 121, 3) := by decide +kernel
theorem dX10_countRows_85 : decode cX10_countRows 85 = .ok (.istore_n 3, 1) := by decide +kernel
theorem dX10_countRows_86 : decode cX10_countRows 86 = .ok (.iinc 4 1, 3) := by decide +kernel
theorem dX10_countRows_89 : decode cX10_countRows 89 = .ok (.goto (-80), 3) := by decide +kernel
theorem dX10_countRows_92 : decode cX10_countRows 92 = .ok (.iload_n 3, 1) := by decide +kernel
theorem dX10_countRows_93 : decode cX10_countRows 93 = .ok (.ireturn, 1) := by decide +kernel
abbrev tX10_countRows (k : Nat) : MT := (RX10, cX10_countRows, 6, k, (some .int))
def lX10_countRows_1 : SX := (sLoop (cB rlt (iLoc 4) (iGet 10 5 (rLoc 0))) (sSeq (sSetI 5 (iCallV 10 mX10_numberAt (aR (rLoc 0) (aI (iLoc 4) aNil)))) (sIf (cB rlt (iCallV 10 mX10_fewestOf (aR (rLoc 0) (aI (iLoc 5) aNil))) (iLoc 2)) (sCallV 10 mX10_passRowsOn (aR (rLoc 0) (aI (iLoc 5) aNil))) (sIf (cAnd (cB req (iCallV 10 mX10_fewestOf (aR (rLoc 0) (aI (iLoc 5) aNil))) (iLoc 2)) (cZ zgt (iCallV 0 mX0_loadsIn (aR (rGet 10 4 (rLoc 0)) (aI (iCallV 2 mX2_lyingAt (aR (rGet 10 0 (rLoc 0)) (aI (iLoc 5) aNil))) (aI (iLoc 1) aNil)))))) (sSetI 3 (iCallS mX10_addRows (aI (iLoc 3) (aI (iCallV 10 mX10_tallyOf (aR (rLoc 0) (aI (iLoc 5) aNil))) aNil)))) sSkip))) (sSeq (sForget 5) (sInc 4 1)))
theorem olX10_countRows_1 (g : GT) {pcB pcC : Nat} : Sok g (tX10_countRows 6) 9 92 pcB pcC (lX10_countRows_1) := (Sok.loop (pc := 9) (pc1 := 18) (pc2 := 86) (pcN := 92) (Cok.cmp (pc1 := 11) (pc2 := 15) (pcT := 18) (pcF := 92) (EokI.iload (i := 4) dX10_countRows_9) (EokI.getf (pc1 := 12) (j := 5) (ci := 10) (T := TX10) (N := 8) (EokR.aload_n (q := 0) dX10_countRows_11) rfl wsX10_in (by decide) flX10_37 dX10_countRows_12) (JI.ltF (tgt := 92) dX10_countRows_15 (by decide))) (by decide) (Sok.seq (pc1 := 26) (Sok.setI (i := 5) (pc1 := 24) (EokI.iCallV (pc1 := 21) (Aok.aR (pc1 := 19) (EokR.aload_n (q := 0) dX10_countRows_18) (Aok.aI (pc1 := 21) (EokI.iload (i := 4) dX10_countRows_19) Aok.nil)) (kX10_numberAt g) rfl ykX10_numberAt vkX10_40 (by decide) (by decide) dX10_countRows_21) (by decide) dX10_countRows_24 (show 5 < 6 by decide)) (Sok.ite (pc1 := 36) (pc2 := 45) (Cok.cmp (pc1 := 32) (pc2 := 33) (pcT := 36) (pcF := 45) (EokI.iCallV (pc1 := 29) (Aok.aR (pc1 := 27) (EokR.aload_n (q := 0) dX10_countRows_26) (Aok.aI (pc1 := 29) (EokI.iload (i := 5) dX10_countRows_27) Aok.nil)) (kX10_fewestOf g) rfl ykX10_fewestOf vkX10_81 (by decide) (by decide) dX10_countRows_29) (EokI.iload_n (q := 2) dX10_countRows_32) (JI.ltF (tgt := 45) dX10_countRows_33 (by decide))) (by decide) (Sok.goto (pc1 := 42) (pcN := 86) (Sok.sCallV (pc1 := 39) (Aok.aR (pc1 := 37) (EokR.aload_n (q := 0) dX10_countRows_36) (Aok.aI (pc1 := 39) (EokI.iload (i := 5) dX10_countRows_37) Aok.nil)) (by decide) (kX10_passRowsOn g) rfl ykX10_passRowsOn vkX10_114 (by decide) (by decide) dX10_countRows_39) dX10_countRows_42 (by decide)) (Sok.ite (pc1 := 75) (pc2 := 86) (Cok.and (pc1 := 55) (Cok.cmp (pc1 := 51) (pc2 := 52) (pcT := 55) (pcF := 86) (EokI.iCallV (pc1 := 48) (Aok.aR (pc1 := 46) (EokR.aload_n (q := 0) dX10_countRows_45) (Aok.aI (pc1 := 48) (EokI.iload (i := 5) dX10_countRows_46) Aok.nil)) (kX10_fewestOf g) rfl ykX10_fewestOf vkX10_81 (by decide) (by decide) dX10_countRows_48) (EokI.iload_n (q := 2) dX10_countRows_51) (JI.eqF (tgt := 86) dX10_countRows_52 (by decide))) (Cok.zero (pc1 := 72) (pcT := 75) (pcF := 86) (EokI.iCallV (pc1 := 69) (Aok.aR (pc1 := 59) (EokR.getf (pc1 := 56) (j := 4) (ci := 10) (T := TX10) (N := 8) (EokR.aload_n (q := 0) dX10_countRows_55) rfl wsX10_in (by decide) flX10_25 dX10_countRows_56) (Aok.aI (pc1 := 68) (EokI.iCallV (pc1 := 65) (Aok.aR (pc1 := 63) (EokR.getf (pc1 := 60) (j := 0) (ci := 10) (T := TX10) (N := 8) (EokR.aload_n (q := 0) dX10_countRows_59) rfl wsX10_in (by decide) flX10_21 dX10_countRows_60) (Aok.aI (pc1 := 65) (EokI.iload (i := 5) dX10_countRows_63) Aok.nil)) (kX2_lyingAt g) rfl ykX2_lyingAt vkX10_78 (by decide) (by decide) dX10_countRows_65) (Aok.aI (pc1 := 69) (EokI.iload_n (q := 1) dX10_countRows_68) Aok.nil))) (kX0_loadsIn g) rfl ykX0_loadsIn vkX10_102 (by decide) (by decide) dX10_countRows_69) (JZ.gtF (tgt := 86) dX10_countRows_72 (by decide)))) (by decide) (Sok.setI_n (q := 3) (pc1 := 85) (EokI.iCallS (pc1 := 82) (Aok.aI (pc1 := 76) (EokI.iload_n (q := 3) dX10_countRows_75) (Aok.aI (pc1 := 82) (EokI.iCallV (pc1 := 79) (Aok.aR (pc1 := 77) (EokR.aload_n (q := 0) dX10_countRows_76) (Aok.aI (pc1 := 79) (EokI.iload (i := 5) dX10_countRows_77) Aok.nil)) (kX10_tallyOf g) rfl ykX10_tallyOf vkX10_118 (by decide) (by decide) dX10_countRows_79) Aok.nil)) (kX10_addRows g) ykX10_addRows skX10_121 (by decide) (by decide) dX10_countRows_82) (by decide) dX10_countRows_85 (show 3 < 6 by decide)) (Sok.skip (pc := 86))))) (Sok.seq (pc1 := 86) Sok.forget (Sok.goto (pc1 := 89) (pcN := 9) (Sok.iinc (i := 4) (v := 1) dX10_countRows_86 (show 4 < 6 by decide) (by decide)) dX10_countRows_89 (by decide))))
def mX10_countRows : MX := bodyOf 6 (sSeq (sCallV 10 mX10_clearTally (aR (rLoc 0) aNil)) (sSeq (sSetI 3 (iK 0)) (sSeq (sSeq (sSeq (sSetI 4 (iK 0)) lX10_countRows_1) (sForget 4)) (sRetI (iLoc 3)))))
theorem kX10_countRows (g : GT) : MK g 6 yX10_countRows cX10_countRows 6 (some .int) mX10_countRows := MK.of (pcN := 99999) (pcB := 0) (pcC := 0) rfl (Sok.seq (pc1 := 4) (Sok.sCallV (pc1 := 1) (Aok.aR (pc1 := 1) (EokR.aload_n (q := 0) dX10_countRows_0) Aok.nil) (by decide) (kX10_clearTally g) rfl ykX10_clearTally vkX10_111 (by decide) (by decide) dX10_countRows_1) (Sok.seq (pc1 := 6) (Sok.setI_n (q := 3) (pc1 := 5) (EokI.iconst (v := 0) dX10_countRows_4 (by decide)) (by decide) dX10_countRows_5 (show 3 < 6 by decide)) (Sok.seq (pc1 := 92) (Sok.seq (pc1 := 92) (Sok.seq (pc1 := 9) (Sok.setI (i := 4) (pc1 := 7) (EokI.iconst (v := 0) dX10_countRows_6 (by decide)) (by decide) dX10_countRows_7 (show 4 < 6 by decide)) (olX10_countRows_1 g )) (Sok.forget (pc := 92))) (Sok.retI (pc1 := 93) (EokI.iload_n (q := 3) dX10_countRows_92) (by decide) dX10_countRows_93 rfl))))
/-! PassHuts$Walk.mostTogether(I)I -/
theorem dX10_mostTogether_0 : decode cX10_mostTogether 0 = .ok (.iconst 0, 1) := by decide +kernel
theorem dX10_mostTogether_1 : decode cX10_mostTogether 1 = .ok (.istore_n 2, 1) := by decide +kernel
theorem dX10_mostTogether_2 : decode cX10_mostTogether 2 = .ok (.iload_n 2, 1) := by decide +kernel
theorem dX10_mostTogether_3 : decode cX10_mostTogether 3 = .ok (.aload_n 0, 1) := by decide +kernel
theorem dX10_mostTogether_4 : decode cX10_mostTogether 4 = .ok (.getfield 37, 3) := by decide +kernel
theorem dX10_mostTogether_7 : decode cX10_mostTogether 7 = .ok (.if_icmp .ge 43, 3) := by decide +kernel
theorem dX10_mostTogether_10 : decode cX10_mostTogether 10 = .ok (.aload_n 0, 1) := by decide +kernel
theorem dX10_mostTogether_11 : decode cX10_mostTogether 11 = .ok (.getfield 21, 3) := by decide +kernel
theorem dX10_mostTogether_14 : decode cX10_mostTogether 14 = .ok (.aload_n 0, 1) := by decide +kernel
theorem dX10_mostTogether_15 : decode cX10_mostTogether 15 = .ok (.iload_n 2, 1) := by decide +kernel
theorem dX10_mostTogether_16 : decode cX10_mostTogether 16 = .ok (.invokevirtual 40, 3) := by decide +kernel
theorem dX10_mostTogether_19 : decode cX10_mostTogether 19 = .ok (.invokevirtual 78, 3) := by decide +kernel
theorem dX10_mostTogether_22 : decode cX10_mostTogether 22 = .ok (.istore_n 3, 1) := by decide +kernel
theorem dX10_mostTogether_23 : decode cX10_mostTogether 23 = .ok (.aload_n 0, 1) := by decide +kernel
theorem dX10_mostTogether_24 : decode cX10_mostTogether 24 = .ok (.getfield 25, 3) := by decide +kernel
theorem dX10_mostTogether_27 : decode cX10_mostTogether 27 = .ok (.iload_n 3, 1) := by decide +kernel
theorem dX10_mostTogether_28 : decode cX10_mostTogether 28 = .ok (.iload_n 1, 1) := by decide +kernel
theorem dX10_mostTogether_29 : decode cX10_mostTogether 29 = .ok (.invokevirtual 102, 3) := by decide +kernel
theorem dX10_mostTogether_32 : decode cX10_mostTogether 32 = .ok (.ifCond .le 12, 3) := by decide +kernel
theorem dX10_mostTogether_35 : decode cX10_mostTogether 35 = .ok (.aload_n 0, 1) := by decide +kernel
theorem dX10_mostTogether_36 : decode cX10_mostTogether 36 = .ok (.getfield 25, 3) := by decide +kernel
theorem dX10_mostTogether_39 : decode cX10_mostTogether 39 = .ok (.iload_n 3, 1) := by decide +kernel
theorem dX10_mostTogether_40 : decode cX10_mostTogether 40 = .ok (.invokevirtual 48, 3) := by decide +kernel
theorem dX10_mostTogether_43 : decode cX10_mostTogether 43 = .ok (.ireturn, 1) := by decide +kernel
theorem dX10_mostTogether_44 : decode cX10_mostTogether 44 = .ok (.iinc 2 1, 3) := by decide +kernel
theorem dX10_mostTogether_47 : decode cX10_mostTogether 47 = .ok (.goto (-45), 3) := by decide +kernel
theorem dX10_mostTogether_50 : decode cX10_mostTogether 50 = .ok (.iconst (-1), 1) := by decide +kernel
theorem dX10_mostTogether_51 : decode cX10_mostTogether 51 = .ok (.ireturn, 1) := by decide +kernel
abbrev tX10_mostTogether (k : Nat) : MT := (RX10, cX10_mostTogether, 4, k, (some .int))
def lX10_mostTogether_1 : SX := (sLoop (cB rlt (iLoc 2) (iGet 10 5 (rLoc 0))) (sSeq (sSetI 3 (iCallV 2 mX2_lyingAt (aR (rGet 10 0 (rLoc 0)) (aI (iCallV 10 mX10_numberAt (aR (rLoc 0) (aI (iLoc 2) aNil))) aNil)))) (sIf (cZ zgt (iCallV 0 mX0_loadsIn (aR (rGet 10 4 (rLoc 0)) (aI (iLoc 3) (aI (iLoc 1) aNil))))) (sRetI (iCallV 0 mX0_sumOf (aR (rGet 10 4 (rLoc 0)) (aI (iLoc 3) aNil)))) sSkip)) (sSeq (sForget 3) (sInc 2 1)))
theorem olX10_mostTogether_1 (g : GT) {pcB pcC : Nat} : Sok g (tX10_mostTogether 3) 2 50 pcB pcC (lX10_mostTogether_1) := (Sok.loop (pc := 2) (pc1 := 10) (pc2 := 44) (pcN := 50) (Cok.cmp (pc1 := 3) (pc2 := 7) (pcT := 10) (pcF := 50) (EokI.iload_n (q := 2) dX10_mostTogether_2) (EokI.getf (pc1 := 4) (j := 5) (ci := 10) (T := TX10) (N := 8) (EokR.aload_n (q := 0) dX10_mostTogether_3) rfl wsX10_in (by decide) flX10_37 dX10_mostTogether_4) (JI.ltF (tgt := 50) dX10_mostTogether_7 (by decide))) (by decide) (Sok.seq (pc1 := 23) (Sok.setI_n (q := 3) (pc1 := 22) (EokI.iCallV (pc1 := 19) (Aok.aR (pc1 := 14) (EokR.getf (pc1 := 11) (j := 0) (ci := 10) (T := TX10) (N := 8) (EokR.aload_n (q := 0) dX10_mostTogether_10) rfl wsX10_in (by decide) flX10_21 dX10_mostTogether_11) (Aok.aI (pc1 := 19) (EokI.iCallV (pc1 := 16) (Aok.aR (pc1 := 15) (EokR.aload_n (q := 0) dX10_mostTogether_14) (Aok.aI (pc1 := 16) (EokI.iload_n (q := 2) dX10_mostTogether_15) Aok.nil)) (kX10_numberAt g) rfl ykX10_numberAt vkX10_40 (by decide) (by decide) dX10_mostTogether_16) Aok.nil)) (kX2_lyingAt g) rfl ykX2_lyingAt vkX10_78 (by decide) (by decide) dX10_mostTogether_19) (by decide) dX10_mostTogether_22 (show 3 < 4 by decide)) (Sok.ite (pc1 := 35) (pc2 := 44) (Cok.zero (pc1 := 32) (pcT := 35) (pcF := 44) (EokI.iCallV (pc1 := 29) (Aok.aR (pc1 := 27) (EokR.getf (pc1 := 24) (j := 4) (ci := 10) (T := TX10) (N := 8) (EokR.aload_n (q := 0) dX10_mostTogether_23) rfl wsX10_in (by decide) flX10_25 dX10_mostTogether_24) (Aok.aI (pc1 := 28) (EokI.iload_n (q := 3) dX10_mostTogether_27) (Aok.aI (pc1 := 29) (EokI.iload_n (q := 1) dX10_mostTogether_28) Aok.nil))) (kX0_loadsIn g) rfl ykX0_loadsIn vkX10_102 (by decide) (by decide) dX10_mostTogether_29) (JZ.gtF (tgt := 44) dX10_mostTogether_32 (by decide))) (by decide) (Sok.retI (pc1 := 43) (EokI.iCallV (pc1 := 40) (Aok.aR (pc1 := 39) (EokR.getf (pc1 := 36) (j := 4) (ci := 10) (T := TX10) (N := 8) (EokR.aload_n (q := 0) dX10_mostTogether_35) rfl wsX10_in (by decide) flX10_25 dX10_mostTogether_36) (Aok.aI (pc1 := 40) (EokI.iload_n (q := 3) dX10_mostTogether_39) Aok.nil)) (kX0_sumOf g) rfl ykX0_sumOf vkX10_48 (by decide) (by decide) dX10_mostTogether_40) (by decide) dX10_mostTogether_43 rfl) (Sok.skip (pc := 44)))) (Sok.seq (pc1 := 44) Sok.forget (Sok.goto (pc1 := 47) (pcN := 2) (Sok.iinc (i := 2) (v := 1) dX10_mostTogether_44 (show 2 < 4 by decide) (by decide)) dX10_mostTogether_47 (by decide))))
def mX10_mostTogether : MX := bodyOf 4 (sSeq (sSeq (sSeq (sSetI 2 (iK 0)) lX10_mostTogether_1) (sForget 2)) (sRetI (iK (-1))))
theorem kX10_mostTogether (g : GT) : MK g 3 yX10_mostTogether cX10_mostTogether 4 (some .int) mX10_mostTogether := MK.of (pcN := 99999) (pcB := 0) (pcC := 0) rfl (Sok.seq (pc1 := 50) (Sok.seq (pc1 := 50) (Sok.seq (pc1 := 2) (Sok.setI_n (q := 2) (pc1 := 1) (EokI.iconst (v := 0) dX10_mostTogether_0 (by decide)) (by decide) dX10_mostTogether_1 (show 2 < 4 by decide)) (olX10_mostTogether_1 g )) (Sok.forget (pc := 50))) (Sok.retI (pc1 := 51) (EokI.iconst (v := (-1)) dX10_mostTogether_50 (by decide)) (by decide) dX10_mostTogether_51 rfl))
/-! PassHuts$Walk.fewestToHave(I)I -/
theorem dX10_fewestToHave_0 : decode cX10_fewestToHave 0 = .ok (.iconst (-1), 1) := by decide +kernel
theorem dX10_fewestToHave_1 : decode cX10_fewestToHave 1 = .ok (.istore_n 2, 1) := by decide +kernel
theorem dX10_fewestToHave_2 : decode cX10_fewestToHave 2 = .ok (.iconst 0, 1) := by decide +kernel
theorem dX10_fewestToHave_3 : decode cX10_fewestToHave 3 = .ok (.istore_n 3, 1) := by decide +kernel
theorem dX10_fewestToHave_4 : decode cX10_fewestToHave 4 = .ok (.iload_n 3, 1) := by decide +kernel
theorem dX10_fewestToHave_5 : decode cX10_fewestToHave 5 = .ok (.aload_n 0, 1) := by decide +kernel
theorem dX10_fewestToHave_6 : decode cX10_fewestToHave 6 = .ok (.getfield 37, 3) := by decide +kernel
theorem dX10_fewestToHave_9 : decode cX10_fewestToHave 9 = .ok (.if_icmp .ge 73, 3) := by decide +kernel
theorem dX10_fewestToHave_12 : decode cX10_fewestToHave 12 = .ok (.aload_n 0, 1) := by decide +kernel
theorem dX10_fewestToHave_13 : decode cX10_fewestToHave 13 = .ok (.getfield 25, 3) := by decide +kernel
theorem dX10_fewestToHave_16 : decode cX10_fewestToHave 16 = .ok (.aload_n 0, 1) := by decide +kernel
theorem dX10_fewestToHave_17 : decode cX10_fewestToHave 17 = .ok (.getfield 21, 3) := by decide +kernel
theorem dX10_fewestToHave_20 : decode cX10_fewestToHave 20 = .ok (.aload_n 0, 1) := by decide +kernel
theorem dX10_fewestToHave_21 : decode cX10_fewestToHave 21 = .ok (.iload_n 3, 1) := by decide +kernel
theorem dX10_fewestToHave_22 : decode cX10_fewestToHave 22 = .ok (.invokevirtual 40, 3) := by decide +kernel
theorem dX10_fewestToHave_25 : decode cX10_fewestToHave 25 = .ok (.invokevirtual 78, 3) := by decide +kernel
theorem dX10_fewestToHave_28 : decode cX10_fewestToHave 28 = .ok (.invokevirtual 105, 3) := by decide +kernel
theorem dX10_fewestToHave_31 : decode cX10_fewestToHave 31 = .ok (.iload_n 1, 1) := by decide +kernel
theorem dX10_fewestToHave_32 : decode cX10_fewestToHave 32 = .ok (.iand, 1) := by decide +kernel
theorem dX10_fewestToHave_33 : decode cX10_fewestToHave 33 = .ok (.iload_n 1, 1) := by decide +kernel
theorem dX10_fewestToHave_34 : decode cX10_fewestToHave 34 = .ok (.if_icmp .ne 7, 3) := by decide +kernel
theorem dX10_fewestToHave_37 : decode cX10_fewestToHave 37 = .ok (.iconst 1, 1) := by decide +kernel
theorem dX10_fewestToHave_38 : decode cX10_fewestToHave 38 = .ok (.goto 4, 3) := by decide +kernel
theorem dX10_fewestToHave_41 : decode cX10_fewestToHave 41 = .ok (.iconst 0, 1) := by decide +kernel
theorem dX10_fewestToHave_42 : decode cX10_fewestToHave 42 = .ok (.istore 4, 2) := by decide +kernel
theorem dX10_fewestToHave_44 : decode cX10_fewestToHave 44 = .ok (.iload 4, 2) := by decide +kernel
theorem dX10_fewestToHave_46 : decode cX10_fewestToHave 46 = .ok (.ifCond .eq 30, 3) := by decide +kernel
theorem dX10_fewestToHave_49 : decode cX10_fewestToHave 49 = .ok (.iload_n 2, 1) := by decide +kernel
theorem dX10_fewestToHave_50 : decode cX10_fewestToHave 50 = .ok (.ifCond .lt 16, 3) := by decide +kernel
theorem dX10_fewestToHave_53 : decode cX10_fewestToHave 53 = .ok (.aload_n 0, 1) := by decide +kernel
theorem dX10_fewestToHave_54 : decode cX10_fewestToHave 54 = .ok (.aload_n 0, 1) := by decide +kernel
theorem dX10_fewestToHave_55 : decode cX10_fewestToHave 55 = .ok (.iload_n 3, 1) := by decide +kernel
theorem dX10_fewestToHave_56 : decode cX10_fewestToHave 56 = .ok (.invokevirtual 40, 3) := by decide +kernel
theorem dX10_fewestToHave_59 : decode cX10_fewestToHave 59 = .ok (.invokevirtual 81, 3) := by decide +kernel
theorem dX10_fewestToHave_62 : decode cX10_fewestToHave 62 = .ok (.iload_n 2, 1) := by decide +kernel
theorem dX10_fewestToHave_63 : decode cX10_fewestToHave 63 = .ok (.if_icmp .ge 13, 3) := by decide +kernel
theorem dX10_fewestToHave_66 : decode cX10_fewestToHave 66 = .ok (.aload_n 0, 1) := by decide +kernel
theorem dX10_fewestToHave_67 : decode cX10_fewestToHave 67 = .ok (.aload_n 0, 1) := by decide +kernel
theorem dX10_fewestToHave_68 : decode cX10_fewestToHave 68 = .ok (.iload_n 3, 1) := by decide +kernel
theorem dX10_fewestToHave_69 : decode cX10_fewestToHave 69 = .ok (.invokevirtual 40, 3) := by decide +kernel
theorem dX10_fewestToHave_72 : decode cX10_fewestToHave 72 = .ok (.invokevirtual 81, 3) := by decide +kernel
theorem dX10_fewestToHave_75 : decode cX10_fewestToHave 75 = .ok (.istore_n 2, 1) := by decide +kernel
theorem dX10_fewestToHave_76 : decode cX10_fewestToHave 76 = .ok (.iinc 3 1, 3) := by decide +kernel
theorem dX10_fewestToHave_79 : decode cX10_fewestToHave 79 = .ok (.goto (-75), 3) := by decide +kernel
theorem dX10_fewestToHave_82 : decode cX10_fewestToHave 82 = .ok (.iload_n 2, 1) := by decide +kernel
theorem dX10_fewestToHave_83 : decode cX10_fewestToHave 83 = .ok (.ireturn, 1) := by decide +kernel
abbrev tX10_fewestToHave (k : Nat) : MT := (RX10, cX10_fewestToHave, 5, k, (some .int))
def lX10_fewestToHave_1 : SX := (sLoop (cB rlt (iLoc 3) (iGet 10 5 (rLoc 0))) (sSeq (sSetI 4 (iBool (cB req (iB gT2 (· &&& ·) (iCallV 0 mX0_occupied (aR (rGet 10 4 (rLoc 0)) (aI (iCallV 2 mX2_lyingAt (aR (rGet 10 0 (rLoc 0)) (aI (iCallV 10 mX10_numberAt (aR (rLoc 0) (aI (iLoc 3) aNil))) aNil))) aNil))) (iLoc 1)) (iLoc 1)))) (sIf (cAnd (cZ zne (iLoc 4)) (cOr (cZ zlt (iLoc 2)) (cB rlt (iCallV 10 mX10_fewestOf (aR (rLoc 0) (aI (iCallV 10 mX10_numberAt (aR (rLoc 0) (aI (iLoc 3) aNil))) aNil))) (iLoc 2)))) (sSetI 2 (iCallV 10 mX10_fewestOf (aR (rLoc 0) (aI (iCallV 10 mX10_numberAt (aR (rLoc 0) (aI (iLoc 3) aNil))) aNil)))) sSkip)) (sSeq (sForget 4) (sInc 3 1)))
theorem olX10_fewestToHave_1 (g : GT) {pcB pcC : Nat} : Sok g (tX10_fewestToHave 3) 4 82 pcB pcC (lX10_fewestToHave_1) := (Sok.loop (pc := 4) (pc1 := 12) (pc2 := 76) (pcN := 82) (Cok.cmp (pc1 := 5) (pc2 := 9) (pcT := 12) (pcF := 82) (EokI.iload_n (q := 3) dX10_fewestToHave_4) (EokI.getf (pc1 := 6) (j := 5) (ci := 10) (T := TX10) (N := 8) (EokR.aload_n (q := 0) dX10_fewestToHave_5) rfl wsX10_in (by decide) flX10_37 dX10_fewestToHave_6) (JI.ltF (tgt := 82) dX10_fewestToHave_9 (by decide))) (by decide) (Sok.seq (pc1 := 44) (Sok.setI (i := 4) (pc1 := 42) (EokI.cond' (pc1 := 37) (pc2 := 41) (Cok.cmp (pc1 := 33) (pc2 := 34) (pcT := 37) (pcF := 41) (EokI.bin (pc1 := 31) (pc2 := 32) (EokI.iCallV (pc1 := 28) (Aok.aR (pc1 := 16) (EokR.getf (pc1 := 13) (j := 4) (ci := 10) (T := TX10) (N := 8) (EokR.aload_n (q := 0) dX10_fewestToHave_12) rfl wsX10_in (by decide) flX10_25 dX10_fewestToHave_13) (Aok.aI (pc1 := 28) (EokI.iCallV (pc1 := 25) (Aok.aR (pc1 := 20) (EokR.getf (pc1 := 17) (j := 0) (ci := 10) (T := TX10) (N := 8) (EokR.aload_n (q := 0) dX10_fewestToHave_16) rfl wsX10_in (by decide) flX10_21 dX10_fewestToHave_17) (Aok.aI (pc1 := 25) (EokI.iCallV (pc1 := 22) (Aok.aR (pc1 := 21) (EokR.aload_n (q := 0) dX10_fewestToHave_20) (Aok.aI (pc1 := 22) (EokI.iload_n (q := 3) dX10_fewestToHave_21) Aok.nil)) (kX10_numberAt g) rfl ykX10_numberAt vkX10_40 (by decide) (by decide) dX10_fewestToHave_22) Aok.nil)) (kX2_lyingAt g) rfl ykX2_lyingAt vkX10_78 (by decide) (by decide) dX10_fewestToHave_25) Aok.nil)) (kX0_occupied g) rfl ykX0_occupied vkX10_105 (by decide) (by decide) dX10_fewestToHave_28) (EokI.iload_n (q := 1) dX10_fewestToHave_31) (OPI.iand dX10_fewestToHave_32)) (EokI.iload_n (q := 1) dX10_fewestToHave_33) (JI.eqF (tgt := 41) dX10_fewestToHave_34 (by decide))) (EokI.goto (pc1 := 38) (pc2 := 42) (EokI.iconst (v := 1) dX10_fewestToHave_37 (by decide)) dX10_fewestToHave_38 (by decide)) (EokI.iconst (v := 0) dX10_fewestToHave_41 (by decide))) (by decide) dX10_fewestToHave_42 (show 4 < 5 by decide)) (Sok.ite (pc1 := 66) (pc2 := 76) (Cok.and (pc1 := 49) (Cok.zero (pc1 := 46) (pcT := 49) (pcF := 76) (EokI.iload (i := 4) dX10_fewestToHave_44) (JZ.neF (tgt := 76) dX10_fewestToHave_46 (by decide))) (Cok.or (pc1 := 53) (Cok.zero (pc1 := 50) (pcT := 66) (pcF := 53) (EokI.iload_n (q := 2) dX10_fewestToHave_49) (JZ.ltT (tgt := 66) dX10_fewestToHave_50 (by decide))) (Cok.cmp (pc1 := 62) (pc2 := 63) (pcT := 66) (pcF := 76) (EokI.iCallV (pc1 := 59) (Aok.aR (pc1 := 54) (EokR.aload_n (q := 0) dX10_fewestToHave_53) (Aok.aI (pc1 := 59) (EokI.iCallV (pc1 := 56) (Aok.aR (pc1 := 55) (EokR.aload_n (q := 0) dX10_fewestToHave_54) (Aok.aI (pc1 := 56) (EokI.iload_n (q := 3) dX10_fewestToHave_55) Aok.nil)) (kX10_numberAt g) rfl ykX10_numberAt vkX10_40 (by decide) (by decide) dX10_fewestToHave_56) Aok.nil)) (kX10_fewestOf g) rfl ykX10_fewestOf vkX10_81 (by decide) (by decide) dX10_fewestToHave_59) (EokI.iload_n (q := 2) dX10_fewestToHave_62) (JI.ltF (tgt := 76) dX10_fewestToHave_63 (by decide))))) (by decide) (Sok.setI_n (q := 2) (pc1 := 75) (EokI.iCallV (pc1 := 72) (Aok.aR (pc1 := 67) (EokR.aload_n (q := 0) dX10_fewestToHave_66) (Aok.aI (pc1 := 72) (EokI.iCallV (pc1 := 69) (Aok.aR (pc1 := 68) (EokR.aload_n (q := 0) dX10_fewestToHave_67) (Aok.aI (pc1 := 69) (EokI.iload_n (q := 3) dX10_fewestToHave_68) Aok.nil)) (kX10_numberAt g) rfl ykX10_numberAt vkX10_40 (by decide) (by decide) dX10_fewestToHave_69) Aok.nil)) (kX10_fewestOf g) rfl ykX10_fewestOf vkX10_81 (by decide) (by decide) dX10_fewestToHave_72) (by decide) dX10_fewestToHave_75 (show 2 < 5 by decide)) (Sok.skip (pc := 76)))) (Sok.seq (pc1 := 76) Sok.forget (Sok.goto (pc1 := 79) (pcN := 4) (Sok.iinc (i := 3) (v := 1) dX10_fewestToHave_76 (show 3 < 5 by decide) (by decide)) dX10_fewestToHave_79 (by decide))))
def mX10_fewestToHave : MX := bodyOf 5 (sSeq (sSetI 2 (iK (-1))) (sSeq (sSeq (sSeq (sSetI 3 (iK 0)) lX10_fewestToHave_1) (sForget 3)) (sRetI (iLoc 2))))
theorem kX10_fewestToHave (g : GT) : MK g 3 yX10_fewestToHave cX10_fewestToHave 5 (some .int) mX10_fewestToHave := MK.of (pcN := 99999) (pcB := 0) (pcC := 0) rfl (Sok.seq (pc1 := 2) (Sok.setI_n (q := 2) (pc1 := 1) (EokI.iconst (v := (-1)) dX10_fewestToHave_0 (by decide)) (by decide) dX10_fewestToHave_1 (show 2 < 5 by decide)) (Sok.seq (pc1 := 82) (Sok.seq (pc1 := 82) (Sok.seq (pc1 := 4) (Sok.setI_n (q := 3) (pc1 := 3) (EokI.iconst (v := 0) dX10_fewestToHave_2 (by decide)) (by decide) dX10_fewestToHave_3 (show 3 < 5 by decide)) (olX10_fewestToHave_1 g )) (Sok.forget (pc := 82))) (Sok.retI (pc1 := 83) (EokI.iload_n (q := 2) dX10_fewestToHave_82) (by decide) dX10_fewestToHave_83 rfl)))
/-! PassHuts$Walk.fewestToSum(I)I -/
theorem dX10_fewestToSum_0 : decode cX10_fewestToSum 0 = .ok (.iconst (-1), 1) := by decide +kernel
theorem dX10_fewestToSum_1 : decode cX10_fewestToSum 1 = .ok (.istore_n 2, 1) := by decide +kernel
theorem dX10_fewestToSum_2 : decode cX10_fewestToSum 2 = .ok (.iconst 0, 1) := by decide +kernel
theorem dX10_fewestToSum_3 : decode cX10_fewestToSum 3 = .ok (.istore_n 3, 1) := by decide +kernel
theorem dX10_fewestToSum_4 : decode cX10_fewestToSum 4 = .ok (.iload_n 3, 1) := by decide +kernel
theorem dX10_fewestToSum_5 : decode cX10_fewestToSum 5 = .ok (.aload_n 0, 1) := by decide +kernel
theorem dX10_fewestToSum_6 : decode cX10_fewestToSum 6 = .ok (.getfield 37, 3) := by decide +kernel
theorem dX10_fewestToSum_9 : decode cX10_fewestToSum 9 = .ok (.if_icmp .ge 71, 3) := by decide +kernel
theorem dX10_fewestToSum_12 : decode cX10_fewestToSum 12 = .ok (.aload_n 0, 1) := by decide +kernel
theorem dX10_fewestToSum_13 : decode cX10_fewestToSum 13 = .ok (.getfield 25, 3) := by decide +kernel
theorem dX10_fewestToSum_16 : decode cX10_fewestToSum 16 = .ok (.aload_n 0, 1) := by decide +kernel
theorem dX10_fewestToSum_17 : decode cX10_fewestToSum 17 = .ok (.getfield 21, 3) := by decide +kernel
theorem dX10_fewestToSum_20 : decode cX10_fewestToSum 20 = .ok (.aload_n 0, 1) := by decide +kernel
theorem dX10_fewestToSum_21 : decode cX10_fewestToSum 21 = .ok (.iload_n 3, 1) := by decide +kernel
theorem dX10_fewestToSum_22 : decode cX10_fewestToSum 22 = .ok (.invokevirtual 40, 3) := by decide +kernel
theorem dX10_fewestToSum_25 : decode cX10_fewestToSum 25 = .ok (.invokevirtual 78, 3) := by decide +kernel
theorem dX10_fewestToSum_28 : decode cX10_fewestToSum 28 = .ok (.invokevirtual 48, 3) := by decide +kernel
theorem dX10_fewestToSum_31 : decode cX10_fewestToSum 31 = .ok (.iload_n 1, 1) := by decide +kernel
theorem dX10_fewestToSum_32 : decode cX10_fewestToSum 32 = .ok (.if_icmp .ne 7, 3) := by decide +kernel
theorem dX10_fewestToSum_35 : decode cX10_fewestToSum 35 = .ok (.iconst 1, 1) := by decide +kernel
theorem dX10_fewestToSum_36 : decode cX10_fewestToSum 36 = .ok (.goto 4, 3) := by decide +kernel
theorem dX10_fewestToSum_39 : decode cX10_fewestToSum 39 = .ok (.iconst 0, 1) := by decide +kernel
theorem dX10_fewestToSum_40 : decode cX10_fewestToSum 40 = .ok (.istore 4, 2) := by decide +kernel
theorem dX10_fewestToSum_42 : decode cX10_fewestToSum 42 = .ok (.iload 4, 2) := by decide +kernel
theorem dX10_fewestToSum_44 : decode cX10_fewestToSum 44 = .ok (.ifCond .eq 30, 3) := by decide +kernel
theorem dX10_fewestToSum_47 : decode cX10_fewestToSum 47 = .ok (.iload_n 2, 1) := by decide +kernel
theorem dX10_fewestToSum_48 : decode cX10_fewestToSum 48 = .ok (.ifCond .lt 16, 3) := by decide +kernel
theorem dX10_fewestToSum_51 : decode cX10_fewestToSum 51 = .ok (.aload_n 0, 1) := by decide +kernel
theorem dX10_fewestToSum_52 : decode cX10_fewestToSum 52 = .ok (.aload_n 0, 1) := by decide +kernel
theorem dX10_fewestToSum_53 : decode cX10_fewestToSum 53 = .ok (.iload_n 3, 1) := by decide +kernel
theorem dX10_fewestToSum_54 : decode cX10_fewestToSum 54 = .ok (.invokevirtual 40, 3) := by decide +kernel
theorem dX10_fewestToSum_57 : decode cX10_fewestToSum 57 = .ok (.invokevirtual 81, 3) := by decide +kernel
theorem dX10_fewestToSum_60 : decode cX10_fewestToSum 60 = .ok (.iload_n 2, 1) := by decide +kernel
theorem dX10_fewestToSum_61 : decode cX10_fewestToSum 61 = .ok (.if_icmp .ge 13, 3) := by decide +kernel
theorem dX10_fewestToSum_64 : decode cX10_fewestToSum 64 = .ok (.aload_n 0, 1) := by decide +kernel
theorem dX10_fewestToSum_65 : decode cX10_fewestToSum 65 = .ok (.aload_n 0, 1) := by decide +kernel
theorem dX10_fewestToSum_66 : decode cX10_fewestToSum 66 = .ok (.iload_n 3, 1) := by decide +kernel
theorem dX10_fewestToSum_67 : decode cX10_fewestToSum 67 = .ok (.invokevirtual 40, 3) := by decide +kernel
theorem dX10_fewestToSum_70 : decode cX10_fewestToSum 70 = .ok (.invokevirtual 81, 3) := by decide +kernel
theorem dX10_fewestToSum_73 : decode cX10_fewestToSum 73 = .ok (.istore_n 2, 1) := by decide +kernel
theorem dX10_fewestToSum_74 : decode cX10_fewestToSum 74 = .ok (.iinc 3 1, 3) := by decide +kernel
theorem dX10_fewestToSum_77 : decode cX10_fewestToSum 77 = .ok (.goto (-73), 3) := by decide +kernel
theorem dX10_fewestToSum_80 : decode cX10_fewestToSum 80 = .ok (.iload_n 2, 1) := by decide +kernel
theorem dX10_fewestToSum_81 : decode cX10_fewestToSum 81 = .ok (.ireturn, 1) := by decide +kernel
abbrev tX10_fewestToSum (k : Nat) : MT := (RX10, cX10_fewestToSum, 5, k, (some .int))
def lX10_fewestToSum_1 : SX := (sLoop (cB rlt (iLoc 3) (iGet 10 5 (rLoc 0))) (sSeq (sSetI 4 (iBool (cB req (iCallV 0 mX0_sumOf (aR (rGet 10 4 (rLoc 0)) (aI (iCallV 2 mX2_lyingAt (aR (rGet 10 0 (rLoc 0)) (aI (iCallV 10 mX10_numberAt (aR (rLoc 0) (aI (iLoc 3) aNil))) aNil))) aNil))) (iLoc 1)))) (sIf (cAnd (cZ zne (iLoc 4)) (cOr (cZ zlt (iLoc 2)) (cB rlt (iCallV 10 mX10_fewestOf (aR (rLoc 0) (aI (iCallV 10 mX10_numberAt (aR (rLoc 0) (aI (iLoc 3) aNil))) aNil))) (iLoc 2)))) (sSetI 2 (iCallV 10 mX10_fewestOf (aR (rLoc 0) (aI (iCallV 10 mX10_numberAt (aR (rLoc 0) (aI (iLoc 3) aNil))) aNil)))) sSkip)) (sSeq (sForget 4) (sInc 3 1)))
theorem olX10_fewestToSum_1 (g : GT) {pcB pcC : Nat} : Sok g (tX10_fewestToSum 3) 4 80 pcB pcC (lX10_fewestToSum_1) := (Sok.loop (pc := 4) (pc1 := 12) (pc2 := 74) (pcN := 80) (Cok.cmp (pc1 := 5) (pc2 := 9) (pcT := 12) (pcF := 80) (EokI.iload_n (q := 3) dX10_fewestToSum_4) (EokI.getf (pc1 := 6) (j := 5) (ci := 10) (T := TX10) (N := 8) (EokR.aload_n (q := 0) dX10_fewestToSum_5) rfl wsX10_in (by decide) flX10_37 dX10_fewestToSum_6) (JI.ltF (tgt := 80) dX10_fewestToSum_9 (by decide))) (by decide) (Sok.seq (pc1 := 42) (Sok.setI (i := 4) (pc1 := 40) (EokI.cond' (pc1 := 35) (pc2 := 39) (Cok.cmp (pc1 := 31) (pc2 := 32) (pcT := 35) (pcF := 39) (EokI.iCallV (pc1 := 28) (Aok.aR (pc1 := 16) (EokR.getf (pc1 := 13) (j := 4) (ci := 10) (T := TX10) (N := 8) (EokR.aload_n (q := 0) dX10_fewestToSum_12) rfl wsX10_in (by decide) flX10_25 dX10_fewestToSum_13) (Aok.aI (pc1 := 28) (EokI.iCallV (pc1 := 25) (Aok.aR (pc1 := 20) (EokR.getf (pc1 := 17) (j := 0) (ci := 10) (T := TX10) (N := 8) (EokR.aload_n (q := 0) dX10_fewestToSum_16) rfl wsX10_in (by decide) flX10_21 dX10_fewestToSum_17) (Aok.aI (pc1 := 25) (EokI.iCallV (pc1 := 22) (Aok.aR (pc1 := 21) (EokR.aload_n (q := 0) dX10_fewestToSum_20) (Aok.aI (pc1 := 22) (EokI.iload_n (q := 3) dX10_fewestToSum_21) Aok.nil)) (kX10_numberAt g) rfl ykX10_numberAt vkX10_40 (by decide) (by decide) dX10_fewestToSum_22) Aok.nil)) (kX2_lyingAt g) rfl ykX2_lyingAt vkX10_78 (by decide) (by decide) dX10_fewestToSum_25) Aok.nil)) (kX0_sumOf g) rfl ykX0_sumOf vkX10_48 (by decide) (by decide) dX10_fewestToSum_28) (EokI.iload_n (q := 1) dX10_fewestToSum_31) (JI.eqF (tgt := 39) dX10_fewestToSum_32 (by decide))) (EokI.goto (pc1 := 36) (pc2 := 40) (EokI.iconst (v := 1) dX10_fewestToSum_35 (by decide)) dX10_fewestToSum_36 (by decide)) (EokI.iconst (v := 0) dX10_fewestToSum_39 (by decide))) (by decide) dX10_fewestToSum_40 (show 4 < 5 by decide)) (Sok.ite (pc1 := 64) (pc2 := 74) (Cok.and (pc1 := 47) (Cok.zero (pc1 := 44) (pcT := 47) (pcF := 74) (EokI.iload (i := 4) dX10_fewestToSum_42) (JZ.neF (tgt := 74) dX10_fewestToSum_44 (by decide))) (Cok.or (pc1 := 51) (Cok.zero (pc1 := 48) (pcT := 64) (pcF := 51) (EokI.iload_n (q := 2) dX10_fewestToSum_47) (JZ.ltT (tgt := 64) dX10_fewestToSum_48 (by decide))) (Cok.cmp (pc1 := 60) (pc2 := 61) (pcT := 64) (pcF := 74) (EokI.iCallV (pc1 := 57) (Aok.aR (pc1 := 52) (EokR.aload_n (q := 0) dX10_fewestToSum_51) (Aok.aI (pc1 := 57) (EokI.iCallV (pc1 := 54) (Aok.aR (pc1 := 53) (EokR.aload_n (q := 0) dX10_fewestToSum_52) (Aok.aI (pc1 := 54) (EokI.iload_n (q := 3) dX10_fewestToSum_53) Aok.nil)) (kX10_numberAt g) rfl ykX10_numberAt vkX10_40 (by decide) (by decide) dX10_fewestToSum_54) Aok.nil)) (kX10_fewestOf g) rfl ykX10_fewestOf vkX10_81 (by decide) (by decide) dX10_fewestToSum_57) (EokI.iload_n (q := 2) dX10_fewestToSum_60) (JI.ltF (tgt := 74) dX10_fewestToSum_61 (by decide))))) (by decide) (Sok.setI_n (q := 2) (pc1 := 73) (EokI.iCallV (pc1 := 70) (Aok.aR (pc1 := 65) (EokR.aload_n (q := 0) dX10_fewestToSum_64) (Aok.aI (pc1 := 70) (EokI.iCallV (pc1 := 67) (Aok.aR (pc1 := 66) (EokR.aload_n (q := 0) dX10_fewestToSum_65) (Aok.aI (pc1 := 67) (EokI.iload_n (q := 3) dX10_fewestToSum_66) Aok.nil)) (kX10_numberAt g) rfl ykX10_numberAt vkX10_40 (by decide) (by decide) dX10_fewestToSum_67) Aok.nil)) (kX10_fewestOf g) rfl ykX10_fewestOf vkX10_81 (by decide) (by decide) dX10_fewestToSum_70) (by decide) dX10_fewestToSum_73 (show 2 < 5 by decide)) (Sok.skip (pc := 74)))) (Sok.seq (pc1 := 74) Sok.forget (Sok.goto (pc1 := 77) (pcN := 4) (Sok.iinc (i := 3) (v := 1) dX10_fewestToSum_74 (show 3 < 5 by decide) (by decide)) dX10_fewestToSum_77 (by decide))))
def mX10_fewestToSum : MX := bodyOf 5 (sSeq (sSetI 2 (iK (-1))) (sSeq (sSeq (sSeq (sSetI 3 (iK 0)) lX10_fewestToSum_1) (sForget 3)) (sRetI (iLoc 2))))
theorem kX10_fewestToSum (g : GT) : MK g 3 yX10_fewestToSum cX10_fewestToSum 5 (some .int) mX10_fewestToSum := MK.of (pcN := 99999) (pcB := 0) (pcC := 0) rfl (Sok.seq (pc1 := 2) (Sok.setI_n (q := 2) (pc1 := 1) (EokI.iconst (v := (-1)) dX10_fewestToSum_0 (by decide)) (by decide) dX10_fewestToSum_1 (show 2 < 5 by decide)) (Sok.seq (pc1 := 80) (Sok.seq (pc1 := 80) (Sok.seq (pc1 := 4) (Sok.setI_n (q := 3) (pc1 := 3) (EokI.iconst (v := 0) dX10_fewestToSum_2 (by decide)) (by decide) dX10_fewestToSum_3 (show 3 < 5 by decide)) (olX10_fewestToSum_1 g )) (Sok.forget (pc := 80))) (Sok.retI (pc1 := 81) (EokI.iload_n (q := 2) dX10_fewestToSum_80) (by decide) dX10_fewestToSum_81 rfl)))
/-! PassHuts$Walk.longestRow()I -/
theorem dX10_longestRow_0 : decode cX10_longestRow 0 = .ok (.iconst 0, 1) := by decide +kernel
theorem dX10_longestRow_1 : decode cX10_longestRow 1 = .ok (.istore_n 1, 1) := by decide +kernel
theorem dX10_longestRow_2 : decode cX10_longestRow 2 = .ok (.iconst 0, 1) := by decide +kernel
theorem dX10_longestRow_3 : decode cX10_longestRow 3 = .ok (.istore_n 2, 1) := by decide +kernel
theorem dX10_longestRow_4 : decode cX10_longestRow 4 = .ok (.iload_n 2, 1) := by decide +kernel
theorem dX10_longestRow_5 : decode cX10_longestRow 5 = .ok (.aload_n 0, 1) := by decide +kernel
theorem dX10_longestRow_6 : decode cX10_longestRow 6 = .ok (.getfield 37, 3) := by decide +kernel
theorem dX10_longestRow_9 : decode cX10_longestRow 9 = .ok (.if_icmp .ge 23, 3) := by decide +kernel
theorem dX10_longestRow_12 : decode cX10_longestRow 12 = .ok (.iload_n 1, 1) := by decide +kernel
theorem dX10_longestRow_13 : decode cX10_longestRow 13 = .ok (.aload_n 0, 1) := by decide +kernel
theorem dX10_longestRow_14 : decode cX10_longestRow 14 = .ok (.aload_n 0, 1) := by decide +kernel
theorem dX10_longestRow_15 : decode cX10_longestRow 15 = .ok (.iload_n 2, 1) := by decide +kernel
theorem dX10_longestRow_16 : decode cX10_longestRow 16 = .ok (.invokevirtual 40, 3) := by decide +kernel
theorem dX10_longestRow_19 : decode cX10_longestRow 19 = .ok (.invokevirtual 84, 3) := by decide +kernel
theorem dX10_longestRow_22 : decode cX10_longestRow 22 = .ok (.invokestatic 99, 3) := by decide +kernel
theorem dX10_longestRow_25 : decode cX10_longestRow 25 = .ok (.istore_n 1, 1) := by decide +kernel
theorem dX10_longestRow_26 : decode cX10_longestRow 26 = .ok (.iinc 2 1, 3) := by decide +kernel
theorem dX10_longestRow_29 : decode cX10_longestRow 29 = .ok (.goto (-25), 3) := by decide +kernel
theorem dX10_longestRow_32 : decode cX10_longestRow 32 = .ok (.iload_n 1, 1) := by decide +kernel
theorem dX10_longestRow_33 : decode cX10_longestRow 33 = .ok (.ireturn, 1) := by decide +kernel
abbrev tX10_longestRow (k : Nat) : MT := (RX10, cX10_longestRow, 3, k, (some .int))
def lX10_longestRow_1 : SX := (sLoop (cB rlt (iLoc 2) (iGet 10 5 (rLoc 0))) (sSetI 1 (iB gT2 jmax (iLoc 1) (iCallV 10 mX10_longestOf (aR (rLoc 0) (aI (iCallV 10 mX10_numberAt (aR (rLoc 0) (aI (iLoc 2) aNil))) aNil))))) (sInc 2 1))
theorem olX10_longestRow_1 (g : GT) {pcB pcC : Nat} : Sok g (tX10_longestRow 2) 4 32 pcB pcC (lX10_longestRow_1) := (Sok.loop (pc := 4) (pc1 := 12) (pc2 := 26) (pcN := 32) (Cok.cmp (pc1 := 5) (pc2 := 9) (pcT := 12) (pcF := 32) (EokI.iload_n (q := 2) dX10_longestRow_4) (EokI.getf (pc1 := 6) (j := 5) (ci := 10) (T := TX10) (N := 8) (EokR.aload_n (q := 0) dX10_longestRow_5) rfl wsX10_in (by decide) flX10_37 dX10_longestRow_6) (JI.ltF (tgt := 32) dX10_longestRow_9 (by decide))) (by decide) (Sok.setI_n (q := 1) (pc1 := 25) (EokI.mmax (pc1 := 13) (pc2 := 22) (EokI.iload_n (q := 1) dX10_longestRow_12) (EokI.iCallV (pc1 := 19) (Aok.aR (pc1 := 14) (EokR.aload_n (q := 0) dX10_longestRow_13) (Aok.aI (pc1 := 19) (EokI.iCallV (pc1 := 16) (Aok.aR (pc1 := 15) (EokR.aload_n (q := 0) dX10_longestRow_14) (Aok.aI (pc1 := 16) (EokI.iload_n (q := 2) dX10_longestRow_15) Aok.nil)) (kX10_numberAt g) rfl ykX10_numberAt vkX10_40 (by decide) (by decide) dX10_longestRow_16) Aok.nil)) (kX10_longestOf g) rfl ykX10_longestOf vkX10_84 (by decide) (by decide) dX10_longestRow_19) mlX10_99 wst_mmax wini_math wco_mmax (by decide) dX10_longestRow_22) (by decide) dX10_longestRow_25 (show 1 < 3 by decide)) (Sok.goto (pc1 := 29) (pcN := 4) (Sok.iinc (i := 2) (v := 1) dX10_longestRow_26 (show 2 < 3 by decide) (by decide)) dX10_longestRow_29 (by decide)))
def mX10_longestRow : MX := bodyOf 3 (sSeq (sSetI 1 (iK 0)) (sSeq (sSeq (sSeq (sSetI 2 (iK 0)) lX10_longestRow_1) (sForget 2)) (sRetI (iLoc 1))))
theorem kX10_longestRow (g : GT) : MK g 2 yX10_longestRow cX10_longestRow 3 (some .int) mX10_longestRow := MK.of (pcN := 99999) (pcB := 0) (pcC := 0) rfl (Sok.seq (pc1 := 2) (Sok.setI_n (q := 1) (pc1 := 1) (EokI.iconst (v := 0) dX10_longestRow_0 (by decide)) (by decide) dX10_longestRow_1 (show 1 < 3 by decide)) (Sok.seq (pc1 := 32) (Sok.seq (pc1 := 32) (Sok.seq (pc1 := 4) (Sok.setI_n (q := 2) (pc1 := 3) (EokI.iconst (v := 0) dX10_longestRow_2 (by decide)) (by decide) dX10_longestRow_3 (show 2 < 3 by decide)) (olX10_longestRow_1 g )) (Sok.forget (pc := 32))) (Sok.retI (pc1 := 33) (EokI.iload_n (q := 1) dX10_longestRow_32) (by decide) dX10_longestRow_33 rfl)))
/-! PassHuts$Walk.countEnds()I -/
theorem dX10_countEnds_0 : decode cX10_countEnds 0 = .ok (.iconst 0, 1) := by decide +kernel
theorem dX10_countEnds_1 : decode cX10_countEnds 1 = .ok (.istore_n 1, 1) := by decide +kernel
theorem dX10_countEnds_2 : decode cX10_countEnds 2 = .ok (.iconst 0, 1) := by decide +kernel
theorem dX10_countEnds_3 : decode cX10_countEnds 3 = .ok (.istore_n 2, 1) := by decide +kernel
theorem dX10_countEnds_4 : decode cX10_countEnds 4 = .ok (.iload_n 2, 1) := by decide +kernel
theorem dX10_countEnds_5 : decode cX10_countEnds 5 = .ok (.aload_n 0, 1) := by decide +kernel
theorem dX10_countEnds_6 : decode cX10_countEnds 6 = .ok (.getfield 37, 3) := by decide +kernel
theorem dX10_countEnds_9 : decode cX10_countEnds 9 = .ok (.if_icmp .ge 28, 3) := by decide +kernel
theorem dX10_countEnds_12 : decode cX10_countEnds 12 = .ok (.aload_n 0, 1) := by decide +kernel
theorem dX10_countEnds_13 : decode cX10_countEnds 13 = .ok (.aload_n 0, 1) := by decide +kernel
theorem dX10_countEnds_14 : decode cX10_countEnds 14 = .ok (.iload_n 2, 1) := by decide +kernel
theorem dX10_countEnds_15 : decode cX10_countEnds 15 = .ok (.invokevirtual 40, 3) := by decide +kernel
theorem dX10_countEnds_18 : decode cX10_countEnds 18 = .ok (.invokevirtual 72, 3) := by decide +kernel
theorem dX10_countEnds_21 : decode cX10_countEnds 21 = .ok (.sipush 512, 3) := by decide +kernel
theorem dX10_countEnds_24 : decode cX10_countEnds 24 = .ok (.iand, 1) := by decide +kernel
theorem dX10_countEnds_25 : decode cX10_countEnds 25 = .ok (.ifCond .ne 6, 3) := by decide +kernel
theorem dX10_countEnds_28 : decode cX10_countEnds 28 = .ok (.iinc 1 1, 3) := by decide +kernel
theorem dX10_countEnds_31 : decode cX10_countEnds 31 = .ok (.iinc 2 1, 3) := by decide +kernel
theorem dX10_countEnds_34 : decode cX10_countEnds 34 = .ok (.goto (-30), 3) := by decide +kernel
theorem dX10_countEnds_37 : decode cX10_countEnds 37 = .ok (.iload_n 1, 1) := by decide +kernel
theorem dX10_countEnds_38 : decode cX10_countEnds 38 = .ok (.ireturn, 1) := by decide +kernel
abbrev tX10_countEnds (k : Nat) : MT := (RX10, cX10_countEnds, 3, k, (some .int))
def lX10_countEnds_1 : SX := (sLoop (cB rlt (iLoc 2) (iGet 10 5 (rLoc 0))) (sIf (cZ zeq (iB gT2 (· &&& ·) (iCallV 10 mX10_infoOf (aR (rLoc 0) (aI (iCallV 10 mX10_numberAt (aR (rLoc 0) (aI (iLoc 2) aNil))) aNil))) (iK 512))) (sInc 1 1) sSkip) (sInc 2 1))
theorem olX10_countEnds_1 (g : GT) {pcB pcC : Nat} : Sok g (tX10_countEnds 1) 4 37 pcB pcC (lX10_countEnds_1) := (Sok.loop (pc := 4) (pc1 := 12) (pc2 := 31) (pcN := 37) (Cok.cmp (pc1 := 5) (pc2 := 9) (pcT := 12) (pcF := 37) (EokI.iload_n (q := 2) dX10_countEnds_4) (EokI.getf (pc1 := 6) (j := 5) (ci := 10) (T := TX10) (N := 8) (EokR.aload_n (q := 0) dX10_countEnds_5) rfl wsX10_in (by decide) flX10_37 dX10_countEnds_6) (JI.ltF (tgt := 37) dX10_countEnds_9 (by decide))) (by decide) (Sok.ite (pc1 := 28) (pc2 := 31) (Cok.zero (pc1 := 25) (pcT := 28) (pcF := 31) (EokI.bin (pc1 := 21) (pc2 := 24) (EokI.iCallV (pc1 := 18) (Aok.aR (pc1 := 13) (EokR.aload_n (q := 0) dX10_countEnds_12) (Aok.aI (pc1 := 18) (EokI.iCallV (pc1 := 15) (Aok.aR (pc1 := 14) (EokR.aload_n (q := 0) dX10_countEnds_13) (Aok.aI (pc1 := 15) (EokI.iload_n (q := 2) dX10_countEnds_14) Aok.nil)) (kX10_numberAt g) rfl ykX10_numberAt vkX10_40 (by decide) (by decide) dX10_countEnds_15) Aok.nil)) (kX10_infoOf g) rfl ykX10_infoOf vkX10_72 (by decide) (by decide) dX10_countEnds_18) (EokI.sipush (v := 512) dX10_countEnds_21 (by decide)) (OPI.iand dX10_countEnds_24)) (JZ.eqF (tgt := 31) dX10_countEnds_25 (by decide))) (by decide) (Sok.iinc (i := 1) (v := 1) dX10_countEnds_28 (show 1 < 3 by decide) (by decide)) (Sok.skip (pc := 31))) (Sok.goto (pc1 := 34) (pcN := 4) (Sok.iinc (i := 2) (v := 1) dX10_countEnds_31 (show 2 < 3 by decide) (by decide)) dX10_countEnds_34 (by decide)))
def mX10_countEnds : MX := bodyOf 3 (sSeq (sSetI 1 (iK 0)) (sSeq (sSeq (sSeq (sSetI 2 (iK 0)) lX10_countEnds_1) (sForget 2)) (sRetI (iLoc 1))))
theorem kX10_countEnds (g : GT) : MK g 1 yX10_countEnds cX10_countEnds 3 (some .int) mX10_countEnds := MK.of (pcN := 99999) (pcB := 0) (pcC := 0) rfl (Sok.seq (pc1 := 2) (Sok.setI_n (q := 1) (pc1 := 1) (EokI.iconst (v := 0) dX10_countEnds_0 (by decide)) (by decide) dX10_countEnds_1 (show 1 < 3 by decide)) (Sok.seq (pc1 := 37) (Sok.seq (pc1 := 37) (Sok.seq (pc1 := 4) (Sok.setI_n (q := 2) (pc1 := 3) (EokI.iconst (v := 0) dX10_countEnds_2 (by decide)) (by decide) dX10_countEnds_3 (show 2 < 3 by decide)) (olX10_countEnds_1 g )) (Sok.forget (pc := 37))) (Sok.retI (pc1 := 38) (EokI.iload_n (q := 1) dX10_countEnds_37) (by decide) dX10_countEnds_38 rfl)))
/-! PassHuts$Prospects.comesTo(II)Z -/
theorem dX3_comesTo_0 : decode cX3_comesTo 0 = .ok (.aload_n 0, 1) := by decide +kernel
theorem dX3_comesTo_1 : decode cX3_comesTo 1 = .ok (.iload_n 1, 1) := by decide +kernel
theorem dX3_comesTo_2 : decode cX3_comesTo 2 = .ok (.invokevirtual 87, 3) := by decide +kernel
theorem dX3_comesTo_5 : decode cX3_comesTo 5 = .ok (.bipush 12, 2) := by decide +kernel
theorem dX3_comesTo_7 : decode cX3_comesTo 7 = .ok (.iload_n 2, 1) := by decide +kernel
theorem dX3_comesTo_8 : decode cX3_comesTo 8 = .ok (.imul, 1) := by decide +kernel
theorem dX3_comesTo_9 : decode cX3_comesTo 9 = .ok (.lshr, 1) := by decide +kernel
theorem dX3_comesTo_10 : decode cX3_comesTo 10 = .ok (.ldc2_w 85, 3) := by decide +kernel
theorem dX3_comesTo_13 : decode cX3_comesTo 13 = .ok (.land, 1) := by decide +kernel
theorem dX3_comesTo_14 : decode cX3_comesTo 14 = .ok (.lconst 0, 1) := by decide +kernel
theorem dX3_comesTo_15 : decode cX3_comesTo 15 = .ok (.lcmp, 1) := by decide +kernel
theorem dX3_comesTo_16 : decode cX3_comesTo 16 = .ok (.ifCond .eq 7, 3) := by decide +kernel
theorem dX3_comesTo_19 : decode cX3_comesTo 19 = .ok (.iconst 1, 1) := by decide +kernel
theorem dX3_comesTo_20 : decode cX3_comesTo 20 = .ok (.goto 4, 3) := by decide +kernel
theorem dX3_comesTo_23 : decode cX3_comesTo 23 = .ok (.iconst 0, 1) := by decide +kernel
theorem dX3_comesTo_24 : decode cX3_comesTo 24 = .ok (.ireturn, 1) := by decide +kernel
abbrev tX3_comesTo (k : Nat) : MT := (RX3, cX3_comesTo, 3, k, (some .boolean))
def mX3_comesTo : MX := bodyOf 3 (sRetZ (iBool (cL lne (lB gT2 (· &&& ·) (lBI jlshr (lCallV 3 mX3_comingsOf (aR (rLoc 0) (aI (iLoc 1) aNil))) (iB gT2 (· * ·) (iK 12) (iLoc 2))) (lK 4095)) (lK 0))))
theorem kX3_comesTo (g : GT) : MK g 4 yX3_comesTo cX3_comesTo 3 (some .boolean) mX3_comesTo := MK.of (pcN := 99999) (pcB := 0) (pcC := 0) rfl (Sok.retZ (pc1 := 24) (EokI.cond' (pc1 := 19) (pc2 := 23) (Cok.lcmp (pc1 := 14) (pc2 := 15) (pcT := 19) (pcF := 23) (EokL.bin (pc1 := 10) (pc2 := 13) (EokL.binI (pc1 := 5) (pc2 := 9) (EokL.lCallV (pc1 := 2) (Aok.aR (pc1 := 1) (EokR.aload_n (q := 0) dX3_comesTo_0) (Aok.aI (pc1 := 2) (EokI.iload_n (q := 1) dX3_comesTo_1) Aok.nil)) (kX3_comingsOf g) rfl ykX3_comingsOf vkX3_87 (by decide) (by decide) dX3_comesTo_2) (EokI.bin (pc1 := 7) (pc2 := 8) (EokI.bipush (v := 12) dX3_comesTo_5 (by decide)) (EokI.iload_n (q := 2) dX3_comesTo_7) (OPI.imul dX3_comesTo_8)) (OPLI.lshr dX3_comesTo_9)) (EokL.ldc2 (v := 4095) ckX3_85 dX3_comesTo_10) (OPL.land dX3_comesTo_13)) (EokL.lconst (v := 0) dX3_comesTo_14 (by decide)) (JL.ne dX3_comesTo_15 (JZ.neF (tgt := 23) dX3_comesTo_16 (by decide)))) (EokI.goto (pc1 := 20) (pc2 := 24) (EokI.iconst (v := 1) dX3_comesTo_19 (by decide)) dX3_comesTo_20 (by decide)) (EokI.iconst (v := 0) dX3_comesTo_23 (by decide))) (by decide) dX3_comesTo_24 rfl)
/-! PassHuts$Prospects.hutsOf(J)I -/
theorem dX3_hutsOf_0 : decode cX3_hutsOf 0 = .ok (.iconst 0, 1) := by decide +kernel
theorem dX3_hutsOf_1 : decode cX3_hutsOf 1 = .ok (.istore_n 3, 1) := by decide +kernel
theorem dX3_hutsOf_2 : decode cX3_hutsOf 2 = .ok (.iconst 0, 1) := by decide +kernel
theorem dX3_hutsOf_3 : decode cX3_hutsOf 3 = .ok (.istore 4, 2) := by decide +kernel
theorem dX3_hutsOf_5 : decode cX3_hutsOf 5 = .ok (.iload 4, 2) := by decide +kernel
theorem dX3_hutsOf_7 : decode cX3_hutsOf 7 = .ok (.aload_n 0, 1) := by decide +kernel
theorem dX3_hutsOf_8 : decode cX3_hutsOf 8 = .ok (.getfield 23, 3) := by decide +kernel
theorem dX3_hutsOf_11 : decode cX3_hutsOf 11 = .ok (.getfield 31, 3) := by decide +kernel
theorem dX3_hutsOf_14 : decode cX3_hutsOf 14 = .ok (.if_icmp .ge 32, 3) := by decide +kernel
theorem dX3_hutsOf_17 : decode cX3_hutsOf 17 = .ok (.lload_n 1, 1) := by decide +kernel
theorem dX3_hutsOf_18 : decode cX3_hutsOf 18 = .ok (.bipush 12, 2) := by decide +kernel
theorem dX3_hutsOf_20 : decode cX3_hutsOf 20 = .ok (.iload 4, 2) := by decide +kernel
theorem dX3_hutsOf_22 : decode cX3_hutsOf 22 = .ok (.imul, 1) := by decide +kernel
theorem dX3_hutsOf_23 : decode cX3_hutsOf 23 = .ok (.lshr, 1) := by decide +kernel
theorem dX3_hutsOf_24 : decode cX3_hutsOf 24 = .ok (.ldc2_w 85, 3) := by decide +kernel
theorem dX3_hutsOf_27 : decode cX3_hutsOf 27 = .ok (.land, 1) := by decide +kernel
theorem dX3_hutsOf_28 : decode cX3_hutsOf 28 = .ok (.lconst 0, 1) := by decide +kernel
theorem dX3_hutsOf_29 : decode cX3_hutsOf 29 = .ok (.lcmp, 1) := by decide +kernel
theorem dX3_hutsOf_30 : decode cX3_hutsOf 30 = .ok (.ifCond .eq 10, 3) := by decide +kernel
theorem dX3_hutsOf_33 : decode cX3_hutsOf 33 = .ok (.iload_n 3, 1) := by decide +kernel
theorem dX3_hutsOf_34 : decode cX3_hutsOf 34 = .ok (.iconst 1, 1) := by decide +kernel
theorem dX3_hutsOf_35 : decode cX3_hutsOf 35 = .ok (.iload 4, 2) := by decide +kernel
theorem dX3_hutsOf_37 : decode cX3_hutsOf 37 = .ok (.ishl, 1) := by decide +kernel
theorem dX3_hutsOf_38 : decode cX3_hutsOf 38 = .ok (.ior, 1) := by decide +kernel
theorem dX3_hutsOf_39 : decode cX3_hutsOf 39 = .ok (.istore_n 3, 1) := by decide +kernel
theorem dX3_hutsOf_40 : decode cX3_hutsOf 40 = .ok (.iinc 4 1, 3) := by decide +kernel
theorem dX3_hutsOf_43 : decode cX3_hutsOf 43 = .ok (.goto (-38), 3) := by decide +kernel
theorem dX3_hutsOf_46 : decode cX3_hutsOf 46 = .ok (.iload_n 3, 1) := by decide +kernel
theorem dX3_hutsOf_47 : decode cX3_hutsOf 47 = .ok (.ireturn, 1) := by decide +kernel
abbrev tX3_hutsOf (k : Nat) : MT := (RX3, cX3_hutsOf, 5, k, (some .int))
def lX3_hutsOf_1 : SX := (sLoop (cB rlt (iLoc 4) (iGet 0 3 (rGet 3 3 (rLoc 0)))) (sIf (cL lne (lB gT2 (· &&& ·) (lBI jlshr (lLoc 1) (iB gT2 (· * ·) (iK 12) (iLoc 4))) (lK 4095)) (lK 0)) (sSetI 3 (iB gT2 (· ||| ·) (iLoc 3) (iB gT2 jshl (iK 1) (iLoc 4)))) sSkip) (sInc 4 1))
theorem olX3_hutsOf_1 (g : GT) {pcB pcC : Nat} : Sok g (tX3_hutsOf 0) 5 46 pcB pcC (lX3_hutsOf_1) := (Sok.loop (pc := 5) (pc1 := 17) (pc2 := 40) (pcN := 46) (Cok.cmp (pc1 := 7) (pc2 := 14) (pcT := 17) (pcF := 46) (EokI.iload (i := 4) dX3_hutsOf_5) (EokI.getf (pc1 := 11) (j := 3) (ci := 0) (T := TX0) (N := 17) (EokR.getf (pc1 := 8) (j := 3) (ci := 3) (T := TX3) (N := 5) (EokR.aload_n (q := 0) dX3_hutsOf_7) rfl wsX3_in (by decide) flX3_23 dX3_hutsOf_8) rfl wsX0_in (by decide) flX3_31 dX3_hutsOf_11) (JI.ltF (tgt := 46) dX3_hutsOf_14 (by decide))) (by decide) (Sok.ite (pc1 := 33) (pc2 := 40) (Cok.lcmp (pc1 := 28) (pc2 := 29) (pcT := 33) (pcF := 40) (EokL.bin (pc1 := 24) (pc2 := 27) (EokL.binI (pc1 := 18) (pc2 := 23) (EokL.lload_n (q := 1) dX3_hutsOf_17) (EokI.bin (pc1 := 20) (pc2 := 22) (EokI.bipush (v := 12) dX3_hutsOf_18 (by decide)) (EokI.iload (i := 4) dX3_hutsOf_20) (OPI.imul dX3_hutsOf_22)) (OPLI.lshr dX3_hutsOf_23)) (EokL.ldc2 (v := 4095) ckX3_85 dX3_hutsOf_24) (OPL.land dX3_hutsOf_27)) (EokL.lconst (v := 0) dX3_hutsOf_28 (by decide)) (JL.ne dX3_hutsOf_29 (JZ.neF (tgt := 40) dX3_hutsOf_30 (by decide)))) (by decide) (Sok.setI_n (q := 3) (pc1 := 39) (EokI.bin (pc1 := 34) (pc2 := 38) (EokI.iload_n (q := 3) dX3_hutsOf_33) (EokI.bin (pc1 := 35) (pc2 := 37) (EokI.iconst (v := 1) dX3_hutsOf_34 (by decide)) (EokI.iload (i := 4) dX3_hutsOf_35) (OPI.ishl dX3_hutsOf_37)) (OPI.ior dX3_hutsOf_38)) (by decide) dX3_hutsOf_39 (show 3 < 5 by decide)) (Sok.skip (pc := 40))) (Sok.goto (pc1 := 43) (pcN := 5) (Sok.iinc (i := 4) (v := 1) dX3_hutsOf_40 (show 4 < 5 by decide) (by decide)) dX3_hutsOf_43 (by decide)))
def mX3_hutsOf : MX := bodyOf 5 (sSeq (sSetI 3 (iK 0)) (sSeq (sSeq (sSeq (sSetI 4 (iK 0)) lX3_hutsOf_1) (sForget 4)) (sRetI (iLoc 3))))
theorem kX3_hutsOf (g : GT) : MK g 0 yX3_hutsOf cX3_hutsOf 5 (some .int) mX3_hutsOf := MK.of (pcN := 99999) (pcB := 0) (pcC := 0) rfl (Sok.seq (pc1 := 2) (Sok.setI_n (q := 3) (pc1 := 1) (EokI.iconst (v := 0) dX3_hutsOf_0 (by decide)) (by decide) dX3_hutsOf_1 (show 3 < 5 by decide)) (Sok.seq (pc1 := 46) (Sok.seq (pc1 := 46) (Sok.seq (pc1 := 5) (Sok.setI (i := 4) (pc1 := 3) (EokI.iconst (v := 0) dX3_hutsOf_2 (by decide)) (by decide) dX3_hutsOf_3 (show 4 < 5 by decide)) (olX3_hutsOf_1 g )) (Sok.forget (pc := 46))) (Sok.retI (pc1 := 47) (EokI.iload_n (q := 3) dX3_hutsOf_46) (by decide) dX3_hutsOf_47 rfl)))
/-! PassHuts$Prospects.hutsFrom(I)I -/
theorem dX3_hutsFrom_0 : decode cX3_hutsFrom 0 = .ok (.aload_n 0, 1) := by decide +kernel
theorem dX3_hutsFrom_1 : decode cX3_hutsFrom 1 = .ok (.aload_n 0, 1) := by decide +kernel
theorem dX3_hutsFrom_2 : decode cX3_hutsFrom 2 = .ok (.iload_n 1, 1) := by decide +kernel
theorem dX3_hutsFrom_3 : decode cX3_hutsFrom 3 = .ok (.invokevirtual 87, 3) := by decide +kernel
theorem dX3_hutsFrom_6 : decode cX3_hutsFrom 6 = .ok (.invokevirtual 94, 3) := by decide +kernel
theorem dX3_hutsFrom_9 : decode cX3_hutsFrom 9 = .ok (.ireturn, 1) := by decide +kernel
abbrev tX3_hutsFrom (k : Nat) : MT := (RX3, cX3_hutsFrom, 2, k, (some .int))
def mX3_hutsFrom : MX := bodyOf 2 (sRetI (iCallV 3 mX3_hutsOf (aR (rLoc 0) (aL (lCallV 3 mX3_comingsOf (aR (rLoc 0) (aI (iLoc 1) aNil))) aNil))))
theorem kX3_hutsFrom (g : GT) : MK g 4 yX3_hutsFrom cX3_hutsFrom 2 (some .int) mX3_hutsFrom := MK.of (pcN := 99999) (pcB := 0) (pcC := 0) rfl (Sok.retI (pc1 := 9) (EokI.iCallV (pc1 := 6) (Aok.aR (pc1 := 1) (EokR.aload_n (q := 0) dX3_hutsFrom_0) (Aok.aL (pc1 := 6) (EokL.lCallV (pc1 := 3) (Aok.aR (pc1 := 2) (EokR.aload_n (q := 0) dX3_hutsFrom_1) (Aok.aI (pc1 := 3) (EokI.iload_n (q := 1) dX3_hutsFrom_2) Aok.nil)) (kX3_comingsOf g) rfl ykX3_comingsOf vkX3_87 (by decide) (by decide) dX3_hutsFrom_3) Aok.nil)) (kX3_hutsOf g) rfl ykX3_hutsOf vkX3_94 (by decide) (by decide) dX3_hutsFrom_6) (by decide) dX3_hutsFrom_9 rfl)
/-! PassHuts$Survey.firstToLayIn(II)I -/
theorem dX6_firstToLayIn_0 : decode cX6_firstToLayIn 0 = .ok (.aload_n 0, 1) := by decide +kernel
theorem dX6_firstToLayIn_1 : decode cX6_firstToLayIn 1 = .ok (.getfield 23, 3) := by decide +kernel
theorem dX6_firstToLayIn_4 : decode cX6_firstToLayIn 4 = .ok (.getfield 27, 3) := by decide +kernel
theorem dX6_firstToLayIn_7 : decode cX6_firstToLayIn 7 = .ok (.iconst 1, 1) := by decide +kernel
theorem dX6_firstToLayIn_8 : decode cX6_firstToLayIn 8 = .ok (.isub, 1) := by decide +kernel
theorem dX6_firstToLayIn_9 : decode cX6_firstToLayIn 9 = .ok (.istore_n 3, 1) := by decide +kernel
theorem dX6_firstToLayIn_10 : decode cX6_firstToLayIn 10 = .ok (.iload_n 3, 1) := by decide +kernel
theorem dX6_firstToLayIn_11 : decode cX6_firstToLayIn 11 = .ok (.ifCond .lt 40, 3) := by decide +kernel
theorem dX6_firstToLayIn_14 : decode cX6_firstToLayIn 14 = .ok (.aload_n 0, 1) := by decide +kernel
theorem dX6_firstToLayIn_15 : decode cX6_firstToLayIn 15 = .ok (.getfield 23, 3) := by decide +kernel
theorem dX6_firstToLayIn_18 : decode cX6_firstToLayIn 18 = .ok (.iload_n 1, 1) := by decide +kernel
theorem dX6_firstToLayIn_19 : decode cX6_firstToLayIn 19 = .ok (.iload_n 3, 1) := by decide +kernel
theorem dX6_firstToLayIn_20 : decode cX6_firstToLayIn 20 = .ok (.invokevirtual 65, 3) := by decide +kernel
theorem dX6_firstToLayIn_23 : decode cX6_firstToLayIn 23 = .ok (.istore 4, 2) := by decide +kernel
theorem dX6_firstToLayIn_25 : decode cX6_firstToLayIn 25 = .ok (.iload 4, 2) := by decide +kernel
theorem dX6_firstToLayIn_27 : decode cX6_firstToLayIn 27 = .ok (.ifCond .lt 18, 3) := by decide +kernel
theorem dX6_firstToLayIn_30 : decode cX6_firstToLayIn 30 = .ok (.aload_n 0, 1) := by decide +kernel
theorem dX6_firstToLayIn_31 : decode cX6_firstToLayIn 31 = .ok (.getfield 19, 3) := by decide +kernel
theorem dX6_firstToLayIn_34 : decode cX6_firstToLayIn 34 = .ok (.iload 4, 2) := by decide +kernel
theorem dX6_firstToLayIn_36 : decode cX6_firstToLayIn 36 = .ok (.iload_n 2, 1) := by decide +kernel
theorem dX6_firstToLayIn_37 : decode cX6_firstToLayIn 37 = .ok (.invokevirtual 68, 3) := by decide +kernel
theorem dX6_firstToLayIn_40 : decode cX6_firstToLayIn 40 = .ok (.ifCond .eq 5, 3) := by decide +kernel
theorem dX6_firstToLayIn_43 : decode cX6_firstToLayIn 43 = .ok (.iload_n 3, 1) := by decide +kernel
theorem dX6_firstToLayIn_44 : decode cX6_firstToLayIn 44 = .ok (.ireturn, 1) := by decide +kernel
theorem dX6_firstToLayIn_45 : decode cX6_firstToLayIn 45 = .ok (.iinc 3 (-1), 3) := by decide +kernel
theorem dX6_firstToLayIn_48 : decode cX6_firstToLayIn 48 = .ok (.goto (-38), 3) := by decide +kernel
theorem dX6_firstToLayIn_51 : decode cX6_firstToLayIn 51 = .ok (.iconst (-1), 1) := by decide +kernel
theorem dX6_firstToLayIn_52 : decode cX6_firstToLayIn 52 = .ok (.ireturn, 1) := by decide +kernel
abbrev tX6_firstToLayIn (k : Nat) : MT := (RX6, cX6_firstToLayIn, 5, k, (some .int))
def lX6_firstToLayIn_1 : SX := (sLoop (cZ zge (iLoc 3)) (sSeq (sSetI 4 (iCallV 0 mX0_afterLaying (aR (rGet 6 3 (rLoc 0)) (aI (iLoc 1) (aI (iLoc 3) aNil))))) (sIf (cAnd (cZ zge (iLoc 4)) (cZ zne (iCallV 3 mX3_comesTo (aR (rGet 6 1 (rLoc 0)) (aI (iLoc 4) (aI (iLoc 2) aNil)))))) (sRetI (iLoc 3)) sSkip)) (sSeq (sForget 4) (sInc 3 (-1))))
theorem olX6_firstToLayIn_1 (g : GT) {pcB pcC : Nat} : Sok g (tX6_firstToLayIn 5) 10 51 pcB pcC (lX6_firstToLayIn_1) := (Sok.loop (pc := 10) (pc1 := 14) (pc2 := 45) (pcN := 51) (Cok.zero (pc1 := 11) (pcT := 14) (pcF := 51) (EokI.iload_n (q := 3) dX6_firstToLayIn_10) (JZ.geF (tgt := 51) dX6_firstToLayIn_11 (by decide))) (by decide) (Sok.seq (pc1 := 25) (Sok.setI (i := 4) (pc1 := 23) (EokI.iCallV (pc1 := 20) (Aok.aR (pc1 := 18) (EokR.getf (pc1 := 15) (j := 3) (ci := 6) (T := TX6) (N := 4) (EokR.aload_n (q := 0) dX6_firstToLayIn_14) rfl wsX6_in (by decide) flX6_23 dX6_firstToLayIn_15) (Aok.aI (pc1 := 19) (EokI.iload_n (q := 1) dX6_firstToLayIn_18) (Aok.aI (pc1 := 20) (EokI.iload_n (q := 3) dX6_firstToLayIn_19) Aok.nil))) (kX0_afterLaying g) rfl ykX0_afterLaying vkX6_65 (by decide) (by decide) dX6_firstToLayIn_20) (by decide) dX6_firstToLayIn_23 (show 4 < 5 by decide)) (Sok.ite (pc1 := 43) (pc2 := 45) (Cok.and (pc1 := 30) (Cok.zero (pc1 := 27) (pcT := 30) (pcF := 45) (EokI.iload (i := 4) dX6_firstToLayIn_25) (JZ.geF (tgt := 45) dX6_firstToLayIn_27 (by decide))) (Cok.zero (pc1 := 40) (pcT := 43) (pcF := 45) (EokI.iCallV (pc1 := 37) (Aok.aR (pc1 := 34) (EokR.getf (pc1 := 31) (j := 1) (ci := 6) (T := TX6) (N := 4) (EokR.aload_n (q := 0) dX6_firstToLayIn_30) rfl wsX6_in (by decide) flX6_19 dX6_firstToLayIn_31) (Aok.aI (pc1 := 36) (EokI.iload (i := 4) dX6_firstToLayIn_34) (Aok.aI (pc1 := 37) (EokI.iload_n (q := 2) dX6_firstToLayIn_36) Aok.nil))) (kX3_comesTo g) rfl ykX3_comesTo vkX6_68 (by decide) (by decide) dX6_firstToLayIn_37) (JZ.neF (tgt := 45) dX6_firstToLayIn_40 (by decide)))) (by decide) (Sok.retI (pc1 := 44) (EokI.iload_n (q := 3) dX6_firstToLayIn_43) (by decide) dX6_firstToLayIn_44 rfl) (Sok.skip (pc := 45)))) (Sok.seq (pc1 := 45) Sok.forget (Sok.goto (pc1 := 48) (pcN := 10) (Sok.iinc (i := 3) (v := (-1)) dX6_firstToLayIn_45 (show 3 < 5 by decide) (by decide)) dX6_firstToLayIn_48 (by decide))))
def mX6_firstToLayIn : MX := bodyOf 5 (sSeq (sSeq (sSeq (sSetI 3 (iB gT2 (· - ·) (iGet 0 3 (rGet 6 3 (rLoc 0))) (iK 1))) lX6_firstToLayIn_1) (sForget 3)) (sRetI (iK (-1))))
theorem kX6_firstToLayIn (g : GT) : MK g 5 yX6_firstToLayIn cX6_firstToLayIn 5 (some .int) mX6_firstToLayIn := MK.of (pcN := 99999) (pcB := 0) (pcC := 0) rfl (Sok.seq (pc1 := 51) (Sok.seq (pc1 := 51) (Sok.seq (pc1 := 10) (Sok.setI_n (q := 3) (pc1 := 9) (EokI.bin (pc1 := 7) (pc2 := 8) (EokI.getf (pc1 := 4) (j := 3) (ci := 0) (T := TX0) (N := 17) (EokR.getf (pc1 := 1) (j := 3) (ci := 6) (T := TX6) (N := 4) (EokR.aload_n (q := 0) dX6_firstToLayIn_0) rfl wsX6_in (by decide) flX6_23 dX6_firstToLayIn_1) rfl wsX0_in (by decide) flX6_27 dX6_firstToLayIn_4) (EokI.iconst (v := 1) dX6_firstToLayIn_7 (by decide)) (OPI.isub dX6_firstToLayIn_8)) (by decide) dX6_firstToLayIn_9 (show 3 < 5 by decide)) (olX6_firstToLayIn_1 g )) (Sok.forget (pc := 51))) (Sok.retI (pc1 := 52) (EokI.iconst (v := (-1)) dX6_firstToLayIn_51 (by decide)) (by decide) dX6_firstToLayIn_52 rfl))
/-! PassHuts$Survey.isWithin(II)Z -/
theorem dX6_isWithin_0 : decode cX6_isWithin 0 = .ok (.iconst 0, 1) := by decide +kernel
theorem dX6_isWithin_1 : decode cX6_isWithin 1 = .ok (.istore_n 3, 1) := by decide +kernel
theorem dX6_isWithin_2 : decode cX6_isWithin 2 = .ok (.iload_n 3, 1) := by decide +kernel
theorem dX6_isWithin_3 : decode cX6_isWithin 3 = .ok (.aload_n 0, 1) := by decide +kernel
theorem dX6_isWithin_4 : decode cX6_isWithin 4 = .ok (.getfield 23, 3) := by decide +kernel
theorem dX6_isWithin_7 : decode cX6_isWithin 7 = .ok (.getfield 27, 3) := by decide +kernel
theorem dX6_isWithin_10 : decode cX6_isWithin 10 = .ok (.if_icmp .ge 32, 3) := by decide +kernel
theorem dX6_isWithin_13 : decode cX6_isWithin 13 = .ok (.aload_n 0, 1) := by decide +kernel
theorem dX6_isWithin_14 : decode cX6_isWithin 14 = .ok (.getfield 23, 3) := by decide +kernel
theorem dX6_isWithin_17 : decode cX6_isWithin 17 = .ok (.iload_n 1, 1) := by decide +kernel
theorem dX6_isWithin_18 : decode cX6_isWithin 18 = .ok (.iload_n 3, 1) := by decide +kernel
theorem dX6_isWithin_19 : decode cX6_isWithin 19 = .ok (.invokevirtual 78, 3) := by decide +kernel
theorem dX6_isWithin_22 : decode cX6_isWithin 22 = .ok (.aload_n 0, 1) := by decide +kernel
theorem dX6_isWithin_23 : decode cX6_isWithin 23 = .ok (.getfield 23, 3) := by decide +kernel
theorem dX6_isWithin_26 : decode cX6_isWithin 26 = .ok (.iload_n 2, 1) := by decide +kernel
theorem dX6_isWithin_27 : decode cX6_isWithin 27 = .ok (.iload_n 3, 1) := by decide +kernel
theorem dX6_isWithin_28 : decode cX6_isWithin 28 = .ok (.invokevirtual 78, 3) := by decide +kernel
theorem dX6_isWithin_31 : decode cX6_isWithin 31 = .ok (.if_icmp .le 5, 3) := by decide +kernel
theorem dX6_isWithin_34 : decode cX6_isWithin 34 = .ok (.iconst 0, 1) := by decide +kernel
theorem dX6_isWithin_35 : decode cX6_isWithin 35 = .ok (.ireturn, 1) := by decide +kernel
theorem dX6_isWithin_36 : decode cX6_isWithin 36 = .ok (.iinc 3 1, 3) := by decide +kernel
theorem dX6_isWithin_39 : decode cX6_isWithin 39 = .ok (.goto (-37), 3) := by decide +kernel
theorem dX6_isWithin_42 : decode cX6_isWithin 42 = .ok (.iconst 1, 1) := by decide +kernel
theorem dX6_isWithin_43 : decode cX6_isWithin 43 = .ok (.ireturn, 1) := by decide +kernel
abbrev tX6_isWithin (k : Nat) : MT := (RX6, cX6_isWithin, 4, k, (some .boolean))
def lX6_isWithin_1 : SX := (sLoop (cB rlt (iLoc 3) (iGet 0 3 (rGet 6 3 (rLoc 0)))) (sIf (cB rgt (iCallV 0 mX0_loadsIn (aR (rGet 6 3 (rLoc 0)) (aI (iLoc 1) (aI (iLoc 3) aNil)))) (iCallV 0 mX0_loadsIn (aR (rGet 6 3 (rLoc 0)) (aI (iLoc 2) (aI (iLoc 3) aNil))))) (sRetZ (iK 0)) sSkip) (sInc 3 1))
theorem olX6_isWithin_1 (g : GT) {pcB pcC : Nat} : Sok g (tX6_isWithin 2) 2 42 pcB pcC (lX6_isWithin_1) := (Sok.loop (pc := 2) (pc1 := 13) (pc2 := 36) (pcN := 42) (Cok.cmp (pc1 := 3) (pc2 := 10) (pcT := 13) (pcF := 42) (EokI.iload_n (q := 3) dX6_isWithin_2) (EokI.getf (pc1 := 7) (j := 3) (ci := 0) (T := TX0) (N := 17) (EokR.getf (pc1 := 4) (j := 3) (ci := 6) (T := TX6) (N := 4) (EokR.aload_n (q := 0) dX6_isWithin_3) rfl wsX6_in (by decide) flX6_23 dX6_isWithin_4) rfl wsX0_in (by decide) flX6_27 dX6_isWithin_7) (JI.ltF (tgt := 42) dX6_isWithin_10 (by decide))) (by decide) (Sok.ite (pc1 := 34) (pc2 := 36) (Cok.cmp (pc1 := 22) (pc2 := 31) (pcT := 34) (pcF := 36) (EokI.iCallV (pc1 := 19) (Aok.aR (pc1 := 17) (EokR.getf (pc1 := 14) (j := 3) (ci := 6) (T := TX6) (N := 4) (EokR.aload_n (q := 0) dX6_isWithin_13) rfl wsX6_in (by decide) flX6_23 dX6_isWithin_14) (Aok.aI (pc1 := 18) (EokI.iload_n (q := 1) dX6_isWithin_17) (Aok.aI (pc1 := 19) (EokI.iload_n (q := 3) dX6_isWithin_18) Aok.nil))) (kX0_loadsIn g) rfl ykX0_loadsIn vkX6_78 (by decide) (by decide) dX6_isWithin_19) (EokI.iCallV (pc1 := 28) (Aok.aR (pc1 := 26) (EokR.getf (pc1 := 23) (j := 3) (ci := 6) (T := TX6) (N := 4) (EokR.aload_n (q := 0) dX6_isWithin_22) rfl wsX6_in (by decide) flX6_23 dX6_isWithin_23) (Aok.aI (pc1 := 27) (EokI.iload_n (q := 2) dX6_isWithin_26) (Aok.aI (pc1 := 28) (EokI.iload_n (q := 3) dX6_isWithin_27) Aok.nil))) (kX0_loadsIn g) rfl ykX0_loadsIn vkX6_78 (by decide) (by decide) dX6_isWithin_28) (JI.gtF (tgt := 36) dX6_isWithin_31 (by decide))) (by decide) (Sok.retZ (pc1 := 35) (EokI.iconst (v := 0) dX6_isWithin_34 (by decide)) (by decide) dX6_isWithin_35 rfl) (Sok.skip (pc := 36))) (Sok.goto (pc1 := 39) (pcN := 2) (Sok.iinc (i := 3) (v := 1) dX6_isWithin_36 (show 3 < 4 by decide) (by decide)) dX6_isWithin_39 (by decide)))
def mX6_isWithin : MX := bodyOf 4 (sSeq (sSeq (sSeq (sSetI 3 (iK 0)) lX6_isWithin_1) (sForget 3)) (sRetZ (iK 1)))
theorem kX6_isWithin (g : GT) : MK g 2 yX6_isWithin cX6_isWithin 4 (some .boolean) mX6_isWithin := MK.of (pcN := 99999) (pcB := 0) (pcC := 0) rfl (Sok.seq (pc1 := 42) (Sok.seq (pc1 := 42) (Sok.seq (pc1 := 2) (Sok.setI_n (q := 3) (pc1 := 1) (EokI.iconst (v := 0) dX6_isWithin_0 (by decide)) (by decide) dX6_isWithin_1 (show 3 < 4 by decide)) (olX6_isWithin_1 g )) (Sok.forget (pc := 42))) (Sok.retZ (pc1 := 43) (EokI.iconst (v := 1) dX6_isWithin_42 (by decide)) (by decide) dX6_isWithin_43 rfl))
/-! PassHuts$Prospects.hutsFromNumber(I)I -/
theorem dX3_hutsFromNumber_0 : decode cX3_hutsFromNumber 0 = .ok (.aload_n 0, 1) := by decide +kernel
theorem dX3_hutsFromNumber_1 : decode cX3_hutsFromNumber 1 = .ok (.aload_n 0, 1) := by decide +kernel
theorem dX3_hutsFromNumber_2 : decode cX3_hutsFromNumber 2 = .ok (.iload_n 1, 1) := by decide +kernel
theorem dX3_hutsFromNumber_3 : decode cX3_hutsFromNumber 3 = .ok (.invokevirtual 68, 3) := by decide +kernel
theorem dX3_hutsFromNumber_6 : decode cX3_hutsFromNumber 6 = .ok (.invokevirtual 94, 3) := by decide +kernel
theorem dX3_hutsFromNumber_9 : decode cX3_hutsFromNumber 9 = .ok (.ireturn, 1) := by decide +kernel
abbrev tX3_hutsFromNumber (k : Nat) : MT := (RX3, cX3_hutsFromNumber, 2, k, (some .int))
def mX3_hutsFromNumber : MX := bodyOf 2 (sRetI (iCallV 3 mX3_hutsOf (aR (rLoc 0) (aL (lCallV 3 mX3_comingsAt (aR (rLoc 0) (aI (iLoc 1) aNil))) aNil))))
theorem kX3_hutsFromNumber (g : GT) : MK g 1 yX3_hutsFromNumber cX3_hutsFromNumber 2 (some .int) mX3_hutsFromNumber := MK.of (pcN := 99999) (pcB := 0) (pcC := 0) rfl (Sok.retI (pc1 := 9) (EokI.iCallV (pc1 := 6) (Aok.aR (pc1 := 1) (EokR.aload_n (q := 0) dX3_hutsFromNumber_0) (Aok.aL (pc1 := 6) (EokL.lCallV (pc1 := 3) (Aok.aR (pc1 := 2) (EokR.aload_n (q := 0) dX3_hutsFromNumber_1) (Aok.aI (pc1 := 3) (EokI.iload_n (q := 1) dX3_hutsFromNumber_2) Aok.nil)) (kX3_comingsAt g) rfl ykX3_comingsAt vkX3_68 (by decide) (by decide) dX3_hutsFromNumber_3) Aok.nil)) (kX3_hutsOf g) rfl ykX3_hutsOf vkX3_94 (by decide) (by decide) dX3_hutsFromNumber_6) (by decide) dX3_hutsFromNumber_9 rfl)
/-! PassHuts$Survey.firstGuarded(II)I -/
theorem dX6_firstGuarded_0 : decode cX6_firstGuarded 0 = .ok (.aload_n 0, 1) := by decide +kernel
theorem dX6_firstGuarded_1 : decode cX6_firstGuarded 1 = .ok (.getfield 23, 3) := by decide +kernel
theorem dX6_firstGuarded_4 : decode cX6_firstGuarded 4 = .ok (.iload_n 1, 1) := by decide +kernel
theorem dX6_firstGuarded_5 : decode cX6_firstGuarded 5 = .ok (.invokevirtual 72, 3) := by decide +kernel
theorem dX6_firstGuarded_8 : decode cX6_firstGuarded 8 = .ok (.istore_n 3, 1) := by decide +kernel
theorem dX6_firstGuarded_9 : decode cX6_firstGuarded 9 = .ok (.iload_n 3, 1) := by decide +kernel
theorem dX6_firstGuarded_10 : decode cX6_firstGuarded 10 = .ok (.ifCond .lt 89, 3) := by decide +kernel
theorem dX6_firstGuarded_13 : decode cX6_firstGuarded 13 = .ok (.aload_n 0, 1) := by decide +kernel
theorem dX6_firstGuarded_14 : decode cX6_firstGuarded 14 = .ok (.getfield 15, 3) := by decide +kernel
theorem dX6_firstGuarded_17 : decode cX6_firstGuarded 17 = .ok (.iload_n 3, 1) := by decide +kernel
theorem dX6_firstGuarded_18 : decode cX6_firstGuarded 18 = .ok (.aload_n 0, 1) := by decide +kernel
theorem dX6_firstGuarded_19 : decode cX6_firstGuarded 19 = .ok (.getfield 23, 3) := by decide +kernel
theorem dX6_firstGuarded_22 : decode cX6_firstGuarded 22 = .ok (.getfield 27, 3) := by decide +kernel
theorem dX6_firstGuarded_25 : decode cX6_firstGuarded 25 = .ok (.invokevirtual 33, 3) := by decide +kernel
theorem dX6_firstGuarded_28 : decode cX6_firstGuarded 28 = .ok (.istore 4, 2) := by decide +kernel
theorem dX6_firstGuarded_30 : decode cX6_firstGuarded 30 = .ok (.aload_n 0, 1) := by decide +kernel
theorem dX6_firstGuarded_31 : decode cX6_firstGuarded 31 = .ok (.getfield 15, 3) := by decide +kernel
theorem dX6_firstGuarded_34 : decode cX6_firstGuarded 34 = .ok (.iload_n 3, 1) := by decide +kernel
theorem dX6_firstGuarded_35 : decode cX6_firstGuarded 35 = .ok (.invokevirtual 39, 3) := by decide +kernel
theorem dX6_firstGuarded_38 : decode cX6_firstGuarded 38 = .ok (.istore 5, 2) := by decide +kernel
theorem dX6_firstGuarded_40 : decode cX6_firstGuarded 40 = .ok (.iload 5, 2) := by decide +kernel
theorem dX6_firstGuarded_42 : decode cX6_firstGuarded 42 = .ok (.iload 4, 2) := by decide +kernel
theorem dX6_firstGuarded_44 : decode cX6_firstGuarded 44 = .ok (.if_icmp .ge 49, 3) := by decide +kernel
theorem dX6_firstGuarded_47 : decode cX6_firstGuarded 47 = .ok (.aload_n 0, 1) := by decide +kernel
theorem dX6_firstGuarded_48 : decode cX6_firstGuarded 48 = .ok (.getfield 15, 3) := by decide +kernel
theorem dX6_firstGuarded_51 : decode cX6_firstGuarded 51 = .ok (.iload 5, 2) := by decide +kernel
theorem dX6_firstGuarded_53 : decode cX6_firstGuarded 53 = .ok (.invokevirtual 43, 3) := by decide +kernel
theorem dX6_firstGuarded_56 : decode cX6_firstGuarded 56 = .ok (.istore 6, 2) := by decide +kernel
theorem dX6_firstGuarded_58 : decode cX6_firstGuarded 58 = .ok (.aload_n 0, 1) := by decide +kernel
theorem dX6_firstGuarded_59 : decode cX6_firstGuarded 59 = .ok (.iload 6, 2) := by decide +kernel
theorem dX6_firstGuarded_61 : decode cX6_firstGuarded 61 = .ok (.iload_n 1, 1) := by decide +kernel
theorem dX6_firstGuarded_62 : decode cX6_firstGuarded 62 = .ok (.invokevirtual 75, 3) := by decide +kernel
theorem dX6_firstGuarded_65 : decode cX6_firstGuarded 65 = .ok (.ifCond .eq 22, 3) := by decide +kernel
theorem dX6_firstGuarded_68 : decode cX6_firstGuarded 68 = .ok (.aload_n 0, 1) := by decide +kernel
theorem dX6_firstGuarded_69 : decode cX6_firstGuarded 69 = .ok (.getfield 19, 3) := by decide +kernel
theorem dX6_firstGuarded_72 : decode cX6_firstGuarded 72 = .ok (.iload 5, 2) := by decide +kernel
theorem dX6_firstGuarded_74 : decode cX6_firstGuarded 74 = .ok (.invokevirtual 50, 3) := by decide +kernel
theorem dX6_firstGuarded_77 : decode cX6_firstGuarded 77 = .ok (.iload_n 2, 1) := by decide +kernel
theorem dX6_firstGuarded_78 : decode cX6_firstGuarded 78 = .ok (.ishr, 1) := by decide +kernel
theorem dX6_firstGuarded_79 : decode cX6_firstGuarded 79 = .ok (.iconst 1, 1) := by decide +kernel
theorem dX6_firstGuarded_80 : decode cX6_firstGuarded 80 = .ok (.iand, 1) := by decide +kernel
theorem dX6_firstGuarded_81 : decode cX6_firstGuarded 81 = .ok (.ifCond .ne 6, 3) := by decide +kernel
theorem dX6_firstGuarded_84 : decode cX6_firstGuarded 84 = .ok (.iload 6, 2) := by decide +kernel
theorem dX6_firstGuarded_86 : decode cX6_firstGuarded 86 = .ok (.ireturn, 1) := by decide +kernel
theorem dX6_firstGuarded_87 : decode cX6_firstGuarded 87 = .ok (.iinc 5 1, 3) := by decide +kernel
theorem dX6_firstGuarded_90 : decode cX6_firstGuarded 90 = .ok (.goto (-50), 3) := by decide +kernel
theorem dX6_firstGuarded_93 : decode cX6_firstGuarded 93 = .ok (.iinc 3 (-1), 3) := by decide +kernel
theorem dX6_firstGuarded_96 : decode cX6_firstGuarded 96 = .ok (.goto (-87), 3) := by decide +kernel
theorem dX6_firstGuarded_99 : decode cX6_firstGuarded 99 = .ok (.iconst (-1), 1) := by decide +kernel
theorem dX6_firstGuarded_100 : decode cX6_firstGuarded 100 = .ok (.ireturn, 1) := by decide +kernel
abbrev tX6_firstGuarded (k : Nat) : MT := (RX6, cX6_firstGuarded, 7, k, (some .int))
def lX6_firstGuarded_1 : SX := (sLoop (cB rlt (iLoc 5) (iLoc 4)) (sSeq (sSetI 6 (iCallV 2 mX2_lyingAt (aR (rGet 6 0 (rLoc 0)) (aI (iLoc 5) aNil)))) (sIf (cAnd (cZ zne (iCallV 6 mX6_isWithin (aR (rLoc 0) (aI (iLoc 6) (aI (iLoc 1) aNil))))) (cZ zeq (iB gT2 (· &&& ·) (iB gT2 jshr (iCallV 3 mX3_hutsFromNumber (aR (rGet 6 1 (rLoc 0)) (aI (iLoc 5) aNil))) (iLoc 2)) (iK 1)))) (sRetI (iLoc 6)) sSkip)) (sSeq (sForget 6) (sInc 5 1)))
def lX6_firstGuarded_2 : SX := (sLoop (cZ zge (iLoc 3)) (sSeq (sSetI 4 (iCallV 2 mX2_endOf (aR (rGet 6 0 (rLoc 0)) (aI (iLoc 3) (aI (iGet 0 3 (rGet 6 3 (rLoc 0))) aNil))))) (sSeq (sSetI 5 (iCallV 2 mX2_firstOf (aR (rGet 6 0 (rLoc 0)) (aI (iLoc 3) aNil)))) lX6_firstGuarded_1)) (sSeq (sForget 4) (sInc 3 (-1))))
theorem olX6_firstGuarded_1 (g : GT) {pcB pcC : Nat} : Sok g (tX6_firstGuarded 3) 40 93 pcB pcC (lX6_firstGuarded_1) := (Sok.loop (pc := 40) (pc1 := 47) (pc2 := 87) (pcN := 93) (Cok.cmp (pc1 := 42) (pc2 := 44) (pcT := 47) (pcF := 93) (EokI.iload (i := 5) dX6_firstGuarded_40) (EokI.iload (i := 4) dX6_firstGuarded_42) (JI.ltF (tgt := 93) dX6_firstGuarded_44 (by decide))) (by decide) (Sok.seq (pc1 := 58) (Sok.setI (i := 6) (pc1 := 56) (EokI.iCallV (pc1 := 53) (Aok.aR (pc1 := 51) (EokR.getf (pc1 := 48) (j := 0) (ci := 6) (T := TX6) (N := 4) (EokR.aload_n (q := 0) dX6_firstGuarded_47) rfl wsX6_in (by decide) flX6_15 dX6_firstGuarded_48) (Aok.aI (pc1 := 53) (EokI.iload (i := 5) dX6_firstGuarded_51) Aok.nil)) (kX2_lyingAt g) rfl ykX2_lyingAt vkX6_43 (by decide) (by decide) dX6_firstGuarded_53) (by decide) dX6_firstGuarded_56 (show 6 < 7 by decide)) (Sok.ite (pc1 := 84) (pc2 := 87) (Cok.and (pc1 := 68) (Cok.zero (pc1 := 65) (pcT := 68) (pcF := 87) (EokI.iCallV (pc1 := 62) (Aok.aR (pc1 := 59) (EokR.aload_n (q := 0) dX6_firstGuarded_58) (Aok.aI (pc1 := 61) (EokI.iload (i := 6) dX6_firstGuarded_59) (Aok.aI (pc1 := 62) (EokI.iload_n (q := 1) dX6_firstGuarded_61) Aok.nil))) (kX6_isWithin g) rfl ykX6_isWithin vkX6_75 (by decide) (by decide) dX6_firstGuarded_62) (JZ.neF (tgt := 87) dX6_firstGuarded_65 (by decide))) (Cok.zero (pc1 := 81) (pcT := 84) (pcF := 87) (EokI.bin (pc1 := 79) (pc2 := 80) (EokI.bin (pc1 := 77) (pc2 := 78) (EokI.iCallV (pc1 := 74) (Aok.aR (pc1 := 72) (EokR.getf (pc1 := 69) (j := 1) (ci := 6) (T := TX6) (N := 4) (EokR.aload_n (q := 0) dX6_firstGuarded_68) rfl wsX6_in (by decide) flX6_19 dX6_firstGuarded_69) (Aok.aI (pc1 := 74) (EokI.iload (i := 5) dX6_firstGuarded_72) Aok.nil)) (kX3_hutsFromNumber g) rfl ykX3_hutsFromNumber vkX6_50 (by decide) (by decide) dX6_firstGuarded_74) (EokI.iload_n (q := 2) dX6_firstGuarded_77) (OPI.ishr dX6_firstGuarded_78)) (EokI.iconst (v := 1) dX6_firstGuarded_79 (by decide)) (OPI.iand dX6_firstGuarded_80)) (JZ.eqF (tgt := 87) dX6_firstGuarded_81 (by decide)))) (by decide) (Sok.retI (pc1 := 86) (EokI.iload (i := 6) dX6_firstGuarded_84) (by decide) dX6_firstGuarded_86 rfl) (Sok.skip (pc := 87)))) (Sok.seq (pc1 := 87) Sok.forget (Sok.goto (pc1 := 90) (pcN := 40) (Sok.iinc (i := 5) (v := 1) dX6_firstGuarded_87 (show 5 < 7 by decide) (by decide)) dX6_firstGuarded_90 (by decide))))
theorem olX6_firstGuarded_2 (g : GT) {pcB pcC : Nat} : Sok g (tX6_firstGuarded 3) 9 99 pcB pcC (lX6_firstGuarded_2) := (Sok.loop (pc := 9) (pc1 := 13) (pc2 := 93) (pcN := 99) (Cok.zero (pc1 := 10) (pcT := 13) (pcF := 99) (EokI.iload_n (q := 3) dX6_firstGuarded_9) (JZ.geF (tgt := 99) dX6_firstGuarded_10 (by decide))) (by decide) (Sok.seq (pc1 := 30) (Sok.setI (i := 4) (pc1 := 28) (EokI.iCallV (pc1 := 25) (Aok.aR (pc1 := 17) (EokR.getf (pc1 := 14) (j := 0) (ci := 6) (T := TX6) (N := 4) (EokR.aload_n (q := 0) dX6_firstGuarded_13) rfl wsX6_in (by decide) flX6_15 dX6_firstGuarded_14) (Aok.aI (pc1 := 18) (EokI.iload_n (q := 3) dX6_firstGuarded_17) (Aok.aI (pc1 := 25) (EokI.getf (pc1 := 22) (j := 3) (ci := 0) (T := TX0) (N := 17) (EokR.getf (pc1 := 19) (j := 3) (ci := 6) (T := TX6) (N := 4) (EokR.aload_n (q := 0) dX6_firstGuarded_18) rfl wsX6_in (by decide) flX6_23 dX6_firstGuarded_19) rfl wsX0_in (by decide) flX6_27 dX6_firstGuarded_22) Aok.nil))) (kX2_endOf g) rfl ykX2_endOf vkX6_33 (by decide) (by decide) dX6_firstGuarded_25) (by decide) dX6_firstGuarded_28 (show 4 < 7 by decide)) (Sok.seq (pc1 := 40) (Sok.setI (i := 5) (pc1 := 38) (EokI.iCallV (pc1 := 35) (Aok.aR (pc1 := 34) (EokR.getf (pc1 := 31) (j := 0) (ci := 6) (T := TX6) (N := 4) (EokR.aload_n (q := 0) dX6_firstGuarded_30) rfl wsX6_in (by decide) flX6_15 dX6_firstGuarded_31) (Aok.aI (pc1 := 35) (EokI.iload_n (q := 3) dX6_firstGuarded_34) Aok.nil)) (kX2_firstOf g) rfl ykX2_firstOf vkX6_39 (by decide) (by decide) dX6_firstGuarded_35) (by decide) dX6_firstGuarded_38 (show 5 < 7 by decide)) (olX6_firstGuarded_1 g ))) (Sok.seq (pc1 := 93) Sok.forget (Sok.goto (pc1 := 96) (pcN := 9) (Sok.iinc (i := 3) (v := (-1)) dX6_firstGuarded_93 (show 3 < 7 by decide) (by decide)) dX6_firstGuarded_96 (by decide))))
def mX6_firstGuarded : MX := bodyOf 7 (sSeq (sSeq (sSeq (sSetI 3 (iCallV 0 mX0_sumOf (aR (rGet 6 3 (rLoc 0)) (aI (iLoc 1) aNil)))) lX6_firstGuarded_2) (sForget 3)) (sRetI (iK (-1))))
theorem kX6_firstGuarded (g : GT) : MK g 3 yX6_firstGuarded cX6_firstGuarded 7 (some .int) mX6_firstGuarded := MK.of (pcN := 99999) (pcB := 0) (pcC := 0) rfl (Sok.seq (pc1 := 99) (Sok.seq (pc1 := 99) (Sok.seq (pc1 := 9) (Sok.setI_n (q := 3) (pc1 := 8) (EokI.iCallV (pc1 := 5) (Aok.aR (pc1 := 4) (EokR.getf (pc1 := 1) (j := 3) (ci := 6) (T := TX6) (N := 4) (EokR.aload_n (q := 0) dX6_firstGuarded_0) rfl wsX6_in (by decide) flX6_23 dX6_firstGuarded_1) (Aok.aI (pc1 := 5) (EokI.iload_n (q := 1) dX6_firstGuarded_4) Aok.nil)) (kX0_sumOf g) rfl ykX0_sumOf vkX6_72 (by decide) (by decide) dX6_firstGuarded_5) (by decide) dX6_firstGuarded_8 (show 3 < 7 by decide)) (olX6_firstGuarded_2 g )) (Sok.forget (pc := 99))) (Sok.retI (pc1 := 100) (EokI.iconst (v := (-1)) dX6_firstGuarded_99 (by decide)) (by decide) dX6_firstGuarded_100 rfl))
/-! PassHuts$Survey.countLayings(I)I -/
theorem dX6_countLayings_0 : decode cX6_countLayings 0 = .ok (.iconst 0, 1) := by decide +kernel
theorem dX6_countLayings_1 : decode cX6_countLayings 1 = .ok (.istore_n 2, 1) := by decide +kernel
theorem dX6_countLayings_2 : decode cX6_countLayings 2 = .ok (.aload_n 0, 1) := by decide +kernel
theorem dX6_countLayings_3 : decode cX6_countLayings 3 = .ok (.getfield 15, 3) := by decide +kernel
theorem dX6_countLayings_6 : decode cX6_countLayings 6 = .ok (.iload_n 1, 1) := by decide +kernel
theorem dX6_countLayings_7 : decode cX6_countLayings 7 = .ok (.aload_n 0, 1) := by decide +kernel
theorem dX6_countLayings_8 : decode cX6_countLayings 8 = .ok (.getfield 23, 3) := by decide +kernel
theorem dX6_countLayings_11 : decode cX6_countLayings 11 = .ok (.getfield 27, 3) := by decide +kernel
theorem dX6_countLayings_14 : decode cX6_countLayings 14 = .ok (.invokevirtual 33, 3) := by decide +kernel
theorem dX6_countLayings_17 : decode cX6_countLayings 17 = .ok (.istore_n 3, 1) := by decide +kernel
theorem dX6_countLayings_18 : decode cX6_countLayings 18 = .ok (.aload_n 0, 1) := by decide +kernel
theorem dX6_countLayings_19 : decode cX6_countLayings 19 = .ok (.getfield 15, 3) := by decide +kernel
theorem dX6_countLayings_22 : decode cX6_countLayings 22 = .ok (.iload_n 1, 1) := by decide +kernel
theorem dX6_countLayings_23 : decode cX6_countLayings 23 = .ok (.invokevirtual 39, 3) := by decide +kernel
theorem dX6_countLayings_26 : decode cX6_countLayings 26 = .ok (.istore 4, 2) := by decide +kernel
theorem dX6_countLayings_28 : decode cX6_countLayings 28 = .ok (.iload 4, 2) := by decide +kernel
theorem dX6_countLayings_30 : decode cX6_countLayings 30 = .ok (.iload_n 3, 1) := by decide +kernel
theorem dX6_countLayings_31 : decode cX6_countLayings 31 = .ok (.if_icmp .ge 31, 3) := by decide +kernel
theorem dX6_countLayings_34 : decode cX6_countLayings 34 = .ok (.aload_n 0, 1) := by decide +kernel
theorem dX6_countLayings_35 : decode cX6_countLayings 35 = .ok (.getfield 23, 3) := by decide +kernel
theorem dX6_countLayings_38 : decode cX6_countLayings 38 = .ok (.aload_n 0, 1) := by decide +kernel
theorem dX6_countLayings_39 : decode cX6_countLayings 39 = .ok (.getfield 15, 3) := by decide +kernel
theorem dX6_countLayings_42 : decode cX6_countLayings 42 = .ok (.iload 4, 2) := by decide +kernel
theorem dX6_countLayings_44 : decode cX6_countLayings 44 = .ok (.invokevirtual 43, 3) := by decide +kernel
theorem dX6_countLayings_47 : decode cX6_countLayings 47 = .ok (.invokevirtual 46, 3) := by decide +kernel
theorem dX6_countLayings_50 : decode cX6_countLayings 50 = .ok (.ifCond .eq 6, 3) := by decide +kernel
theorem dX6_countLayings_53 : decode cX6_countLayings 53 = .ok (.iinc 2 1, 3) := by decide +kernel
theorem dX6_countLayings_56 : decode cX6_countLayings 56 = .ok (.iinc 4 1, 3) := by decide +kernel
theorem dX6_countLayings_59 : decode cX6_countLayings 59 = .ok (.goto (-31), 3) := by decide +kernel
theorem dX6_countLayings_62 : decode cX6_countLayings 62 = .ok (.iload_n 2, 1) := by decide +kernel
theorem dX6_countLayings_63 : decode cX6_countLayings 63 = .ok (.ireturn, 1) := by decide +kernel
abbrev tX6_countLayings (k : Nat) : MT := (RX6, cX6_countLayings, 5, k, (some .int))
def lX6_countLayings_1 : SX := (sLoop (cB rlt (iLoc 4) (iLoc 3)) (sIf (cZ zne (iCallV 0 mX0_isWayToLie (aR (rGet 6 3 (rLoc 0)) (aI (iCallV 2 mX2_lyingAt (aR (rGet 6 0 (rLoc 0)) (aI (iLoc 4) aNil))) aNil)))) (sInc 2 1) sSkip) (sInc 4 1))
theorem olX6_countLayings_1 (g : GT) {pcB pcC : Nat} : Sok g (tX6_countLayings 1) 28 62 pcB pcC (lX6_countLayings_1) := (Sok.loop (pc := 28) (pc1 := 34) (pc2 := 56) (pcN := 62) (Cok.cmp (pc1 := 30) (pc2 := 31) (pcT := 34) (pcF := 62) (EokI.iload (i := 4) dX6_countLayings_28) (EokI.iload_n (q := 3) dX6_countLayings_30) (JI.ltF (tgt := 62) dX6_countLayings_31 (by decide))) (by decide) (Sok.ite (pc1 := 53) (pc2 := 56) (Cok.zero (pc1 := 50) (pcT := 53) (pcF := 56) (EokI.iCallV (pc1 := 47) (Aok.aR (pc1 := 38) (EokR.getf (pc1 := 35) (j := 3) (ci := 6) (T := TX6) (N := 4) (EokR.aload_n (q := 0) dX6_countLayings_34) rfl wsX6_in (by decide) flX6_23 dX6_countLayings_35) (Aok.aI (pc1 := 47) (EokI.iCallV (pc1 := 44) (Aok.aR (pc1 := 42) (EokR.getf (pc1 := 39) (j := 0) (ci := 6) (T := TX6) (N := 4) (EokR.aload_n (q := 0) dX6_countLayings_38) rfl wsX6_in (by decide) flX6_15 dX6_countLayings_39) (Aok.aI (pc1 := 44) (EokI.iload (i := 4) dX6_countLayings_42) Aok.nil)) (kX2_lyingAt g) rfl ykX2_lyingAt vkX6_43 (by decide) (by decide) dX6_countLayings_44) Aok.nil)) (kX0_isWayToLie g) rfl ykX0_isWayToLie vkX6_46 (by decide) (by decide) dX6_countLayings_47) (JZ.neF (tgt := 56) dX6_countLayings_50 (by decide))) (by decide) (Sok.iinc (i := 2) (v := 1) dX6_countLayings_53 (show 2 < 5 by decide) (by decide)) (Sok.skip (pc := 56))) (Sok.goto (pc1 := 59) (pcN := 28) (Sok.iinc (i := 4) (v := 1) dX6_countLayings_56 (show 4 < 5 by decide) (by decide)) dX6_countLayings_59 (by decide)))
def mX6_countLayings : MX := bodyOf 5 (sSeq (sSetI 2 (iK 0)) (sSeq (sSetI 3 (iCallV 2 mX2_endOf (aR (rGet 6 0 (rLoc 0)) (aI (iLoc 1) (aI (iGet 0 3 (rGet 6 3 (rLoc 0))) aNil))))) (sSeq (sSeq (sSeq (sSetI 4 (iCallV 2 mX2_firstOf (aR (rGet 6 0 (rLoc 0)) (aI (iLoc 1) aNil)))) lX6_countLayings_1) (sForget 4)) (sRetI (iLoc 2)))))
theorem kX6_countLayings (g : GT) : MK g 1 yX6_countLayings cX6_countLayings 5 (some .int) mX6_countLayings := MK.of (pcN := 99999) (pcB := 0) (pcC := 0) rfl (Sok.seq (pc1 := 2) (Sok.setI_n (q := 2) (pc1 := 1) (EokI.iconst (v := 0) dX6_countLayings_0 (by decide)) (by decide) dX6_countLayings_1 (show 2 < 5 by decide)) (Sok.seq (pc1 := 18) (Sok.setI_n (q := 3) (pc1 := 17) (EokI.iCallV (pc1 := 14) (Aok.aR (pc1 := 6) (EokR.getf (pc1 := 3) (j := 0) (ci := 6) (T := TX6) (N := 4) (EokR.aload_n (q := 0) dX6_countLayings_2) rfl wsX6_in (by decide) flX6_15 dX6_countLayings_3) (Aok.aI (pc1 := 7) (EokI.iload_n (q := 1) dX6_countLayings_6) (Aok.aI (pc1 := 14) (EokI.getf (pc1 := 11) (j := 3) (ci := 0) (T := TX0) (N := 17) (EokR.getf (pc1 := 8) (j := 3) (ci := 6) (T := TX6) (N := 4) (EokR.aload_n (q := 0) dX6_countLayings_7) rfl wsX6_in (by decide) flX6_23 dX6_countLayings_8) rfl wsX0_in (by decide) flX6_27 dX6_countLayings_11) Aok.nil))) (kX2_endOf g) rfl ykX2_endOf vkX6_33 (by decide) (by decide) dX6_countLayings_14) (by decide) dX6_countLayings_17 (show 3 < 5 by decide)) (Sok.seq (pc1 := 62) (Sok.seq (pc1 := 62) (Sok.seq (pc1 := 28) (Sok.setI (i := 4) (pc1 := 26) (EokI.iCallV (pc1 := 23) (Aok.aR (pc1 := 22) (EokR.getf (pc1 := 19) (j := 0) (ci := 6) (T := TX6) (N := 4) (EokR.aload_n (q := 0) dX6_countLayings_18) rfl wsX6_in (by decide) flX6_15 dX6_countLayings_19) (Aok.aI (pc1 := 23) (EokI.iload_n (q := 1) dX6_countLayings_22) Aok.nil)) (kX2_firstOf g) rfl ykX2_firstOf vkX6_39 (by decide) (by decide) dX6_countLayings_23) (by decide) dX6_countLayings_26 (show 4 < 5 by decide)) (olX6_countLayings_1 g )) (Sok.forget (pc := 62))) (Sok.retI (pc1 := 63) (EokI.iload_n (q := 2) dX6_countLayings_62) (by decide) dX6_countLayings_63 rfl))))
/-! PassHuts$Survey.countComing(II)I -/
theorem dX6_countComing_0 : decode cX6_countComing 0 = .ok (.iconst 0, 1) := by decide +kernel
theorem dX6_countComing_1 : decode cX6_countComing 1 = .ok (.istore_n 3, 1) := by decide +kernel
theorem dX6_countComing_2 : decode cX6_countComing 2 = .ok (.aload_n 0, 1) := by decide +kernel
theorem dX6_countComing_3 : decode cX6_countComing 3 = .ok (.getfield 15, 3) := by decide +kernel
theorem dX6_countComing_6 : decode cX6_countComing 6 = .ok (.iload_n 2, 1) := by decide +kernel
theorem dX6_countComing_7 : decode cX6_countComing 7 = .ok (.aload_n 0, 1) := by decide +kernel
theorem dX6_countComing_8 : decode cX6_countComing 8 = .ok (.getfield 23, 3) := by decide +kernel
theorem dX6_countComing_11 : decode cX6_countComing 11 = .ok (.getfield 27, 3) := by decide +kernel
theorem dX6_countComing_14 : decode cX6_countComing 14 = .ok (.invokevirtual 33, 3) := by decide +kernel
theorem dX6_countComing_17 : decode cX6_countComing 17 = .ok (.istore 4, 2) := by decide +kernel
theorem dX6_countComing_19 : decode cX6_countComing 19 = .ok (.aload_n 0, 1) := by decide +kernel
theorem dX6_countComing_20 : decode cX6_countComing 20 = .ok (.getfield 15, 3) := by decide +kernel
theorem dX6_countComing_23 : decode cX6_countComing 23 = .ok (.iload_n 2, 1) := by decide +kernel
theorem dX6_countComing_24 : decode cX6_countComing 24 = .ok (.invokevirtual 39, 3) := by decide +kernel
theorem dX6_countComing_27 : decode cX6_countComing 27 = .ok (.istore 5, 2) := by decide +kernel
theorem dX6_countComing_29 : decode cX6_countComing 29 = .ok (.iload 5, 2) := by decide +kernel
theorem dX6_countComing_31 : decode cX6_countComing 31 = .ok (.iload 4, 2) := by decide +kernel
theorem dX6_countComing_33 : decode cX6_countComing 33 = .ok (.if_icmp .ge 51, 3) := by decide +kernel
theorem dX6_countComing_36 : decode cX6_countComing 36 = .ok (.aload_n 0, 1) := by decide +kernel
theorem dX6_countComing_37 : decode cX6_countComing 37 = .ok (.getfield 23, 3) := by decide +kernel
theorem dX6_countComing_40 : decode cX6_countComing 40 = .ok (.aload_n 0, 1) := by decide +kernel
theorem dX6_countComing_41 : decode cX6_countComing 41 = .ok (.getfield 15, 3) := by decide +kernel
theorem dX6_countComing_44 : decode cX6_countComing 44 = .ok (.iload 5, 2) := by decide +kernel
theorem dX6_countComing_46 : decode cX6_countComing 46 = .ok (.invokevirtual 43, 3) := by decide +kernel
theorem dX6_countComing_49 : decode cX6_countComing 49 = .ok (.invokevirtual 46, 3) := by decide +kernel
theorem dX6_countComing_52 : decode cX6_countComing 52 = .ok (.istore 6, 2) := by decide +kernel
theorem dX6_countComing_54 : decode cX6_countComing 54 = .ok (.iload 6, 2) := by decide +kernel
theorem dX6_countComing_56 : decode cX6_countComing 56 = .ok (.ifCond .eq 22, 3) := by decide +kernel
theorem dX6_countComing_59 : decode cX6_countComing 59 = .ok (.aload_n 0, 1) := by decide +kernel
theorem dX6_countComing_60 : decode cX6_countComing 60 = .ok (.getfield 19, 3) := by decide +kernel
theorem dX6_countComing_63 : decode cX6_countComing 63 = .ok (.iload 5, 2) := by decide +kernel
theorem dX6_countComing_65 : decode cX6_countComing 65 = .ok (.invokevirtual 50, 3) := by decide +kernel
theorem dX6_countComing_68 : decode cX6_countComing 68 = .ok (.iload_n 1, 1) := by decide +kernel
theorem dX6_countComing_69 : decode cX6_countComing 69 = .ok (.ishr, 1) := by decide +kernel
theorem dX6_countComing_70 : decode cX6_countComing 70 = .ok (.iconst 1, 1) := by decide +kernel
theorem dX6_countComing_71 : decode cX6_countComing 71 = .ok (.iand, 1) := by decide +kernel
theorem dX6_countComing_72 : decode cX6_countComing 72 = .ok (.ifCond .eq 6, 3) := by decide +kernel
theorem dX6_countComing_75 : decode cX6_countComing 75 = .ok (.iinc 3 1, 3) := by decide +kernel
theorem dX6_countComing_78 : decode cX6_countComing 78 = .ok (.iinc 5 1, 3) := by decide +kernel
theorem dX6_countComing_81 : decode cX6_countComing 81 = .ok (.goto (-52), 3) := by decide +kernel
theorem dX6_countComing_84 : decode cX6_countComing 84 = .ok (.iload_n 3, 1) := by decide +kernel
theorem dX6_countComing_85 : decode cX6_countComing 85 = .ok (.ireturn, 1) := by decide +kernel
abbrev tX6_countComing (k : Nat) : MT := (RX6, cX6_countComing, 7, k, (some .int))
def lX6_countComing_1 : SX := (sLoop (cB rlt (iLoc 5) (iLoc 4)) (sSeq (sSetI 6 (iCallV 0 mX0_isWayToLie (aR (rGet 6 3 (rLoc 0)) (aI (iCallV 2 mX2_lyingAt (aR (rGet 6 0 (rLoc 0)) (aI (iLoc 5) aNil))) aNil)))) (sIf (cAnd (cZ zne (iLoc 6)) (cZ zne (iB gT2 (· &&& ·) (iB gT2 jshr (iCallV 3 mX3_hutsFromNumber (aR (rGet 6 1 (rLoc 0)) (aI (iLoc 5) aNil))) (iLoc 1)) (iK 1)))) (sInc 3 1) sSkip)) (sSeq (sForget 6) (sInc 5 1)))
theorem olX6_countComing_1 (g : GT) {pcB pcC : Nat} : Sok g (tX6_countComing 2) 29 84 pcB pcC (lX6_countComing_1) := (Sok.loop (pc := 29) (pc1 := 36) (pc2 := 78) (pcN := 84) (Cok.cmp (pc1 := 31) (pc2 := 33) (pcT := 36) (pcF := 84) (EokI.iload (i := 5) dX6_countComing_29) (EokI.iload (i := 4) dX6_countComing_31) (JI.ltF (tgt := 84) dX6_countComing_33 (by decide))) (by decide) (Sok.seq (pc1 := 54) (Sok.setI (i := 6) (pc1 := 52) (EokI.iCallV (pc1 := 49) (Aok.aR (pc1 := 40) (EokR.getf (pc1 := 37) (j := 3) (ci := 6) (T := TX6) (N := 4) (EokR.aload_n (q := 0) dX6_countComing_36) rfl wsX6_in (by decide) flX6_23 dX6_countComing_37) (Aok.aI (pc1 := 49) (EokI.iCallV (pc1 := 46) (Aok.aR (pc1 := 44) (EokR.getf (pc1 := 41) (j := 0) (ci := 6) (T := TX6) (N := 4) (EokR.aload_n (q := 0) dX6_countComing_40) rfl wsX6_in (by decide) flX6_15 dX6_countComing_41) (Aok.aI (pc1 := 46) (EokI.iload (i := 5) dX6_countComing_44) Aok.nil)) (kX2_lyingAt g) rfl ykX2_lyingAt vkX6_43 (by decide) (by decide) dX6_countComing_46) Aok.nil)) (kX0_isWayToLie g) rfl ykX0_isWayToLie vkX6_46 (by decide) (by decide) dX6_countComing_49) (by decide) dX6_countComing_52 (show 6 < 7 by decide)) (Sok.ite (pc1 := 75) (pc2 := 78) (Cok.and (pc1 := 59) (Cok.zero (pc1 := 56) (pcT := 59) (pcF := 78) (EokI.iload (i := 6) dX6_countComing_54) (JZ.neF (tgt := 78) dX6_countComing_56 (by decide))) (Cok.zero (pc1 := 72) (pcT := 75) (pcF := 78) (EokI.bin (pc1 := 70) (pc2 := 71) (EokI.bin (pc1 := 68) (pc2 := 69) (EokI.iCallV (pc1 := 65) (Aok.aR (pc1 := 63) (EokR.getf (pc1 := 60) (j := 1) (ci := 6) (T := TX6) (N := 4) (EokR.aload_n (q := 0) dX6_countComing_59) rfl wsX6_in (by decide) flX6_19 dX6_countComing_60) (Aok.aI (pc1 := 65) (EokI.iload (i := 5) dX6_countComing_63) Aok.nil)) (kX3_hutsFromNumber g) rfl ykX3_hutsFromNumber vkX6_50 (by decide) (by decide) dX6_countComing_65) (EokI.iload_n (q := 1) dX6_countComing_68) (OPI.ishr dX6_countComing_69)) (EokI.iconst (v := 1) dX6_countComing_70 (by decide)) (OPI.iand dX6_countComing_71)) (JZ.neF (tgt := 78) dX6_countComing_72 (by decide)))) (by decide) (Sok.iinc (i := 3) (v := 1) dX6_countComing_75 (show 3 < 7 by decide) (by decide)) (Sok.skip (pc := 78)))) (Sok.seq (pc1 := 78) Sok.forget (Sok.goto (pc1 := 81) (pcN := 29) (Sok.iinc (i := 5) (v := 1) dX6_countComing_78 (show 5 < 7 by decide) (by decide)) dX6_countComing_81 (by decide))))
def mX6_countComing : MX := bodyOf 7 (sSeq (sSetI 3 (iK 0)) (sSeq (sSetI 4 (iCallV 2 mX2_endOf (aR (rGet 6 0 (rLoc 0)) (aI (iLoc 2) (aI (iGet 0 3 (rGet 6 3 (rLoc 0))) aNil))))) (sSeq (sSeq (sSeq (sSetI 5 (iCallV 2 mX2_firstOf (aR (rGet 6 0 (rLoc 0)) (aI (iLoc 2) aNil)))) lX6_countComing_1) (sForget 5)) (sRetI (iLoc 3)))))
theorem kX6_countComing (g : GT) : MK g 2 yX6_countComing cX6_countComing 7 (some .int) mX6_countComing := MK.of (pcN := 99999) (pcB := 0) (pcC := 0) rfl (Sok.seq (pc1 := 2) (Sok.setI_n (q := 3) (pc1 := 1) (EokI.iconst (v := 0) dX6_countComing_0 (by decide)) (by decide) dX6_countComing_1 (show 3 < 7 by decide)) (Sok.seq (pc1 := 19) (Sok.setI (i := 4) (pc1 := 17) (EokI.iCallV (pc1 := 14) (Aok.aR (pc1 := 6) (EokR.getf (pc1 := 3) (j := 0) (ci := 6) (T := TX6) (N := 4) (EokR.aload_n (q := 0) dX6_countComing_2) rfl wsX6_in (by decide) flX6_15 dX6_countComing_3) (Aok.aI (pc1 := 7) (EokI.iload_n (q := 2) dX6_countComing_6) (Aok.aI (pc1 := 14) (EokI.getf (pc1 := 11) (j := 3) (ci := 0) (T := TX0) (N := 17) (EokR.getf (pc1 := 8) (j := 3) (ci := 6) (T := TX6) (N := 4) (EokR.aload_n (q := 0) dX6_countComing_7) rfl wsX6_in (by decide) flX6_23 dX6_countComing_8) rfl wsX0_in (by decide) flX6_27 dX6_countComing_11) Aok.nil))) (kX2_endOf g) rfl ykX2_endOf vkX6_33 (by decide) (by decide) dX6_countComing_14) (by decide) dX6_countComing_17 (show 4 < 7 by decide)) (Sok.seq (pc1 := 84) (Sok.seq (pc1 := 84) (Sok.seq (pc1 := 29) (Sok.setI (i := 5) (pc1 := 27) (EokI.iCallV (pc1 := 24) (Aok.aR (pc1 := 23) (EokR.getf (pc1 := 20) (j := 0) (ci := 6) (T := TX6) (N := 4) (EokR.aload_n (q := 0) dX6_countComing_19) rfl wsX6_in (by decide) flX6_15 dX6_countComing_20) (Aok.aI (pc1 := 24) (EokI.iload_n (q := 2) dX6_countComing_23) Aok.nil)) (kX2_firstOf g) rfl ykX2_firstOf vkX6_39 (by decide) (by decide) dX6_countComing_24) (by decide) dX6_countComing_27 (show 5 < 7 by decide)) (olX6_countComing_1 g )) (Sok.forget (pc := 84))) (Sok.retI (pc1 := 85) (EokI.iload_n (q := 3) dX6_countComing_84) (by decide) dX6_countComing_85 rfl))))
/-! PassHuts$Survey.countEdens(I)I -/
theorem dX6_countEdens_0 : decode cX6_countEdens 0 = .ok (.iconst 0, 1) := by decide +kernel
theorem dX6_countEdens_1 : decode cX6_countEdens 1 = .ok (.istore_n 2, 1) := by decide +kernel
theorem dX6_countEdens_2 : decode cX6_countEdens 2 = .ok (.aload_n 0, 1) := by decide +kernel
theorem dX6_countEdens_3 : decode cX6_countEdens 3 = .ok (.getfield 15, 3) := by decide +kernel
theorem dX6_countEdens_6 : decode cX6_countEdens 6 = .ok (.iload_n 1, 1) := by decide +kernel
theorem dX6_countEdens_7 : decode cX6_countEdens 7 = .ok (.aload_n 0, 1) := by decide +kernel
theorem dX6_countEdens_8 : decode cX6_countEdens 8 = .ok (.getfield 23, 3) := by decide +kernel
theorem dX6_countEdens_11 : decode cX6_countEdens 11 = .ok (.getfield 27, 3) := by decide +kernel
theorem dX6_countEdens_14 : decode cX6_countEdens 14 = .ok (.invokevirtual 33, 3) := by decide +kernel
theorem dX6_countEdens_17 : decode cX6_countEdens 17 = .ok (.istore_n 3, 1) := by decide +kernel
theorem dX6_countEdens_18 : decode cX6_countEdens 18 = .ok (.aload_n 0, 1) := by decide +kernel
theorem dX6_countEdens_19 : decode cX6_countEdens 19 = .ok (.getfield 15, 3) := by decide +kernel
theorem dX6_countEdens_22 : decode cX6_countEdens 22 = .ok (.iload_n 1, 1) := by decide +kernel
theorem dX6_countEdens_23 : decode cX6_countEdens 23 = .ok (.invokevirtual 39, 3) := by decide +kernel
theorem dX6_countEdens_26 : decode cX6_countEdens 26 = .ok (.istore 4, 2) := by decide +kernel
theorem dX6_countEdens_28 : decode cX6_countEdens 28 = .ok (.iload 4, 2) := by decide +kernel
theorem dX6_countEdens_30 : decode cX6_countEdens 30 = .ok (.iload_n 3, 1) := by decide +kernel
theorem dX6_countEdens_31 : decode cX6_countEdens 31 = .ok (.if_icmp .ge 47, 3) := by decide +kernel
theorem dX6_countEdens_34 : decode cX6_countEdens 34 = .ok (.aload_n 0, 1) := by decide +kernel
theorem dX6_countEdens_35 : decode cX6_countEdens 35 = .ok (.getfield 15, 3) := by decide +kernel
theorem dX6_countEdens_38 : decode cX6_countEdens 38 = .ok (.iload 4, 2) := by decide +kernel
theorem dX6_countEdens_40 : decode cX6_countEdens 40 = .ok (.invokevirtual 43, 3) := by decide +kernel
theorem dX6_countEdens_43 : decode cX6_countEdens 43 = .ok (.istore 5, 2) := by decide +kernel
theorem dX6_countEdens_45 : decode cX6_countEdens 45 = .ok (.aload_n 0, 1) := by decide +kernel
theorem dX6_countEdens_46 : decode cX6_countEdens 46 = .ok (.getfield 23, 3) := by decide +kernel
theorem dX6_countEdens_49 : decode cX6_countEdens 49 = .ok (.iload 5, 2) := by decide +kernel
theorem dX6_countEdens_51 : decode cX6_countEdens 51 = .ok (.invokevirtual 46, 3) := by decide +kernel
theorem dX6_countEdens_54 : decode cX6_countEdens 54 = .ok (.ifCond .eq 18, 3) := by decide +kernel
theorem dX6_countEdens_57 : decode cX6_countEdens 57 = .ok (.aload_n 0, 1) := by decide +kernel
theorem dX6_countEdens_58 : decode cX6_countEdens 58 = .ok (.getfield 23, 3) := by decide +kernel
theorem dX6_countEdens_61 : decode cX6_countEdens 61 = .ok (.iload 5, 2) := by decide +kernel
theorem dX6_countEdens_63 : decode cX6_countEdens 63 = .ok (.invokevirtual 55, 3) := by decide +kernel
theorem dX6_countEdens_66 : decode cX6_countEdens 66 = .ok (.ifCond .ne 6, 3) := by decide +kernel
theorem dX6_countEdens_69 : decode cX6_countEdens 69 = .ok (.iinc 2 1, 3) := by decide +kernel
theorem dX6_countEdens_72 : decode cX6_countEdens 72 = .ok (.iinc 4 1, 3) := by decide +kernel
theorem dX6_countEdens_75 : decode cX6_countEdens 75 = .ok (.goto (-47), 3) := by decide +kernel
theorem dX6_countEdens_78 : decode cX6_countEdens 78 = .ok (.iload_n 2, 1) := by decide +kernel
theorem dX6_countEdens_79 : decode cX6_countEdens 79 = .ok (.ireturn, 1) := by decide +kernel
abbrev tX6_countEdens (k : Nat) : MT := (RX6, cX6_countEdens, 6, k, (some .int))
def lX6_countEdens_1 : SX := (sLoop (cB rlt (iLoc 4) (iLoc 3)) (sSeq (sSetI 5 (iCallV 2 mX2_lyingAt (aR (rGet 6 0 (rLoc 0)) (aI (iLoc 4) aNil)))) (sIf (cAnd (cZ zne (iCallV 0 mX0_isWayToLie (aR (rGet 6 3 (rLoc 0)) (aI (iLoc 5) aNil)))) (cZ zeq (iCallV 0 mX0_countBefore (aR (rGet 6 3 (rLoc 0)) (aI (iLoc 5) aNil))))) (sInc 2 1) sSkip)) (sSeq (sForget 5) (sInc 4 1)))
theorem olX6_countEdens_1 (g : GT) {pcB pcC : Nat} : Sok g (tX6_countEdens 5) 28 78 pcB pcC (lX6_countEdens_1) := (Sok.loop (pc := 28) (pc1 := 34) (pc2 := 72) (pcN := 78) (Cok.cmp (pc1 := 30) (pc2 := 31) (pcT := 34) (pcF := 78) (EokI.iload (i := 4) dX6_countEdens_28) (EokI.iload_n (q := 3) dX6_countEdens_30) (JI.ltF (tgt := 78) dX6_countEdens_31 (by decide))) (by decide) (Sok.seq (pc1 := 45) (Sok.setI (i := 5) (pc1 := 43) (EokI.iCallV (pc1 := 40) (Aok.aR (pc1 := 38) (EokR.getf (pc1 := 35) (j := 0) (ci := 6) (T := TX6) (N := 4) (EokR.aload_n (q := 0) dX6_countEdens_34) rfl wsX6_in (by decide) flX6_15 dX6_countEdens_35) (Aok.aI (pc1 := 40) (EokI.iload (i := 4) dX6_countEdens_38) Aok.nil)) (kX2_lyingAt g) rfl ykX2_lyingAt vkX6_43 (by decide) (by decide) dX6_countEdens_40) (by decide) dX6_countEdens_43 (show 5 < 6 by decide)) (Sok.ite (pc1 := 69) (pc2 := 72) (Cok.and (pc1 := 57) (Cok.zero (pc1 := 54) (pcT := 57) (pcF := 72) (EokI.iCallV (pc1 := 51) (Aok.aR (pc1 := 49) (EokR.getf (pc1 := 46) (j := 3) (ci := 6) (T := TX6) (N := 4) (EokR.aload_n (q := 0) dX6_countEdens_45) rfl wsX6_in (by decide) flX6_23 dX6_countEdens_46) (Aok.aI (pc1 := 51) (EokI.iload (i := 5) dX6_countEdens_49) Aok.nil)) (kX0_isWayToLie g) rfl ykX0_isWayToLie vkX6_46 (by decide) (by decide) dX6_countEdens_51) (JZ.neF (tgt := 72) dX6_countEdens_54 (by decide))) (Cok.zero (pc1 := 66) (pcT := 69) (pcF := 72) (EokI.iCallV (pc1 := 63) (Aok.aR (pc1 := 61) (EokR.getf (pc1 := 58) (j := 3) (ci := 6) (T := TX6) (N := 4) (EokR.aload_n (q := 0) dX6_countEdens_57) rfl wsX6_in (by decide) flX6_23 dX6_countEdens_58) (Aok.aI (pc1 := 63) (EokI.iload (i := 5) dX6_countEdens_61) Aok.nil)) (kX0_countBefore g) rfl ykX0_countBefore vkX6_55 (by decide) (by decide) dX6_countEdens_63) (JZ.eqF (tgt := 72) dX6_countEdens_66 (by decide)))) (by decide) (Sok.iinc (i := 2) (v := 1) dX6_countEdens_69 (show 2 < 6 by decide) (by decide)) (Sok.skip (pc := 72)))) (Sok.seq (pc1 := 72) Sok.forget (Sok.goto (pc1 := 75) (pcN := 28) (Sok.iinc (i := 4) (v := 1) dX6_countEdens_72 (show 4 < 6 by decide) (by decide)) dX6_countEdens_75 (by decide))))
def mX6_countEdens : MX := bodyOf 6 (sSeq (sSetI 2 (iK 0)) (sSeq (sSetI 3 (iCallV 2 mX2_endOf (aR (rGet 6 0 (rLoc 0)) (aI (iLoc 1) (aI (iGet 0 3 (rGet 6 3 (rLoc 0))) aNil))))) (sSeq (sSeq (sSeq (sSetI 4 (iCallV 2 mX2_firstOf (aR (rGet 6 0 (rLoc 0)) (aI (iLoc 1) aNil)))) lX6_countEdens_1) (sForget 4)) (sRetI (iLoc 2)))))
theorem kX6_countEdens (g : GT) : MK g 5 yX6_countEdens cX6_countEdens 6 (some .int) mX6_countEdens := MK.of (pcN := 99999) (pcB := 0) (pcC := 0) rfl (Sok.seq (pc1 := 2) (Sok.setI_n (q := 2) (pc1 := 1) (EokI.iconst (v := 0) dX6_countEdens_0 (by decide)) (by decide) dX6_countEdens_1 (show 2 < 6 by decide)) (Sok.seq (pc1 := 18) (Sok.setI_n (q := 3) (pc1 := 17) (EokI.iCallV (pc1 := 14) (Aok.aR (pc1 := 6) (EokR.getf (pc1 := 3) (j := 0) (ci := 6) (T := TX6) (N := 4) (EokR.aload_n (q := 0) dX6_countEdens_2) rfl wsX6_in (by decide) flX6_15 dX6_countEdens_3) (Aok.aI (pc1 := 7) (EokI.iload_n (q := 1) dX6_countEdens_6) (Aok.aI (pc1 := 14) (EokI.getf (pc1 := 11) (j := 3) (ci := 0) (T := TX0) (N := 17) (EokR.getf (pc1 := 8) (j := 3) (ci := 6) (T := TX6) (N := 4) (EokR.aload_n (q := 0) dX6_countEdens_7) rfl wsX6_in (by decide) flX6_23 dX6_countEdens_8) rfl wsX0_in (by decide) flX6_27 dX6_countEdens_11) Aok.nil))) (kX2_endOf g) rfl ykX2_endOf vkX6_33 (by decide) (by decide) dX6_countEdens_14) (by decide) dX6_countEdens_17 (show 3 < 6 by decide)) (Sok.seq (pc1 := 78) (Sok.seq (pc1 := 78) (Sok.seq (pc1 := 28) (Sok.setI (i := 4) (pc1 := 26) (EokI.iCallV (pc1 := 23) (Aok.aR (pc1 := 22) (EokR.getf (pc1 := 19) (j := 0) (ci := 6) (T := TX6) (N := 4) (EokR.aload_n (q := 0) dX6_countEdens_18) rfl wsX6_in (by decide) flX6_15 dX6_countEdens_19) (Aok.aI (pc1 := 23) (EokI.iload_n (q := 1) dX6_countEdens_22) Aok.nil)) (kX2_firstOf g) rfl ykX2_firstOf vkX6_39 (by decide) (by decide) dX6_countEdens_23) (by decide) dX6_countEdens_26 (show 4 < 6 by decide)) (olX6_countEdens_1 g )) (Sok.forget (pc := 78))) (Sok.retI (pc1 := 79) (EokI.iload_n (q := 2) dX6_countEdens_78) (by decide) dX6_countEdens_79 rfl))))
/-! PassHuts$Survey.firstFailing(II)I -/
theorem dX6_firstFailing_0 : decode cX6_firstFailing 0 = .ok (.aload_n 0, 1) := by decide +kernel
theorem dX6_firstFailing_1 : decode cX6_firstFailing 1 = .ok (.getfield 15, 3) := by decide +kernel
theorem dX6_firstFailing_4 : decode cX6_firstFailing 4 = .ok (.iload_n 2, 1) := by decide +kernel
theorem dX6_firstFailing_5 : decode cX6_firstFailing 5 = .ok (.aload_n 0, 1) := by decide +kernel
theorem dX6_firstFailing_6 : decode cX6_firstFailing 6 = .ok (.getfield 23, 3) := by decide +kernel
theorem dX6_firstFailing_9 : decode cX6_firstFailing 9 = .ok (.getfield 27, 3) := by decide +kernel
theorem dX6_firstFailing_12 : decode cX6_firstFailing 12 = .ok (.invokevirtual 33, 3) := by decide +kernel
theorem dX6_firstFailing_15 : decode cX6_firstFailing 15 = .ok (.istore_n 3, 1) := by decide +kernel
theorem dX6_firstFailing_16 : decode cX6_firstFailing 16 = .ok (.aload_n 0, 1) := by decide +kernel
theorem dX6_firstFailing_17 : decode cX6_firstFailing 17 = .ok (.getfield 15, 3) := by decide +kernel
theorem dX6_firstFailing_20 : decode cX6_firstFailing 20 = .ok (.iload_n 2, 1) := by decide +kernel
theorem dX6_firstFailing_21 : decode cX6_firstFailing 21 = .ok (.invokevirtual 39, 3) := by decide +kernel
theorem dX6_firstFailing_24 : decode cX6_firstFailing 24 = .ok (.istore 4, 2) := by decide +kernel
theorem dX6_firstFailing_26 : decode cX6_firstFailing 26 = .ok (.iload 4, 2) := by decide +kernel
theorem dX6_firstFailing_28 : decode cX6_firstFailing 28 = .ok (.iload_n 3, 1) := by decide +kernel
theorem dX6_firstFailing_29 : decode cX6_firstFailing 29 = .ok (.if_icmp .ge 50, 3) := by decide +kernel
theorem dX6_firstFailing_32 : decode cX6_firstFailing 32 = .ok (.aload_n 0, 1) := by decide +kernel
theorem dX6_firstFailing_33 : decode cX6_firstFailing 33 = .ok (.getfield 15, 3) := by decide +kernel
theorem dX6_firstFailing_36 : decode cX6_firstFailing 36 = .ok (.iload 4, 2) := by decide +kernel
theorem dX6_firstFailing_38 : decode cX6_firstFailing 38 = .ok (.invokevirtual 43, 3) := by decide +kernel
theorem dX6_firstFailing_41 : decode cX6_firstFailing 41 = .ok (.istore 5, 2) := by decide +kernel
theorem dX6_firstFailing_43 : decode cX6_firstFailing 43 = .ok (.aload_n 0, 1) := by decide +kernel
theorem dX6_firstFailing_44 : decode cX6_firstFailing 44 = .ok (.getfield 23, 3) := by decide +kernel
theorem dX6_firstFailing_47 : decode cX6_firstFailing 47 = .ok (.iload 5, 2) := by decide +kernel
theorem dX6_firstFailing_49 : decode cX6_firstFailing 49 = .ok (.invokevirtual 46, 3) := by decide +kernel
theorem dX6_firstFailing_52 : decode cX6_firstFailing 52 = .ok (.ifCond .eq 21, 3) := by decide +kernel
theorem dX6_firstFailing_55 : decode cX6_firstFailing 55 = .ok (.aload_n 0, 1) := by decide +kernel
theorem dX6_firstFailing_56 : decode cX6_firstFailing 56 = .ok (.getfield 19, 3) := by decide +kernel
theorem dX6_firstFailing_59 : decode cX6_firstFailing 59 = .ok (.iload 4, 2) := by decide +kernel
theorem dX6_firstFailing_61 : decode cX6_firstFailing 61 = .ok (.invokevirtual 50, 3) := by decide +kernel
theorem dX6_firstFailing_64 : decode cX6_firstFailing 64 = .ok (.iload_n 1, 1) := by decide +kernel
theorem dX6_firstFailing_65 : decode cX6_firstFailing 65 = .ok (.iand, 1) := by decide +kernel
theorem dX6_firstFailing_66 : decode cX6_firstFailing 66 = .ok (.iload_n 1, 1) := by decide +kernel
theorem dX6_firstFailing_67 : decode cX6_firstFailing 67 = .ok (.if_icmp .eq 6, 3) := by decide +kernel
theorem dX6_firstFailing_70 : decode cX6_firstFailing 70 = .ok (.iload 5, 2) := by decide +kernel
theorem dX6_firstFailing_72 : decode cX6_firstFailing 72 = .ok (.ireturn, 1) := by decide +kernel
theorem dX6_firstFailing_73 : decode cX6_firstFailing 73 = .ok (.iinc 4 1, 3) := by decide +kernel
theorem dX6_firstFailing_76 : decode cX6_firstFailing 76 = .ok (.goto (-50), 3) := by decide +kernel
theorem dX6_firstFailing_79 : decode cX6_firstFailing 79 = .ok (.iconst (-1), 1) := by decide +kernel
theorem dX6_firstFailing_80 : decode cX6_firstFailing 80 = .ok (.ireturn, 1) := by decide +kernel
abbrev tX6_firstFailing (k : Nat) : MT := (RX6, cX6_firstFailing, 6, k, (some .int))
def lX6_firstFailing_1 : SX := (sLoop (cB rlt (iLoc 4) (iLoc 3)) (sSeq (sSetI 5 (iCallV 2 mX2_lyingAt (aR (rGet 6 0 (rLoc 0)) (aI (iLoc 4) aNil)))) (sIf (cAnd (cZ zne (iCallV 0 mX0_isWayToLie (aR (rGet 6 3 (rLoc 0)) (aI (iLoc 5) aNil)))) (cB rne (iB gT2 (· &&& ·) (iCallV 3 mX3_hutsFromNumber (aR (rGet 6 1 (rLoc 0)) (aI (iLoc 4) aNil))) (iLoc 1)) (iLoc 1))) (sRetI (iLoc 5)) sSkip)) (sSeq (sForget 5) (sInc 4 1)))
theorem olX6_firstFailing_1 (g : GT) {pcB pcC : Nat} : Sok g (tX6_firstFailing 2) 26 79 pcB pcC (lX6_firstFailing_1) := (Sok.loop (pc := 26) (pc1 := 32) (pc2 := 73) (pcN := 79) (Cok.cmp (pc1 := 28) (pc2 := 29) (pcT := 32) (pcF := 79) (EokI.iload (i := 4) dX6_firstFailing_26) (EokI.iload_n (q := 3) dX6_firstFailing_28) (JI.ltF (tgt := 79) dX6_firstFailing_29 (by decide))) (by decide) (Sok.seq (pc1 := 43) (Sok.setI (i := 5) (pc1 := 41) (EokI.iCallV (pc1 := 38) (Aok.aR (pc1 := 36) (EokR.getf (pc1 := 33) (j := 0) (ci := 6) (T := TX6) (N := 4) (EokR.aload_n (q := 0) dX6_firstFailing_32) rfl wsX6_in (by decide) flX6_15 dX6_firstFailing_33) (Aok.aI (pc1 := 38) (EokI.iload (i := 4) dX6_firstFailing_36) Aok.nil)) (kX2_lyingAt g) rfl ykX2_lyingAt vkX6_43 (by decide) (by decide) dX6_firstFailing_38) (by decide) dX6_firstFailing_41 (show 5 < 6 by decide)) (Sok.ite (pc1 := 70) (pc2 := 73) (Cok.and (pc1 := 55) (Cok.zero (pc1 := 52) (pcT := 55) (pcF := 73) (EokI.iCallV (pc1 := 49) (Aok.aR (pc1 := 47) (EokR.getf (pc1 := 44) (j := 3) (ci := 6) (T := TX6) (N := 4) (EokR.aload_n (q := 0) dX6_firstFailing_43) rfl wsX6_in (by decide) flX6_23 dX6_firstFailing_44) (Aok.aI (pc1 := 49) (EokI.iload (i := 5) dX6_firstFailing_47) Aok.nil)) (kX0_isWayToLie g) rfl ykX0_isWayToLie vkX6_46 (by decide) (by decide) dX6_firstFailing_49) (JZ.neF (tgt := 73) dX6_firstFailing_52 (by decide))) (Cok.cmp (pc1 := 66) (pc2 := 67) (pcT := 70) (pcF := 73) (EokI.bin (pc1 := 64) (pc2 := 65) (EokI.iCallV (pc1 := 61) (Aok.aR (pc1 := 59) (EokR.getf (pc1 := 56) (j := 1) (ci := 6) (T := TX6) (N := 4) (EokR.aload_n (q := 0) dX6_firstFailing_55) rfl wsX6_in (by decide) flX6_19 dX6_firstFailing_56) (Aok.aI (pc1 := 61) (EokI.iload (i := 4) dX6_firstFailing_59) Aok.nil)) (kX3_hutsFromNumber g) rfl ykX3_hutsFromNumber vkX6_50 (by decide) (by decide) dX6_firstFailing_61) (EokI.iload_n (q := 1) dX6_firstFailing_64) (OPI.iand dX6_firstFailing_65)) (EokI.iload_n (q := 1) dX6_firstFailing_66) (JI.neF (tgt := 73) dX6_firstFailing_67 (by decide)))) (by decide) (Sok.retI (pc1 := 72) (EokI.iload (i := 5) dX6_firstFailing_70) (by decide) dX6_firstFailing_72 rfl) (Sok.skip (pc := 73)))) (Sok.seq (pc1 := 73) Sok.forget (Sok.goto (pc1 := 76) (pcN := 26) (Sok.iinc (i := 4) (v := 1) dX6_firstFailing_73 (show 4 < 6 by decide) (by decide)) dX6_firstFailing_76 (by decide))))
def mX6_firstFailing : MX := bodyOf 6 (sSeq (sSetI 3 (iCallV 2 mX2_endOf (aR (rGet 6 0 (rLoc 0)) (aI (iLoc 2) (aI (iGet 0 3 (rGet 6 3 (rLoc 0))) aNil))))) (sSeq (sSeq (sSeq (sSetI 4 (iCallV 2 mX2_firstOf (aR (rGet 6 0 (rLoc 0)) (aI (iLoc 2) aNil)))) lX6_firstFailing_1) (sForget 4)) (sRetI (iK (-1)))))
theorem kX6_firstFailing (g : GT) : MK g 2 yX6_firstFailing cX6_firstFailing 6 (some .int) mX6_firstFailing := MK.of (pcN := 99999) (pcB := 0) (pcC := 0) rfl (Sok.seq (pc1 := 16) (Sok.setI_n (q := 3) (pc1 := 15) (EokI.iCallV (pc1 := 12) (Aok.aR (pc1 := 4) (EokR.getf (pc1 := 1) (j := 0) (ci := 6) (T := TX6) (N := 4) (EokR.aload_n (q := 0) dX6_firstFailing_0) rfl wsX6_in (by decide) flX6_15 dX6_firstFailing_1) (Aok.aI (pc1 := 5) (EokI.iload_n (q := 2) dX6_firstFailing_4) (Aok.aI (pc1 := 12) (EokI.getf (pc1 := 9) (j := 3) (ci := 0) (T := TX0) (N := 17) (EokR.getf (pc1 := 6) (j := 3) (ci := 6) (T := TX6) (N := 4) (EokR.aload_n (q := 0) dX6_firstFailing_5) rfl wsX6_in (by decide) flX6_23 dX6_firstFailing_6) rfl wsX0_in (by decide) flX6_27 dX6_firstFailing_9) Aok.nil))) (kX2_endOf g) rfl ykX2_endOf vkX6_33 (by decide) (by decide) dX6_firstFailing_12) (by decide) dX6_firstFailing_15 (show 3 < 6 by decide)) (Sok.seq (pc1 := 79) (Sok.seq (pc1 := 79) (Sok.seq (pc1 := 26) (Sok.setI (i := 4) (pc1 := 24) (EokI.iCallV (pc1 := 21) (Aok.aR (pc1 := 20) (EokR.getf (pc1 := 17) (j := 0) (ci := 6) (T := TX6) (N := 4) (EokR.aload_n (q := 0) dX6_firstFailing_16) rfl wsX6_in (by decide) flX6_15 dX6_firstFailing_17) (Aok.aI (pc1 := 21) (EokI.iload_n (q := 2) dX6_firstFailing_20) Aok.nil)) (kX2_firstOf g) rfl ykX2_firstOf vkX6_39 (by decide) (by decide) dX6_firstFailing_21) (by decide) dX6_firstFailing_24 (show 4 < 6 by decide)) (olX6_firstFailing_1 g )) (Sok.forget (pc := 79))) (Sok.retI (pc1 := 80) (EokI.iconst (v := (-1)) dX6_firstFailing_79 (by decide)) (by decide) dX6_firstFailing_80 rfl)))
/-! PassHuts$Survey.sureFrom(I)I -/
theorem dX6_sureFrom_0 : decode cX6_sureFrom 0 = .ok (.iconst (-1), 1) := by decide +kernel
theorem dX6_sureFrom_1 : decode cX6_sureFrom 1 = .ok (.istore_n 2, 1) := by decide +kernel
theorem dX6_sureFrom_2 : decode cX6_sureFrom 2 = .ok (.bipush 12, 2) := by decide +kernel
theorem dX6_sureFrom_4 : decode cX6_sureFrom 4 = .ok (.istore_n 3, 1) := by decide +kernel
theorem dX6_sureFrom_5 : decode cX6_sureFrom 5 = .ok (.iload_n 3, 1) := by decide +kernel
theorem dX6_sureFrom_6 : decode cX6_sureFrom 6 = .ok (.iconst 1, 1) := by decide +kernel
theorem dX6_sureFrom_7 : decode cX6_sureFrom 7 = .ok (.if_icmp .lt 20, 3) := by decide +kernel
theorem dX6_sureFrom_10 : decode cX6_sureFrom 10 = .ok (.aload_n 0, 1) := by decide +kernel
theorem dX6_sureFrom_11 : decode cX6_sureFrom 11 = .ok (.iload_n 1, 1) := by decide +kernel
theorem dX6_sureFrom_12 : decode cX6_sureFrom 12 = .ok (.iload_n 3, 1) := by decide +kernel
theorem dX6_sureFrom_13 : decode cX6_sureFrom 13 = .ok (.invokevirtual 58, 3) := by decide +kernel
theorem dX6_sureFrom_16 : decode cX6_sureFrom 16 = .ok (.ifCond .ge 11, 3) := by decide +kernel
theorem dX6_sureFrom_19 : decode cX6_sureFrom 19 = .ok (.iload_n 3, 1) := by decide +kernel
theorem dX6_sureFrom_20 : decode cX6_sureFrom 20 = .ok (.istore_n 2, 1) := by decide +kernel
theorem dX6_sureFrom_21 : decode cX6_sureFrom 21 = .ok (.iinc 3 (-1), 3) := by decide +kernel
theorem dX6_sureFrom_24 : decode cX6_sureFrom 24 = .ok (.goto (-19), 3) := by decide +kernel
theorem dX6_sureFrom_27 : decode cX6_sureFrom 27 = .ok (.iload_n 2, 1) := by decide +kernel
theorem dX6_sureFrom_28 : decode cX6_sureFrom 28 = .ok (.ireturn, 1) := by decide +kernel
abbrev tX6_sureFrom (k : Nat) : MT := (RX6, cX6_sureFrom, 4, k, (some .int))
def lX6_sureFrom_1 : SX := (sLoop (cAnd (cB rge (iLoc 3) (iK 1)) (cZ zlt (iCallV 6 mX6_firstFailing (aR (rLoc 0) (aI (iLoc 1) (aI (iLoc 3) aNil)))))) (sSetI 2 (iLoc 3)) (sInc 3 (-1)))
theorem olX6_sureFrom_1 (g : GT) {pcB pcC : Nat} : Sok g (tX6_sureFrom 3) 5 27 pcB pcC (lX6_sureFrom_1) := (Sok.loop (pc := 5) (pc1 := 19) (pc2 := 21) (pcN := 27) (Cok.and (pc1 := 10) (Cok.cmp (pc1 := 6) (pc2 := 7) (pcT := 10) (pcF := 27) (EokI.iload_n (q := 3) dX6_sureFrom_5) (EokI.iconst (v := 1) dX6_sureFrom_6 (by decide)) (JI.geF (tgt := 27) dX6_sureFrom_7 (by decide))) (Cok.zero (pc1 := 16) (pcT := 19) (pcF := 27) (EokI.iCallV (pc1 := 13) (Aok.aR (pc1 := 11) (EokR.aload_n (q := 0) dX6_sureFrom_10) (Aok.aI (pc1 := 12) (EokI.iload_n (q := 1) dX6_sureFrom_11) (Aok.aI (pc1 := 13) (EokI.iload_n (q := 3) dX6_sureFrom_12) Aok.nil))) (kX6_firstFailing g) rfl ykX6_firstFailing vkX6_58 (by decide) (by decide) dX6_sureFrom_13) (JZ.ltF (tgt := 27) dX6_sureFrom_16 (by decide)))) (by decide) (Sok.setI_n (q := 2) (pc1 := 20) (EokI.iload_n (q := 3) dX6_sureFrom_19) (by decide) dX6_sureFrom_20 (show 2 < 4 by decide)) (Sok.goto (pc1 := 24) (pcN := 5) (Sok.iinc (i := 3) (v := (-1)) dX6_sureFrom_21 (show 3 < 4 by decide) (by decide)) dX6_sureFrom_24 (by decide)))
def mX6_sureFrom : MX := bodyOf 4 (sSeq (sSetI 2 (iK (-1))) (sSeq (sSeq (sSeq (sSetI 3 (iK 12)) lX6_sureFrom_1) (sForget 3)) (sRetI (iLoc 2))))
theorem kX6_sureFrom (g : GT) : MK g 3 yX6_sureFrom cX6_sureFrom 4 (some .int) mX6_sureFrom := MK.of (pcN := 99999) (pcB := 0) (pcC := 0) rfl (Sok.seq (pc1 := 2) (Sok.setI_n (q := 2) (pc1 := 1) (EokI.iconst (v := (-1)) dX6_sureFrom_0 (by decide)) (by decide) dX6_sureFrom_1 (show 2 < 4 by decide)) (Sok.seq (pc1 := 27) (Sok.seq (pc1 := 27) (Sok.seq (pc1 := 5) (Sok.setI_n (q := 3) (pc1 := 4) (EokI.bipush (v := 12) dX6_sureFrom_2 (by decide)) (by decide) dX6_sureFrom_4 (show 3 < 4 by decide)) (olX6_sureFrom_1 g )) (Sok.forget (pc := 27))) (Sok.retI (pc1 := 28) (EokI.iload_n (q := 2) dX6_sureFrom_27) (by decide) dX6_sureFrom_28 rfl)))
/-! PassHuts$Survey.firstWithout(II)I -/
theorem dX6_firstWithout_0 : decode cX6_firstWithout 0 = .ok (.aload_n 0, 1) := by decide +kernel
theorem dX6_firstWithout_1 : decode cX6_firstWithout 1 = .ok (.iconst 1, 1) := by decide +kernel
theorem dX6_firstWithout_2 : decode cX6_firstWithout 2 = .ok (.iload_n 1, 1) := by decide +kernel
theorem dX6_firstWithout_3 : decode cX6_firstWithout 3 = .ok (.ishl, 1) := by decide +kernel
theorem dX6_firstWithout_4 : decode cX6_firstWithout 4 = .ok (.iload_n 2, 1) := by decide +kernel
theorem dX6_firstWithout_5 : decode cX6_firstWithout 5 = .ok (.invokevirtual 58, 3) := by decide +kernel
theorem dX6_firstWithout_8 : decode cX6_firstWithout 8 = .ok (.ireturn, 1) := by decide +kernel
abbrev tX6_firstWithout (k : Nat) : MT := (RX6, cX6_firstWithout, 3, k, (some .int))
def mX6_firstWithout : MX := bodyOf 3 (sRetI (iCallV 6 mX6_firstFailing (aR (rLoc 0) (aI (iB gT2 jshl (iK 1) (iLoc 1)) (aI (iLoc 2) aNil)))))
theorem kX6_firstWithout (g : GT) : MK g 3 yX6_firstWithout cX6_firstWithout 3 (some .int) mX6_firstWithout := MK.of (pcN := 99999) (pcB := 0) (pcC := 0) rfl (Sok.retI (pc1 := 8) (EokI.iCallV (pc1 := 5) (Aok.aR (pc1 := 1) (EokR.aload_n (q := 0) dX6_firstWithout_0) (Aok.aI (pc1 := 4) (EokI.bin (pc1 := 2) (pc2 := 3) (EokI.iconst (v := 1) dX6_firstWithout_1 (by decide)) (EokI.iload_n (q := 1) dX6_firstWithout_2) (OPI.ishl dX6_firstWithout_3)) (Aok.aI (pc1 := 5) (EokI.iload_n (q := 2) dX6_firstWithout_4) Aok.nil))) (kX6_firstFailing g) rfl ykX6_firstFailing vkX6_58 (by decide) (by decide) dX6_firstWithout_5) (by decide) dX6_firstWithout_8 rfl)
/-! PassHuts$Survey.firstForAll()I -/
theorem dX6_firstForAll_0 : decode cX6_firstForAll 0 = .ok (.iconst 0, 1) := by decide +kernel
theorem dX6_firstForAll_1 : decode cX6_firstForAll 1 = .ok (.istore_n 1, 1) := by decide +kernel
theorem dX6_firstForAll_2 : decode cX6_firstForAll 2 = .ok (.iload_n 1, 1) := by decide +kernel
theorem dX6_firstForAll_3 : decode cX6_firstForAll 3 = .ok (.bipush 12, 2) := by decide +kernel
theorem dX6_firstForAll_5 : decode cX6_firstForAll 5 = .ok (.if_icmp .gt 88, 3) := by decide +kernel
theorem dX6_firstForAll_8 : decode cX6_firstForAll 8 = .ok (.aload_n 0, 1) := by decide +kernel
theorem dX6_firstForAll_9 : decode cX6_firstForAll 9 = .ok (.getfield 15, 3) := by decide +kernel
theorem dX6_firstForAll_12 : decode cX6_firstForAll 12 = .ok (.iload_n 1, 1) := by decide +kernel
theorem dX6_firstForAll_13 : decode cX6_firstForAll 13 = .ok (.aload_n 0, 1) := by decide +kernel
theorem dX6_firstForAll_14 : decode cX6_firstForAll 14 = .ok (.getfield 23, 3) := by decide +kernel
theorem dX6_firstForAll_17 : decode cX6_firstForAll 17 = .ok (.getfield 27, 3) := by decide +kernel
theorem dX6_firstForAll_20 : decode cX6_firstForAll 20 = .ok (.invokevirtual 33, 3) := by decide +kernel
theorem dX6_firstForAll_23 : decode cX6_firstForAll 23 = .ok (.istore_n 2, 1) := by decide +kernel
theorem dX6_firstForAll_24 : decode cX6_firstForAll 24 = .ok (.aload_n 0, 1) := by decide +kernel
theorem dX6_firstForAll_25 : decode cX6_firstForAll 25 = .ok (.getfield 15, 3) := by decide +kernel
theorem dX6_firstForAll_28 : decode cX6_firstForAll 28 = .ok (.iload_n 1, 1) := by decide +kernel
theorem dX6_firstForAll_29 : decode cX6_firstForAll 29 = .ok (.invokevirtual 39, 3) := by decide +kernel
theorem dX6_firstForAll_32 : decode cX6_firstForAll 32 = .ok (.istore_n 3, 1) := by decide +kernel
theorem dX6_firstForAll_33 : decode cX6_firstForAll 33 = .ok (.iload_n 3, 1) := by decide +kernel
theorem dX6_firstForAll_34 : decode cX6_firstForAll 34 = .ok (.iload_n 2, 1) := by decide +kernel
theorem dX6_firstForAll_35 : decode cX6_firstForAll 35 = .ok (.if_icmp .ge 52, 3) := by decide +kernel
theorem dX6_firstForAll_38 : decode cX6_firstForAll 38 = .ok (.aload_n 0, 1) := by decide +kernel
theorem dX6_firstForAll_39 : decode cX6_firstForAll 39 = .ok (.getfield 15, 3) := by decide +kernel
theorem dX6_firstForAll_42 : decode cX6_firstForAll 42 = .ok (.iload_n 3, 1) := by decide +kernel
theorem dX6_firstForAll_43 : decode cX6_firstForAll 43 = .ok (.invokevirtual 43, 3) := by decide +kernel
theorem dX6_firstForAll_46 : decode cX6_firstForAll 46 = .ok (.istore 4, 2) := by decide +kernel
theorem dX6_firstForAll_48 : decode cX6_firstForAll 48 = .ok (.aload_n 0, 1) := by decide +kernel
theorem dX6_firstForAll_49 : decode cX6_firstForAll 49 = .ok (.getfield 23, 3) := by decide +kernel
theorem dX6_firstForAll_52 : decode cX6_firstForAll 52 = .ok (.iload 4, 2) := by decide +kernel
theorem dX6_firstForAll_54 : decode cX6_firstForAll 54 = .ok (.invokevirtual 46, 3) := by decide +kernel
theorem dX6_firstForAll_57 : decode cX6_firstForAll 57 = .ok (.ifCond .eq 24, 3) := by decide +kernel
theorem dX6_firstForAll_60 : decode cX6_firstForAll 60 = .ok (.aload_n 0, 1) := by decide +kernel
theorem dX6_firstForAll_61 : decode cX6_firstForAll 61 = .ok (.getfield 19, 3) := by decide +kernel
theorem dX6_firstForAll_64 : decode cX6_firstForAll 64 = .ok (.iload_n 3, 1) := by decide +kernel
theorem dX6_firstForAll_65 : decode cX6_firstForAll 65 = .ok (.invokevirtual 50, 3) := by decide +kernel
theorem dX6_firstForAll_68 : decode cX6_firstForAll 68 = .ok (.aload_n 0, 1) := by decide +kernel
theorem dX6_firstForAll_69 : decode cX6_firstForAll 69 = .ok (.getfield 23, 3) := by decide +kernel
theorem dX6_firstForAll_72 : decode cX6_firstForAll 72 = .ok (.invokevirtual 61, 3) := by decide +kernel
theorem dX6_firstForAll_75 : decode cX6_firstForAll 75 = .ok (.if_icmp .ne 6, 3) := by decide +kernel
theorem dX6_firstForAll_78 : decode cX6_firstForAll 78 = .ok (.iload 4, 2) := by decide +kernel
theorem dX6_firstForAll_80 : decode cX6_firstForAll 80 = .ok (.ireturn, 1) := by decide +kernel
theorem dX6_firstForAll_81 : decode cX6_firstForAll 81 = .ok (.iinc 3 1, 3) := by decide +kernel
theorem dX6_firstForAll_84 : decode cX6_firstForAll 84 = .ok (.goto (-51), 3) := by decide +kernel
theorem dX6_firstForAll_87 : decode cX6_firstForAll 87 = .ok (.iinc 1 1, 3) := by decide +kernel
theorem dX6_firstForAll_90 : decode cX6_firstForAll 90 = .ok (.goto (-88), 3) := by decide +kernel
theorem dX6_firstForAll_93 : decode cX6_firstForAll 93 = .ok (.iconst (-1), 1) := by decide +kernel
theorem dX6_firstForAll_94 : decode cX6_firstForAll 94 = .ok (.ireturn, 1) := by decide +kernel
abbrev tX6_firstForAll (k : Nat) : MT := (RX6, cX6_firstForAll, 5, k, (some .int))
def lX6_firstForAll_1 : SX := (sLoop (cB rlt (iLoc 3) (iLoc 2)) (sSeq (sSetI 4 (iCallV 2 mX2_lyingAt (aR (rGet 6 0 (rLoc 0)) (aI (iLoc 3) aNil)))) (sIf (cAnd (cZ zne (iCallV 0 mX0_isWayToLie (aR (rGet 6 3 (rLoc 0)) (aI (iLoc 4) aNil)))) (cB req (iCallV 3 mX3_hutsFromNumber (aR (rGet 6 1 (rLoc 0)) (aI (iLoc 3) aNil))) (iCallV 0 mX0_allHuts (aR (rGet 6 3 (rLoc 0)) aNil)))) (sRetI (iLoc 4)) sSkip)) (sSeq (sForget 4) (sInc 3 1)))
def lX6_firstForAll_2 : SX := (sLoop (cB rle (iLoc 1) (iK 12)) (sSeq (sSetI 2 (iCallV 2 mX2_endOf (aR (rGet 6 0 (rLoc 0)) (aI (iLoc 1) (aI (iGet 0 3 (rGet 6 3 (rLoc 0))) aNil))))) (sSeq (sSetI 3 (iCallV 2 mX2_firstOf (aR (rGet 6 0 (rLoc 0)) (aI (iLoc 1) aNil)))) lX6_firstForAll_1)) (sSeq (sForget 2) (sInc 1 1)))
theorem olX6_firstForAll_1 (g : GT) {pcB pcC : Nat} : Sok g (tX6_firstForAll 2) 33 87 pcB pcC (lX6_firstForAll_1) := (Sok.loop (pc := 33) (pc1 := 38) (pc2 := 81) (pcN := 87) (Cok.cmp (pc1 := 34) (pc2 := 35) (pcT := 38) (pcF := 87) (EokI.iload_n (q := 3) dX6_firstForAll_33) (EokI.iload_n (q := 2) dX6_firstForAll_34) (JI.ltF (tgt := 87) dX6_firstForAll_35 (by decide))) (by decide) (Sok.seq (pc1 := 48) (Sok.setI (i := 4) (pc1 := 46) (EokI.iCallV (pc1 := 43) (Aok.aR (pc1 := 42) (EokR.getf (pc1 := 39) (j := 0) (ci := 6) (T := TX6) (N := 4) (EokR.aload_n (q := 0) dX6_firstForAll_38) rfl wsX6_in (by decide) flX6_15 dX6_firstForAll_39) (Aok.aI (pc1 := 43) (EokI.iload_n (q := 3) dX6_firstForAll_42) Aok.nil)) (kX2_lyingAt g) rfl ykX2_lyingAt vkX6_43 (by decide) (by decide) dX6_firstForAll_43) (by decide) dX6_firstForAll_46 (show 4 < 5 by decide)) (Sok.ite (pc1 := 78) (pc2 := 81) (Cok.and (pc1 := 60) (Cok.zero (pc1 := 57) (pcT := 60) (pcF := 81) (EokI.iCallV (pc1 := 54) (Aok.aR (pc1 := 52) (EokR.getf (pc1 := 49) (j := 3) (ci := 6) (T := TX6) (N := 4) (EokR.aload_n (q := 0) dX6_firstForAll_48) rfl wsX6_in (by decide) flX6_23 dX6_firstForAll_49) (Aok.aI (pc1 := 54) (EokI.iload (i := 4) dX6_firstForAll_52) Aok.nil)) (kX0_isWayToLie g) rfl ykX0_isWayToLie vkX6_46 (by decide) (by decide) dX6_firstForAll_54) (JZ.neF (tgt := 81) dX6_firstForAll_57 (by decide))) (Cok.cmp (pc1 := 68) (pc2 := 75) (pcT := 78) (pcF := 81) (EokI.iCallV (pc1 := 65) (Aok.aR (pc1 := 64) (EokR.getf (pc1 := 61) (j := 1) (ci := 6) (T := TX6) (N := 4) (EokR.aload_n (q := 0) dX6_firstForAll_60) rfl wsX6_in (by decide) flX6_19 dX6_firstForAll_61) (Aok.aI (pc1 := 65) (EokI.iload_n (q := 3) dX6_firstForAll_64) Aok.nil)) (kX3_hutsFromNumber g) rfl ykX3_hutsFromNumber vkX6_50 (by decide) (by decide) dX6_firstForAll_65) (EokI.iCallV (pc1 := 72) (Aok.aR (pc1 := 72) (EokR.getf (pc1 := 69) (j := 3) (ci := 6) (T := TX6) (N := 4) (EokR.aload_n (q := 0) dX6_firstForAll_68) rfl wsX6_in (by decide) flX6_23 dX6_firstForAll_69) Aok.nil) (kX0_allHuts g) rfl ykX0_allHuts vkX6_61 (by decide) (by decide) dX6_firstForAll_72) (JI.eqF (tgt := 81) dX6_firstForAll_75 (by decide)))) (by decide) (Sok.retI (pc1 := 80) (EokI.iload (i := 4) dX6_firstForAll_78) (by decide) dX6_firstForAll_80 rfl) (Sok.skip (pc := 81)))) (Sok.seq (pc1 := 81) Sok.forget (Sok.goto (pc1 := 84) (pcN := 33) (Sok.iinc (i := 3) (v := 1) dX6_firstForAll_81 (show 3 < 5 by decide) (by decide)) dX6_firstForAll_84 (by decide))))
theorem olX6_firstForAll_2 (g : GT) {pcB pcC : Nat} : Sok g (tX6_firstForAll 2) 2 93 pcB pcC (lX6_firstForAll_2) := (Sok.loop (pc := 2) (pc1 := 8) (pc2 := 87) (pcN := 93) (Cok.cmp (pc1 := 3) (pc2 := 5) (pcT := 8) (pcF := 93) (EokI.iload_n (q := 1) dX6_firstForAll_2) (EokI.bipush (v := 12) dX6_firstForAll_3 (by decide)) (JI.leF (tgt := 93) dX6_firstForAll_5 (by decide))) (by decide) (Sok.seq (pc1 := 24) (Sok.setI_n (q := 2) (pc1 := 23) (EokI.iCallV (pc1 := 20) (Aok.aR (pc1 := 12) (EokR.getf (pc1 := 9) (j := 0) (ci := 6) (T := TX6) (N := 4) (EokR.aload_n (q := 0) dX6_firstForAll_8) rfl wsX6_in (by decide) flX6_15 dX6_firstForAll_9) (Aok.aI (pc1 := 13) (EokI.iload_n (q := 1) dX6_firstForAll_12) (Aok.aI (pc1 := 20) (EokI.getf (pc1 := 17) (j := 3) (ci := 0) (T := TX0) (N := 17) (EokR.getf (pc1 := 14) (j := 3) (ci := 6) (T := TX6) (N := 4) (EokR.aload_n (q := 0) dX6_firstForAll_13) rfl wsX6_in (by decide) flX6_23 dX6_firstForAll_14) rfl wsX0_in (by decide) flX6_27 dX6_firstForAll_17) Aok.nil))) (kX2_endOf g) rfl ykX2_endOf vkX6_33 (by decide) (by decide) dX6_firstForAll_20) (by decide) dX6_firstForAll_23 (show 2 < 5 by decide)) (Sok.seq (pc1 := 33) (Sok.setI_n (q := 3) (pc1 := 32) (EokI.iCallV (pc1 := 29) (Aok.aR (pc1 := 28) (EokR.getf (pc1 := 25) (j := 0) (ci := 6) (T := TX6) (N := 4) (EokR.aload_n (q := 0) dX6_firstForAll_24) rfl wsX6_in (by decide) flX6_15 dX6_firstForAll_25) (Aok.aI (pc1 := 29) (EokI.iload_n (q := 1) dX6_firstForAll_28) Aok.nil)) (kX2_firstOf g) rfl ykX2_firstOf vkX6_39 (by decide) (by decide) dX6_firstForAll_29) (by decide) dX6_firstForAll_32 (show 3 < 5 by decide)) (olX6_firstForAll_1 g ))) (Sok.seq (pc1 := 87) Sok.forget (Sok.goto (pc1 := 90) (pcN := 2) (Sok.iinc (i := 1) (v := 1) dX6_firstForAll_87 (show 1 < 5 by decide) (by decide)) dX6_firstForAll_90 (by decide))))
def mX6_firstForAll : MX := bodyOf 5 (sSeq (sSeq (sSeq (sSetI 1 (iK 0)) lX6_firstForAll_2) (sForget 1)) (sRetI (iK (-1))))
theorem kX6_firstForAll (g : GT) : MK g 2 yX6_firstForAll cX6_firstForAll 5 (some .int) mX6_firstForAll := MK.of (pcN := 99999) (pcB := 0) (pcC := 0) rfl (Sok.seq (pc1 := 93) (Sok.seq (pc1 := 93) (Sok.seq (pc1 := 2) (Sok.setI_n (q := 1) (pc1 := 1) (EokI.iconst (v := 0) dX6_firstForAll_0 (by decide)) (by decide) dX6_firstForAll_1 (show 1 < 5 by decide)) (olX6_firstForAll_2 g )) (Sok.forget (pc := 93))) (Sok.retI (pc1 := 94) (EokI.iconst (v := (-1)) dX6_firstForAll_93 (by decide)) (by decide) dX6_firstForAll_94 rfl))
/-! PassHuts$Prospects.pullLength(I)I -/
theorem dX3_pullLength_0 : decode cX3_pullLength 0 = .ok (.aload_n 0, 1) := by decide +kernel
theorem dX3_pullLength_1 : decode cX3_pullLength 1 = .ok (.aload_n 0, 1) := by decide +kernel
theorem dX3_pullLength_2 : decode cX3_pullLength 2 = .ok (.getfield 19, 3) := by decide +kernel
theorem dX3_pullLength_5 : decode cX3_pullLength 5 = .ok (.iload_n 1, 1) := by decide +kernel
theorem dX3_pullLength_6 : decode cX3_pullLength 6 = .ok (.aload_n 0, 1) := by decide +kernel
theorem dX3_pullLength_7 : decode cX3_pullLength 7 = .ok (.getfield 23, 3) := by decide +kernel
theorem dX3_pullLength_10 : decode cX3_pullLength 10 = .ok (.iload_n 1, 1) := by decide +kernel
theorem dX3_pullLength_11 : decode cX3_pullLength 11 = .ok (.invokevirtual 79, 3) := by decide +kernel
theorem dX3_pullLength_14 : decode cX3_pullLength 14 = .ok (.invokevirtual 82, 3) := by decide +kernel
theorem dX3_pullLength_17 : decode cX3_pullLength 17 = .ok (.invokevirtual 65, 3) := by decide +kernel
theorem dX3_pullLength_20 : decode cX3_pullLength 20 = .ok (.ireturn, 1) := by decide +kernel
abbrev tX3_pullLength (k : Nat) : MT := (RX3, cX3_pullLength, 2, k, (some .int))
def mX3_pullLength : MX := bodyOf 2 (sRetI (iCallV 3 mX3_pullAt (aR (rLoc 0) (aI (iCallV 2 mX2_numberOf (aR (rGet 3 0 (rLoc 0)) (aI (iLoc 1) (aI (iCallV 0 mX0_sumOf (aR (rGet 3 3 (rLoc 0)) (aI (iLoc 1) aNil))) aNil)))) aNil))))
theorem kX3_pullLength (g : GT) : MK g 3 yX3_pullLength cX3_pullLength 2 (some .int) mX3_pullLength := MK.of (pcN := 99999) (pcB := 0) (pcC := 0) rfl (Sok.retI (pc1 := 20) (EokI.iCallV (pc1 := 17) (Aok.aR (pc1 := 1) (EokR.aload_n (q := 0) dX3_pullLength_0) (Aok.aI (pc1 := 17) (EokI.iCallV (pc1 := 14) (Aok.aR (pc1 := 5) (EokR.getf (pc1 := 2) (j := 0) (ci := 3) (T := TX3) (N := 5) (EokR.aload_n (q := 0) dX3_pullLength_1) rfl wsX3_in (by decide) flX3_19 dX3_pullLength_2) (Aok.aI (pc1 := 6) (EokI.iload_n (q := 1) dX3_pullLength_5) (Aok.aI (pc1 := 14) (EokI.iCallV (pc1 := 11) (Aok.aR (pc1 := 10) (EokR.getf (pc1 := 7) (j := 3) (ci := 3) (T := TX3) (N := 5) (EokR.aload_n (q := 0) dX3_pullLength_6) rfl wsX3_in (by decide) flX3_23 dX3_pullLength_7) (Aok.aI (pc1 := 11) (EokI.iload_n (q := 1) dX3_pullLength_10) Aok.nil)) (kX0_sumOf g) rfl ykX0_sumOf vkX3_79 (by decide) (by decide) dX3_pullLength_11) Aok.nil))) (kX2_numberOf g) rfl ykX2_numberOf vkX3_82 (by decide) (by decide) dX3_pullLength_14) Aok.nil)) (kX3_pullAt g) rfl ykX3_pullAt vkX3_65 (by decide) (by decide) dX3_pullLength_17) (by decide) dX3_pullLength_20 rfl)
/-! PassHuts$Prospects.bestPull(I)I -/
theorem dX3_bestPull_0 : decode cX3_bestPull 0 = .ok (.aload_n 0, 1) := by decide +kernel
theorem dX3_bestPull_1 : decode cX3_bestPull 1 = .ok (.getfield 23, 3) := by decide +kernel
theorem dX3_bestPull_4 : decode cX3_bestPull 4 = .ok (.iload_n 1, 1) := by decide +kernel
theorem dX3_bestPull_5 : decode cX3_bestPull 5 = .ok (.invokevirtual 79, 3) := by decide +kernel
theorem dX3_bestPull_8 : decode cX3_bestPull 8 = .ok (.istore_n 2, 1) := by decide +kernel
theorem dX3_bestPull_9 : decode cX3_bestPull 9 = .ok (.iconst (-1), 1) := by decide +kernel
theorem dX3_bestPull_10 : decode cX3_bestPull 10 = .ok (.istore_n 3, 1) := by decide +kernel
theorem dX3_bestPull_11 : decode cX3_bestPull 11 = .ok (.iconst (-1), 1) := by decide +kernel
theorem dX3_bestPull_12 : decode cX3_bestPull 12 = .ok (.istore 4, 2) := by decide +kernel
theorem dX3_bestPull_14 : decode cX3_bestPull 14 = .ok (.iconst 0, 1) := by decide +kernel
theorem dX3_bestPull_15 : decode cX3_bestPull 15 = .ok (.istore 5, 2) := by decide +kernel
theorem dX3_bestPull_17 : decode cX3_bestPull 17 = .ok (.iload 5, 2) := by decide +kernel
theorem dX3_bestPull_19 : decode cX3_bestPull 19 = .ok (.aload_n 0, 1) := by decide +kernel
theorem dX3_bestPull_20 : decode cX3_bestPull 20 = .ok (.getfield 23, 3) := by decide +kernel
theorem dX3_bestPull_23 : decode cX3_bestPull 23 = .ok (.getfield 58, 3) := by decide +kernel
theorem dX3_bestPull_26 : decode cX3_bestPull 26 = .ok (.if_icmp .ge 56, 3) := by decide +kernel
theorem dX3_bestPull_29 : decode cX3_bestPull 29 = .ok (.aload_n 0, 1) := by decide +kernel
theorem dX3_bestPull_30 : decode cX3_bestPull 30 = .ok (.getfield 19, 3) := by decide +kernel
theorem dX3_bestPull_33 : decode cX3_bestPull 33 = .ok (.aload_n 0, 1) := by decide +kernel
theorem dX3_bestPull_34 : decode cX3_bestPull 34 = .ok (.getfield 23, 3) := by decide +kernel
theorem dX3_bestPull_37 : decode cX3_bestPull 37 = .ok (.iload_n 1, 1) := by decide +kernel
theorem dX3_bestPull_38 : decode cX3_bestPull 38 = .ok (.iload_n 2, 1) := by decide +kernel
theorem dX3_bestPull_39 : decode cX3_bestPull 39 = .ok (.iload 5, 2) := by decide +kernel
theorem dX3_bestPull_41 : decode cX3_bestPull 41 = .ok (.invokevirtual 61, 3) := by decide +kernel
theorem dX3_bestPull_44 : decode cX3_bestPull 44 = .ok (.istore 6, 2) := by decide +kernel
theorem dX3_bestPull_46 : decode cX3_bestPull 46 = .ok (.iload 6, 2) := by decide +kernel
theorem dX3_bestPull_48 : decode cX3_bestPull 48 = .ok (.ifCond .lt 28, 3) := by decide +kernel
theorem dX3_bestPull_51 : decode cX3_bestPull 51 = .ok (.aload_n 0, 1) := by decide +kernel
theorem dX3_bestPull_52 : decode cX3_bestPull 52 = .ok (.iload 6, 2) := by decide +kernel
theorem dX3_bestPull_54 : decode cX3_bestPull 54 = .ok (.invokevirtual 65, 3) := by decide +kernel
theorem dX3_bestPull_57 : decode cX3_bestPull 57 = .ok (.iload 4, 2) := by decide +kernel
theorem dX3_bestPull_59 : decode cX3_bestPull 59 = .ok (.invokestatic 72, 3) := by decide +kernel
theorem dX3_bestPull_62 : decode cX3_bestPull 62 = .ok (.ifCond .eq 14, 3) := by decide +kernel
theorem dX3_bestPull_65 : decode cX3_bestPull 65 = .ok (.iload 5, 2) := by decide +kernel
theorem dX3_bestPull_67 : decode cX3_bestPull 67 = .ok (.istore_n 3, 1) := by decide +kernel
theorem dX3_bestPull_68 : decode cX3_bestPull 68 = .ok (.aload_n 0, 1) := by decide +kernel
theorem dX3_bestPull_69 : decode cX3_bestPull 69 = .ok (.iload 6, 2) := by decide +kernel
theorem dX3_bestPull_71 : decode cX3_bestPull 71 = .ok (.invokevirtual 65, 3) := by decide +kernel
theorem dX3_bestPull_74 : decode cX3_bestPull 74 = .ok (.istore 4, 2) := by decide +kernel
theorem dX3_bestPull_76 : decode cX3_bestPull 76 = .ok (.iinc 5 1, 3) := by decide +kernel
theorem dX3_bestPull_79 : decode cX3_bestPull 79 = .ok (.goto (-62), 3) := by decide +kernel
theorem dX3_bestPull_82 : decode cX3_bestPull 82 = .ok (.iload_n 3, 1) := by decide +kernel
theorem dX3_bestPull_83 : decode cX3_bestPull 83 = .ok (.ireturn, 1) := by decide +kernel
abbrev tX3_bestPull (k : Nat) : MT := (RX3, cX3_bestPull, 7, k, (some .int))
def lX3_bestPull_1 : SX := (sLoop (cB rlt (iLoc 5) (iGet 0 4 (rGet 3 3 (rLoc 0)))) (sSeq (sSetI 6 (iCallV 2 mX2_numberBehind (aR (rGet 3 0 (rLoc 0)) (aR (rGet 3 3 (rLoc 0)) (aI (iLoc 1) (aI (iLoc 2) (aI (iLoc 5) aNil))))))) (sIf (cAnd (cZ zge (iLoc 6)) (cZ zne (iCallS mX3_isBetterPull (aI (iCallV 3 mX3_pullAt (aR (rLoc 0) (aI (iLoc 6) aNil))) (aI (iLoc 4) aNil))))) (sSeq (sSetI 3 (iLoc 5)) (sSetI 4 (iCallV 3 mX3_pullAt (aR (rLoc 0) (aI (iLoc 6) aNil))))) sSkip)) (sSeq (sForget 6) (sInc 5 1)))
theorem olX3_bestPull_1 (g : GT) {pcB pcC : Nat} : Sok g (tX3_bestPull 5) 17 82 pcB pcC (lX3_bestPull_1) := (Sok.loop (pc := 17) (pc1 := 29) (pc2 := 76) (pcN := 82) (Cok.cmp (pc1 := 19) (pc2 := 26) (pcT := 29) (pcF := 82) (EokI.iload (i := 5) dX3_bestPull_17) (EokI.getf (pc1 := 23) (j := 4) (ci := 0) (T := TX0) (N := 17) (EokR.getf (pc1 := 20) (j := 3) (ci := 3) (T := TX3) (N := 5) (EokR.aload_n (q := 0) dX3_bestPull_19) rfl wsX3_in (by decide) flX3_23 dX3_bestPull_20) rfl wsX0_in (by decide) flX3_58 dX3_bestPull_23) (JI.ltF (tgt := 82) dX3_bestPull_26 (by decide))) (by decide) (Sok.seq (pc1 := 46) (Sok.setI (i := 6) (pc1 := 44) (EokI.iCallV (pc1 := 41) (Aok.aR (pc1 := 33) (EokR.getf (pc1 := 30) (j := 0) (ci := 3) (T := TX3) (N := 5) (EokR.aload_n (q := 0) dX3_bestPull_29) rfl wsX3_in (by decide) flX3_19 dX3_bestPull_30) (Aok.aR (pc1 := 37) (EokR.getf (pc1 := 34) (j := 3) (ci := 3) (T := TX3) (N := 5) (EokR.aload_n (q := 0) dX3_bestPull_33) rfl wsX3_in (by decide) flX3_23 dX3_bestPull_34) (Aok.aI (pc1 := 38) (EokI.iload_n (q := 1) dX3_bestPull_37) (Aok.aI (pc1 := 39) (EokI.iload_n (q := 2) dX3_bestPull_38) (Aok.aI (pc1 := 41) (EokI.iload (i := 5) dX3_bestPull_39) Aok.nil))))) (kX2_numberBehind g) rfl ykX2_numberBehind vkX3_61 (by decide) (by decide) dX3_bestPull_41) (by decide) dX3_bestPull_44 (show 6 < 7 by decide)) (Sok.ite (pc1 := 65) (pc2 := 76) (Cok.and (pc1 := 51) (Cok.zero (pc1 := 48) (pcT := 51) (pcF := 76) (EokI.iload (i := 6) dX3_bestPull_46) (JZ.geF (tgt := 76) dX3_bestPull_48 (by decide))) (Cok.zero (pc1 := 62) (pcT := 65) (pcF := 76) (EokI.iCallS (pc1 := 59) (Aok.aI (pc1 := 57) (EokI.iCallV (pc1 := 54) (Aok.aR (pc1 := 52) (EokR.aload_n (q := 0) dX3_bestPull_51) (Aok.aI (pc1 := 54) (EokI.iload (i := 6) dX3_bestPull_52) Aok.nil)) (kX3_pullAt g) rfl ykX3_pullAt vkX3_65 (by decide) (by decide) dX3_bestPull_54) (Aok.aI (pc1 := 59) (EokI.iload (i := 4) dX3_bestPull_57) Aok.nil)) (kX3_isBetterPull g) ykX3_isBetterPull skX3_72 (by decide) (by decide) dX3_bestPull_59) (JZ.neF (tgt := 76) dX3_bestPull_62 (by decide)))) (by decide) (Sok.seq (pc1 := 68) (Sok.setI_n (q := 3) (pc1 := 67) (EokI.iload (i := 5) dX3_bestPull_65) (by decide) dX3_bestPull_67 (show 3 < 7 by decide)) (Sok.setI (i := 4) (pc1 := 74) (EokI.iCallV (pc1 := 71) (Aok.aR (pc1 := 69) (EokR.aload_n (q := 0) dX3_bestPull_68) (Aok.aI (pc1 := 71) (EokI.iload (i := 6) dX3_bestPull_69) Aok.nil)) (kX3_pullAt g) rfl ykX3_pullAt vkX3_65 (by decide) (by decide) dX3_bestPull_71) (by decide) dX3_bestPull_74 (show 4 < 7 by decide))) (Sok.skip (pc := 76)))) (Sok.seq (pc1 := 76) Sok.forget (Sok.goto (pc1 := 79) (pcN := 17) (Sok.iinc (i := 5) (v := 1) dX3_bestPull_76 (show 5 < 7 by decide) (by decide)) dX3_bestPull_79 (by decide))))
def mX3_bestPull : MX := bodyOf 7 (sSeq (sSetI 2 (iCallV 0 mX0_sumOf (aR (rGet 3 3 (rLoc 0)) (aI (iLoc 1) aNil)))) (sSeq (sSetI 3 (iK (-1))) (sSeq (sSetI 4 (iK (-1))) (sSeq (sSeq (sSeq (sSetI 5 (iK 0)) lX3_bestPull_1) (sForget 5)) (sRetI (iLoc 3))))))
theorem kX3_bestPull (g : GT) : MK g 5 yX3_bestPull cX3_bestPull 7 (some .int) mX3_bestPull := MK.of (pcN := 99999) (pcB := 0) (pcC := 0) rfl (Sok.seq (pc1 := 9) (Sok.setI_n (q := 2) (pc1 := 8) (EokI.iCallV (pc1 := 5) (Aok.aR (pc1 := 4) (EokR.getf (pc1 := 1) (j := 3) (ci := 3) (T := TX3) (N := 5) (EokR.aload_n (q := 0) dX3_bestPull_0) rfl wsX3_in (by decide) flX3_23 dX3_bestPull_1) (Aok.aI (pc1 := 5) (EokI.iload_n (q := 1) dX3_bestPull_4) Aok.nil)) (kX0_sumOf g) rfl ykX0_sumOf vkX3_79 (by decide) (by decide) dX3_bestPull_5) (by decide) dX3_bestPull_8 (show 2 < 7 by decide)) (Sok.seq (pc1 := 11) (Sok.setI_n (q := 3) (pc1 := 10) (EokI.iconst (v := (-1)) dX3_bestPull_9 (by decide)) (by decide) dX3_bestPull_10 (show 3 < 7 by decide)) (Sok.seq (pc1 := 14) (Sok.setI (i := 4) (pc1 := 12) (EokI.iconst (v := (-1)) dX3_bestPull_11 (by decide)) (by decide) dX3_bestPull_12 (show 4 < 7 by decide)) (Sok.seq (pc1 := 82) (Sok.seq (pc1 := 82) (Sok.seq (pc1 := 17) (Sok.setI (i := 5) (pc1 := 15) (EokI.iconst (v := 0) dX3_bestPull_14 (by decide)) (by decide) dX3_bestPull_15 (show 5 < 7 by decide)) (olX3_bestPull_1 g )) (Sok.forget (pc := 82))) (Sok.retI (pc1 := 83) (EokI.iload_n (q := 3) dX3_bestPull_82) (by decide) dX3_bestPull_83 rfl)))))
/-! PassHuts$Survey.countFitting(LPassHuts$Story;)I -/
theorem dX6_countFitting_0 : decode cX6_countFitting 0 = .ok (.iconst 0, 1) := by decide +kernel
theorem dX6_countFitting_1 : decode cX6_countFitting 1 = .ok (.istore_n 2, 1) := by decide +kernel
theorem dX6_countFitting_2 : decode cX6_countFitting 2 = .ok (.aload_n 0, 1) := by decide +kernel
theorem dX6_countFitting_3 : decode cX6_countFitting 3 = .ok (.getfield 23, 3) := by decide +kernel
theorem dX6_countFitting_6 : decode cX6_countFitting 6 = .ok (.aload_n 1, 1) := by decide +kernel
theorem dX6_countFitting_7 : decode cX6_countFitting 7 = .ok (.getfield 81, 3) := by decide +kernel
theorem dX6_countFitting_10 : decode cX6_countFitting 10 = .ok (.invokevirtual 72, 3) := by decide +kernel
theorem dX6_countFitting_13 : decode cX6_countFitting 13 = .ok (.istore_n 3, 1) := by decide +kernel
theorem dX6_countFitting_14 : decode cX6_countFitting 14 = .ok (.aload_n 0, 1) := by decide +kernel
theorem dX6_countFitting_15 : decode cX6_countFitting 15 = .ok (.getfield 15, 3) := by decide +kernel
theorem dX6_countFitting_18 : decode cX6_countFitting 18 = .ok (.iload_n 3, 1) := by decide +kernel
theorem dX6_countFitting_19 : decode cX6_countFitting 19 = .ok (.aload_n 0, 1) := by decide +kernel
theorem dX6_countFitting_20 : decode cX6_countFitting 20 = .ok (.getfield 23, 3) := by decide +kernel
theorem dX6_countFitting_23 : decode cX6_countFitting 23 = .ok (.getfield 27, 3) := by decide +kernel
theorem dX6_countFitting_26 : decode cX6_countFitting 26 = .ok (.invokevirtual 33, 3) := by decide +kernel
theorem dX6_countFitting_29 : decode cX6_countFitting 29 = .ok (.istore 4, 2) := by decide +kernel
theorem dX6_countFitting_31 : decode cX6_countFitting 31 = .ok (.aload_n 0, 1) := by decide +kernel
theorem dX6_countFitting_32 : decode cX6_countFitting 32 = .ok (.getfield 15, 3) := by decide +kernel
theorem dX6_countFitting_35 : decode cX6_countFitting 35 = .ok (.iload_n 3, 1) := by decide +kernel
theorem dX6_countFitting_36 : decode cX6_countFitting 36 = .ok (.invokevirtual 39, 3) := by decide +kernel
theorem dX6_countFitting_39 : decode cX6_countFitting 39 = .ok (.istore 5, 2) := by decide +kernel
theorem dX6_countFitting_41 : decode cX6_countFitting 41 = .ok (.iload 5, 2) := by decide +kernel
theorem dX6_countFitting_43 : decode cX6_countFitting 43 = .ok (.iload 4, 2) := by decide +kernel
theorem dX6_countFitting_45 : decode cX6_countFitting 45 = .ok (.if_icmp .ge 48, 3) := by decide +kernel
theorem dX6_countFitting_48 : decode cX6_countFitting 48 = .ok (.aload_n 0, 1) := by decide +kernel
theorem dX6_countFitting_49 : decode cX6_countFitting 49 = .ok (.getfield 15, 3) := by decide +kernel
theorem dX6_countFitting_52 : decode cX6_countFitting 52 = .ok (.iload 5, 2) := by decide +kernel
theorem dX6_countFitting_54 : decode cX6_countFitting 54 = .ok (.invokevirtual 43, 3) := by decide +kernel
theorem dX6_countFitting_57 : decode cX6_countFitting 57 = .ok (.istore 6, 2) := by decide +kernel
theorem dX6_countFitting_59 : decode cX6_countFitting 59 = .ok (.aload_n 0, 1) := by decide +kernel
theorem dX6_countFitting_60 : decode cX6_countFitting 60 = .ok (.getfield 23, 3) := by decide +kernel
theorem dX6_countFitting_63 : decode cX6_countFitting 63 = .ok (.iload 6, 2) := by decide +kernel
theorem dX6_countFitting_65 : decode cX6_countFitting 65 = .ok (.invokevirtual 46, 3) := by decide +kernel
theorem dX6_countFitting_68 : decode cX6_countFitting 68 = .ok (.ifCond .eq 19, 3) := by decide +kernel
theorem dX6_countFitting_71 : decode cX6_countFitting 71 = .ok (.aload_n 1, 1) := by decide +kernel
theorem dX6_countFitting_72 : decode cX6_countFitting 72 = .ok (.aload_n 0, 1) := by decide +kernel
theorem dX6_countFitting_73 : decode cX6_countFitting 73 = .ok (.getfield 23, 3) := by decide +kernel
theorem dX6_countFitting_76 : decode cX6_countFitting 76 = .ok (.iload 6, 2) := by decide +kernel
theorem dX6_countFitting_78 : decode cX6_countFitting 78 = .ok (.invokevirtual 86, 3) := by decide +kernel
theorem dX6_countFitting_81 : decode cX6_countFitting 81 = .ok (.ifCond .eq 6, 3) := by decide +kernel
theorem dX6_countFitting_84 : decode cX6_countFitting 84 = .ok (.iinc 2 1, 3) := by decide +kernel
theorem dX6_countFitting_87 : decode cX6_countFitting 87 = .ok (.iinc 5 1, 3) := by decide +kernel
theorem dX6_countFitting_90 : decode cX6_countFitting 90 = .ok (.goto (-49), 3) := by decide +kernel
theorem dX6_countFitting_93 : decode cX6_countFitting 93 = .ok (.iload_n 2, 1) := by decide +kernel
theorem dX6_countFitting_94 : decode cX6_countFitting 94 = .ok (.ireturn, 1) := by decide +kernel
abbrev tX6_countFitting (k : Nat) : MT := (RX6, cX6_countFitting, 7, k, (some .int))
def lX6_countFitting_1 : SX := (sLoop (cB rlt (iLoc 5) (iLoc 4)) (sSeq (sSetI 6 (iCallV 2 mX2_lyingAt (aR (rGet 6 0 (rLoc 0)) (aI (iLoc 5) aNil)))) (sIf (cAnd (cZ zne (iCallV 0 mX0_isWayToLie (aR (rGet 6 3 (rLoc 0)) (aI (iLoc 6) aNil)))) (cZ zne (iCallV 5 mX5_agrees (aR (rLoc 1) (aR (rGet 6 3 (rLoc 0)) (aI (iLoc 6) aNil)))))) (sInc 2 1) sSkip)) (sSeq (sForget 6) (sInc 5 1)))
theorem olX6_countFitting_1 (g : GT) {pcB pcC : Nat} : Sok g (tX6_countFitting 3) 41 93 pcB pcC (lX6_countFitting_1) := (Sok.loop (pc := 41) (pc1 := 48) (pc2 := 87) (pcN := 93) (Cok.cmp (pc1 := 43) (pc2 := 45) (pcT := 48) (pcF := 93) (EokI.iload (i := 5) dX6_countFitting_41) (EokI.iload (i := 4) dX6_countFitting_43) (JI.ltF (tgt := 93) dX6_countFitting_45 (by decide))) (by decide) (Sok.seq (pc1 := 59) (Sok.setI (i := 6) (pc1 := 57) (EokI.iCallV (pc1 := 54) (Aok.aR (pc1 := 52) (EokR.getf (pc1 := 49) (j := 0) (ci := 6) (T := TX6) (N := 4) (EokR.aload_n (q := 0) dX6_countFitting_48) rfl wsX6_in (by decide) flX6_15 dX6_countFitting_49) (Aok.aI (pc1 := 54) (EokI.iload (i := 5) dX6_countFitting_52) Aok.nil)) (kX2_lyingAt g) rfl ykX2_lyingAt vkX6_43 (by decide) (by decide) dX6_countFitting_54) (by decide) dX6_countFitting_57 (show 6 < 7 by decide)) (Sok.ite (pc1 := 84) (pc2 := 87) (Cok.and (pc1 := 71) (Cok.zero (pc1 := 68) (pcT := 71) (pcF := 87) (EokI.iCallV (pc1 := 65) (Aok.aR (pc1 := 63) (EokR.getf (pc1 := 60) (j := 3) (ci := 6) (T := TX6) (N := 4) (EokR.aload_n (q := 0) dX6_countFitting_59) rfl wsX6_in (by decide) flX6_23 dX6_countFitting_60) (Aok.aI (pc1 := 65) (EokI.iload (i := 6) dX6_countFitting_63) Aok.nil)) (kX0_isWayToLie g) rfl ykX0_isWayToLie vkX6_46 (by decide) (by decide) dX6_countFitting_65) (JZ.neF (tgt := 87) dX6_countFitting_68 (by decide))) (Cok.zero (pc1 := 81) (pcT := 84) (pcF := 87) (EokI.iCallV (pc1 := 78) (Aok.aR (pc1 := 72) (EokR.aload_n (q := 1) dX6_countFitting_71) (Aok.aR (pc1 := 76) (EokR.getf (pc1 := 73) (j := 3) (ci := 6) (T := TX6) (N := 4) (EokR.aload_n (q := 0) dX6_countFitting_72) rfl wsX6_in (by decide) flX6_23 dX6_countFitting_73) (Aok.aI (pc1 := 78) (EokI.iload (i := 6) dX6_countFitting_76) Aok.nil))) (kX5_agrees g) rfl ykX5_agrees vkX6_86 (by decide) (by decide) dX6_countFitting_78) (JZ.neF (tgt := 87) dX6_countFitting_81 (by decide)))) (by decide) (Sok.iinc (i := 2) (v := 1) dX6_countFitting_84 (show 2 < 7 by decide) (by decide)) (Sok.skip (pc := 87)))) (Sok.seq (pc1 := 87) Sok.forget (Sok.goto (pc1 := 90) (pcN := 41) (Sok.iinc (i := 5) (v := 1) dX6_countFitting_87 (show 5 < 7 by decide) (by decide)) dX6_countFitting_90 (by decide))))
def mX6_countFitting : MX := bodyOf 7 (sSeq (sSetI 2 (iK 0)) (sSeq (sSetI 3 (iCallV 0 mX0_sumOf (aR (rGet 6 3 (rLoc 0)) (aI (iGet 5 9 (rLoc 1)) aNil)))) (sSeq (sSetI 4 (iCallV 2 mX2_endOf (aR (rGet 6 0 (rLoc 0)) (aI (iLoc 3) (aI (iGet 0 3 (rGet 6 3 (rLoc 0))) aNil))))) (sSeq (sSeq (sSeq (sSetI 5 (iCallV 2 mX2_firstOf (aR (rGet 6 0 (rLoc 0)) (aI (iLoc 3) aNil)))) lX6_countFitting_1) (sForget 5)) (sRetI (iLoc 2))))))
theorem kX6_countFitting (g : GT) : MK g 3 yX6_countFitting cX6_countFitting 7 (some .int) mX6_countFitting := MK.of (pcN := 99999) (pcB := 0) (pcC := 0) rfl (Sok.seq (pc1 := 2) (Sok.setI_n (q := 2) (pc1 := 1) (EokI.iconst (v := 0) dX6_countFitting_0 (by decide)) (by decide) dX6_countFitting_1 (show 2 < 7 by decide)) (Sok.seq (pc1 := 14) (Sok.setI_n (q := 3) (pc1 := 13) (EokI.iCallV (pc1 := 10) (Aok.aR (pc1 := 6) (EokR.getf (pc1 := 3) (j := 3) (ci := 6) (T := TX6) (N := 4) (EokR.aload_n (q := 0) dX6_countFitting_2) rfl wsX6_in (by decide) flX6_23 dX6_countFitting_3) (Aok.aI (pc1 := 10) (EokI.getf (pc1 := 7) (j := 9) (ci := 5) (T := TX5) (N := 13) (EokR.aload_n (q := 1) dX6_countFitting_6) rfl wsX5_in (by decide) flX6_81 dX6_countFitting_7) Aok.nil)) (kX0_sumOf g) rfl ykX0_sumOf vkX6_72 (by decide) (by decide) dX6_countFitting_10) (by decide) dX6_countFitting_13 (show 3 < 7 by decide)) (Sok.seq (pc1 := 31) (Sok.setI (i := 4) (pc1 := 29) (EokI.iCallV (pc1 := 26) (Aok.aR (pc1 := 18) (EokR.getf (pc1 := 15) (j := 0) (ci := 6) (T := TX6) (N := 4) (EokR.aload_n (q := 0) dX6_countFitting_14) rfl wsX6_in (by decide) flX6_15 dX6_countFitting_15) (Aok.aI (pc1 := 19) (EokI.iload_n (q := 3) dX6_countFitting_18) (Aok.aI (pc1 := 26) (EokI.getf (pc1 := 23) (j := 3) (ci := 0) (T := TX0) (N := 17) (EokR.getf (pc1 := 20) (j := 3) (ci := 6) (T := TX6) (N := 4) (EokR.aload_n (q := 0) dX6_countFitting_19) rfl wsX6_in (by decide) flX6_23 dX6_countFitting_20) rfl wsX0_in (by decide) flX6_27 dX6_countFitting_23) Aok.nil))) (kX2_endOf g) rfl ykX2_endOf vkX6_33 (by decide) (by decide) dX6_countFitting_26) (by decide) dX6_countFitting_29 (show 4 < 7 by decide)) (Sok.seq (pc1 := 93) (Sok.seq (pc1 := 93) (Sok.seq (pc1 := 41) (Sok.setI (i := 5) (pc1 := 39) (EokI.iCallV (pc1 := 36) (Aok.aR (pc1 := 35) (EokR.getf (pc1 := 32) (j := 0) (ci := 6) (T := TX6) (N := 4) (EokR.aload_n (q := 0) dX6_countFitting_31) rfl wsX6_in (by decide) flX6_15 dX6_countFitting_32) (Aok.aI (pc1 := 36) (EokI.iload_n (q := 3) dX6_countFitting_35) Aok.nil)) (kX2_firstOf g) rfl ykX2_firstOf vkX6_39 (by decide) (by decide) dX6_countFitting_36) (by decide) dX6_countFitting_39 (show 5 < 7 by decide)) (olX6_countFitting_1 g )) (Sok.forget (pc := 93))) (Sok.retI (pc1 := 94) (EokI.iload_n (q := 2) dX6_countFitting_93) (by decide) dX6_countFitting_94 rfl)))))
/-! PassHuts$Survey.tallyFitting(LPassHuts$Story;)V -/
theorem dX6_tallyFitting_0 : decode cX6_tallyFitting 0 = .ok (.iconst 0, 1) := by decide +kernel
theorem dX6_tallyFitting_1 : decode cX6_tallyFitting 1 = .ok (.istore_n 2, 1) := by decide +kernel
theorem dX6_tallyFitting_2 : decode cX6_tallyFitting 2 = .ok (.iload_n 2, 1) := by decide +kernel
theorem dX6_tallyFitting_3 : decode cX6_tallyFitting 3 = .ok (.aload_n 0, 1) := by decide +kernel
theorem dX6_tallyFitting_4 : decode cX6_tallyFitting 4 = .ok (.getfield 9, 3) := by decide +kernel
theorem dX6_tallyFitting_7 : decode cX6_tallyFitting 7 = .ok (.arraylength, 1) := by decide +kernel
theorem dX6_tallyFitting_8 : decode cX6_tallyFitting 8 = .ok (.if_icmp .ge 16, 3) := by decide +kernel
theorem dX6_tallyFitting_11 : decode cX6_tallyFitting 11 = .ok (.aload_n 0, 1) := by decide +kernel
theorem dX6_tallyFitting_12 : decode cX6_tallyFitting 12 = .ok (.getfield 9, 3) := by decide +kernel
theorem dX6_tallyFitting_15 : decode cX6_tallyFitting 15 = .ok (.iload_n 2, 1) := by decide +kernel
theorem dX6_tallyFitting_16 : decode cX6_tallyFitting 16 = .ok (.iconst 0, 1) := by decide +kernel
theorem dX6_tallyFitting_17 : decode cX6_tallyFitting 17 = .ok (.iastore, 1) := by decide +kernel
theorem dX6_tallyFitting_18 : decode cX6_tallyFitting 18 = .ok (.iinc 2 1, 3) := by decide +kernel
theorem dX6_tallyFitting_21 : decode cX6_tallyFitting 21 = .ok (.goto (-19), 3) := by decide +kernel
theorem dX6_tallyFitting_24 : decode cX6_tallyFitting 24 = .ok (.aload_n 0, 1) := by decide +kernel
theorem dX6_tallyFitting_25 : decode cX6_tallyFitting 25 = .ok (.getfield 23, 3) := by decide +kernel
theorem dX6_tallyFitting_28 : decode cX6_tallyFitting 28 = .ok (.aload_n 1, 1) := by decide +kernel
theorem dX6_tallyFitting_29 : decode cX6_tallyFitting 29 = .ok (.getfield 81, 3) := by decide +kernel
theorem dX6_tallyFitting_32 : decode cX6_tallyFitting 32 = .ok (.invokevirtual 72, 3) := by decide +kernel
theorem dX6_tallyFitting_35 : decode cX6_tallyFitting 35 = .ok (.istore_n 2, 1) := by decide +kernel
theorem dX6_tallyFitting_36 : decode cX6_tallyFitting 36 = .ok (.aload_n 0, 1) := by decide +kernel
theorem dX6_tallyFitting_37 : decode cX6_tallyFitting 37 = .ok (.getfield 15, 3) := by decide +kernel
theorem dX6_tallyFitting_40 : decode cX6_tallyFitting 40 = .ok (.iload_n 2, 1) := by decide +kernel
theorem dX6_tallyFitting_41 : decode cX6_tallyFitting 41 = .ok (.aload_n 0, 1) := by decide +kernel
theorem dX6_tallyFitting_42 : decode cX6_tallyFitting 42 = .ok (.getfield 23, 3) := by decide +kernel
theorem dX6_tallyFitting_45 : decode cX6_tallyFitting 45 = .ok (.getfield 27, 3) := by decide +kernel
theorem dX6_tallyFitting_48 : decode cX6_tallyFitting 48 = .ok (.invokevirtual 33, 3) := by decide +kernel
theorem dX6_tallyFitting_51 : decode cX6_tallyFitting 51 = .ok (.istore_n 3, 1) := by decide +kernel
theorem dX6_tallyFitting_52 : decode cX6_tallyFitting 52 = .ok (.aload_n 0, 1) := by decide +kernel
theorem dX6_tallyFitting_53 : decode cX6_tallyFitting 53 = .ok (.getfield 15, 3) := by decide +kernel
theorem dX6_tallyFitting_56 : decode cX6_tallyFitting 56 = .ok (.iload_n 2, 1) := by decide +kernel
theorem dX6_tallyFitting_57 : decode cX6_tallyFitting 57 = .ok (.invokevirtual 39, 3) := by decide +kernel
theorem dX6_tallyFitting_60 : decode cX6_tallyFitting 60 = .ok (.istore 4, 2) := by decide +kernel
theorem dX6_tallyFitting_62 : decode cX6_tallyFitting 62 = .ok (.iload 4, 2) := by decide +kernel
theorem dX6_tallyFitting_64 : decode cX6_tallyFitting 64 = .ok (.iload_n 3, 1) := by decide +kernel
theorem dX6_tallyFitting_65 : decode cX6_tallyFitting 65 = .ok (.if_icmp .ge 103, 3) := by decide +kernel
theorem dX6_tallyFitting_68 : decode cX6_tallyFitting 68 = .ok (.aload_n 0, 1) := by decide +kernel
theorem dX6_tallyFitting_69 : decode cX6_tallyFitting 69 = .ok (.getfield 15, 3) := by decide +kernel
theorem dX6_tallyFitting_72 : decode cX6_tallyFitting 72 = .ok (.iload 4, 2) := by decide +kernel
theorem dX6_tallyFitting_74 : decode cX6_tallyFitting 74 = .ok (.invokevirtual 43, 3) := by decide +kernel
theorem dX6_tallyFitting_77 : decode cX6_tallyFitting 77 = .ok (.istore 5, 2) := by decide +kernel
theorem dX6_tallyFitting_79 : decode cX6_tallyFitting 79 = .ok (.aload_n 0, 1) := by decide +kernel
theorem dX6_tallyFitting_80 : decode cX6_tallyFitting 80 = .ok (.getfield 23, 3) := by decide +kernel
theorem dX6_tallyFitting_83 : decode cX6_tallyFitting 83 = .ok (.iload 5, 2) := by decide +kernel
theorem dX6_tallyFitting_85 : decode cX6_tallyFitting 85 = .ok (.invokevirtual 46, 3) := by decide +kernel
theorem dX6_tallyFitting_88 : decode cX6_tallyFitting 88 = .ok (.ifCond .eq 74, 3) := by decide +kernel
theorem dX6_tallyFitting_91 : decode cX6_tallyFitting 91 = .ok (.aload_n 1, 1) := by decide +kernel
theorem dX6_tallyFitting_92 : decode cX6_tallyFitting 92 = .ok (.aload_n 0, 1) := by decide +kernel
theorem dX6_tallyFitting_93 : decode cX6_tallyFitting 93 = .ok (.getfield 23, 3) := by decide +kernel
theorem dX6_tallyFitting_96 : decode cX6_tallyFitting 96 = .ok (.iload 5, 2) := by decide +kernel
theorem dX6_tallyFitting_98 : decode cX6_tallyFitting 98 = .ok (.invokevirtual 86, 3) := by decide +kernel
theorem dX6_tallyFitting_101 : decode cX6_tallyFitting 101 = .ok (.ifCond .eq 61, 3) := by decide +kernel
theorem dX6_tallyFitting_104 : decode cX6_tallyFitting 104 = .ok (.iconst 0, 1) := by decide +kernel
theorem dX6_tallyFitting_105 : decode cX6_tallyFitting 105 = .ok (.istore 6, 2) := by decide +kernel
theorem dX6_tallyFitting_107 : decode cX6_tallyFitting 107 = .ok (.iload 6, 2) := by decide +kernel
theorem dX6_tallyFitting_109 : decode cX6_tallyFitting 109 = .ok (.aload_n 0, 1) := by decide +kernel
theorem dX6_tallyFitting_110 : decode cX6_tallyFitting 110 = .ok (.getfield 23, 3) := by decide +kernel
theorem dX6_tallyFitting_113 : decode cX6_tallyFitting 113 = .ok (.getfield 27, 3) := by decide +kernel
theorem dX6_tallyFitting_116 : decode cX6_tallyFitting 116 = .ok (.if_icmp .ge 46, 3) := by decide +kernel
theorem dX6_tallyFitting_119 : decode cX6_tallyFitting 119 = .ok (.iload 6, 2) := by decide +kernel
theorem dX6_tallyFitting_121 : decode cX6_tallyFitting 121 = .ok (.iconst 5, 1) := by decide +kernel
theorem dX6_tallyFitting_122 : decode cX6_tallyFitting 122 = .ok (.if_icmp .ge 40, 3) := by decide +kernel
theorem dX6_tallyFitting_125 : decode cX6_tallyFitting 125 = .ok (.aload_n 0, 1) := by decide +kernel
theorem dX6_tallyFitting_126 : decode cX6_tallyFitting 126 = .ok (.getfield 9, 3) := by decide +kernel
theorem dX6_tallyFitting_129 : decode cX6_tallyFitting 129 = .ok (.iload 6, 2) := by decide +kernel
theorem dX6_tallyFitting_131 : decode cX6_tallyFitting 131 = .ok (.bipush 13, 2) := by decide +kernel
theorem dX6_tallyFitting_133 : decode cX6_tallyFitting 133 = .ok (.imul, 1) := by decide +kernel
theorem dX6_tallyFitting_134 : decode cX6_tallyFitting 134 = .ok (.aload_n 0, 1) := by decide +kernel
theorem dX6_tallyFitting_135 : decode cX6_tallyFitting 135 = .ok (.getfield 23, 3) := by decide +kernel
theorem dX6_tallyFitting_138 : decode cX6_tallyFitting 138 = .ok (.iload 5, 2) := by decide +kernel
theorem dX6_tallyFitting_140 : decode cX6_tallyFitting 140 = .ok (.iload 6, 2) := by decide +kernel
theorem dX6_tallyFitting_142 : decode cX6_tallyFitting 142 = .ok (.invokevirtual 78, 3) := by decide +kernel
theorem dX6_tallyFitting_145 : decode cX6_tallyFitting 145 = .ok (.bipush 12, 2) := by decide +kernel
theorem dX6_tallyFitting_147 : decode cX6_tallyFitting 147 = .ok (.invokestatic 90, 3) := by decide +kernel
theorem dX6_tallyFitting_150 : decode cX6_tallyFitting 150 = .ok (.iadd, 1) := by decide +kernel
theorem dX6_tallyFitting_151 : decode cX6_tallyFitting 151 = .ok (.dup2, 1) := by decide +kernel
theorem dX6_tallyFitting_152 : decode cX6_tallyFitting 152 = .ok (.iaload, 1) := by decide +kernel
theorem dX6_tallyFitting_153 : decode cX6_tallyFitting 153 = .ok (.iconst 1, 1) := by decide +kernel
theorem dX6_tallyFitting_154 : decode cX6_tallyFitting 154 = .ok (.iadd, 1) := by decide +kernel
theorem dX6_tallyFitting_155 : decode cX6_tallyFitting 155 = .ok (.iastore, 1) := by decide +kernel
theorem dX6_tallyFitting_156 : decode cX6_tallyFitting 156 = .ok (.iinc 6 1, 3) := by decide +kernel
theorem dX6_tallyFitting_159 : decode cX6_tallyFitting 159 = .ok (.goto (-52), 3) := by decide +kernel
theorem dX6_tallyFitting_162 : decode cX6_tallyFitting 162 = .ok (.iinc 4 1, 3) := by decide +kernel
theorem dX6_tallyFitting_165 : decode cX6_tallyFitting 165 = .ok (.goto (-103), 3) := by decide +kernel
theorem dX6_tallyFitting_168 : decode cX6_tallyFitting 168 = .ok (.return_, 1) := by decide +kernel
abbrev tX6_tallyFitting (k : Nat) : MT := (RX6, cX6_tallyFitting, 7, k, none)
def lX6_tallyFitting_1 : SX := (sLoop (cB rlt (iLoc 2) (iLen (rGet 6 2 (rLoc 0)))) (sASt 0 narI (rGet 6 2 (rLoc 0)) (iLoc 2) (iK 0)) (sInc 2 1))
def lX6_tallyFitting_2 : SX := (sLoop (cAnd (cB rlt (iLoc 6) (iGet 0 3 (rGet 6 3 (rLoc 0)))) (cB rlt (iLoc 6) (iK 5))) (sAUpd gT2 (· + ·) (rGet 6 2 (rLoc 0)) (iB gT2 (· + ·) (iB gT2 (· * ·) (iLoc 6) (iK 13)) (iB gT2 jmin (iCallV 0 mX0_loadsIn (aR (rGet 6 3 (rLoc 0)) (aI (iLoc 5) (aI (iLoc 6) aNil)))) (iK 12))) (iK 1)) (sInc 6 1))
def lX6_tallyFitting_3 : SX := (sLoop (cB rlt (iLoc 4) (iLoc 3)) (sSeq (sSetI 5 (iCallV 2 mX2_lyingAt (aR (rGet 6 0 (rLoc 0)) (aI (iLoc 4) aNil)))) (sIf (cAnd (cZ zne (iCallV 0 mX0_isWayToLie (aR (rGet 6 3 (rLoc 0)) (aI (iLoc 5) aNil)))) (cZ zne (iCallV 5 mX5_agrees (aR (rLoc 1) (aR (rGet 6 3 (rLoc 0)) (aI (iLoc 5) aNil)))))) (sSeq (sSetI 6 (iK 0)) lX6_tallyFitting_2) sSkip)) (sSeq (sForget 5) (sInc 4 1)))
theorem olX6_tallyFitting_2 (g : GT) {pcB pcC : Nat} : Sok g (tX6_tallyFitting 3) 107 162 pcB pcC (lX6_tallyFitting_2) := (Sok.loop (pc := 107) (pc1 := 125) (pc2 := 156) (pcN := 162) (Cok.and (pc1 := 119) (Cok.cmp (pc1 := 109) (pc2 := 116) (pcT := 119) (pcF := 162) (EokI.iload (i := 6) dX6_tallyFitting_107) (EokI.getf (pc1 := 113) (j := 3) (ci := 0) (T := TX0) (N := 17) (EokR.getf (pc1 := 110) (j := 3) (ci := 6) (T := TX6) (N := 4) (EokR.aload_n (q := 0) dX6_tallyFitting_109) rfl wsX6_in (by decide) flX6_23 dX6_tallyFitting_110) rfl wsX0_in (by decide) flX6_27 dX6_tallyFitting_113) (JI.ltF (tgt := 162) dX6_tallyFitting_116 (by decide))) (Cok.cmp (pc1 := 121) (pc2 := 122) (pcT := 125) (pcF := 162) (EokI.iload (i := 6) dX6_tallyFitting_119) (EokI.iconst (v := 5) dX6_tallyFitting_121 (by decide)) (JI.ltF (tgt := 162) dX6_tallyFitting_122 (by decide)))) (by decide) (Sok.aupd (pc1 := 129) (pc2 := 151) (pc3 := 154) (EokR.getf (pc1 := 126) (j := 2) (ci := 6) (T := TX6) (N := 4) (EokR.aload_n (q := 0) dX6_tallyFitting_125) rfl wsX6_in (by decide) flX6_9 dX6_tallyFitting_126) (EokI.bin (pc1 := 134) (pc2 := 150) (EokI.bin (pc1 := 131) (pc2 := 133) (EokI.iload (i := 6) dX6_tallyFitting_129) (EokI.bipush (v := 13) dX6_tallyFitting_131 (by decide)) (OPI.imul dX6_tallyFitting_133)) (EokI.mmin (pc1 := 145) (pc2 := 147) (EokI.iCallV (pc1 := 142) (Aok.aR (pc1 := 138) (EokR.getf (pc1 := 135) (j := 3) (ci := 6) (T := TX6) (N := 4) (EokR.aload_n (q := 0) dX6_tallyFitting_134) rfl wsX6_in (by decide) flX6_23 dX6_tallyFitting_135) (Aok.aI (pc1 := 140) (EokI.iload (i := 5) dX6_tallyFitting_138) (Aok.aI (pc1 := 142) (EokI.iload (i := 6) dX6_tallyFitting_140) Aok.nil))) (kX0_loadsIn g) rfl ykX0_loadsIn vkX6_78 (by decide) (by decide) dX6_tallyFitting_142) (EokI.bipush (v := 12) dX6_tallyFitting_145 (by decide)) mlX6_90 wst_mmin wini_math wco_mmin (by decide) dX6_tallyFitting_147) (OPI.iadd dX6_tallyFitting_150)) dX6_tallyFitting_151 dX6_tallyFitting_152 (EokI.iconst (v := 1) dX6_tallyFitting_153 (by decide)) (OPI.iadd dX6_tallyFitting_154) (by decide) dX6_tallyFitting_155) (Sok.goto (pc1 := 159) (pcN := 107) (Sok.iinc (i := 6) (v := 1) dX6_tallyFitting_156 (show 6 < 7 by decide) (by decide)) dX6_tallyFitting_159 (by decide)))
theorem olX6_tallyFitting_3 (g : GT) {pcB pcC : Nat} : Sok g (tX6_tallyFitting 3) 62 168 pcB pcC (lX6_tallyFitting_3) := (Sok.loop (pc := 62) (pc1 := 68) (pc2 := 162) (pcN := 168) (Cok.cmp (pc1 := 64) (pc2 := 65) (pcT := 68) (pcF := 168) (EokI.iload (i := 4) dX6_tallyFitting_62) (EokI.iload_n (q := 3) dX6_tallyFitting_64) (JI.ltF (tgt := 168) dX6_tallyFitting_65 (by decide))) (by decide) (Sok.seq (pc1 := 79) (Sok.setI (i := 5) (pc1 := 77) (EokI.iCallV (pc1 := 74) (Aok.aR (pc1 := 72) (EokR.getf (pc1 := 69) (j := 0) (ci := 6) (T := TX6) (N := 4) (EokR.aload_n (q := 0) dX6_tallyFitting_68) rfl wsX6_in (by decide) flX6_15 dX6_tallyFitting_69) (Aok.aI (pc1 := 74) (EokI.iload (i := 4) dX6_tallyFitting_72) Aok.nil)) (kX2_lyingAt g) rfl ykX2_lyingAt vkX6_43 (by decide) (by decide) dX6_tallyFitting_74) (by decide) dX6_tallyFitting_77 (show 5 < 7 by decide)) (Sok.ite (pc1 := 104) (pc2 := 162) (Cok.and (pc1 := 91) (Cok.zero (pc1 := 88) (pcT := 91) (pcF := 162) (EokI.iCallV (pc1 := 85) (Aok.aR (pc1 := 83) (EokR.getf (pc1 := 80) (j := 3) (ci := 6) (T := TX6) (N := 4) (EokR.aload_n (q := 0) dX6_tallyFitting_79) rfl wsX6_in (by decide) flX6_23 dX6_tallyFitting_80) (Aok.aI (pc1 := 85) (EokI.iload (i := 5) dX6_tallyFitting_83) Aok.nil)) (kX0_isWayToLie g) rfl ykX0_isWayToLie vkX6_46 (by decide) (by decide) dX6_tallyFitting_85) (JZ.neF (tgt := 162) dX6_tallyFitting_88 (by decide))) (Cok.zero (pc1 := 101) (pcT := 104) (pcF := 162) (EokI.iCallV (pc1 := 98) (Aok.aR (pc1 := 92) (EokR.aload_n (q := 1) dX6_tallyFitting_91) (Aok.aR (pc1 := 96) (EokR.getf (pc1 := 93) (j := 3) (ci := 6) (T := TX6) (N := 4) (EokR.aload_n (q := 0) dX6_tallyFitting_92) rfl wsX6_in (by decide) flX6_23 dX6_tallyFitting_93) (Aok.aI (pc1 := 98) (EokI.iload (i := 5) dX6_tallyFitting_96) Aok.nil))) (kX5_agrees g) rfl ykX5_agrees vkX6_86 (by decide) (by decide) dX6_tallyFitting_98) (JZ.neF (tgt := 162) dX6_tallyFitting_101 (by decide)))) (by decide) (Sok.seq (pc1 := 107) (Sok.setI (i := 6) (pc1 := 105) (EokI.iconst (v := 0) dX6_tallyFitting_104 (by decide)) (by decide) dX6_tallyFitting_105 (show 6 < 7 by decide)) (olX6_tallyFitting_2 g )) (Sok.skip (pc := 162)))) (Sok.seq (pc1 := 162) Sok.forget (Sok.goto (pc1 := 165) (pcN := 62) (Sok.iinc (i := 4) (v := 1) dX6_tallyFitting_162 (show 4 < 7 by decide) (by decide)) dX6_tallyFitting_165 (by decide))))
theorem olX6_tallyFitting_1 (g : GT) {pcB pcC : Nat} : Sok g (tX6_tallyFitting 3) 2 24 pcB pcC (lX6_tallyFitting_1) := (Sok.loop (pc := 2) (pc1 := 11) (pc2 := 18) (pcN := 24) (Cok.cmp (pc1 := 3) (pc2 := 8) (pcT := 11) (pcF := 24) (EokI.iload_n (q := 2) dX6_tallyFitting_2) (EokI.alen (pc1 := 7) (EokR.getf (pc1 := 4) (j := 2) (ci := 6) (T := TX6) (N := 4) (EokR.aload_n (q := 0) dX6_tallyFitting_3) rfl wsX6_in (by decide) flX6_9 dX6_tallyFitting_4) dX6_tallyFitting_7) (JI.ltF (tgt := 24) dX6_tallyFitting_8 (by decide))) (by decide) (Sok.iASt (pc1 := 15) (pc2 := 16) (pc3 := 17) (EokR.getf (pc1 := 12) (j := 2) (ci := 6) (T := TX6) (N := 4) (EokR.aload_n (q := 0) dX6_tallyFitting_11) rfl wsX6_in (by decide) flX6_9 dX6_tallyFitting_12) (EokI.iload_n (q := 2) dX6_tallyFitting_15) (EokI.iconst (v := 0) dX6_tallyFitting_16 (by decide)) (by decide) dX6_tallyFitting_17) (Sok.goto (pc1 := 21) (pcN := 2) (Sok.iinc (i := 2) (v := 1) dX6_tallyFitting_18 (show 2 < 7 by decide) (by decide)) dX6_tallyFitting_21 (by decide)))
def mX6_tallyFitting : MX := bodyOf 7 (sSeq (sSeq (sSeq (sSeq (sSetI 2 (iK 0)) lX6_tallyFitting_1) (sForget 2)) (sSeq (sSetI 2 (iCallV 0 mX0_sumOf (aR (rGet 6 3 (rLoc 0)) (aI (iGet 5 9 (rLoc 1)) aNil)))) (sSeq (sSetI 3 (iCallV 2 mX2_endOf (aR (rGet 6 0 (rLoc 0)) (aI (iLoc 2) (aI (iGet 0 3 (rGet 6 3 (rLoc 0))) aNil))))) (sSeq (sSeq (sSetI 4 (iCallV 2 mX2_firstOf (aR (rGet 6 0 (rLoc 0)) (aI (iLoc 2) aNil)))) lX6_tallyFitting_3) (sForget 4))))) sRetV)
theorem kX6_tallyFitting (g : GT) : MK g 3 yX6_tallyFitting cX6_tallyFitting 7 none mX6_tallyFitting := MK.of (pcN := 99999) (pcB := 0) (pcC := 0) rfl (Sok.seq (pc1 := 168) (Sok.seq (pc1 := 24) (Sok.seq (pc1 := 24) (Sok.seq (pc1 := 2) (Sok.setI_n (q := 2) (pc1 := 1) (EokI.iconst (v := 0) dX6_tallyFitting_0 (by decide)) (by decide) dX6_tallyFitting_1 (show 2 < 7 by decide)) (olX6_tallyFitting_1 g )) (Sok.forget (pc := 24))) (Sok.seq (pc1 := 36) (Sok.setI_n (q := 2) (pc1 := 35) (EokI.iCallV (pc1 := 32) (Aok.aR (pc1 := 28) (EokR.getf (pc1 := 25) (j := 3) (ci := 6) (T := TX6) (N := 4) (EokR.aload_n (q := 0) dX6_tallyFitting_24) rfl wsX6_in (by decide) flX6_23 dX6_tallyFitting_25) (Aok.aI (pc1 := 32) (EokI.getf (pc1 := 29) (j := 9) (ci := 5) (T := TX5) (N := 13) (EokR.aload_n (q := 1) dX6_tallyFitting_28) rfl wsX5_in (by decide) flX6_81 dX6_tallyFitting_29) Aok.nil)) (kX0_sumOf g) rfl ykX0_sumOf vkX6_72 (by decide) (by decide) dX6_tallyFitting_32) (by decide) dX6_tallyFitting_35 (show 2 < 7 by decide)) (Sok.seq (pc1 := 52) (Sok.setI_n (q := 3) (pc1 := 51) (EokI.iCallV (pc1 := 48) (Aok.aR (pc1 := 40) (EokR.getf (pc1 := 37) (j := 0) (ci := 6) (T := TX6) (N := 4) (EokR.aload_n (q := 0) dX6_tallyFitting_36) rfl wsX6_in (by decide) flX6_15 dX6_tallyFitting_37) (Aok.aI (pc1 := 41) (EokI.iload_n (q := 2) dX6_tallyFitting_40) (Aok.aI (pc1 := 48) (EokI.getf (pc1 := 45) (j := 3) (ci := 0) (T := TX0) (N := 17) (EokR.getf (pc1 := 42) (j := 3) (ci := 6) (T := TX6) (N := 4) (EokR.aload_n (q := 0) dX6_tallyFitting_41) rfl wsX6_in (by decide) flX6_23 dX6_tallyFitting_42) rfl wsX0_in (by decide) flX6_27 dX6_tallyFitting_45) Aok.nil))) (kX2_endOf g) rfl ykX2_endOf vkX6_33 (by decide) (by decide) dX6_tallyFitting_48) (by decide) dX6_tallyFitting_51 (show 3 < 7 by decide)) (Sok.seq (pc1 := 168) (Sok.seq (pc1 := 62) (Sok.setI (i := 4) (pc1 := 60) (EokI.iCallV (pc1 := 57) (Aok.aR (pc1 := 56) (EokR.getf (pc1 := 53) (j := 0) (ci := 6) (T := TX6) (N := 4) (EokR.aload_n (q := 0) dX6_tallyFitting_52) rfl wsX6_in (by decide) flX6_15 dX6_tallyFitting_53) (Aok.aI (pc1 := 57) (EokI.iload_n (q := 2) dX6_tallyFitting_56) Aok.nil)) (kX2_firstOf g) rfl ykX2_firstOf vkX6_39 (by decide) (by decide) dX6_tallyFitting_57) (by decide) dX6_tallyFitting_60 (show 4 < 7 by decide)) (olX6_tallyFitting_3 g )) (Sok.forget (pc := 168)))))) (Sok.retV dX6_tallyFitting_168 rfl))
/-! PassHuts$Survey.bestLook(LPassHuts$Story;)I -/
theorem dX6_bestLook_0 : decode cX6_bestLook 0 = .ok (.aload_n 0, 1) := by decide +kernel
theorem dX6_bestLook_1 : decode cX6_bestLook 1 = .ok (.aload_n 1, 1) := by decide +kernel
theorem dX6_bestLook_2 : decode cX6_bestLook 2 = .ok (.invokevirtual 95, 3) := by decide +kernel
theorem dX6_bestLook_5 : decode cX6_bestLook 5 = .ok (.aload_n 0, 1) := by decide +kernel
theorem dX6_bestLook_6 : decode cX6_bestLook 6 = .ok (.aload_n 1, 1) := by decide +kernel
theorem dX6_bestLook_7 : decode cX6_bestLook 7 = .ok (.invokevirtual 99, 3) := by decide +kernel
theorem dX6_bestLook_10 : decode cX6_bestLook 10 = .ok (.istore_n 2, 1) := by decide +kernel
theorem dX6_bestLook_11 : decode cX6_bestLook 11 = .ok (.iload_n 2, 1) := by decide +kernel
theorem dX6_bestLook_12 : decode cX6_bestLook 12 = .ok (.istore_n 3, 1) := by decide +kernel
theorem dX6_bestLook_13 : decode cX6_bestLook 13 = .ok (.iconst (-1), 1) := by decide +kernel
theorem dX6_bestLook_14 : decode cX6_bestLook 14 = .ok (.istore 4, 2) := by decide +kernel
theorem dX6_bestLook_16 : decode cX6_bestLook 16 = .ok (.iconst 0, 1) := by decide +kernel
theorem dX6_bestLook_17 : decode cX6_bestLook 17 = .ok (.istore 5, 2) := by decide +kernel
theorem dX6_bestLook_19 : decode cX6_bestLook 19 = .ok (.iload 5, 2) := by decide +kernel
theorem dX6_bestLook_21 : decode cX6_bestLook 21 = .ok (.aload_n 0, 1) := by decide +kernel
theorem dX6_bestLook_22 : decode cX6_bestLook 22 = .ok (.getfield 23, 3) := by decide +kernel
theorem dX6_bestLook_25 : decode cX6_bestLook 25 = .ok (.getfield 27, 3) := by decide +kernel
theorem dX6_bestLook_28 : decode cX6_bestLook 28 = .ok (.if_icmp .ge 84, 3) := by decide +kernel
theorem dX6_bestLook_31 : decode cX6_bestLook 31 = .ok (.iload 5, 2) := by decide +kernel
theorem dX6_bestLook_33 : decode cX6_bestLook 33 = .ok (.iconst 5, 1) := by decide +kernel
theorem dX6_bestLook_34 : decode cX6_bestLook 34 = .ok (.if_icmp .ge 78, 3) := by decide +kernel
theorem dX6_bestLook_37 : decode cX6_bestLook 37 = .ok (.iconst 0, 1) := by decide +kernel
theorem dX6_bestLook_38 : decode cX6_bestLook 38 = .ok (.istore 6, 2) := by decide +kernel
theorem dX6_bestLook_40 : decode cX6_bestLook 40 = .ok (.iconst 1, 1) := by decide +kernel
theorem dX6_bestLook_41 : decode cX6_bestLook 41 = .ok (.istore 7, 2) := by decide +kernel
theorem dX6_bestLook_43 : decode cX6_bestLook 43 = .ok (.iload 7, 2) := by decide +kernel
theorem dX6_bestLook_45 : decode cX6_bestLook 45 = .ok (.bipush 12, 2) := by decide +kernel
theorem dX6_bestLook_47 : decode cX6_bestLook 47 = .ok (.if_icmp .gt 59, 3) := by decide +kernel
theorem dX6_bestLook_50 : decode cX6_bestLook 50 = .ok (.iload 6, 2) := by decide +kernel
theorem dX6_bestLook_52 : decode cX6_bestLook 52 = .ok (.aload_n 0, 1) := by decide +kernel
theorem dX6_bestLook_53 : decode cX6_bestLook 53 = .ok (.getfield 9, 3) := by decide +kernel
theorem dX6_bestLook_56 : decode cX6_bestLook 56 = .ok (.iload 5, 2) := by decide +kernel
theorem dX6_bestLook_58 : decode cX6_bestLook 58 = .ok (.bipush 13, 2) := by decide +kernel
theorem dX6_bestLook_60 : decode cX6_bestLook 60 = .ok (.imul, 1) := by decide +kernel
theorem dX6_bestLook_61 : decode cX6_bestLook 61 = .ok (.iload 7, 2) := by decide +kernel
theorem dX6_bestLook_63 : decode cX6_bestLook 63 = .ok (.iadd, 1) := by decide +kernel
theorem dX6_bestLook_64 : decode cX6_bestLook 64 = .ok (.iconst 1, 1) := by decide +kernel
theorem dX6_bestLook_65 : decode cX6_bestLook 65 = .ok (.isub, 1) := by decide +kernel
theorem dX6_bestLook_66 : decode cX6_bestLook 66 = .ok (.iaload, 1) := by decide +kernel
theorem dX6_bestLook_67 : decode cX6_bestLook 67 = .ok (.iadd, 1) := by decide +kernel
theorem dX6_bestLook_68 : decode cX6_bestLook 68 = .ok (.istore 6, 2) := by decide +kernel
theorem dX6_bestLook_70 : decode cX6_bestLook 70 = .ok (.iload 6, 2) := by decide +kernel
theorem dX6_bestLook_72 : decode cX6_bestLook 72 = .ok (.iload_n 2, 1) := by decide +kernel
theorem dX6_bestLook_73 : decode cX6_bestLook 73 = .ok (.iload 6, 2) := by decide +kernel
theorem dX6_bestLook_75 : decode cX6_bestLook 75 = .ok (.isub, 1) := by decide +kernel
theorem dX6_bestLook_76 : decode cX6_bestLook 76 = .ok (.invokestatic 103, 3) := by decide +kernel
theorem dX6_bestLook_79 : decode cX6_bestLook 79 = .ok (.istore 8, 2) := by decide +kernel
theorem dX6_bestLook_81 : decode cX6_bestLook 81 = .ok (.iload 8, 2) := by decide +kernel
theorem dX6_bestLook_83 : decode cX6_bestLook 83 = .ok (.iload_n 3, 1) := by decide +kernel
theorem dX6_bestLook_84 : decode cX6_bestLook 84 = .ok (.if_icmp .ge 16, 3) := by decide +kernel
theorem dX6_bestLook_87 : decode cX6_bestLook 87 = .ok (.iload 8, 2) := by decide +kernel
theorem dX6_bestLook_89 : decode cX6_bestLook 89 = .ok (.istore_n 3, 1) := by decide +kernel
theorem dX6_bestLook_90 : decode cX6_bestLook 90 = .ok (.bipush 16, 2) := by decide +kernel
theorem dX6_bestLook_92 : decode cX6_bestLook 92 = .ok (.iload 5, 2) := by decide +kernel
theorem dX6_bestLook_94 : decode cX6_bestLook 94 = .ok (.imul, 1) := by decide +kernel
theorem dX6_bestLook_95 : decode cX6_bestLook 95 = .ok (.iload 7, 2) := by decide +kernel
theorem dX6_bestLook_97 : decode cX6_bestLook 97 = .ok (.iadd, 1) := by decide +kernel
theorem dX6_bestLook_98 : decode cX6_bestLook 98 = .ok (.istore 4, 2) := by decide +kernel
theorem dX6_bestLook_100 : decode cX6_bestLook 100 = .ok (.iinc 7 1, 3) := by decide +kernel
theorem dX6_bestLook_103 : decode cX6_bestLook 103 = .ok (.goto (-60), 3) := by decide +kernel
theorem dX6_bestLook_106 : decode cX6_bestLook 106 = .ok (.iinc 5 1, 3) := by decide +kernel
theorem dX6_bestLook_109 : decode cX6_bestLook 109 = .ok (.goto (-90), 3) := by decide +kernel
theorem dX6_bestLook_112 : decode cX6_bestLook 112 = .ok (.iload 4, 2) := by decide +kernel
theorem dX6_bestLook_114 : decode cX6_bestLook 114 = .ok (.ireturn, 1) := by decide +kernel
abbrev tX6_bestLook (k : Nat) : MT := (RX6, cX6_bestLook, 9, k, (some .int))
def lX6_bestLook_1 : SX := (sLoop (cB rle (iLoc 7) (iK 12)) (sSeq (sSetI 6 (iB gT2 (· + ·) (iLoc 6) (iALd (rGet 6 2 (rLoc 0)) (iB gT2 (· - ·) (iB gT2 (· + ·) (iB gT2 (· * ·) (iLoc 5) (iK 13)) (iLoc 7)) (iK 1))))) (sSeq (sSetI 8 (iB gT2 jmax (iLoc 6) (iB gT2 (· - ·) (iLoc 2) (iLoc 6)))) (sIf (cB rlt (iLoc 8) (iLoc 3)) (sSeq (sSetI 3 (iLoc 8)) (sSetI 4 (iB gT2 (· + ·) (iB gT2 (· * ·) (iK 16) (iLoc 5)) (iLoc 7)))) sSkip))) (sSeq (sForget 8) (sInc 7 1)))
def lX6_bestLook_2 : SX := (sLoop (cAnd (cB rlt (iLoc 5) (iGet 0 3 (rGet 6 3 (rLoc 0)))) (cB rlt (iLoc 5) (iK 5))) (sSeq (sSetI 6 (iK 0)) (sSeq (sSetI 7 (iK 1)) lX6_bestLook_1)) (sSeq (sForget 6) (sInc 5 1)))
theorem olX6_bestLook_1 (g : GT) {pcB pcC : Nat} : Sok g (tX6_bestLook 4) 43 106 pcB pcC (lX6_bestLook_1) := (Sok.loop (pc := 43) (pc1 := 50) (pc2 := 100) (pcN := 106) (Cok.cmp (pc1 := 45) (pc2 := 47) (pcT := 50) (pcF := 106) (EokI.iload (i := 7) dX6_bestLook_43) (EokI.bipush (v := 12) dX6_bestLook_45 (by decide)) (JI.leF (tgt := 106) dX6_bestLook_47 (by decide))) (by decide) (Sok.seq (pc1 := 70) (Sok.setI (i := 6) (pc1 := 68) (EokI.bin (pc1 := 52) (pc2 := 67) (EokI.iload (i := 6) dX6_bestLook_50) (EokI.iALd (pc1 := 56) (pc2 := 66) (EokR.getf (pc1 := 53) (j := 2) (ci := 6) (T := TX6) (N := 4) (EokR.aload_n (q := 0) dX6_bestLook_52) rfl wsX6_in (by decide) flX6_9 dX6_bestLook_53) (EokI.bin (pc1 := 64) (pc2 := 65) (EokI.bin (pc1 := 61) (pc2 := 63) (EokI.bin (pc1 := 58) (pc2 := 60) (EokI.iload (i := 5) dX6_bestLook_56) (EokI.bipush (v := 13) dX6_bestLook_58 (by decide)) (OPI.imul dX6_bestLook_60)) (EokI.iload (i := 7) dX6_bestLook_61) (OPI.iadd dX6_bestLook_63)) (EokI.iconst (v := 1) dX6_bestLook_64 (by decide)) (OPI.isub dX6_bestLook_65)) dX6_bestLook_66) (OPI.iadd dX6_bestLook_67)) (by decide) dX6_bestLook_68 (show 6 < 9 by decide)) (Sok.seq (pc1 := 81) (Sok.setI (i := 8) (pc1 := 79) (EokI.mmax (pc1 := 72) (pc2 := 76) (EokI.iload (i := 6) dX6_bestLook_70) (EokI.bin (pc1 := 73) (pc2 := 75) (EokI.iload_n (q := 2) dX6_bestLook_72) (EokI.iload (i := 6) dX6_bestLook_73) (OPI.isub dX6_bestLook_75)) mlX6_103 wst_mmax wini_math wco_mmax (by decide) dX6_bestLook_76) (by decide) dX6_bestLook_79 (show 8 < 9 by decide)) (Sok.ite (pc1 := 87) (pc2 := 100) (Cok.cmp (pc1 := 83) (pc2 := 84) (pcT := 87) (pcF := 100) (EokI.iload (i := 8) dX6_bestLook_81) (EokI.iload_n (q := 3) dX6_bestLook_83) (JI.ltF (tgt := 100) dX6_bestLook_84 (by decide))) (by decide) (Sok.seq (pc1 := 90) (Sok.setI_n (q := 3) (pc1 := 89) (EokI.iload (i := 8) dX6_bestLook_87) (by decide) dX6_bestLook_89 (show 3 < 9 by decide)) (Sok.setI (i := 4) (pc1 := 98) (EokI.bin (pc1 := 95) (pc2 := 97) (EokI.bin (pc1 := 92) (pc2 := 94) (EokI.bipush (v := 16) dX6_bestLook_90 (by decide)) (EokI.iload (i := 5) dX6_bestLook_92) (OPI.imul dX6_bestLook_94)) (EokI.iload (i := 7) dX6_bestLook_95) (OPI.iadd dX6_bestLook_97)) (by decide) dX6_bestLook_98 (show 4 < 9 by decide))) (Sok.skip (pc := 100))))) (Sok.seq (pc1 := 100) Sok.forget (Sok.goto (pc1 := 103) (pcN := 43) (Sok.iinc (i := 7) (v := 1) dX6_bestLook_100 (show 7 < 9 by decide) (by decide)) dX6_bestLook_103 (by decide))))
theorem olX6_bestLook_2 (g : GT) {pcB pcC : Nat} : Sok g (tX6_bestLook 4) 19 112 pcB pcC (lX6_bestLook_2) := (Sok.loop (pc := 19) (pc1 := 37) (pc2 := 106) (pcN := 112) (Cok.and (pc1 := 31) (Cok.cmp (pc1 := 21) (pc2 := 28) (pcT := 31) (pcF := 112) (EokI.iload (i := 5) dX6_bestLook_19) (EokI.getf (pc1 := 25) (j := 3) (ci := 0) (T := TX0) (N := 17) (EokR.getf (pc1 := 22) (j := 3) (ci := 6) (T := TX6) (N := 4) (EokR.aload_n (q := 0) dX6_bestLook_21) rfl wsX6_in (by decide) flX6_23 dX6_bestLook_22) rfl wsX0_in (by decide) flX6_27 dX6_bestLook_25) (JI.ltF (tgt := 112) dX6_bestLook_28 (by decide))) (Cok.cmp (pc1 := 33) (pc2 := 34) (pcT := 37) (pcF := 112) (EokI.iload (i := 5) dX6_bestLook_31) (EokI.iconst (v := 5) dX6_bestLook_33 (by decide)) (JI.ltF (tgt := 112) dX6_bestLook_34 (by decide)))) (by decide) (Sok.seq (pc1 := 40) (Sok.setI (i := 6) (pc1 := 38) (EokI.iconst (v := 0) dX6_bestLook_37 (by decide)) (by decide) dX6_bestLook_38 (show 6 < 9 by decide)) (Sok.seq (pc1 := 43) (Sok.setI (i := 7) (pc1 := 41) (EokI.iconst (v := 1) dX6_bestLook_40 (by decide)) (by decide) dX6_bestLook_41 (show 7 < 9 by decide)) (olX6_bestLook_1 g ))) (Sok.seq (pc1 := 106) Sok.forget (Sok.goto (pc1 := 109) (pcN := 19) (Sok.iinc (i := 5) (v := 1) dX6_bestLook_106 (show 5 < 9 by decide) (by decide)) dX6_bestLook_109 (by decide))))
def mX6_bestLook : MX := bodyOf 9 (sSeq (sCallV 6 mX6_tallyFitting (aR (rLoc 0) (aR (rLoc 1) aNil))) (sSeq (sSetI 2 (iCallV 6 mX6_countFitting (aR (rLoc 0) (aR (rLoc 1) aNil)))) (sSeq (sSetI 3 (iLoc 2)) (sSeq (sSetI 4 (iK (-1))) (sSeq (sSeq (sSeq (sSetI 5 (iK 0)) lX6_bestLook_2) (sForget 5)) (sRetI (iLoc 4)))))))
theorem kX6_bestLook (g : GT) : MK g 4 yX6_bestLook cX6_bestLook 9 (some .int) mX6_bestLook := MK.of (pcN := 99999) (pcB := 0) (pcC := 0) rfl (Sok.seq (pc1 := 5) (Sok.sCallV (pc1 := 2) (Aok.aR (pc1 := 1) (EokR.aload_n (q := 0) dX6_bestLook_0) (Aok.aR (pc1 := 2) (EokR.aload_n (q := 1) dX6_bestLook_1) Aok.nil)) (by decide) (kX6_tallyFitting g) rfl ykX6_tallyFitting vkX6_95 (by decide) (by decide) dX6_bestLook_2) (Sok.seq (pc1 := 11) (Sok.setI_n (q := 2) (pc1 := 10) (EokI.iCallV (pc1 := 7) (Aok.aR (pc1 := 6) (EokR.aload_n (q := 0) dX6_bestLook_5) (Aok.aR (pc1 := 7) (EokR.aload_n (q := 1) dX6_bestLook_6) Aok.nil)) (kX6_countFitting g) rfl ykX6_countFitting vkX6_99 (by decide) (by decide) dX6_bestLook_7) (by decide) dX6_bestLook_10 (show 2 < 9 by decide)) (Sok.seq (pc1 := 13) (Sok.setI_n (q := 3) (pc1 := 12) (EokI.iload_n (q := 2) dX6_bestLook_11) (by decide) dX6_bestLook_12 (show 3 < 9 by decide)) (Sok.seq (pc1 := 16) (Sok.setI (i := 4) (pc1 := 14) (EokI.iconst (v := (-1)) dX6_bestLook_13 (by decide)) (by decide) dX6_bestLook_14 (show 4 < 9 by decide)) (Sok.seq (pc1 := 112) (Sok.seq (pc1 := 112) (Sok.seq (pc1 := 19) (Sok.setI (i := 5) (pc1 := 17) (EokI.iconst (v := 0) dX6_bestLook_16 (by decide)) (by decide) dX6_bestLook_17 (show 5 < 9 by decide)) (olX6_bestLook_2 g )) (Sok.forget (pc := 112))) (Sok.retI (pc1 := 114) (EokI.iload (i := 4) dX6_bestLook_112) (by decide) dX6_bestLook_114 rfl))))))
/-! PassHuts$Walk.drawFrom(I)V -/
theorem dX10_drawFrom_0 : decode cX10_drawFrom 0 = .ok (.aload_n 0, 1) := by decide +kernel
theorem dX10_drawFrom_1 : decode cX10_drawFrom 1 = .ok (.iload_n 1, 1) := by decide +kernel
theorem dX10_drawFrom_2 : decode cX10_drawFrom 2 = .ok (.invokevirtual 118, 3) := by decide +kernel
theorem dX10_drawFrom_5 : decode cX10_drawFrom 5 = .ok (.istore_n 2, 1) := by decide +kernel
theorem dX10_drawFrom_6 : decode cX10_drawFrom 6 = .ok (.iload_n 2, 1) := by decide +kernel
theorem dX10_drawFrom_7 : decode cX10_drawFrom 7 = .ok (.ifCond .ne 4, 3) := by decide +kernel
theorem dX10_drawFrom_10 : decode cX10_drawFrom 10 = .ok (.return_, 1) := by decide +kernel
theorem dX10_drawFrom_11 : decode cX10_drawFrom 11 = .ok (.aload_n 0, 1) := by decide +kernel
theorem dX10_drawFrom_12 : decode cX10_drawFrom 12 = .ok (.getfield 21, 3) := by decide +kernel
theorem dX10_drawFrom_15 : decode cX10_drawFrom 15 = .ok (.iload_n 1, 1) := by decide +kernel
theorem dX10_drawFrom_16 : decode cX10_drawFrom 16 = .ok (.invokevirtual 78, 3) := by decide +kernel
theorem dX10_drawFrom_19 : decode cX10_drawFrom 19 = .ok (.istore_n 3, 1) := by decide +kernel
theorem dX10_drawFrom_20 : decode cX10_drawFrom 20 = .ok (.aload_n 0, 1) := by decide +kernel
theorem dX10_drawFrom_21 : decode cX10_drawFrom 21 = .ok (.getfield 25, 3) := by decide +kernel
theorem dX10_drawFrom_24 : decode cX10_drawFrom 24 = .ok (.iload_n 3, 1) := by decide +kernel
theorem dX10_drawFrom_25 : decode cX10_drawFrom 25 = .ok (.invokevirtual 48, 3) := by decide +kernel
theorem dX10_drawFrom_28 : decode cX10_drawFrom 28 = .ok (.istore 4, 2) := by decide +kernel
theorem dX10_drawFrom_30 : decode cX10_drawFrom 30 = .ok (.iconst 0, 1) := by decide +kernel
theorem dX10_drawFrom_31 : decode cX10_drawFrom 31 = .ok (.istore 5, 2) := by decide +kernel
theorem dX10_drawFrom_33 : decode cX10_drawFrom 33 = .ok (.iconst 0, 1) := by decide +kernel
theorem dX10_drawFrom_34 : decode cX10_drawFrom 34 = .ok (.istore 6, 2) := by decide +kernel
theorem dX10_drawFrom_36 : decode cX10_drawFrom 36 = .ok (.iload 6, 2) := by decide +kernel
theorem dX10_drawFrom_38 : decode cX10_drawFrom 38 = .ok (.aload_n 0, 1) := by decide +kernel
theorem dX10_drawFrom_39 : decode cX10_drawFrom 39 = .ok (.getfield 25, 3) := by decide +kernel
theorem dX10_drawFrom_42 : decode cX10_drawFrom 42 = .ok (.getfield 87, 3) := by decide +kernel
theorem dX10_drawFrom_45 : decode cX10_drawFrom 45 = .ok (.if_icmp .ge 52, 3) := by decide +kernel
theorem dX10_drawFrom_48 : decode cX10_drawFrom 48 = .ok (.aload_n 0, 1) := by decide +kernel
theorem dX10_drawFrom_49 : decode cX10_drawFrom 49 = .ok (.getfield 21, 3) := by decide +kernel
theorem dX10_drawFrom_52 : decode cX10_drawFrom 52 = .ok (.aload_n 0, 1) := by decide +kernel
theorem dX10_drawFrom_53 : decode cX10_drawFrom 53 = .ok (.getfield 25, 3) := by decide +kernel
theorem dX10_drawFrom_56 : decode cX10_drawFrom 56 = .ok (.iload_n 3, 1) := by decide +kernel
theorem dX10_drawFrom_57 : decode cX10_drawFrom 57 = .ok (.iload 4, 2) := by decide +kernel
theorem dX10_drawFrom_59 : decode cX10_drawFrom 59 = .ok (.iload 6, 2) := by decide +kernel
theorem dX10_drawFrom_61 : decode cX10_drawFrom 61 = .ok (.invokevirtual 90, 3) := by decide +kernel
theorem dX10_drawFrom_64 : decode cX10_drawFrom 64 = .ok (.istore 7, 2) := by decide +kernel
theorem dX10_drawFrom_66 : decode cX10_drawFrom 66 = .ok (.iload 7, 2) := by decide +kernel
theorem dX10_drawFrom_68 : decode cX10_drawFrom 68 = .ok (.ifCond .lt 20, 3) := by decide +kernel
theorem dX10_drawFrom_71 : decode cX10_drawFrom 71 = .ok (.aload_n 0, 1) := by decide +kernel
theorem dX10_drawFrom_72 : decode cX10_drawFrom 72 = .ok (.iload 7, 2) := by decide +kernel
theorem dX10_drawFrom_74 : decode cX10_drawFrom 74 = .ok (.aload_n 0, 1) := by decide +kernel
theorem dX10_drawFrom_75 : decode cX10_drawFrom 75 = .ok (.iload 7, 2) := by decide +kernel
theorem dX10_drawFrom_77 : decode cX10_drawFrom 77 = .ok (.invokevirtual 118, 3) := by decide +kernel
theorem dX10_drawFrom_80 : decode cX10_drawFrom 80 = .ok (.iload_n 2, 1) := by decide +kernel
theorem dX10_drawFrom_81 : decode cX10_drawFrom 81 = .ok (.iadd, 1) := by decide +kernel
theorem dX10_drawFrom_82 : decode cX10_drawFrom 82 = .ok (.invokevirtual 108, 3) := by decide +kernel
theorem dX10_drawFrom_85 : decode cX10_drawFrom 85 = .ok (.goto 6, 3) := by decide +kernel
theorem dX10_drawFrom_88 : decode cX10_drawFrom 88 = .ok (.iinc 5 1, 3) := by decide +kernel
theorem dX10_drawFrom_91 : decode cX10_drawFrom 91 = .ok (.iinc 6 1, 3) := by decide +kernel
theorem dX10_drawFrom_94 : decode cX10_drawFrom 94 = .ok (.goto (-58), 3) := by decide +kernel
theorem dX10_drawFrom_97 : decode cX10_drawFrom 97 = .ok (.aload_n 0, 1) := by decide +kernel
theorem dX10_drawFrom_98 : decode cX10_drawFrom 98 = .ok (.iload_n 1, 1) := by decide +kernel
theorem dX10_drawFrom_99 : decode cX10_drawFrom 99 = .ok (.iload_n 2, 1) := by decide +kernel
theorem dX10_drawFrom_100 : decode cX10_drawFrom 100 = .ok (.iload 5, 2) := by decide +kernel
theorem dX10_drawFrom_102 : decode cX10_drawFrom 102 = .ok (.imul, 1) := by decide +kernel
theorem dX10_drawFrom_103 : decode cX10_drawFrom 103 = .ok (.invokevirtual 108, 3) := by decide +kernel
theorem dX10_drawFrom_106 : decode cX10_drawFrom 106 = .ok (.return_, 1) := by decide +kernel
abbrev tX10_drawFrom (k : Nat) : MT := (RX10, cX10_drawFrom, 8, k, none)
def lX10_drawFrom_1 : SX := (sLoop (cB rlt (iLoc 6) (iGet 0 4 (rGet 10 4 (rLoc 0)))) (sSeq (sSetI 7 (iCallV 2 mX2_numberBehind (aR (rGet 10 0 (rLoc 0)) (aR (rGet 10 4 (rLoc 0)) (aI (iLoc 3) (aI (iLoc 4) (aI (iLoc 6) aNil))))))) (sIf (cZ zge (iLoc 7)) (sCallV 10 mX10_setTally (aR (rLoc 0) (aI (iLoc 7) (aI (iB gT2 (· + ·) (iCallV 10 mX10_tallyOf (aR (rLoc 0) (aI (iLoc 7) aNil))) (iLoc 2)) aNil)))) (sInc 5 1))) (sSeq (sForget 7) (sInc 6 1)))
theorem olX10_drawFrom_1 (g : GT) {pcB pcC : Nat} : Sok g (tX10_drawFrom 5) 36 97 pcB pcC (lX10_drawFrom_1) := (Sok.loop (pc := 36) (pc1 := 48) (pc2 := 91) (pcN := 97) (Cok.cmp (pc1 := 38) (pc2 := 45) (pcT := 48) (pcF := 97) (EokI.iload (i := 6) dX10_drawFrom_36) (EokI.getf (pc1 := 42) (j := 4) (ci := 0) (T := TX0) (N := 17) (EokR.getf (pc1 := 39) (j := 4) (ci := 10) (T := TX10) (N := 8) (EokR.aload_n (q := 0) dX10_drawFrom_38) rfl wsX10_in (by decide) flX10_25 dX10_drawFrom_39) rfl wsX0_in (by decide) flX10_87 dX10_drawFrom_42) (JI.ltF (tgt := 97) dX10_drawFrom_45 (by decide))) (by decide) (Sok.seq (pc1 := 66) (Sok.setI (i := 7) (pc1 := 64) (EokI.iCallV (pc1 := 61) (Aok.aR (pc1 := 52) (EokR.getf (pc1 := 49) (j := 0) (ci := 10) (T := TX10) (N := 8) (EokR.aload_n (q := 0) dX10_drawFrom_48) rfl wsX10_in (by decide) flX10_21 dX10_drawFrom_49) (Aok.aR (pc1 := 56) (EokR.getf (pc1 := 53) (j := 4) (ci := 10) (T := TX10) (N := 8) (EokR.aload_n (q := 0) dX10_drawFrom_52) rfl wsX10_in (by decide) flX10_25 dX10_drawFrom_53) (Aok.aI (pc1 := 57) (EokI.iload_n (q := 3) dX10_drawFrom_56) (Aok.aI (pc1 := 59) (EokI.iload (i := 4) dX10_drawFrom_57) (Aok.aI (pc1 := 61) (EokI.iload (i := 6) dX10_drawFrom_59) Aok.nil))))) (kX2_numberBehind g) rfl ykX2_numberBehind vkX10_90 (by decide) (by decide) dX10_drawFrom_61) (by decide) dX10_drawFrom_64 (show 7 < 8 by decide)) (Sok.ite (pc1 := 71) (pc2 := 88) (Cok.zero (pc1 := 68) (pcT := 71) (pcF := 88) (EokI.iload (i := 7) dX10_drawFrom_66) (JZ.geF (tgt := 88) dX10_drawFrom_68 (by decide))) (by decide) (Sok.goto (pc1 := 85) (pcN := 91) (Sok.sCallV (pc1 := 82) (Aok.aR (pc1 := 72) (EokR.aload_n (q := 0) dX10_drawFrom_71) (Aok.aI (pc1 := 74) (EokI.iload (i := 7) dX10_drawFrom_72) (Aok.aI (pc1 := 82) (EokI.bin (pc1 := 80) (pc2 := 81) (EokI.iCallV (pc1 := 77) (Aok.aR (pc1 := 75) (EokR.aload_n (q := 0) dX10_drawFrom_74) (Aok.aI (pc1 := 77) (EokI.iload (i := 7) dX10_drawFrom_75) Aok.nil)) (kX10_tallyOf g) rfl ykX10_tallyOf vkX10_118 (by decide) (by decide) dX10_drawFrom_77) (EokI.iload_n (q := 2) dX10_drawFrom_80) (OPI.iadd dX10_drawFrom_81)) Aok.nil))) (by decide) (kX10_setTally g) rfl ykX10_setTally vkX10_108 (by decide) (by decide) dX10_drawFrom_82) dX10_drawFrom_85 (by decide)) (Sok.iinc (i := 5) (v := 1) dX10_drawFrom_88 (show 5 < 8 by decide) (by decide)))) (Sok.seq (pc1 := 91) Sok.forget (Sok.goto (pc1 := 94) (pcN := 36) (Sok.iinc (i := 6) (v := 1) dX10_drawFrom_91 (show 6 < 8 by decide) (by decide)) dX10_drawFrom_94 (by decide))))
def mX10_drawFrom : MX := bodyOf 8 (sSeq (sSeq (sSetI 2 (iCallV 10 mX10_tallyOf (aR (rLoc 0) (aI (iLoc 1) aNil)))) (sSeq (sIf (cZ zeq (iLoc 2)) sRetV sSkip) (sSeq (sSetI 3 (iCallV 2 mX2_lyingAt (aR (rGet 10 0 (rLoc 0)) (aI (iLoc 1) aNil)))) (sSeq (sSetI 4 (iCallV 0 mX0_sumOf (aR (rGet 10 4 (rLoc 0)) (aI (iLoc 3) aNil)))) (sSeq (sSetI 5 (iK 0)) (sSeq (sSeq (sSeq (sSetI 6 (iK 0)) lX10_drawFrom_1) (sForget 6)) (sCallV 10 mX10_setTally (aR (rLoc 0) (aI (iLoc 1) (aI (iB gT2 (· * ·) (iLoc 2) (iLoc 5)) aNil)))))))))) sRetV)
theorem kX10_drawFrom (g : GT) : MK g 5 yX10_drawFrom cX10_drawFrom 8 none mX10_drawFrom := MK.of (pcN := 99999) (pcB := 0) (pcC := 0) rfl (Sok.seq (pc1 := 106) (Sok.seq (pc1 := 6) (Sok.setI_n (q := 2) (pc1 := 5) (EokI.iCallV (pc1 := 2) (Aok.aR (pc1 := 1) (EokR.aload_n (q := 0) dX10_drawFrom_0) (Aok.aI (pc1 := 2) (EokI.iload_n (q := 1) dX10_drawFrom_1) Aok.nil)) (kX10_tallyOf g) rfl ykX10_tallyOf vkX10_118 (by decide) (by decide) dX10_drawFrom_2) (by decide) dX10_drawFrom_5 (show 2 < 8 by decide)) (Sok.seq (pc1 := 11) (Sok.ite (pc1 := 10) (pc2 := 11) (Cok.zero (pc1 := 7) (pcT := 10) (pcF := 11) (EokI.iload_n (q := 2) dX10_drawFrom_6) (JZ.eqF (tgt := 11) dX10_drawFrom_7 (by decide))) (by decide) (Sok.retV dX10_drawFrom_10 rfl) (Sok.skip (pc := 11))) (Sok.seq (pc1 := 20) (Sok.setI_n (q := 3) (pc1 := 19) (EokI.iCallV (pc1 := 16) (Aok.aR (pc1 := 15) (EokR.getf (pc1 := 12) (j := 0) (ci := 10) (T := TX10) (N := 8) (EokR.aload_n (q := 0) dX10_drawFrom_11) rfl wsX10_in (by decide) flX10_21 dX10_drawFrom_12) (Aok.aI (pc1 := 16) (EokI.iload_n (q := 1) dX10_drawFrom_15) Aok.nil)) (kX2_lyingAt g) rfl ykX2_lyingAt vkX10_78 (by decide) (by decide) dX10_drawFrom_16) (by decide) dX10_drawFrom_19 (show 3 < 8 by decide)) (Sok.seq (pc1 := 30) (Sok.setI (i := 4) (pc1 := 28) (EokI.iCallV (pc1 := 25) (Aok.aR (pc1 := 24) (EokR.getf (pc1 := 21) (j := 4) (ci := 10) (T := TX10) (N := 8) (EokR.aload_n (q := 0) dX10_drawFrom_20) rfl wsX10_in (by decide) flX10_25 dX10_drawFrom_21) (Aok.aI (pc1 := 25) (EokI.iload_n (q := 3) dX10_drawFrom_24) Aok.nil)) (kX0_sumOf g) rfl ykX0_sumOf vkX10_48 (by decide) (by decide) dX10_drawFrom_25) (by decide) dX10_drawFrom_28 (show 4 < 8 by decide)) (Sok.seq (pc1 := 33) (Sok.setI (i := 5) (pc1 := 31) (EokI.iconst (v := 0) dX10_drawFrom_30 (by decide)) (by decide) dX10_drawFrom_31 (show 5 < 8 by decide)) (Sok.seq (pc1 := 97) (Sok.seq (pc1 := 97) (Sok.seq (pc1 := 36) (Sok.setI (i := 6) (pc1 := 34) (EokI.iconst (v := 0) dX10_drawFrom_33 (by decide)) (by decide) dX10_drawFrom_34 (show 6 < 8 by decide)) (olX10_drawFrom_1 g )) (Sok.forget (pc := 97))) (Sok.sCallV (pc1 := 103) (Aok.aR (pc1 := 98) (EokR.aload_n (q := 0) dX10_drawFrom_97) (Aok.aI (pc1 := 99) (EokI.iload_n (q := 1) dX10_drawFrom_98) (Aok.aI (pc1 := 103) (EokI.bin (pc1 := 100) (pc2 := 102) (EokI.iload_n (q := 2) dX10_drawFrom_99) (EokI.iload (i := 5) dX10_drawFrom_100) (OPI.imul dX10_drawFrom_102)) Aok.nil))) (by decide) (kX10_setTally g) rfl ykX10_setTally vkX10_108 (by decide) (by decide) dX10_drawFrom_103))))))) (Sok.retV dX10_drawFrom_106 rfl))
/-! PassHuts$Walk.millionths(II)I -/
theorem dX10_millionths_0 : decode cX10_millionths 0 = .ok (.aload_n 0, 1) := by decide +kernel
theorem dX10_millionths_1 : decode cX10_millionths 1 = .ok (.invokevirtual 111, 3) := by decide +kernel
theorem dX10_millionths_4 : decode cX10_millionths 4 = .ok (.lconst 1, 1) := by decide +kernel
theorem dX10_millionths_5 : decode cX10_millionths 5 = .ok (.lstore_n 3, 1) := by decide +kernel
theorem dX10_millionths_6 : decode cX10_millionths 6 = .ok (.iconst 0, 1) := by decide +kernel
theorem dX10_millionths_7 : decode cX10_millionths 7 = .ok (.istore 5, 2) := by decide +kernel
theorem dX10_millionths_9 : decode cX10_millionths 9 = .ok (.iload 5, 2) := by decide +kernel
theorem dX10_millionths_11 : decode cX10_millionths 11 = .ok (.iload_n 2, 1) := by decide +kernel
theorem dX10_millionths_12 : decode cX10_millionths 12 = .ok (.if_icmp .ge 49, 3) := by decide +kernel
theorem dX10_millionths_15 : decode cX10_millionths 15 = .ok (.lload_n 3, 1) := by decide +kernel
theorem dX10_millionths_16 : decode cX10_millionths 16 = .ok (.aload_n 0, 1) := by decide +kernel
theorem dX10_millionths_17 : decode cX10_millionths 17 = .ok (.getfield 25, 3) := by decide +kernel
theorem dX10_millionths_20 : decode cX10_millionths 20 = .ok (.getfield 87, 3) := by decide +kernel
theorem dX10_millionths_23 : decode cX10_millionths 23 = .ok (.i2l, 1) := by decide +kernel
theorem dX10_millionths_24 : decode cX10_millionths 24 = .ok (.lmul, 1) := by decide +kernel
theorem dX10_millionths_25 : decode cX10_millionths 25 = .ok (.lstore_n 3, 1) := by decide +kernel
theorem dX10_millionths_26 : decode cX10_millionths 26 = .ok (.aload_n 0, 1) := by decide +kernel
theorem dX10_millionths_27 : decode cX10_millionths 27 = .ok (.getfield 37, 3) := by decide +kernel
theorem dX10_millionths_30 : decode cX10_millionths 30 = .ok (.iconst 1, 1) := by decide +kernel
theorem dX10_millionths_31 : decode cX10_millionths 31 = .ok (.isub, 1) := by decide +kernel
theorem dX10_millionths_32 : decode cX10_millionths 32 = .ok (.istore 6, 2) := by decide +kernel
theorem dX10_millionths_34 : decode cX10_millionths 34 = .ok (.iload 6, 2) := by decide +kernel
theorem dX10_millionths_36 : decode cX10_millionths 36 = .ok (.ifCond .lt 19, 3) := by decide +kernel
theorem dX10_millionths_39 : decode cX10_millionths 39 = .ok (.aload_n 0, 1) := by decide +kernel
theorem dX10_millionths_40 : decode cX10_millionths 40 = .ok (.aload_n 0, 1) := by decide +kernel
theorem dX10_millionths_41 : decode cX10_millionths 41 = .ok (.iload 6, 2) := by decide +kernel
theorem dX10_millionths_43 : decode cX10_millionths 43 = .ok (.invokevirtual 40, 3) := by decide +kernel
theorem dX10_millionths_46 : decode cX10_millionths 46 = .ok (.invokevirtual 129, 3) := by decide +kernel
theorem dX10_millionths_49 : decode cX10_millionths 49 = .ok (.iinc 6 (-1), 3) := by decide +kernel
theorem dX10_millionths_52 : decode cX10_millionths 52 = .ok (.goto (-18), 3) := by decide +kernel
theorem dX10_millionths_55 : decode cX10_millionths 55 = .ok (.iinc 5 1, 3) := by decide +kernel
theorem dX10_millionths_58 : decode cX10_millionths 58 = .ok (.goto (-49), 3) := by decide +kernel
theorem dX10_millionths_61 : decode cX10_millionths 61 = .ok (.lconst 0, 1) := by decide +kernel
theorem dX10_millionths_62 : decode cX10_millionths 62 = .ok (.lstore 5, 2) := by decide +kernel
theorem dX10_millionths_64 : decode cX10_millionths 64 = .ok (.iconst 0, 1) := by decide +kernel
theorem dX10_millionths_65 : decode cX10_millionths 65 = .ok (.istore 7, 2) := by decide +kernel
theorem dX10_millionths_67 : decode cX10_millionths 67 = .ok (.iload 7, 2) := by decide +kernel
theorem dX10_millionths_69 : decode cX10_millionths 69 = .ok (.aload_n 0, 1) := by decide +kernel
theorem dX10_millionths_70 : decode cX10_millionths 70 = .ok (.getfield 37, 3) := by decide +kernel
theorem dX10_millionths_73 : decode cX10_millionths 73 = .ok (.if_icmp .ge 49, 3) := by decide +kernel
theorem dX10_millionths_76 : decode cX10_millionths 76 = .ok (.aload_n 0, 1) := by decide +kernel
theorem dX10_millionths_77 : decode cX10_millionths 77 = .ok (.getfield 25, 3) := by decide +kernel
theorem dX10_millionths_80 : decode cX10_millionths 80 = .ok (.aload_n 0, 1) := by decide +kernel
theorem dX10_millionths_81 : decode cX10_millionths 81 = .ok (.getfield 21, 3) := by decide +kernel
theorem dX10_millionths_84 : decode cX10_millionths 84 = .ok (.aload_n 0, 1) := by decide +kernel
theorem dX10_millionths_85 : decode cX10_millionths 85 = .ok (.iload 7, 2) := by decide +kernel
theorem dX10_millionths_87 : decode cX10_millionths 87 = .ok (.invokevirtual 40, 3) := by decide +kernel
theorem dX10_millionths_90 : decode cX10_millionths 90 = .ok (.invokevirtual 78, 3) := by decide +kernel
theorem dX10_millionths_93 : decode cX10_millionths 93 = .ok (.iload_n 1, 1) := by decide +kernel
theorem dX10_millionths_94 : decode cX10_millionths 94 = .ok (.invokevirtual 102, 3) := by decide +kernel
theorem dX10_millionths_97 : decode cX10_millionths 97 = .ok (.ifCond .le 19, 3) := by decide +kernel
theorem dX10_millionths_100 : decode cX10_millionths 100 = .ok (.lload 5, 2) := by decide +kernel
theorem dX10_millionths_102 : decode cX10_millionths 102 = .ok (.aload_n 0, 1) := by decide +kernel
theorem dX10_millionths_103 : decode cX10_millionths 103 = .ok (.aload_n 0, 1) := by decide +kernel
theorem dX10_millionths_104 : decode cX10_millionths 104 = .ok (.iload 7, 2) := by decide +kernel
theorem dX10_millionths_106 : decode cX10_millionths 106 = .ok (.invokevirtual 40, 3) := by decide +kernel
theorem dX10_millionths_109 : decode cX10_millionths 109 = .ok (.invokevirtual 118, 3) := by decide +kernel
theorem dX10_millionths_112 : decode cX10_millionths 112 = .ok (.i2l, 1) := by decide +kernel
theorem dX10_millionths_113 : decode cX10_millionths 113 = .ok (.ladd, 1) := by decide +kernel
theorem dX10_millionths_114 : decode cX10_millionths 114 = .ok (.lstore 5, 2) := by decide +kernel
theorem dX10_millionths_116 : decode cX10_millionths 116 = .ok (.iinc 7 1, 3) := by decide +kernel
theorem dX10_millionths_119 : decode cX10_millionths 119 = .ok (.goto (-52), 3) := by decide +kernel
theorem dX10_millionths_122 : decode cX10_millionths 122 = .ok (.lload_n 3, 1) := by decide +kernel
theorem dX10_millionths_123 : decode cX10_millionths 123 = .ok (.lconst 0, 1) := by decide +kernel
theorem dX10_millionths_124 : decode cX10_millionths 124 = .ok (.lcmp, 1) := by decide +kernel
theorem dX10_millionths_125 : decode cX10_millionths 125 = .ok (.ifCond .le 15, 3) := by decide +kernel
theorem dX10_millionths_128 : decode cX10_millionths 128 = .ok (.lload 5, 2) := by decide +kernel
theorem dX10_millionths_130 : decode cX10_millionths 130 = .ok (.ldc2_w 132, 3) := by decide +kernel
theorem dX10_millionths_133 : decode cX10_millionths 133 = .ok (.lmul, 1) := by decide +kernel
theorem dX10_millionths_134 : decode cX10_millionths 134 = .ok (.lload_n 3, 1) := by decide +kernel
theorem dX10_millionths_135 : decode cX10_millionths 135 = .ok (.ldiv, 1) := by decide +kernel
theorem dX10_millionths_136 : decode cX10_millionths 136 = .ok (.l2i, 1) := by decide +kernel
theorem dX10_millionths_137 : decode cX10_millionths 137 = .ok (.goto 4, 3) := by decide +kernel
theorem dX10_millionths_140 : decode cX10_millionths 140 = .ok (.iconst (-1), 1) := by decide +kernel
theorem dX10_millionths_141 : decode cX10_millionths 141 = .ok (.ireturn, 1) := by decide +kernel
abbrev tX10_millionths (k : Nat) : MT := (RX10, cX10_millionths, 8, k, (some .int))
def lX10_millionths_1 : SX := (sLoop (cZ zge (iLoc 6)) (sCallV 10 mX10_drawFrom (aR (rLoc 0) (aI (iCallV 10 mX10_numberAt (aR (rLoc 0) (aI (iLoc 6) aNil))) aNil))) (sInc 6 (-1)))
def lX10_millionths_2 : SX := (sLoop (cB rlt (iLoc 5) (iLoc 2)) (sSeq (sSetL 3 (lB gT2 (· * ·) (lLoc 3) (lOfI (iGet 0 4 (rGet 10 4 (rLoc 0)))))) (sSeq (sSetI 6 (iB gT2 (· - ·) (iGet 10 5 (rLoc 0)) (iK 1))) lX10_millionths_1)) (sSeq (sForget 6) (sInc 5 1)))
def lX10_millionths_3 : SX := (sLoop (cB rlt (iLoc 7) (iGet 10 5 (rLoc 0))) (sIf (cZ zgt (iCallV 0 mX0_loadsIn (aR (rGet 10 4 (rLoc 0)) (aI (iCallV 2 mX2_lyingAt (aR (rGet 10 0 (rLoc 0)) (aI (iCallV 10 mX10_numberAt (aR (rLoc 0) (aI (iLoc 7) aNil))) aNil))) (aI (iLoc 1) aNil))))) (sSetL 5 (lB gT2 (· + ·) (lLoc 5) (lOfI (iCallV 10 mX10_tallyOf (aR (rLoc 0) (aI (iCallV 10 mX10_numberAt (aR (rLoc 0) (aI (iLoc 7) aNil))) aNil)))))) sSkip) (sInc 7 1))
theorem olX10_millionths_3 (g : GT) {pcB pcC : Nat} : Sok g (tX10_millionths 6) 67 122 pcB pcC (lX10_millionths_3) := (Sok.loop (pc := 67) (pc1 := 76) (pc2 := 116) (pcN := 122) (Cok.cmp (pc1 := 69) (pc2 := 73) (pcT := 76) (pcF := 122) (EokI.iload (i := 7) dX10_millionths_67) (EokI.getf (pc1 := 70) (j := 5) (ci := 10) (T := TX10) (N := 8) (EokR.aload_n (q := 0) dX10_millionths_69) rfl wsX10_in (by decide) flX10_37 dX10_millionths_70) (JI.ltF (tgt := 122) dX10_millionths_73 (by decide))) (by decide) (Sok.ite (pc1 := 100) (pc2 := 116) (Cok.zero (pc1 := 97) (pcT := 100) (pcF := 116) (EokI.iCallV (pc1 := 94) (Aok.aR (pc1 := 80) (EokR.getf (pc1 := 77) (j := 4) (ci := 10) (T := TX10) (N := 8) (EokR.aload_n (q := 0) dX10_millionths_76) rfl wsX10_in (by decide) flX10_25 dX10_millionths_77) (Aok.aI (pc1 := 93) (EokI.iCallV (pc1 := 90) (Aok.aR (pc1 := 84) (EokR.getf (pc1 := 81) (j := 0) (ci := 10) (T := TX10) (N := 8) (EokR.aload_n (q := 0) dX10_millionths_80) rfl wsX10_in (by decide) flX10_21 dX10_millionths_81) (Aok.aI (pc1 := 90) (EokI.iCallV (pc1 := 87) (Aok.aR (pc1 := 85) (EokR.aload_n (q := 0) dX10_millionths_84) (Aok.aI (pc1 := 87) (EokI.iload (i := 7) dX10_millionths_85) Aok.nil)) (kX10_numberAt g) rfl ykX10_numberAt vkX10_40 (by decide) (by decide) dX10_millionths_87) Aok.nil)) (kX2_lyingAt g) rfl ykX2_lyingAt vkX10_78 (by decide) (by decide) dX10_millionths_90) (Aok.aI (pc1 := 94) (EokI.iload_n (q := 1) dX10_millionths_93) Aok.nil))) (kX0_loadsIn g) rfl ykX0_loadsIn vkX10_102 (by decide) (by decide) dX10_millionths_94) (JZ.gtF (tgt := 116) dX10_millionths_97 (by decide))) (by decide) (Sok.setL (i := 5) (pc1 := 114) (EokL.bin (pc1 := 102) (pc2 := 113) (EokL.lload (i := 5) dX10_millionths_100) (EokL.i2l (pc1 := 112) (EokI.iCallV (pc1 := 109) (Aok.aR (pc1 := 103) (EokR.aload_n (q := 0) dX10_millionths_102) (Aok.aI (pc1 := 109) (EokI.iCallV (pc1 := 106) (Aok.aR (pc1 := 104) (EokR.aload_n (q := 0) dX10_millionths_103) (Aok.aI (pc1 := 106) (EokI.iload (i := 7) dX10_millionths_104) Aok.nil)) (kX10_numberAt g) rfl ykX10_numberAt vkX10_40 (by decide) (by decide) dX10_millionths_106) Aok.nil)) (kX10_tallyOf g) rfl ykX10_tallyOf vkX10_118 (by decide) (by decide) dX10_millionths_109) dX10_millionths_112) (OPL.ladd dX10_millionths_113)) (by decide) dX10_millionths_114 (show 6 < 8 by decide)) (Sok.skip (pc := 116))) (Sok.goto (pc1 := 119) (pcN := 67) (Sok.iinc (i := 7) (v := 1) dX10_millionths_116 (show 7 < 8 by decide) (by decide)) dX10_millionths_119 (by decide)))
theorem olX10_millionths_1 (g : GT) {pcB pcC : Nat} : Sok g (tX10_millionths 6) 34 55 pcB pcC (lX10_millionths_1) := (Sok.loop (pc := 34) (pc1 := 39) (pc2 := 49) (pcN := 55) (Cok.zero (pc1 := 36) (pcT := 39) (pcF := 55) (EokI.iload (i := 6) dX10_millionths_34) (JZ.geF (tgt := 55) dX10_millionths_36 (by decide))) (by decide) (Sok.sCallV (pc1 := 46) (Aok.aR (pc1 := 40) (EokR.aload_n (q := 0) dX10_millionths_39) (Aok.aI (pc1 := 46) (EokI.iCallV (pc1 := 43) (Aok.aR (pc1 := 41) (EokR.aload_n (q := 0) dX10_millionths_40) (Aok.aI (pc1 := 43) (EokI.iload (i := 6) dX10_millionths_41) Aok.nil)) (kX10_numberAt g) rfl ykX10_numberAt vkX10_40 (by decide) (by decide) dX10_millionths_43) Aok.nil)) (by decide) (kX10_drawFrom g) rfl ykX10_drawFrom vkX10_129 (by decide) (by decide) dX10_millionths_46) (Sok.goto (pc1 := 52) (pcN := 34) (Sok.iinc (i := 6) (v := (-1)) dX10_millionths_49 (show 6 < 8 by decide) (by decide)) dX10_millionths_52 (by decide)))
theorem olX10_millionths_2 (g : GT) {pcB pcC : Nat} : Sok g (tX10_millionths 6) 9 61 pcB pcC (lX10_millionths_2) := (Sok.loop (pc := 9) (pc1 := 15) (pc2 := 55) (pcN := 61) (Cok.cmp (pc1 := 11) (pc2 := 12) (pcT := 15) (pcF := 61) (EokI.iload (i := 5) dX10_millionths_9) (EokI.iload_n (q := 2) dX10_millionths_11) (JI.ltF (tgt := 61) dX10_millionths_12 (by decide))) (by decide) (Sok.seq (pc1 := 26) (Sok.setL_n (q := 3) (pc1 := 25) (EokL.bin (pc1 := 16) (pc2 := 24) (EokL.lload_n (q := 3) dX10_millionths_15) (EokL.i2l (pc1 := 23) (EokI.getf (pc1 := 20) (j := 4) (ci := 0) (T := TX0) (N := 17) (EokR.getf (pc1 := 17) (j := 4) (ci := 10) (T := TX10) (N := 8) (EokR.aload_n (q := 0) dX10_millionths_16) rfl wsX10_in (by decide) flX10_25 dX10_millionths_17) rfl wsX0_in (by decide) flX10_87 dX10_millionths_20) dX10_millionths_23) (OPL.lmul dX10_millionths_24)) (by decide) dX10_millionths_25 (show 4 < 8 by decide)) (Sok.seq (pc1 := 34) (Sok.setI (i := 6) (pc1 := 32) (EokI.bin (pc1 := 30) (pc2 := 31) (EokI.getf (pc1 := 27) (j := 5) (ci := 10) (T := TX10) (N := 8) (EokR.aload_n (q := 0) dX10_millionths_26) rfl wsX10_in (by decide) flX10_37 dX10_millionths_27) (EokI.iconst (v := 1) dX10_millionths_30 (by decide)) (OPI.isub dX10_millionths_31)) (by decide) dX10_millionths_32 (show 6 < 8 by decide)) (olX10_millionths_1 g ))) (Sok.seq (pc1 := 55) Sok.forget (Sok.goto (pc1 := 58) (pcN := 9) (Sok.iinc (i := 5) (v := 1) dX10_millionths_55 (show 5 < 8 by decide) (by decide)) dX10_millionths_58 (by decide))))
def mX10_millionths : MX := bodyOf 8 (sSeq (sCallV 10 mX10_clearTally (aR (rLoc 0) aNil)) (sSeq (sSetL 3 (lK 1)) (sSeq (sSeq (sSeq (sSetI 5 (iK 0)) lX10_millionths_2) (sForget 5)) (sSeq (sSetL 5 (lK 0)) (sSeq (sSeq (sSeq (sSetI 7 (iK 0)) lX10_millionths_3) (sForget 7)) (sRetI (iCond (cL lgt (lLoc 3) (lK 0)) (iOfL (lB gNZL (· / ·) (lB gT2 (· * ·) (lLoc 5) (lK 1000000)) (lLoc 3))) (iK (-1)))))))))
theorem kX10_millionths (g : GT) : MK g 6 yX10_millionths cX10_millionths 8 (some .int) mX10_millionths := MK.of (pcN := 99999) (pcB := 0) (pcC := 0) rfl (Sok.seq (pc1 := 4) (Sok.sCallV (pc1 := 1) (Aok.aR (pc1 := 1) (EokR.aload_n (q := 0) dX10_millionths_0) Aok.nil) (by decide) (kX10_clearTally g) rfl ykX10_clearTally vkX10_111 (by decide) (by decide) dX10_millionths_1) (Sok.seq (pc1 := 6) (Sok.setL_n (q := 3) (pc1 := 5) (EokL.lconst (v := 1) dX10_millionths_4 (by decide)) (by decide) dX10_millionths_5 (show 4 < 8 by decide)) (Sok.seq (pc1 := 61) (Sok.seq (pc1 := 61) (Sok.seq (pc1 := 9) (Sok.setI (i := 5) (pc1 := 7) (EokI.iconst (v := 0) dX10_millionths_6 (by decide)) (by decide) dX10_millionths_7 (show 5 < 8 by decide)) (olX10_millionths_2 g )) (Sok.forget (pc := 61))) (Sok.seq (pc1 := 64) (Sok.setL (i := 5) (pc1 := 62) (EokL.lconst (v := 0) dX10_millionths_61 (by decide)) (by decide) dX10_millionths_62 (show 6 < 8 by decide)) (Sok.seq (pc1 := 122) (Sok.seq (pc1 := 122) (Sok.seq (pc1 := 67) (Sok.setI (i := 7) (pc1 := 65) (EokI.iconst (v := 0) dX10_millionths_64 (by decide)) (by decide) dX10_millionths_65 (show 7 < 8 by decide)) (olX10_millionths_3 g )) (Sok.forget (pc := 122))) (Sok.retI (pc1 := 141) (EokI.cond' (pc1 := 128) (pc2 := 140) (Cok.lcmp (pc1 := 123) (pc2 := 124) (pcT := 128) (pcF := 140) (EokL.lload_n (q := 3) dX10_millionths_122) (EokL.lconst (v := 0) dX10_millionths_123 (by decide)) (JL.gt dX10_millionths_124 (JZ.gtF (tgt := 140) dX10_millionths_125 (by decide)))) (EokI.goto (pc1 := 137) (pc2 := 141) (EokI.l2i (pc1 := 136) (EokL.bin (pc1 := 134) (pc2 := 135) (EokL.bin (pc1 := 130) (pc2 := 133) (EokL.lload (i := 5) dX10_millionths_128) (EokL.ldc2 (v := 1000000) ckX10_132 dX10_millionths_130) (OPL.lmul dX10_millionths_133)) (EokL.lload_n (q := 3) dX10_millionths_134) (OPL.ldiv dX10_millionths_135)) dX10_millionths_136) dX10_millionths_137 (by decide)) (EokI.iconst (v := (-1)) dX10_millionths_140 (by decide))) (by decide) dX10_millionths_141 rfl))))))
