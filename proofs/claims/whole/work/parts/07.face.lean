set_option maxRecDepth 20000
set_option maxHeartbeats 4000000
/-! PassHuts.feed(JJJ)I -/
theorem dX11_feed_0 : decode cX11_feed 0 = .ok (.aload_n 0, 1) := by decide +kernel
theorem dX11_feed_1 : decode cX11_feed 1 = .ok (.getfield 10, 3) := by decide +kernel
theorem dX11_feed_4 : decode cX11_feed 4 = .ok (.lload_n 1, 1) := by decide +kernel
theorem dX11_feed_5 : decode cX11_feed 5 = .ok (.invokevirtual 84, 3) := by decide +kernel
theorem dX11_feed_8 : decode cX11_feed 8 = .ok (.aload_n 0, 1) := by decide +kernel
theorem dX11_feed_9 : decode cX11_feed 9 = .ok (.getfield 10, 3) := by decide +kernel
theorem dX11_feed_12 : decode cX11_feed 12 = .ok (.lload_n 3, 1) := by decide +kernel
theorem dX11_feed_13 : decode cX11_feed 13 = .ok (.invokevirtual 84, 3) := by decide +kernel
theorem dX11_feed_16 : decode cX11_feed 16 = .ok (.aload_n 0, 1) := by decide +kernel
theorem dX11_feed_17 : decode cX11_feed 17 = .ok (.getfield 10, 3) := by decide +kernel
theorem dX11_feed_20 : decode cX11_feed 20 = .ok (.lload 5, 2) := by decide +kernel
theorem dX11_feed_22 : decode cX11_feed 22 = .ok (.invokevirtual 84, 3) := by decide +kernel
theorem dX11_feed_25 : decode cX11_feed 25 = .ok (.aload_n 0, 1) := by decide +kernel
theorem dX11_feed_26 : decode cX11_feed 26 = .ok (.getfield 10, 3) := by decide +kernel
theorem dX11_feed_29 : decode cX11_feed 29 = .ok (.getfield 88, 3) := by decide +kernel
theorem dX11_feed_32 : decode cX11_feed 32 = .ok (.ireturn, 1) := by decide +kernel
abbrev tX11_feed (k : Nat) : MT := (RX11, cX11_feed, 7, k, (some .int))
def mX11_feed : MX := bodyOf 7 (sSeq (sCallV 7 mX7_append (aR (rGet 11 0 (rLoc 0)) (aL (lLoc 1) aNil))) (sSeq (sCallV 7 mX7_append (aR (rGet 11 0 (rLoc 0)) (aL (lLoc 3) aNil))) (sSeq (sCallV 7 mX7_append (aR (rGet 11 0 (rLoc 0)) (aL (lLoc 5) aNil))) (sRetI (iGet 7 1 (rGet 11 0 (rLoc 0)))))))
theorem kX11_feed (g : GT) : MK g 1 yX11_feed cX11_feed 7 (some .int) mX11_feed := MK.of (pcN := 99999) (pcB := 0) (pcC := 0) rfl (Sok.seq (pc1 := 8) (Sok.sCallV (pc1 := 5) (Aok.aR (pc1 := 4) (EokR.getf (pc1 := 1) (j := 0) (ci := 11) (T := TX11) (N := 11) (EokR.aload_n (q := 0) dX11_feed_0) rfl wsX11_in (by decide) flX11_10 dX11_feed_1) (Aok.aL (pc1 := 5) (EokL.lload_n (q := 1) dX11_feed_4) Aok.nil)) (by decide) (kX7_append g) rfl ykX7_append vkX11_84 (by decide) (by decide) dX11_feed_5) (Sok.seq (pc1 := 16) (Sok.sCallV (pc1 := 13) (Aok.aR (pc1 := 12) (EokR.getf (pc1 := 9) (j := 0) (ci := 11) (T := TX11) (N := 11) (EokR.aload_n (q := 0) dX11_feed_8) rfl wsX11_in (by decide) flX11_10 dX11_feed_9) (Aok.aL (pc1 := 13) (EokL.lload_n (q := 3) dX11_feed_12) Aok.nil)) (by decide) (kX7_append g) rfl ykX7_append vkX11_84 (by decide) (by decide) dX11_feed_13) (Sok.seq (pc1 := 25) (Sok.sCallV (pc1 := 22) (Aok.aR (pc1 := 20) (EokR.getf (pc1 := 17) (j := 0) (ci := 11) (T := TX11) (N := 11) (EokR.aload_n (q := 0) dX11_feed_16) rfl wsX11_in (by decide) flX11_10 dX11_feed_17) (Aok.aL (pc1 := 22) (EokL.lload (i := 5) dX11_feed_20) Aok.nil)) (by decide) (kX7_append g) rfl ykX7_append vkX11_84 (by decide) (by decide) dX11_feed_22) (Sok.retI (pc1 := 32) (EokI.getf (pc1 := 29) (j := 1) (ci := 7) (T := TX7) (N := 2) (EokR.getf (pc1 := 26) (j := 0) (ci := 11) (T := TX11) (N := 11) (EokR.aload_n (q := 0) dX11_feed_25) rfl wsX11_in (by decide) flX11_10 dX11_feed_26) rfl wsX7_in (by decide) flX11_88 dX11_feed_29) (by decide) dX11_feed_32 rfl))))
/-! PassHuts.hills()I -/
theorem dX11_hills_0 : decode cX11_hills 0 = .ok (.aload_n 0, 1) := by decide +kernel
theorem dX11_hills_1 : decode cX11_hills 1 = .ok (.getfield 21, 3) := by decide +kernel
theorem dX11_hills_4 : decode cX11_hills 4 = .ok (.aload_n 0, 1) := by decide +kernel
theorem dX11_hills_5 : decode cX11_hills 5 = .ok (.getfield 46, 3) := by decide +kernel
theorem dX11_hills_8 : decode cX11_hills 8 = .ok (.invokevirtual 92, 3) := by decide +kernel
theorem dX11_hills_11 : decode cX11_hills 11 = .ok (.istore_n 1, 1) := by decide +kernel
theorem dX11_hills_12 : decode cX11_hills 12 = .ok (.iload_n 1, 1) := by decide +kernel
theorem dX11_hills_13 : decode cX11_hills 13 = .ok (.ifCond .ne 75, 3) := by decide +kernel
theorem dX11_hills_16 : decode cX11_hills 16 = .ok (.aload_n 0, 1) := by decide +kernel
theorem dX11_hills_17 : decode cX11_hills 17 = .ok (.getfield 42, 3) := by decide +kernel
theorem dX11_hills_20 : decode cX11_hills 20 = .ok (.astore_n 2, 1) := by decide +kernel
theorem dX11_hills_21 : decode cX11_hills 21 = .ok (.aload_n 0, 1) := by decide +kernel
theorem dX11_hills_22 : decode cX11_hills 22 = .ok (.aload_n 0, 1) := by decide +kernel
theorem dX11_hills_23 : decode cX11_hills 23 = .ok (.getfield 46, 3) := by decide +kernel
theorem dX11_hills_26 : decode cX11_hills 26 = .ok (.putfield 42, 3) := by decide +kernel
theorem dX11_hills_29 : decode cX11_hills 29 = .ok (.aload_n 0, 1) := by decide +kernel
theorem dX11_hills_30 : decode cX11_hills 30 = .ok (.aload_n 2, 1) := by decide +kernel
theorem dX11_hills_31 : decode cX11_hills 31 = .ok (.putfield 46, 3) := by decide +kernel
theorem dX11_hills_34 : decode cX11_hills 34 = .ok (.aload_n 0, 1) := by decide +kernel
theorem dX11_hills_35 : decode cX11_hills 35 = .ok (.getfield 52, 3) := by decide +kernel
theorem dX11_hills_38 : decode cX11_hills 38 = .ok (.invokevirtual 96, 3) := by decide +kernel
theorem dX11_hills_41 : decode cX11_hills 41 = .ok (.aload_n 0, 1) := by decide +kernel
theorem dX11_hills_42 : decode cX11_hills 42 = .ok (.getfield 35, 3) := by decide +kernel
theorem dX11_hills_45 : decode cX11_hills 45 = .ok (.aload_n 0, 1) := by decide +kernel
theorem dX11_hills_46 : decode cX11_hills 46 = .ok (.getfield 42, 3) := by decide +kernel
theorem dX11_hills_49 : decode cX11_hills 49 = .ok (.invokevirtual 99, 3) := by decide +kernel
theorem dX11_hills_52 : decode cX11_hills 52 = .ok (.invokevirtual 103, 3) := by decide +kernel
theorem dX11_hills_55 : decode cX11_hills 55 = .ok (.aload_n 0, 1) := by decide +kernel
theorem dX11_hills_56 : decode cX11_hills 56 = .ok (.getfield 64, 3) := by decide +kernel
theorem dX11_hills_59 : decode cX11_hills 59 = .ok (.aload_n 0, 1) := by decide +kernel
theorem dX11_hills_60 : decode cX11_hills 60 = .ok (.getfield 42, 3) := by decide +kernel
theorem dX11_hills_63 : decode cX11_hills 63 = .ok (.invokevirtual 107, 3) := by decide +kernel
theorem dX11_hills_66 : decode cX11_hills 66 = .ok (.aload_n 0, 1) := by decide +kernel
theorem dX11_hills_67 : decode cX11_hills 67 = .ok (.getfield 71, 3) := by decide +kernel
theorem dX11_hills_70 : decode cX11_hills 70 = .ok (.aload_n 0, 1) := by decide +kernel
theorem dX11_hills_71 : decode cX11_hills 71 = .ok (.getfield 42, 3) := by decide +kernel
theorem dX11_hills_74 : decode cX11_hills 74 = .ok (.invokevirtual 111, 3) := by decide +kernel
theorem dX11_hills_77 : decode cX11_hills 77 = .ok (.aload_n 0, 1) := by decide +kernel
theorem dX11_hills_78 : decode cX11_hills 78 = .ok (.getfield 80, 3) := by decide +kernel
theorem dX11_hills_81 : decode cX11_hills 81 = .ok (.aload_n 0, 1) := by decide +kernel
theorem dX11_hills_82 : decode cX11_hills 82 = .ok (.getfield 42, 3) := by decide +kernel
theorem dX11_hills_85 : decode cX11_hills 85 = .ok (.invokevirtual 112, 3) := by decide +kernel
theorem dX11_hills_88 : decode cX11_hills 88 = .ok (.iload_n 1, 1) := by decide +kernel
theorem dX11_hills_89 : decode cX11_hills 89 = .ok (.ireturn, 1) := by decide +kernel
abbrev tX11_hills (k : Nat) : MT := (RX11, cX11_hills, 3, k, (some .int))
def mX11_hills : MX := bodyOf 3 (sSeq (sSetI 1 (iCallV 4 mX4_readHills (aR (rGet 11 1 (rLoc 0)) (aR (rGet 11 8 (rLoc 0)) aNil)))) (sSeq (sIf (cZ zeq (iLoc 1)) (sSeq (sSeq (sSetR 2 (rGet 11 7 (rLoc 0))) (sSeq (sPutR 11 7 (rLoc 0) (rGet 11 8 (rLoc 0))) (sSeq (sPutR 11 8 (rLoc 0) (rLoc 2)) (sSeq (sCallV 9 mX9_clear (aR (rGet 11 9 (rLoc 0)) aNil)) (sSeq (sCallV 5 mX5_restart (aR (rGet 11 3 (rLoc 0)) (aI (iCallV 0 mX0_toldLying (aR (rGet 11 7 (rLoc 0)) aNil)) aNil))) (sSeq (sCallV 3 mX3_moveTo (aR (rGet 11 4 (rLoc 0)) (aR (rGet 11 7 (rLoc 0)) aNil))) (sSeq (sCallV 10 mX10_moveTo (aR (rGet 11 5 (rLoc 0)) (aR (rGet 11 7 (rLoc 0)) aNil))) (sCallV 6 mX6_moveTo (aR (rGet 11 6 (rLoc 0)) (aR (rGet 11 7 (rLoc 0)) aNil)))))))))) (sForget 2)) sSkip) (sRetI (iLoc 1))))
theorem kX11_hills (g : GT) : MK g 62 yX11_hills cX11_hills 3 (some .int) mX11_hills := MK.of (pcN := 99999) (pcB := 0) (pcC := 0) rfl (Sok.seq (pc1 := 12) (Sok.setI_n (q := 1) (pc1 := 11) (EokI.iCallV (pc1 := 8) (Aok.aR (pc1 := 4) (EokR.getf (pc1 := 1) (j := 1) (ci := 11) (T := TX11) (N := 11) (EokR.aload_n (q := 0) dX11_hills_0) rfl wsX11_in (by decide) flX11_21 dX11_hills_1) (Aok.aR (pc1 := 8) (EokR.getf (pc1 := 5) (j := 8) (ci := 11) (T := TX11) (N := 11) (EokR.aload_n (q := 0) dX11_hills_4) rfl wsX11_in (by decide) flX11_46 dX11_hills_5) Aok.nil)) (kX4_readHills g) rfl ykX4_readHills vkX11_92 (by decide) (by decide) dX11_hills_8) (by decide) dX11_hills_11 (show 1 < 3 by decide)) (Sok.seq (pc1 := 88) (Sok.ite (pc1 := 16) (pc2 := 88) (Cok.zero (pc1 := 13) (pcT := 16) (pcF := 88) (EokI.iload_n (q := 1) dX11_hills_12) (JZ.eqF (tgt := 88) dX11_hills_13 (by decide))) (by decide) (Sok.seq (pc1 := 88) (Sok.seq (pc1 := 21) (Sok.setR_n (q := 2) (pc1 := 20) (EokR.getf (pc1 := 17) (j := 7) (ci := 11) (T := TX11) (N := 11) (EokR.aload_n (q := 0) dX11_hills_16) rfl wsX11_in (by decide) flX11_42 dX11_hills_17) (by decide) dX11_hills_20 (show 2 < 3 by decide)) (Sok.seq (pc1 := 29) (Sok.putR (ci := 11) (T := TX11) (NN := 11) (tt := tyX11) (j := 7) (pc1 := 22) (pc2 := 26) (EokR.aload_n (q := 0) dX11_hills_21) (EokR.getf (pc1 := 23) (j := 8) (ci := 11) (T := TX11) (N := 11) (EokR.aload_n (q := 0) dX11_hills_22) rfl wsX11_in (by decide) flX11_46 dX11_hills_23) (by decide) rfl wsX11_in tyX11_ok nmX11 (by decide) flX11_42 rfl (fun _ => rfl) (fun _ => rfl) dX11_hills_26) (Sok.seq (pc1 := 34) (Sok.putR (ci := 11) (T := TX11) (NN := 11) (tt := tyX11) (j := 8) (pc1 := 30) (pc2 := 31) (EokR.aload_n (q := 0) dX11_hills_29) (EokR.aload_n (q := 2) dX11_hills_30) (by decide) rfl wsX11_in tyX11_ok nmX11 (by decide) flX11_46 rfl (fun _ => rfl) (fun _ => rfl) dX11_hills_31) (Sok.seq (pc1 := 41) (Sok.sCallV (pc1 := 38) (Aok.aR (pc1 := 38) (EokR.getf (pc1 := 35) (j := 9) (ci := 11) (T := TX11) (N := 11) (EokR.aload_n (q := 0) dX11_hills_34) rfl wsX11_in (by decide) flX11_52 dX11_hills_35) Aok.nil) (by decide) (kX9_clear g) rfl ykX9_clear vkX11_96 (by decide) (by decide) dX11_hills_38) (Sok.seq (pc1 := 55) (Sok.sCallV (pc1 := 52) (Aok.aR (pc1 := 45) (EokR.getf (pc1 := 42) (j := 3) (ci := 11) (T := TX11) (N := 11) (EokR.aload_n (q := 0) dX11_hills_41) rfl wsX11_in (by decide) flX11_35 dX11_hills_42) (Aok.aI (pc1 := 52) (EokI.iCallV (pc1 := 49) (Aok.aR (pc1 := 49) (EokR.getf (pc1 := 46) (j := 7) (ci := 11) (T := TX11) (N := 11) (EokR.aload_n (q := 0) dX11_hills_45) rfl wsX11_in (by decide) flX11_42 dX11_hills_46) Aok.nil) (kX0_toldLying g) rfl ykX0_toldLying vkX11_99 (by decide) (by decide) dX11_hills_49) Aok.nil)) (by decide) (kX5_restart g) rfl ykX5_restart vkX11_103 (by decide) (by decide) dX11_hills_52) (Sok.seq (pc1 := 66) (Sok.sCallV (pc1 := 63) (Aok.aR (pc1 := 59) (EokR.getf (pc1 := 56) (j := 4) (ci := 11) (T := TX11) (N := 11) (EokR.aload_n (q := 0) dX11_hills_55) rfl wsX11_in (by decide) flX11_64 dX11_hills_56) (Aok.aR (pc1 := 63) (EokR.getf (pc1 := 60) (j := 7) (ci := 11) (T := TX11) (N := 11) (EokR.aload_n (q := 0) dX11_hills_59) rfl wsX11_in (by decide) flX11_42 dX11_hills_60) Aok.nil)) (by decide) (kX3_moveTo g) rfl ykX3_moveTo vkX11_107 (by decide) (by decide) dX11_hills_63) (Sok.seq (pc1 := 77) (Sok.sCallV (pc1 := 74) (Aok.aR (pc1 := 70) (EokR.getf (pc1 := 67) (j := 5) (ci := 11) (T := TX11) (N := 11) (EokR.aload_n (q := 0) dX11_hills_66) rfl wsX11_in (by decide) flX11_71 dX11_hills_67) (Aok.aR (pc1 := 74) (EokR.getf (pc1 := 71) (j := 7) (ci := 11) (T := TX11) (N := 11) (EokR.aload_n (q := 0) dX11_hills_70) rfl wsX11_in (by decide) flX11_42 dX11_hills_71) Aok.nil)) (by decide) (kX10_moveTo g) rfl ykX10_moveTo vkX11_111 (by decide) (by decide) dX11_hills_74) (Sok.sCallV (pc1 := 85) (Aok.aR (pc1 := 81) (EokR.getf (pc1 := 78) (j := 6) (ci := 11) (T := TX11) (N := 11) (EokR.aload_n (q := 0) dX11_hills_77) rfl wsX11_in (by decide) flX11_80 dX11_hills_78) (Aok.aR (pc1 := 85) (EokR.getf (pc1 := 82) (j := 7) (ci := 11) (T := TX11) (N := 11) (EokR.aload_n (q := 0) dX11_hills_81) rfl wsX11_in (by decide) flX11_42 dX11_hills_82) Aok.nil)) (by decide) (kX6_moveTo g) rfl ykX6_moveTo vkX11_112 (by decide) (by decide) dX11_hills_85)))))))) (Sok.forget (pc := 88))) (Sok.skip (pc := 88))) (Sok.retI (pc1 := 89) (EokI.iload_n (q := 1) dX11_hills_88) (by decide) dX11_hills_89 rfl)))
/-! PassHuts.trip()I -/
theorem dX11_trip_0 : decode cX11_trip 0 = .ok (.aload_n 0, 1) := by decide +kernel
theorem dX11_trip_1 : decode cX11_trip 1 = .ok (.getfield 21, 3) := by decide +kernel
theorem dX11_trip_4 : decode cX11_trip 4 = .ok (.aload_n 0, 1) := by decide +kernel
theorem dX11_trip_5 : decode cX11_trip 5 = .ok (.getfield 56, 3) := by decide +kernel
theorem dX11_trip_8 : decode cX11_trip 8 = .ok (.aload_n 0, 1) := by decide +kernel
theorem dX11_trip_9 : decode cX11_trip 9 = .ok (.getfield 42, 3) := by decide +kernel
theorem dX11_trip_12 : decode cX11_trip 12 = .ok (.invokevirtual 113, 3) := by decide +kernel
theorem dX11_trip_15 : decode cX11_trip 15 = .ok (.istore_n 1, 1) := by decide +kernel
theorem dX11_trip_16 : decode cX11_trip 16 = .ok (.iload_n 1, 1) := by decide +kernel
theorem dX11_trip_17 : decode cX11_trip 17 = .ok (.ifCond .ne 21, 3) := by decide +kernel
theorem dX11_trip_20 : decode cX11_trip 20 = .ok (.aload_n 0, 1) := by decide +kernel
theorem dX11_trip_21 : decode cX11_trip 21 = .ok (.getfield 52, 3) := by decide +kernel
theorem dX11_trip_24 : decode cX11_trip 24 = .ok (.astore_n 2, 1) := by decide +kernel
theorem dX11_trip_25 : decode cX11_trip 25 = .ok (.aload_n 0, 1) := by decide +kernel
theorem dX11_trip_26 : decode cX11_trip 26 = .ok (.aload_n 0, 1) := by decide +kernel
theorem dX11_trip_27 : decode cX11_trip 27 = .ok (.getfield 56, 3) := by decide +kernel
theorem dX11_trip_30 : decode cX11_trip 30 = .ok (.putfield 52, 3) := by decide +kernel
theorem dX11_trip_33 : decode cX11_trip 33 = .ok (.aload_n 0, 1) := by decide +kernel
theorem dX11_trip_34 : decode cX11_trip 34 = .ok (.aload_n 2, 1) := by decide +kernel
theorem dX11_trip_35 : decode cX11_trip 35 = .ok (.putfield 56, 3) := by decide +kernel
theorem dX11_trip_38 : decode cX11_trip 38 = .ok (.iload_n 1, 1) := by decide +kernel
theorem dX11_trip_39 : decode cX11_trip 39 = .ok (.ireturn, 1) := by decide +kernel
abbrev tX11_trip (k : Nat) : MT := (RX11, cX11_trip, 3, k, (some .int))
def mX11_trip : MX := bodyOf 3 (sSeq (sSetI 1 (iCallV 4 mX4_readTrip (aR (rGet 11 1 (rLoc 0)) (aR (rGet 11 10 (rLoc 0)) (aR (rGet 11 7 (rLoc 0)) aNil))))) (sSeq (sIf (cZ zeq (iLoc 1)) (sSeq (sSeq (sSetR 2 (rGet 11 9 (rLoc 0))) (sSeq (sPutR 11 9 (rLoc 0) (rGet 11 10 (rLoc 0))) (sPutR 11 10 (rLoc 0) (rLoc 2)))) (sForget 2)) sSkip) (sRetI (iLoc 1))))
theorem kX11_trip (g : GT) : MK g 6 yX11_trip cX11_trip 3 (some .int) mX11_trip := MK.of (pcN := 99999) (pcB := 0) (pcC := 0) rfl (Sok.seq (pc1 := 16) (Sok.setI_n (q := 1) (pc1 := 15) (EokI.iCallV (pc1 := 12) (Aok.aR (pc1 := 4) (EokR.getf (pc1 := 1) (j := 1) (ci := 11) (T := TX11) (N := 11) (EokR.aload_n (q := 0) dX11_trip_0) rfl wsX11_in (by decide) flX11_21 dX11_trip_1) (Aok.aR (pc1 := 8) (EokR.getf (pc1 := 5) (j := 10) (ci := 11) (T := TX11) (N := 11) (EokR.aload_n (q := 0) dX11_trip_4) rfl wsX11_in (by decide) flX11_56 dX11_trip_5) (Aok.aR (pc1 := 12) (EokR.getf (pc1 := 9) (j := 7) (ci := 11) (T := TX11) (N := 11) (EokR.aload_n (q := 0) dX11_trip_8) rfl wsX11_in (by decide) flX11_42 dX11_trip_9) Aok.nil))) (kX4_readTrip g) rfl ykX4_readTrip vkX11_113 (by decide) (by decide) dX11_trip_12) (by decide) dX11_trip_15 (show 1 < 3 by decide)) (Sok.seq (pc1 := 38) (Sok.ite (pc1 := 20) (pc2 := 38) (Cok.zero (pc1 := 17) (pcT := 20) (pcF := 38) (EokI.iload_n (q := 1) dX11_trip_16) (JZ.eqF (tgt := 38) dX11_trip_17 (by decide))) (by decide) (Sok.seq (pc1 := 38) (Sok.seq (pc1 := 25) (Sok.setR_n (q := 2) (pc1 := 24) (EokR.getf (pc1 := 21) (j := 9) (ci := 11) (T := TX11) (N := 11) (EokR.aload_n (q := 0) dX11_trip_20) rfl wsX11_in (by decide) flX11_52 dX11_trip_21) (by decide) dX11_trip_24 (show 2 < 3 by decide)) (Sok.seq (pc1 := 33) (Sok.putR (ci := 11) (T := TX11) (NN := 11) (tt := tyX11) (j := 9) (pc1 := 26) (pc2 := 30) (EokR.aload_n (q := 0) dX11_trip_25) (EokR.getf (pc1 := 27) (j := 10) (ci := 11) (T := TX11) (N := 11) (EokR.aload_n (q := 0) dX11_trip_26) rfl wsX11_in (by decide) flX11_56 dX11_trip_27) (by decide) rfl wsX11_in tyX11_ok nmX11 (by decide) flX11_52 rfl (fun _ => rfl) (fun _ => rfl) dX11_trip_30) (Sok.putR (ci := 11) (T := TX11) (NN := 11) (tt := tyX11) (j := 10) (pc1 := 34) (pc2 := 35) (EokR.aload_n (q := 0) dX11_trip_33) (EokR.aload_n (q := 2) dX11_trip_34) (by decide) rfl wsX11_in tyX11_ok nmX11 (by decide) flX11_56 rfl (fun _ => rfl) (fun _ => rfl) dX11_trip_35))) (Sok.forget (pc := 38))) (Sok.skip (pc := 38))) (Sok.retI (pc1 := 39) (EokI.iload_n (q := 1) dX11_trip_38) (by decide) dX11_trip_39 rfl)))
/-! PassHuts.hut(II)I -/
theorem dX11_hut_0 : decode cX11_hut 0 = .ok (.aload_n 0, 1) := by decide +kernel
theorem dX11_hut_1 : decode cX11_hut 1 = .ok (.getfield 42, 3) := by decide +kernel
theorem dX11_hut_4 : decode cX11_hut 4 = .ok (.iload_n 1, 1) := by decide +kernel
theorem dX11_hut_5 : decode cX11_hut 5 = .ok (.invokevirtual 117, 3) := by decide +kernel
theorem dX11_hut_8 : decode cX11_hut 8 = .ok (.ifCond .ne 5, 3) := by decide +kernel
theorem dX11_hut_11 : decode cX11_hut 11 = .ok (.iconst (-1), 1) := by decide +kernel
theorem dX11_hut_12 : decode cX11_hut 12 = .ok (.ireturn, 1) := by decide +kernel
theorem dX11_hut_13 : decode cX11_hut 13 = .ok (.iload_n 2, 1) := by decide +kernel
theorem dX11_hut_14 : decode cX11_hut 14 = .ok (.tableswitch 89 0 3 #[30, 40, 56, 65], 30) := by decide +kernel
theorem dX11_hut_44 : decode cX11_hut 44 = .ok (.aload_n 0, 1) := by decide +kernel
theorem dX11_hut_45 : decode cX11_hut 45 = .ok (.getfield 42, 3) := by decide +kernel
theorem dX11_hut_48 : decode cX11_hut 48 = .ok (.getfield 121, 3) := by decide +kernel
theorem dX11_hut_51 : decode cX11_hut 51 = .ok (.iload_n 1, 1) := by decide +kernel
theorem dX11_hut_52 : decode cX11_hut 52 = .ok (.iaload, 1) := by decide +kernel
theorem dX11_hut_53 : decode cX11_hut 53 = .ok (.ireturn, 1) := by decide +kernel
theorem dX11_hut_54 : decode cX11_hut 54 = .ok (.aload_n 0, 1) := by decide +kernel
theorem dX11_hut_55 : decode cX11_hut 55 = .ok (.getfield 42, 3) := by decide +kernel
theorem dX11_hut_58 : decode cX11_hut 58 = .ok (.aload_n 0, 1) := by decide +kernel
theorem dX11_hut_59 : decode cX11_hut 59 = .ok (.getfield 35, 3) := by decide +kernel
theorem dX11_hut_62 : decode cX11_hut 62 = .ok (.getfield 125, 3) := by decide +kernel
theorem dX11_hut_65 : decode cX11_hut 65 = .ok (.iload_n 1, 1) := by decide +kernel
theorem dX11_hut_66 : decode cX11_hut 66 = .ok (.invokevirtual 128, 3) := by decide +kernel
theorem dX11_hut_69 : decode cX11_hut 69 = .ok (.ireturn, 1) := by decide +kernel
theorem dX11_hut_70 : decode cX11_hut 70 = .ok (.aload_n 0, 1) := by decide +kernel
theorem dX11_hut_71 : decode cX11_hut 71 = .ok (.getfield 42, 3) := by decide +kernel
theorem dX11_hut_74 : decode cX11_hut 74 = .ok (.iload_n 1, 1) := by decide +kernel
theorem dX11_hut_75 : decode cX11_hut 75 = .ok (.invokevirtual 132, 3) := by decide +kernel
theorem dX11_hut_78 : decode cX11_hut 78 = .ok (.ireturn, 1) := by decide +kernel
theorem dX11_hut_79 : decode cX11_hut 79 = .ok (.aload_n 0, 1) := by decide +kernel
theorem dX11_hut_80 : decode cX11_hut 80 = .ok (.getfield 42, 3) := by decide +kernel
theorem dX11_hut_83 : decode cX11_hut 83 = .ok (.aload_n 0, 1) := by decide +kernel
theorem dX11_hut_84 : decode cX11_hut 84 = .ok (.getfield 35, 3) := by decide +kernel
theorem dX11_hut_87 : decode cX11_hut 87 = .ok (.getfield 125, 3) := by decide +kernel
theorem dX11_hut_90 : decode cX11_hut 90 = .ok (.iload_n 1, 1) := by decide +kernel
theorem dX11_hut_91 : decode cX11_hut 91 = .ok (.invokevirtual 136, 3) := by decide +kernel
theorem dX11_hut_94 : decode cX11_hut 94 = .ok (.ifCond .eq 7, 3) := by decide +kernel
theorem dX11_hut_97 : decode cX11_hut 97 = .ok (.iconst 1, 1) := by decide +kernel
theorem dX11_hut_98 : decode cX11_hut 98 = .ok (.goto 4, 3) := by decide +kernel
theorem dX11_hut_101 : decode cX11_hut 101 = .ok (.iconst 0, 1) := by decide +kernel
theorem dX11_hut_102 : decode cX11_hut 102 = .ok (.ireturn, 1) := by decide +kernel
theorem dX11_hut_103 : decode cX11_hut 103 = .ok (.iconst (-1), 1) := by decide +kernel
theorem dX11_hut_104 : decode cX11_hut 104 = .ok (.ireturn, 1) := by decide +kernel
abbrev tX11_hut (k : Nat) : MT := (RX11, cX11_hut, 3, k, (some .int))
def mX11_hut : MX := bodyOf 3 (sSeq (sIf (cNot (cZ zne (iCallV 0 mX0_isHut (aR (rGet 11 7 (rLoc 0)) (aI (iLoc 1) aNil))))) (sRetI (iK (-1))) sSkip) (sSw (sSwitch 0 (iLoc 2) [(sRetI (iALd (rGet 0 0 (rGet 11 7 (rLoc 0))) (iLoc 1))), (sRetI (iCallV 0 mX0_loadsIn (aR (rGet 11 7 (rLoc 0)) (aI (iGet 5 9 (rGet 11 3 (rLoc 0))) (aI (iLoc 1) aNil))))), (sRetI (iCallV 0 mX0_neighbours (aR (rGet 11 7 (rLoc 0)) (aI (iLoc 1) aNil)))), (sRetI (iCond (cZ zne (iCallV 0 mX0_isFull (aR (rGet 11 7 (rLoc 0)) (aI (iGet 5 9 (rGet 11 3 (rLoc 0))) (aI (iLoc 1) aNil))))) (iK 1) (iK 0)))] (sRetI (iK (-1))))))
theorem kX11_hut (g : GT) : MK g 3 yX11_hut cX11_hut 3 (some .int) mX11_hut := MK.of (pcN := 99999) (pcB := 0) (pcC := 0) rfl (Sok.seq (pc1 := 13) (Sok.ite (pc1 := 11) (pc2 := 13) (Cok.not (Cok.zero (pc1 := 8) (pcT := 13) (pcF := 11) (EokI.iCallV (pc1 := 5) (Aok.aR (pc1 := 4) (EokR.getf (pc1 := 1) (j := 7) (ci := 11) (T := TX11) (N := 11) (EokR.aload_n (q := 0) dX11_hut_0) rfl wsX11_in (by decide) flX11_42 dX11_hut_1) (Aok.aI (pc1 := 5) (EokI.iload_n (q := 1) dX11_hut_4) Aok.nil)) (kX0_isHut g) rfl ykX0_isHut vkX11_117 (by decide) (by decide) dX11_hut_5) (JZ.neT (tgt := 13) dX11_hut_8 (by decide)))) (by decide) (Sok.retI (pc1 := 12) (EokI.iconst (v := (-1)) dX11_hut_11 (by decide)) (by decide) dX11_hut_12 rfl) (Sok.skip (pc := 13))) (Sok.swB (Sok.tswitch (pc1 := 14) (pd := 103) (pcs := [44, 54, 70, 79]) (pcN := 99999) (pcB := 99999) (EokI.iload_n (q := 2) dX11_hut_13) (by decide) dX11_hut_14 (by decide) rfl (by decide) (by decide) (sw_list (pd := 103) (d := (sRetI (iK (-1)))) ⟨(Sok.retI (pc1 := 53) (EokI.iALd (pc1 := 51) (pc2 := 52) (EokR.getf (pc1 := 48) (j := 0) (ci := 0) (T := TX0) (N := 17) (EokR.getf (pc1 := 45) (j := 7) (ci := 11) (T := TX11) (N := 11) (EokR.aload_n (q := 0) dX11_hut_44) rfl wsX11_in (by decide) flX11_42 dX11_hut_45) rfl wsX0_in (by decide) flX11_121 dX11_hut_48) (EokI.iload_n (q := 1) dX11_hut_51) dX11_hut_52) (by decide) dX11_hut_53 rfl), (Sok.retI (pc1 := 69) (EokI.iCallV (pc1 := 66) (Aok.aR (pc1 := 58) (EokR.getf (pc1 := 55) (j := 7) (ci := 11) (T := TX11) (N := 11) (EokR.aload_n (q := 0) dX11_hut_54) rfl wsX11_in (by decide) flX11_42 dX11_hut_55) (Aok.aI (pc1 := 65) (EokI.getf (pc1 := 62) (j := 9) (ci := 5) (T := TX5) (N := 13) (EokR.getf (pc1 := 59) (j := 3) (ci := 11) (T := TX11) (N := 11) (EokR.aload_n (q := 0) dX11_hut_58) rfl wsX11_in (by decide) flX11_35 dX11_hut_59) rfl wsX5_in (by decide) flX11_125 dX11_hut_62) (Aok.aI (pc1 := 66) (EokI.iload_n (q := 1) dX11_hut_65) Aok.nil))) (kX0_loadsIn g) rfl ykX0_loadsIn vkX11_128 (by decide) (by decide) dX11_hut_66) (by decide) dX11_hut_69 rfl), (Sok.retI (pc1 := 78) (EokI.iCallV (pc1 := 75) (Aok.aR (pc1 := 74) (EokR.getf (pc1 := 71) (j := 7) (ci := 11) (T := TX11) (N := 11) (EokR.aload_n (q := 0) dX11_hut_70) rfl wsX11_in (by decide) flX11_42 dX11_hut_71) (Aok.aI (pc1 := 75) (EokI.iload_n (q := 1) dX11_hut_74) Aok.nil)) (kX0_neighbours g) rfl ykX0_neighbours vkX11_132 (by decide) (by decide) dX11_hut_75) (by decide) dX11_hut_78 rfl), (Sok.retI (pc1 := 102) (EokI.cond' (pc1 := 97) (pc2 := 101) (Cok.zero (pc1 := 94) (pcT := 97) (pcF := 101) (EokI.iCallV (pc1 := 91) (Aok.aR (pc1 := 83) (EokR.getf (pc1 := 80) (j := 7) (ci := 11) (T := TX11) (N := 11) (EokR.aload_n (q := 0) dX11_hut_79) rfl wsX11_in (by decide) flX11_42 dX11_hut_80) (Aok.aI (pc1 := 90) (EokI.getf (pc1 := 87) (j := 9) (ci := 5) (T := TX5) (N := 13) (EokR.getf (pc1 := 84) (j := 3) (ci := 11) (T := TX11) (N := 11) (EokR.aload_n (q := 0) dX11_hut_83) rfl wsX11_in (by decide) flX11_35 dX11_hut_84) rfl wsX5_in (by decide) flX11_125 dX11_hut_87) (Aok.aI (pc1 := 91) (EokI.iload_n (q := 1) dX11_hut_90) Aok.nil))) (kX0_isFull g) rfl ykX0_isFull vkX11_136 (by decide) (by decide) dX11_hut_91) (JZ.neF (tgt := 101) dX11_hut_94 (by decide))) (EokI.goto (pc1 := 98) (pc2 := 102) (EokI.iconst (v := 1) dX11_hut_97 (by decide)) dX11_hut_98 (by decide)) (EokI.iconst (v := 0) dX11_hut_101 (by decide))) (by decide) dX11_hut_102 rfl), trivial⟩) (Sok.retI (pc1 := 104) (EokI.iconst (v := (-1)) dX11_hut_103 (by decide)) (by decide) dX11_hut_104 rfl))))
/-! PassHuts.price(II)I -/
theorem dX11_price_0 : decode cX11_price 0 = .ok (.aload_n 0, 1) := by decide +kernel
theorem dX11_price_1 : decode cX11_price 1 = .ok (.getfield 42, 3) := by decide +kernel
theorem dX11_price_4 : decode cX11_price 4 = .ok (.aload_n 0, 1) := by decide +kernel
theorem dX11_price_5 : decode cX11_price 5 = .ok (.getfield 42, 3) := by decide +kernel
theorem dX11_price_8 : decode cX11_price 8 = .ok (.iload_n 1, 1) := by decide +kernel
theorem dX11_price_9 : decode cX11_price 9 = .ok (.iload_n 2, 1) := by decide +kernel
theorem dX11_price_10 : decode cX11_price 10 = .ok (.invokevirtual 140, 3) := by decide +kernel
theorem dX11_price_13 : decode cX11_price 13 = .ok (.invokevirtual 143, 3) := by decide +kernel
theorem dX11_price_16 : decode cX11_price 16 = .ok (.ireturn, 1) := by decide +kernel
abbrev tX11_price (k : Nat) : MT := (RX11, cX11_price, 3, k, (some .int))
def mX11_price : MX := bodyOf 3 (sRetI (iCallV 0 mX0_priceOver (aR (rGet 11 7 (rLoc 0)) (aI (iCallV 0 mX0_wayBetween (aR (rGet 11 7 (rLoc 0)) (aI (iLoc 1) (aI (iLoc 2) aNil)))) aNil))))
theorem kX11_price (g : GT) : MK g 2 yX11_price cX11_price 3 (some .int) mX11_price := MK.of (pcN := 99999) (pcB := 0) (pcC := 0) rfl (Sok.retI (pc1 := 16) (EokI.iCallV (pc1 := 13) (Aok.aR (pc1 := 4) (EokR.getf (pc1 := 1) (j := 7) (ci := 11) (T := TX11) (N := 11) (EokR.aload_n (q := 0) dX11_price_0) rfl wsX11_in (by decide) flX11_42 dX11_price_1) (Aok.aI (pc1 := 13) (EokI.iCallV (pc1 := 10) (Aok.aR (pc1 := 8) (EokR.getf (pc1 := 5) (j := 7) (ci := 11) (T := TX11) (N := 11) (EokR.aload_n (q := 0) dX11_price_4) rfl wsX11_in (by decide) flX11_42 dX11_price_5) (Aok.aI (pc1 := 9) (EokI.iload_n (q := 1) dX11_price_8) (Aok.aI (pc1 := 10) (EokI.iload_n (q := 2) dX11_price_9) Aok.nil))) (kX0_wayBetween g) rfl ykX0_wayBetween vkX11_140 (by decide) (by decide) dX11_price_10) Aok.nil)) (kX0_priceOver g) rfl ykX0_priceOver vkX11_143 (by decide) (by decide) dX11_price_13) (by decide) dX11_price_16 rfl)
/-! PassHuts.can(II)Z -/
theorem dX11_can_0 : decode cX11_can 0 = .ok (.aload_n 0, 1) := by decide +kernel
theorem dX11_can_1 : decode cX11_can 1 = .ok (.getfield 42, 3) := by decide +kernel
theorem dX11_can_4 : decode cX11_can 4 = .ok (.aload_n 0, 1) := by decide +kernel
theorem dX11_can_5 : decode cX11_can 5 = .ok (.getfield 35, 3) := by decide +kernel
theorem dX11_can_8 : decode cX11_can 8 = .ok (.getfield 125, 3) := by decide +kernel
theorem dX11_can_11 : decode cX11_can 11 = .ok (.iload_n 1, 1) := by decide +kernel
theorem dX11_can_12 : decode cX11_can 12 = .ok (.iload_n 2, 1) := by decide +kernel
theorem dX11_can_13 : decode cX11_can 13 = .ok (.invokevirtual 146, 3) := by decide +kernel
theorem dX11_can_16 : decode cX11_can 16 = .ok (.ifCond .lt 7, 3) := by decide +kernel
theorem dX11_can_19 : decode cX11_can 19 = .ok (.iconst 1, 1) := by decide +kernel
theorem dX11_can_20 : decode cX11_can 20 = .ok (.goto 4, 3) := by decide +kernel
theorem dX11_can_23 : decode cX11_can 23 = .ok (.iconst 0, 1) := by decide +kernel
theorem dX11_can_24 : decode cX11_can 24 = .ok (.ireturn, 1) := by decide +kernel
abbrev tX11_can (k : Nat) : MT := (RX11, cX11_can, 3, k, (some .boolean))
def mX11_can : MX := bodyOf 3 (sRetZ (iBool (cZ zge (iCallV 0 mX0_afterCarrying (aR (rGet 11 7 (rLoc 0)) (aI (iGet 5 9 (rGet 11 3 (rLoc 0))) (aI (iLoc 1) (aI (iLoc 2) aNil))))))))
theorem kX11_can (g : GT) : MK g 5 yX11_can cX11_can 3 (some .boolean) mX11_can := MK.of (pcN := 99999) (pcB := 0) (pcC := 0) rfl (Sok.retZ (pc1 := 24) (EokI.cond' (pc1 := 19) (pc2 := 23) (Cok.zero (pc1 := 16) (pcT := 19) (pcF := 23) (EokI.iCallV (pc1 := 13) (Aok.aR (pc1 := 4) (EokR.getf (pc1 := 1) (j := 7) (ci := 11) (T := TX11) (N := 11) (EokR.aload_n (q := 0) dX11_can_0) rfl wsX11_in (by decide) flX11_42 dX11_can_1) (Aok.aI (pc1 := 11) (EokI.getf (pc1 := 8) (j := 9) (ci := 5) (T := TX5) (N := 13) (EokR.getf (pc1 := 5) (j := 3) (ci := 11) (T := TX11) (N := 11) (EokR.aload_n (q := 0) dX11_can_4) rfl wsX11_in (by decide) flX11_35 dX11_can_5) rfl wsX5_in (by decide) flX11_125 dX11_can_8) (Aok.aI (pc1 := 12) (EokI.iload_n (q := 1) dX11_can_11) (Aok.aI (pc1 := 13) (EokI.iload_n (q := 2) dX11_can_12) Aok.nil)))) (kX0_afterCarrying g) rfl ykX0_afterCarrying vkX11_146 (by decide) (by decide) dX11_can_13) (JZ.geF (tgt := 23) dX11_can_16 (by decide))) (EokI.goto (pc1 := 20) (pc2 := 24) (EokI.iconst (v := 1) dX11_can_19 (by decide)) dX11_can_20 (by decide)) (EokI.iconst (v := 0) dX11_can_23 (by decide))) (by decide) dX11_can_24 rfl)
/-! PassHuts.carry(II)I -/
theorem dX11_carry_0 : decode cX11_carry 0 = .ok (.aload_n 0, 1) := by decide +kernel
theorem dX11_carry_1 : decode cX11_carry 1 = .ok (.getfield 42, 3) := by decide +kernel
theorem dX11_carry_4 : decode cX11_carry 4 = .ok (.aload_n 0, 1) := by decide +kernel
theorem dX11_carry_5 : decode cX11_carry 5 = .ok (.getfield 35, 3) := by decide +kernel
theorem dX11_carry_8 : decode cX11_carry 8 = .ok (.getfield 125, 3) := by decide +kernel
theorem dX11_carry_11 : decode cX11_carry 11 = .ok (.iload_n 1, 1) := by decide +kernel
theorem dX11_carry_12 : decode cX11_carry 12 = .ok (.iload_n 2, 1) := by decide +kernel
theorem dX11_carry_13 : decode cX11_carry 13 = .ok (.invokevirtual 146, 3) := by decide +kernel
theorem dX11_carry_16 : decode cX11_carry 16 = .ok (.istore_n 3, 1) := by decide +kernel
theorem dX11_carry_17 : decode cX11_carry 17 = .ok (.iload_n 3, 1) := by decide +kernel
theorem dX11_carry_18 : decode cX11_carry 18 = .ok (.ifCond .ge 5, 3) := by decide +kernel
theorem dX11_carry_21 : decode cX11_carry 21 = .ok (.iconst (-1), 1) := by decide +kernel
theorem dX11_carry_22 : decode cX11_carry 22 = .ok (.ireturn, 1) := by decide +kernel
theorem dX11_carry_23 : decode cX11_carry 23 = .ok (.aload_n 0, 1) := by decide +kernel
theorem dX11_carry_24 : decode cX11_carry 24 = .ok (.getfield 35, 3) := by decide +kernel
theorem dX11_carry_27 : decode cX11_carry 27 = .ok (.iload_n 3, 1) := by decide +kernel
theorem dX11_carry_28 : decode cX11_carry 28 = .ok (.iconst 1, 1) := by decide +kernel
theorem dX11_carry_29 : decode cX11_carry 29 = .ok (.invokevirtual 150, 3) := by decide +kernel
theorem dX11_carry_32 : decode cX11_carry 32 = .ok (.aload_n 0, 1) := by decide +kernel
theorem dX11_carry_33 : decode cX11_carry 33 = .ok (.getfield 42, 3) := by decide +kernel
theorem dX11_carry_36 : decode cX11_carry 36 = .ok (.aload_n 0, 1) := by decide +kernel
theorem dX11_carry_37 : decode cX11_carry 37 = .ok (.getfield 42, 3) := by decide +kernel
theorem dX11_carry_40 : decode cX11_carry 40 = .ok (.iload_n 1, 1) := by decide +kernel
theorem dX11_carry_41 : decode cX11_carry 41 = .ok (.iload_n 2, 1) := by decide +kernel
theorem dX11_carry_42 : decode cX11_carry 42 = .ok (.invokevirtual 140, 3) := by decide +kernel
theorem dX11_carry_45 : decode cX11_carry 45 = .ok (.invokevirtual 143, 3) := by decide +kernel
theorem dX11_carry_48 : decode cX11_carry 48 = .ok (.ireturn, 1) := by decide +kernel
abbrev tX11_carry (k : Nat) : MT := (RX11, cX11_carry, 4, k, (some .int))
def mX11_carry : MX := bodyOf 4 (sSeq (sSetI 3 (iCallV 0 mX0_afterCarrying (aR (rGet 11 7 (rLoc 0)) (aI (iGet 5 9 (rGet 11 3 (rLoc 0))) (aI (iLoc 1) (aI (iLoc 2) aNil)))))) (sSeq (sIf (cZ zlt (iLoc 3)) (sRetI (iK (-1))) sSkip) (sSeq (sCallV 5 mX5_turnTo (aR (rGet 11 3 (rLoc 0)) (aI (iLoc 3) (aI (iK 1) aNil)))) (sRetI (iCallV 0 mX0_priceOver (aR (rGet 11 7 (rLoc 0)) (aI (iCallV 0 mX0_wayBetween (aR (rGet 11 7 (rLoc 0)) (aI (iLoc 1) (aI (iLoc 2) aNil)))) aNil)))))))
theorem kX11_carry (g : GT) : MK g 5 yX11_carry cX11_carry 4 (some .int) mX11_carry := MK.of (pcN := 99999) (pcB := 0) (pcC := 0) rfl (Sok.seq (pc1 := 17) (Sok.setI_n (q := 3) (pc1 := 16) (EokI.iCallV (pc1 := 13) (Aok.aR (pc1 := 4) (EokR.getf (pc1 := 1) (j := 7) (ci := 11) (T := TX11) (N := 11) (EokR.aload_n (q := 0) dX11_carry_0) rfl wsX11_in (by decide) flX11_42 dX11_carry_1) (Aok.aI (pc1 := 11) (EokI.getf (pc1 := 8) (j := 9) (ci := 5) (T := TX5) (N := 13) (EokR.getf (pc1 := 5) (j := 3) (ci := 11) (T := TX11) (N := 11) (EokR.aload_n (q := 0) dX11_carry_4) rfl wsX11_in (by decide) flX11_35 dX11_carry_5) rfl wsX5_in (by decide) flX11_125 dX11_carry_8) (Aok.aI (pc1 := 12) (EokI.iload_n (q := 1) dX11_carry_11) (Aok.aI (pc1 := 13) (EokI.iload_n (q := 2) dX11_carry_12) Aok.nil)))) (kX0_afterCarrying g) rfl ykX0_afterCarrying vkX11_146 (by decide) (by decide) dX11_carry_13) (by decide) dX11_carry_16 (show 3 < 4 by decide)) (Sok.seq (pc1 := 23) (Sok.ite (pc1 := 21) (pc2 := 23) (Cok.zero (pc1 := 18) (pcT := 21) (pcF := 23) (EokI.iload_n (q := 3) dX11_carry_17) (JZ.ltF (tgt := 23) dX11_carry_18 (by decide))) (by decide) (Sok.retI (pc1 := 22) (EokI.iconst (v := (-1)) dX11_carry_21 (by decide)) (by decide) dX11_carry_22 rfl) (Sok.skip (pc := 23))) (Sok.seq (pc1 := 32) (Sok.sCallV (pc1 := 29) (Aok.aR (pc1 := 27) (EokR.getf (pc1 := 24) (j := 3) (ci := 11) (T := TX11) (N := 11) (EokR.aload_n (q := 0) dX11_carry_23) rfl wsX11_in (by decide) flX11_35 dX11_carry_24) (Aok.aI (pc1 := 28) (EokI.iload_n (q := 3) dX11_carry_27) (Aok.aI (pc1 := 29) (EokI.iconst (v := 1) dX11_carry_28 (by decide)) Aok.nil))) (by decide) (kX5_turnTo g) rfl ykX5_turnTo vkX11_150 (by decide) (by decide) dX11_carry_29) (Sok.retI (pc1 := 48) (EokI.iCallV (pc1 := 45) (Aok.aR (pc1 := 36) (EokR.getf (pc1 := 33) (j := 7) (ci := 11) (T := TX11) (N := 11) (EokR.aload_n (q := 0) dX11_carry_32) rfl wsX11_in (by decide) flX11_42 dX11_carry_33) (Aok.aI (pc1 := 45) (EokI.iCallV (pc1 := 42) (Aok.aR (pc1 := 40) (EokR.getf (pc1 := 37) (j := 7) (ci := 11) (T := TX11) (N := 11) (EokR.aload_n (q := 0) dX11_carry_36) rfl wsX11_in (by decide) flX11_42 dX11_carry_37) (Aok.aI (pc1 := 41) (EokI.iload_n (q := 1) dX11_carry_40) (Aok.aI (pc1 := 42) (EokI.iload_n (q := 2) dX11_carry_41) Aok.nil))) (kX0_wayBetween g) rfl ykX0_wayBetween vkX11_140 (by decide) (by decide) dX11_carry_42) Aok.nil)) (kX0_priceOver g) rfl ykX0_priceOver vkX11_143 (by decide) (by decide) dX11_carry_45) (by decide) dX11_carry_48 rfl))))
/-! PassHuts.turnAndTell(II)I -/
theorem dX11_turnAndTell_0 : decode cX11_turnAndTell 0 = .ok (.iload_n 1, 1) := by decide +kernel
theorem dX11_turnAndTell_1 : decode cX11_turnAndTell 1 = .ok (.ifCond .ge 5, 3) := by decide +kernel
theorem dX11_turnAndTell_4 : decode cX11_turnAndTell 4 = .ok (.iconst (-1), 1) := by decide +kernel
theorem dX11_turnAndTell_5 : decode cX11_turnAndTell 5 = .ok (.ireturn, 1) := by decide +kernel
theorem dX11_turnAndTell_6 : decode cX11_turnAndTell 6 = .ok (.aload_n 0, 1) := by decide +kernel
theorem dX11_turnAndTell_7 : decode cX11_turnAndTell 7 = .ok (.getfield 35, 3) := by decide +kernel
theorem dX11_turnAndTell_10 : decode cX11_turnAndTell 10 = .ok (.iload_n 1, 1) := by decide +kernel
theorem dX11_turnAndTell_11 : decode cX11_turnAndTell 11 = .ok (.iconst 0, 1) := by decide +kernel
theorem dX11_turnAndTell_12 : decode cX11_turnAndTell 12 = .ok (.invokevirtual 150, 3) := by decide +kernel
theorem dX11_turnAndTell_15 : decode cX11_turnAndTell 15 = .ok (.aload_n 0, 1) := by decide +kernel
theorem dX11_turnAndTell_16 : decode cX11_turnAndTell 16 = .ok (.getfield 42, 3) := by decide +kernel
theorem dX11_turnAndTell_19 : decode cX11_turnAndTell 19 = .ok (.iload_n 1, 1) := by decide +kernel
theorem dX11_turnAndTell_20 : decode cX11_turnAndTell 20 = .ok (.iload_n 2, 1) := by decide +kernel
theorem dX11_turnAndTell_21 : decode cX11_turnAndTell 21 = .ok (.invokevirtual 128, 3) := by decide +kernel
theorem dX11_turnAndTell_24 : decode cX11_turnAndTell 24 = .ok (.ireturn, 1) := by decide +kernel
abbrev tX11_turnAndTell (k : Nat) : MT := (RX11, cX11_turnAndTell, 3, k, (some .int))
def mX11_turnAndTell : MX := bodyOf 3 (sSeq (sIf (cZ zlt (iLoc 1)) (sRetI (iK (-1))) sSkip) (sSeq (sCallV 5 mX5_turnTo (aR (rGet 11 3 (rLoc 0)) (aI (iLoc 1) (aI (iK 0) aNil)))) (sRetI (iCallV 0 mX0_loadsIn (aR (rGet 11 7 (rLoc 0)) (aI (iLoc 1) (aI (iLoc 2) aNil)))))))
theorem kX11_turnAndTell (g : GT) : MK g 2 yX11_turnAndTell cX11_turnAndTell 3 (some .int) mX11_turnAndTell := MK.of (pcN := 99999) (pcB := 0) (pcC := 0) rfl (Sok.seq (pc1 := 6) (Sok.ite (pc1 := 4) (pc2 := 6) (Cok.zero (pc1 := 1) (pcT := 4) (pcF := 6) (EokI.iload_n (q := 1) dX11_turnAndTell_0) (JZ.ltF (tgt := 6) dX11_turnAndTell_1 (by decide))) (by decide) (Sok.retI (pc1 := 5) (EokI.iconst (v := (-1)) dX11_turnAndTell_4 (by decide)) (by decide) dX11_turnAndTell_5 rfl) (Sok.skip (pc := 6))) (Sok.seq (pc1 := 15) (Sok.sCallV (pc1 := 12) (Aok.aR (pc1 := 10) (EokR.getf (pc1 := 7) (j := 3) (ci := 11) (T := TX11) (N := 11) (EokR.aload_n (q := 0) dX11_turnAndTell_6) rfl wsX11_in (by decide) flX11_35 dX11_turnAndTell_7) (Aok.aI (pc1 := 11) (EokI.iload_n (q := 1) dX11_turnAndTell_10) (Aok.aI (pc1 := 12) (EokI.iconst (v := 0) dX11_turnAndTell_11 (by decide)) Aok.nil))) (by decide) (kX5_turnTo g) rfl ykX5_turnTo vkX11_150 (by decide) (by decide) dX11_turnAndTell_12) (Sok.retI (pc1 := 24) (EokI.iCallV (pc1 := 21) (Aok.aR (pc1 := 19) (EokR.getf (pc1 := 16) (j := 7) (ci := 11) (T := TX11) (N := 11) (EokR.aload_n (q := 0) dX11_turnAndTell_15) rfl wsX11_in (by decide) flX11_42 dX11_turnAndTell_16) (Aok.aI (pc1 := 20) (EokI.iload_n (q := 1) dX11_turnAndTell_19) (Aok.aI (pc1 := 21) (EokI.iload_n (q := 2) dX11_turnAndTell_20) Aok.nil))) (kX0_loadsIn g) rfl ykX0_loadsIn vkX11_128 (by decide) (by decide) dX11_turnAndTell_21) (by decide) dX11_turnAndTell_24 rfl)))
/-! PassHuts.lay(I)I -/
theorem dX11_lay_0 : decode cX11_lay 0 = .ok (.aload_n 0, 1) := by decide +kernel
theorem dX11_lay_1 : decode cX11_lay 1 = .ok (.aload_n 0, 1) := by decide +kernel
theorem dX11_lay_2 : decode cX11_lay 2 = .ok (.getfield 42, 3) := by decide +kernel
theorem dX11_lay_5 : decode cX11_lay 5 = .ok (.aload_n 0, 1) := by decide +kernel
theorem dX11_lay_6 : decode cX11_lay 6 = .ok (.getfield 35, 3) := by decide +kernel
theorem dX11_lay_9 : decode cX11_lay 9 = .ok (.getfield 125, 3) := by decide +kernel
theorem dX11_lay_12 : decode cX11_lay 12 = .ok (.iload_n 1, 1) := by decide +kernel
theorem dX11_lay_13 : decode cX11_lay 13 = .ok (.invokevirtual 154, 3) := by decide +kernel
theorem dX11_lay_16 : decode cX11_lay 16 = .ok (.iload_n 1, 1) := by decide +kernel
theorem dX11_lay_17 : decode cX11_lay 17 = .ok (.invokevirtual 157, 3) := by decide +kernel
theorem dX11_lay_20 : decode cX11_lay 20 = .ok (.ireturn, 1) := by decide +kernel
abbrev tX11_lay (k : Nat) : MT := (RX11, cX11_lay, 2, k, (some .int))
def mX11_lay : MX := bodyOf 2 (sRetI (iCallV 11 mX11_turnAndTell (aR (rLoc 0) (aI (iCallV 0 mX0_afterLaying (aR (rGet 11 7 (rLoc 0)) (aI (iGet 5 9 (rGet 11 3 (rLoc 0))) (aI (iLoc 1) aNil)))) (aI (iLoc 1) aNil)))))
theorem kX11_lay (g : GT) : MK g 4 yX11_lay cX11_lay 2 (some .int) mX11_lay := MK.of (pcN := 99999) (pcB := 0) (pcC := 0) rfl (Sok.retI (pc1 := 20) (EokI.iCallV (pc1 := 17) (Aok.aR (pc1 := 1) (EokR.aload_n (q := 0) dX11_lay_0) (Aok.aI (pc1 := 16) (EokI.iCallV (pc1 := 13) (Aok.aR (pc1 := 5) (EokR.getf (pc1 := 2) (j := 7) (ci := 11) (T := TX11) (N := 11) (EokR.aload_n (q := 0) dX11_lay_1) rfl wsX11_in (by decide) flX11_42 dX11_lay_2) (Aok.aI (pc1 := 12) (EokI.getf (pc1 := 9) (j := 9) (ci := 5) (T := TX5) (N := 13) (EokR.getf (pc1 := 6) (j := 3) (ci := 11) (T := TX11) (N := 11) (EokR.aload_n (q := 0) dX11_lay_5) rfl wsX11_in (by decide) flX11_35 dX11_lay_6) rfl wsX5_in (by decide) flX11_125 dX11_lay_9) (Aok.aI (pc1 := 13) (EokI.iload_n (q := 1) dX11_lay_12) Aok.nil))) (kX0_afterLaying g) rfl ykX0_afterLaying vkX11_154 (by decide) (by decide) dX11_lay_13) (Aok.aI (pc1 := 17) (EokI.iload_n (q := 1) dX11_lay_16) Aok.nil))) (kX11_turnAndTell g) rfl ykX11_turnAndTell vkX11_157 (by decide) (by decide) dX11_lay_17) (by decide) dX11_lay_20 rfl)
/-! PassHuts.eat(I)I -/
theorem dX11_eat_0 : decode cX11_eat 0 = .ok (.aload_n 0, 1) := by decide +kernel
theorem dX11_eat_1 : decode cX11_eat 1 = .ok (.aload_n 0, 1) := by decide +kernel
theorem dX11_eat_2 : decode cX11_eat 2 = .ok (.getfield 42, 3) := by decide +kernel
theorem dX11_eat_5 : decode cX11_eat 5 = .ok (.aload_n 0, 1) := by decide +kernel
theorem dX11_eat_6 : decode cX11_eat 6 = .ok (.getfield 35, 3) := by decide +kernel
theorem dX11_eat_9 : decode cX11_eat 9 = .ok (.getfield 125, 3) := by decide +kernel
theorem dX11_eat_12 : decode cX11_eat 12 = .ok (.iload_n 1, 1) := by decide +kernel
theorem dX11_eat_13 : decode cX11_eat 13 = .ok (.invokevirtual 160, 3) := by decide +kernel
theorem dX11_eat_16 : decode cX11_eat 16 = .ok (.iload_n 1, 1) := by decide +kernel
theorem dX11_eat_17 : decode cX11_eat 17 = .ok (.invokevirtual 157, 3) := by decide +kernel
theorem dX11_eat_20 : decode cX11_eat 20 = .ok (.ireturn, 1) := by decide +kernel
abbrev tX11_eat (k : Nat) : MT := (RX11, cX11_eat, 2, k, (some .int))
def mX11_eat : MX := bodyOf 2 (sRetI (iCallV 11 mX11_turnAndTell (aR (rLoc 0) (aI (iCallV 0 mX0_afterEating (aR (rGet 11 7 (rLoc 0)) (aI (iGet 5 9 (rGet 11 3 (rLoc 0))) (aI (iLoc 1) aNil)))) (aI (iLoc 1) aNil)))))
theorem kX11_eat (g : GT) : MK g 3 yX11_eat cX11_eat 2 (some .int) mX11_eat := MK.of (pcN := 99999) (pcB := 0) (pcC := 0) rfl (Sok.retI (pc1 := 20) (EokI.iCallV (pc1 := 17) (Aok.aR (pc1 := 1) (EokR.aload_n (q := 0) dX11_eat_0) (Aok.aI (pc1 := 16) (EokI.iCallV (pc1 := 13) (Aok.aR (pc1 := 5) (EokR.getf (pc1 := 2) (j := 7) (ci := 11) (T := TX11) (N := 11) (EokR.aload_n (q := 0) dX11_eat_1) rfl wsX11_in (by decide) flX11_42 dX11_eat_2) (Aok.aI (pc1 := 12) (EokI.getf (pc1 := 9) (j := 9) (ci := 5) (T := TX5) (N := 13) (EokR.getf (pc1 := 6) (j := 3) (ci := 11) (T := TX11) (N := 11) (EokR.aload_n (q := 0) dX11_eat_5) rfl wsX11_in (by decide) flX11_35 dX11_eat_6) rfl wsX5_in (by decide) flX11_125 dX11_eat_9) (Aok.aI (pc1 := 13) (EokI.iload_n (q := 1) dX11_eat_12) Aok.nil))) (kX0_afterEating g) rfl ykX0_afterEating vkX11_160 (by decide) (by decide) dX11_eat_13) (Aok.aI (pc1 := 17) (EokI.iload_n (q := 1) dX11_eat_16) Aok.nil))) (kX11_turnAndTell g) rfl ykX11_turnAndTell vkX11_157 (by decide) (by decide) dX11_eat_17) (by decide) dX11_eat_20 rfl)
/-! PassHuts.undo()Z -/
theorem dX11_undo_0 : decode cX11_undo 0 = .ok (.aload_n 0, 1) := by decide +kernel
theorem dX11_undo_1 : decode cX11_undo 1 = .ok (.getfield 35, 3) := by decide +kernel
theorem dX11_undo_4 : decode cX11_undo 4 = .ok (.invokevirtual 163, 3) := by decide +kernel
theorem dX11_undo_7 : decode cX11_undo 7 = .ok (.ireturn, 1) := by decide +kernel
abbrev tX11_undo (k : Nat) : MT := (RX11, cX11_undo, 1, k, (some .boolean))
def mX11_undo : MX := bodyOf 1 (sRetZ (iCallV 5 mX5_stepBack (aR (rGet 11 3 (rLoc 0)) aNil)))
theorem kX11_undo (g : GT) : MK g 1 yX11_undo cX11_undo 1 (some .boolean) mX11_undo := MK.of (pcN := 99999) (pcB := 0) (pcC := 0) rfl (Sok.retZ (pc1 := 7) (EokI.iCallV (pc1 := 4) (Aok.aR (pc1 := 4) (EokR.getf (pc1 := 1) (j := 3) (ci := 11) (T := TX11) (N := 11) (EokR.aload_n (q := 0) dX11_undo_0) rfl wsX11_in (by decide) flX11_35 dX11_undo_1) Aok.nil) (kX5_stepBack g) rfl ykX5_stepBack vkX11_163 (by decide) (by decide) dX11_undo_4) (by decide) dX11_undo_7 rfl)
/-! PassHuts.judged(I)I -/
theorem dX11_judged_0 : decode cX11_judged 0 = .ok (.iload_n 1, 1) := by decide +kernel
theorem dX11_judged_1 : decode cX11_judged 1 = .ok (.tableswitch 84 0 2 #[27, 46, 65], 27) := by decide +kernel
theorem dX11_judged_28 : decode cX11_judged 28 = .ok (.aload_n 0, 1) := by decide +kernel
theorem dX11_judged_29 : decode cX11_judged 29 = .ok (.getfield 52, 3) := by decide +kernel
theorem dX11_judged_32 : decode cX11_judged 32 = .ok (.aload_n 0, 1) := by decide +kernel
theorem dX11_judged_33 : decode cX11_judged 33 = .ok (.getfield 42, 3) := by decide +kernel
theorem dX11_judged_36 : decode cX11_judged 36 = .ok (.invokevirtual 167, 3) := by decide +kernel
theorem dX11_judged_39 : decode cX11_judged 39 = .ok (.aload_n 0, 1) := by decide +kernel
theorem dX11_judged_40 : decode cX11_judged 40 = .ok (.getfield 52, 3) := by decide +kernel
theorem dX11_judged_43 : decode cX11_judged 43 = .ok (.getfield 170, 3) := by decide +kernel
theorem dX11_judged_46 : decode cX11_judged 46 = .ok (.ireturn, 1) := by decide +kernel
theorem dX11_judged_47 : decode cX11_judged 47 = .ok (.aload_n 0, 1) := by decide +kernel
theorem dX11_judged_48 : decode cX11_judged 48 = .ok (.getfield 52, 3) := by decide +kernel
theorem dX11_judged_51 : decode cX11_judged 51 = .ok (.aload_n 0, 1) := by decide +kernel
theorem dX11_judged_52 : decode cX11_judged 52 = .ok (.getfield 42, 3) := by decide +kernel
theorem dX11_judged_55 : decode cX11_judged 55 = .ok (.invokevirtual 167, 3) := by decide +kernel
theorem dX11_judged_58 : decode cX11_judged 58 = .ok (.aload_n 0, 1) := by decide +kernel
theorem dX11_judged_59 : decode cX11_judged 59 = .ok (.getfield 52, 3) := by decide +kernel
theorem dX11_judged_62 : decode cX11_judged 62 = .ok (.getfield 173, 3) := by decide +kernel
theorem dX11_judged_65 : decode cX11_judged 65 = .ok (.ireturn, 1) := by decide +kernel
theorem dX11_judged_66 : decode cX11_judged 66 = .ok (.aload_n 0, 1) := by decide +kernel
theorem dX11_judged_67 : decode cX11_judged 67 = .ok (.getfield 52, 3) := by decide +kernel
theorem dX11_judged_70 : decode cX11_judged 70 = .ok (.aload_n 0, 1) := by decide +kernel
theorem dX11_judged_71 : decode cX11_judged 71 = .ok (.getfield 42, 3) := by decide +kernel
theorem dX11_judged_74 : decode cX11_judged 74 = .ok (.invokevirtual 167, 3) := by decide +kernel
theorem dX11_judged_77 : decode cX11_judged 77 = .ok (.aload_n 0, 1) := by decide +kernel
theorem dX11_judged_78 : decode cX11_judged 78 = .ok (.getfield 52, 3) := by decide +kernel
theorem dX11_judged_81 : decode cX11_judged 81 = .ok (.getfield 176, 3) := by decide +kernel
theorem dX11_judged_84 : decode cX11_judged 84 = .ok (.ireturn, 1) := by decide +kernel
theorem dX11_judged_85 : decode cX11_judged 85 = .ok (.bipush (-2), 2) := by decide +kernel
theorem dX11_judged_87 : decode cX11_judged 87 = .ok (.ireturn, 1) := by decide +kernel
abbrev tX11_judged (k : Nat) : MT := (RX11, cX11_judged, 2, k, (some .int))
def mX11_judged : MX := bodyOf 2 (sSw (sSwitch 0 (iLoc 1) [(sSeq (sCallV 9 mX9_runOver (aR (rGet 11 9 (rLoc 0)) (aR (rGet 11 7 (rLoc 0)) aNil))) (sRetI (iGet 9 4 (rGet 11 9 (rLoc 0))))), (sSeq (sCallV 9 mX9_runOver (aR (rGet 11 9 (rLoc 0)) (aR (rGet 11 7 (rLoc 0)) aNil))) (sRetI (iGet 9 5 (rGet 11 9 (rLoc 0))))), (sSeq (sCallV 9 mX9_runOver (aR (rGet 11 9 (rLoc 0)) (aR (rGet 11 7 (rLoc 0)) aNil))) (sRetI (iGet 9 6 (rGet 11 9 (rLoc 0)))))] (sRetI (iK (-2)))))
theorem kX11_judged (g : GT) : MK g 7 yX11_judged cX11_judged 2 (some .int) mX11_judged := MK.of (pcN := 99999) (pcB := 0) (pcC := 0) rfl (Sok.swB (Sok.tswitch (pc1 := 1) (pd := 85) (pcs := [28, 47, 66]) (pcN := 99999) (pcB := 99999) (EokI.iload_n (q := 1) dX11_judged_0) (by decide) dX11_judged_1 (by decide) rfl (by decide) (by decide) (sw_list (pd := 85) (d := (sRetI (iK (-2)))) ⟨(Sok.seq (pc1 := 39) (Sok.sCallV (pc1 := 36) (Aok.aR (pc1 := 32) (EokR.getf (pc1 := 29) (j := 9) (ci := 11) (T := TX11) (N := 11) (EokR.aload_n (q := 0) dX11_judged_28) rfl wsX11_in (by decide) flX11_52 dX11_judged_29) (Aok.aR (pc1 := 36) (EokR.getf (pc1 := 33) (j := 7) (ci := 11) (T := TX11) (N := 11) (EokR.aload_n (q := 0) dX11_judged_32) rfl wsX11_in (by decide) flX11_42 dX11_judged_33) Aok.nil)) (by decide) (kX9_runOver g) rfl ykX9_runOver vkX11_167 (by decide) (by decide) dX11_judged_36) (Sok.retI (pc1 := 46) (EokI.getf (pc1 := 43) (j := 4) (ci := 9) (T := TX9) (N := 7) (EokR.getf (pc1 := 40) (j := 9) (ci := 11) (T := TX11) (N := 11) (EokR.aload_n (q := 0) dX11_judged_39) rfl wsX11_in (by decide) flX11_52 dX11_judged_40) rfl wsX9_in (by decide) flX11_170 dX11_judged_43) (by decide) dX11_judged_46 rfl)), (Sok.seq (pc1 := 58) (Sok.sCallV (pc1 := 55) (Aok.aR (pc1 := 51) (EokR.getf (pc1 := 48) (j := 9) (ci := 11) (T := TX11) (N := 11) (EokR.aload_n (q := 0) dX11_judged_47) rfl wsX11_in (by decide) flX11_52 dX11_judged_48) (Aok.aR (pc1 := 55) (EokR.getf (pc1 := 52) (j := 7) (ci := 11) (T := TX11) (N := 11) (EokR.aload_n (q := 0) dX11_judged_51) rfl wsX11_in (by decide) flX11_42 dX11_judged_52) Aok.nil)) (by decide) (kX9_runOver g) rfl ykX9_runOver vkX11_167 (by decide) (by decide) dX11_judged_55) (Sok.retI (pc1 := 65) (EokI.getf (pc1 := 62) (j := 5) (ci := 9) (T := TX9) (N := 7) (EokR.getf (pc1 := 59) (j := 9) (ci := 11) (T := TX11) (N := 11) (EokR.aload_n (q := 0) dX11_judged_58) rfl wsX11_in (by decide) flX11_52 dX11_judged_59) rfl wsX9_in (by decide) flX11_173 dX11_judged_62) (by decide) dX11_judged_65 rfl)), (Sok.seq (pc1 := 77) (Sok.sCallV (pc1 := 74) (Aok.aR (pc1 := 70) (EokR.getf (pc1 := 67) (j := 9) (ci := 11) (T := TX11) (N := 11) (EokR.aload_n (q := 0) dX11_judged_66) rfl wsX11_in (by decide) flX11_52 dX11_judged_67) (Aok.aR (pc1 := 74) (EokR.getf (pc1 := 71) (j := 7) (ci := 11) (T := TX11) (N := 11) (EokR.aload_n (q := 0) dX11_judged_70) rfl wsX11_in (by decide) flX11_42 dX11_judged_71) Aok.nil)) (by decide) (kX9_runOver g) rfl ykX9_runOver vkX11_167 (by decide) (by decide) dX11_judged_74) (Sok.retI (pc1 := 84) (EokI.getf (pc1 := 81) (j := 6) (ci := 9) (T := TX9) (N := 7) (EokR.getf (pc1 := 78) (j := 9) (ci := 11) (T := TX11) (N := 11) (EokR.aload_n (q := 0) dX11_judged_77) rfl wsX11_in (by decide) flX11_52 dX11_judged_78) rfl wsX9_in (by decide) flX11_176 dX11_judged_81) (by decide) dX11_judged_84 rfl)), trivial⟩) (Sok.retI (pc1 := 87) (EokI.bipush (v := (-2)) dX11_judged_85 (by decide)) (by decide) dX11_judged_87 rfl)))
/-! PassHuts.most(I)I -/
theorem dX11_most_0 : decode cX11_most 0 = .ok (.aload_n 0, 1) := by decide +kernel
theorem dX11_most_1 : decode cX11_most 1 = .ok (.getfield 42, 3) := by decide +kernel
theorem dX11_most_4 : decode cX11_most 4 = .ok (.iload_n 1, 1) := by decide +kernel
theorem dX11_most_5 : decode cX11_most 5 = .ok (.invokevirtual 117, 3) := by decide +kernel
theorem dX11_most_8 : decode cX11_most 8 = .ok (.ifCond .ne 5, 3) := by decide +kernel
theorem dX11_most_11 : decode cX11_most 11 = .ok (.iconst (-1), 1) := by decide +kernel
theorem dX11_most_12 : decode cX11_most 12 = .ok (.ireturn, 1) := by decide +kernel
theorem dX11_most_13 : decode cX11_most 13 = .ok (.aload_n 0, 1) := by decide +kernel
theorem dX11_most_14 : decode cX11_most 14 = .ok (.getfield 71, 3) := by decide +kernel
theorem dX11_most_17 : decode cX11_most 17 = .ok (.aload_n 0, 1) := by decide +kernel
theorem dX11_most_18 : decode cX11_most 18 = .ok (.getfield 35, 3) := by decide +kernel
theorem dX11_most_21 : decode cX11_most 21 = .ok (.getfield 125, 3) := by decide +kernel
theorem dX11_most_24 : decode cX11_most 24 = .ok (.invokevirtual 179, 3) := by decide +kernel
theorem dX11_most_27 : decode cX11_most 27 = .ok (.aload_n 0, 1) := by decide +kernel
theorem dX11_most_28 : decode cX11_most 28 = .ok (.getfield 71, 3) := by decide +kernel
theorem dX11_most_31 : decode cX11_most 31 = .ok (.iload_n 1, 1) := by decide +kernel
theorem dX11_most_32 : decode cX11_most 32 = .ok (.invokevirtual 182, 3) := by decide +kernel
theorem dX11_most_35 : decode cX11_most 35 = .ok (.ireturn, 1) := by decide +kernel
abbrev tX11_most (k : Nat) : MT := (RX11, cX11_most, 2, k, (some .int))
def mX11_most : MX := bodyOf 2 (sSeq (sIf (cNot (cZ zne (iCallV 0 mX0_isHut (aR (rGet 11 7 (rLoc 0)) (aI (iLoc 1) aNil))))) (sRetI (iK (-1))) sSkip) (sSeq (sCallV 10 mX10_startAt (aR (rGet 11 5 (rLoc 0)) (aI (iGet 5 9 (rGet 11 3 (rLoc 0))) aNil))) (sRetI (iCallV 10 mX10_mostLoads (aR (rGet 11 5 (rLoc 0)) (aI (iLoc 1) aNil))))))
theorem kX11_most (g : GT) : MK g 7 yX11_most cX11_most 2 (some .int) mX11_most := MK.of (pcN := 99999) (pcB := 0) (pcC := 0) rfl (Sok.seq (pc1 := 13) (Sok.ite (pc1 := 11) (pc2 := 13) (Cok.not (Cok.zero (pc1 := 8) (pcT := 13) (pcF := 11) (EokI.iCallV (pc1 := 5) (Aok.aR (pc1 := 4) (EokR.getf (pc1 := 1) (j := 7) (ci := 11) (T := TX11) (N := 11) (EokR.aload_n (q := 0) dX11_most_0) rfl wsX11_in (by decide) flX11_42 dX11_most_1) (Aok.aI (pc1 := 5) (EokI.iload_n (q := 1) dX11_most_4) Aok.nil)) (kX0_isHut g) rfl ykX0_isHut vkX11_117 (by decide) (by decide) dX11_most_5) (JZ.neT (tgt := 13) dX11_most_8 (by decide)))) (by decide) (Sok.retI (pc1 := 12) (EokI.iconst (v := (-1)) dX11_most_11 (by decide)) (by decide) dX11_most_12 rfl) (Sok.skip (pc := 13))) (Sok.seq (pc1 := 27) (Sok.sCallV (pc1 := 24) (Aok.aR (pc1 := 17) (EokR.getf (pc1 := 14) (j := 5) (ci := 11) (T := TX11) (N := 11) (EokR.aload_n (q := 0) dX11_most_13) rfl wsX11_in (by decide) flX11_71 dX11_most_14) (Aok.aI (pc1 := 24) (EokI.getf (pc1 := 21) (j := 9) (ci := 5) (T := TX5) (N := 13) (EokR.getf (pc1 := 18) (j := 3) (ci := 11) (T := TX11) (N := 11) (EokR.aload_n (q := 0) dX11_most_17) rfl wsX11_in (by decide) flX11_35 dX11_most_18) rfl wsX5_in (by decide) flX11_125 dX11_most_21) Aok.nil)) (by decide) (kX10_startAt g) rfl ykX10_startAt vkX11_179 (by decide) (by decide) dX11_most_24) (Sok.retI (pc1 := 35) (EokI.iCallV (pc1 := 32) (Aok.aR (pc1 := 31) (EokR.getf (pc1 := 28) (j := 5) (ci := 11) (T := TX11) (N := 11) (EokR.aload_n (q := 0) dX11_most_27) rfl wsX11_in (by decide) flX11_71 dX11_most_28) (Aok.aI (pc1 := 32) (EokI.iload_n (q := 1) dX11_most_31) Aok.nil)) (kX10_mostLoads g) rfl ykX10_mostLoads vkX11_182 (by decide) (by decide) dX11_most_32) (by decide) dX11_most_35 rfl)))
/-! PassHuts.least(I)I -/
theorem dX11_least_0 : decode cX11_least 0 = .ok (.aload_n 0, 1) := by decide +kernel
theorem dX11_least_1 : decode cX11_least 1 = .ok (.getfield 64, 3) := by decide +kernel
theorem dX11_least_4 : decode cX11_least 4 = .ok (.invokevirtual 185, 3) := by decide +kernel
theorem dX11_least_7 : decode cX11_least 7 = .ok (.aload_n 0, 1) := by decide +kernel
theorem dX11_least_8 : decode cX11_least 8 = .ok (.getfield 42, 3) := by decide +kernel
theorem dX11_least_11 : decode cX11_least 11 = .ok (.iload_n 1, 1) := by decide +kernel
theorem dX11_least_12 : decode cX11_least 12 = .ok (.invokevirtual 117, 3) := by decide +kernel
theorem dX11_least_15 : decode cX11_least 15 = .ok (.ifCond .eq 21, 3) := by decide +kernel
theorem dX11_least_18 : decode cX11_least 18 = .ok (.aload_n 0, 1) := by decide +kernel
theorem dX11_least_19 : decode cX11_least 19 = .ok (.getfield 64, 3) := by decide +kernel
theorem dX11_least_22 : decode cX11_least 22 = .ok (.aload_n 0, 1) := by decide +kernel
theorem dX11_least_23 : decode cX11_least 23 = .ok (.getfield 35, 3) := by decide +kernel
theorem dX11_least_26 : decode cX11_least 26 = .ok (.getfield 125, 3) := by decide +kernel
theorem dX11_least_29 : decode cX11_least 29 = .ok (.iload_n 1, 1) := by decide +kernel
theorem dX11_least_30 : decode cX11_least 30 = .ok (.invokevirtual 188, 3) := by decide +kernel
theorem dX11_least_33 : decode cX11_least 33 = .ok (.goto 4, 3) := by decide +kernel
theorem dX11_least_36 : decode cX11_least 36 = .ok (.iconst (-1), 1) := by decide +kernel
theorem dX11_least_37 : decode cX11_least 37 = .ok (.ireturn, 1) := by decide +kernel
abbrev tX11_least (k : Nat) : MT := (RX11, cX11_least, 2, k, (some .int))
def mX11_least : MX := bodyOf 2 (sSeq (sCallV 3 mX3_prepare (aR (rGet 11 4 (rLoc 0)) aNil)) (sRetI (iCond (cZ zne (iCallV 0 mX0_isHut (aR (rGet 11 7 (rLoc 0)) (aI (iLoc 1) aNil)))) (iCallV 3 mX3_fewestTo (aR (rGet 11 4 (rLoc 0)) (aI (iGet 5 9 (rGet 11 3 (rLoc 0))) (aI (iLoc 1) aNil)))) (iK (-1)))))
theorem kX11_least (g : GT) : MK g 7 yX11_least cX11_least 2 (some .int) mX11_least := MK.of (pcN := 99999) (pcB := 0) (pcC := 0) rfl (Sok.seq (pc1 := 7) (Sok.sCallV (pc1 := 4) (Aok.aR (pc1 := 4) (EokR.getf (pc1 := 1) (j := 4) (ci := 11) (T := TX11) (N := 11) (EokR.aload_n (q := 0) dX11_least_0) rfl wsX11_in (by decide) flX11_64 dX11_least_1) Aok.nil) (by decide) (kX3_prepare g) rfl ykX3_prepare vkX11_185 (by decide) (by decide) dX11_least_4) (Sok.retI (pc1 := 37) (EokI.cond' (pc1 := 18) (pc2 := 36) (Cok.zero (pc1 := 15) (pcT := 18) (pcF := 36) (EokI.iCallV (pc1 := 12) (Aok.aR (pc1 := 11) (EokR.getf (pc1 := 8) (j := 7) (ci := 11) (T := TX11) (N := 11) (EokR.aload_n (q := 0) dX11_least_7) rfl wsX11_in (by decide) flX11_42 dX11_least_8) (Aok.aI (pc1 := 12) (EokI.iload_n (q := 1) dX11_least_11) Aok.nil)) (kX0_isHut g) rfl ykX0_isHut vkX11_117 (by decide) (by decide) dX11_least_12) (JZ.neF (tgt := 36) dX11_least_15 (by decide))) (EokI.goto (pc1 := 33) (pc2 := 37) (EokI.iCallV (pc1 := 30) (Aok.aR (pc1 := 22) (EokR.getf (pc1 := 19) (j := 4) (ci := 11) (T := TX11) (N := 11) (EokR.aload_n (q := 0) dX11_least_18) rfl wsX11_in (by decide) flX11_64 dX11_least_19) (Aok.aI (pc1 := 29) (EokI.getf (pc1 := 26) (j := 9) (ci := 5) (T := TX5) (N := 13) (EokR.getf (pc1 := 23) (j := 3) (ci := 11) (T := TX11) (N := 11) (EokR.aload_n (q := 0) dX11_least_22) rfl wsX11_in (by decide) flX11_35 dX11_least_23) rfl wsX5_in (by decide) flX11_125 dX11_least_26) (Aok.aI (pc1 := 30) (EokI.iload_n (q := 1) dX11_least_29) Aok.nil))) (kX3_fewestTo g) rfl ykX3_fewestTo vkX11_188 (by decide) (by decide) dX11_least_30) dX11_least_33 (by decide)) (EokI.iconst (v := (-1)) dX11_least_36 (by decide))) (by decide) dX11_least_37 rfl))
/-! PassHuts.row(II)I -/
theorem dX11_row_0 : decode cX11_row 0 = .ok (.aload_n 0, 1) := by decide +kernel
theorem dX11_row_1 : decode cX11_row 1 = .ok (.getfield 42, 3) := by decide +kernel
theorem dX11_row_4 : decode cX11_row 4 = .ok (.iload_n 1, 1) := by decide +kernel
theorem dX11_row_5 : decode cX11_row 5 = .ok (.invokevirtual 117, 3) := by decide +kernel
theorem dX11_row_8 : decode cX11_row 8 = .ok (.ifCond .eq 7, 3) := by decide +kernel
theorem dX11_row_11 : decode cX11_row 11 = .ok (.iload_n 2, 1) := by decide +kernel
theorem dX11_row_12 : decode cX11_row 12 = .ok (.ifCond .ge 5, 3) := by decide +kernel
theorem dX11_row_15 : decode cX11_row 15 = .ok (.iconst (-1), 1) := by decide +kernel
theorem dX11_row_16 : decode cX11_row 16 = .ok (.ireturn, 1) := by decide +kernel
theorem dX11_row_17 : decode cX11_row 17 = .ok (.aload_n 0, 1) := by decide +kernel
theorem dX11_row_18 : decode cX11_row 18 = .ok (.getfield 64, 3) := by decide +kernel
theorem dX11_row_21 : decode cX11_row 21 = .ok (.invokevirtual 185, 3) := by decide +kernel
theorem dX11_row_24 : decode cX11_row 24 = .ok (.aload_n 0, 1) := by decide +kernel
theorem dX11_row_25 : decode cX11_row 25 = .ok (.getfield 64, 3) := by decide +kernel
theorem dX11_row_28 : decode cX11_row 28 = .ok (.aload_n 0, 1) := by decide +kernel
theorem dX11_row_29 : decode cX11_row 29 = .ok (.getfield 35, 3) := by decide +kernel
theorem dX11_row_32 : decode cX11_row 32 = .ok (.getfield 125, 3) := by decide +kernel
theorem dX11_row_35 : decode cX11_row 35 = .ok (.iload_n 1, 1) := by decide +kernel
theorem dX11_row_36 : decode cX11_row 36 = .ok (.iload_n 2, 1) := by decide +kernel
theorem dX11_row_37 : decode cX11_row 37 = .ok (.invokevirtual 191, 3) := by decide +kernel
theorem dX11_row_40 : decode cX11_row 40 = .ok (.ireturn, 1) := by decide +kernel
abbrev tX11_row (k : Nat) : MT := (RX11, cX11_row, 3, k, (some .int))
def mX11_row : MX := bodyOf 3 (sSeq (sIf (cOr (cNot (cZ zne (iCallV 0 mX0_isHut (aR (rGet 11 7 (rLoc 0)) (aI (iLoc 1) aNil))))) (cZ zlt (iLoc 2))) (sRetI (iK (-1))) sSkip) (sSeq (sCallV 3 mX3_prepare (aR (rGet 11 4 (rLoc 0)) aNil)) (sRetI (iCallV 3 mX3_stepOfRow (aR (rGet 11 4 (rLoc 0)) (aI (iGet 5 9 (rGet 11 3 (rLoc 0))) (aI (iLoc 1) (aI (iLoc 2) aNil))))))))
theorem kX11_row (g : GT) : MK g 7 yX11_row cX11_row 3 (some .int) mX11_row := MK.of (pcN := 99999) (pcB := 0) (pcC := 0) rfl (Sok.seq (pc1 := 17) (Sok.ite (pc1 := 15) (pc2 := 17) (Cok.or (pc1 := 11) (Cok.not (Cok.zero (pc1 := 8) (pcT := 11) (pcF := 15) (EokI.iCallV (pc1 := 5) (Aok.aR (pc1 := 4) (EokR.getf (pc1 := 1) (j := 7) (ci := 11) (T := TX11) (N := 11) (EokR.aload_n (q := 0) dX11_row_0) rfl wsX11_in (by decide) flX11_42 dX11_row_1) (Aok.aI (pc1 := 5) (EokI.iload_n (q := 1) dX11_row_4) Aok.nil)) (kX0_isHut g) rfl ykX0_isHut vkX11_117 (by decide) (by decide) dX11_row_5) (JZ.neF (tgt := 15) dX11_row_8 (by decide)))) (Cok.zero (pc1 := 12) (pcT := 15) (pcF := 17) (EokI.iload_n (q := 2) dX11_row_11) (JZ.ltF (tgt := 17) dX11_row_12 (by decide)))) (by decide) (Sok.retI (pc1 := 16) (EokI.iconst (v := (-1)) dX11_row_15 (by decide)) (by decide) dX11_row_16 rfl) (Sok.skip (pc := 17))) (Sok.seq (pc1 := 24) (Sok.sCallV (pc1 := 21) (Aok.aR (pc1 := 21) (EokR.getf (pc1 := 18) (j := 4) (ci := 11) (T := TX11) (N := 11) (EokR.aload_n (q := 0) dX11_row_17) rfl wsX11_in (by decide) flX11_64 dX11_row_18) Aok.nil) (by decide) (kX3_prepare g) rfl ykX3_prepare vkX11_185 (by decide) (by decide) dX11_row_21) (Sok.retI (pc1 := 40) (EokI.iCallV (pc1 := 37) (Aok.aR (pc1 := 28) (EokR.getf (pc1 := 25) (j := 4) (ci := 11) (T := TX11) (N := 11) (EokR.aload_n (q := 0) dX11_row_24) rfl wsX11_in (by decide) flX11_64 dX11_row_25) (Aok.aI (pc1 := 35) (EokI.getf (pc1 := 32) (j := 9) (ci := 5) (T := TX5) (N := 13) (EokR.getf (pc1 := 29) (j := 3) (ci := 11) (T := TX11) (N := 11) (EokR.aload_n (q := 0) dX11_row_28) rfl wsX11_in (by decide) flX11_35 dX11_row_29) rfl wsX5_in (by decide) flX11_125 dX11_row_32) (Aok.aI (pc1 := 36) (EokI.iload_n (q := 1) dX11_row_35) (Aok.aI (pc1 := 37) (EokI.iload_n (q := 2) dX11_row_36) Aok.nil)))) (kX3_stepOfRow g) rfl ykX3_stepOfRow vkX11_191 (by decide) (by decide) dX11_row_37) (by decide) dX11_row_40 rfl)))
/-! PassHuts.ways(I)I -/
theorem dX11_ways_0 : decode cX11_ways 0 = .ok (.aload_n 0, 1) := by decide +kernel
theorem dX11_ways_1 : decode cX11_ways 1 = .ok (.getfield 42, 3) := by decide +kernel
theorem dX11_ways_4 : decode cX11_ways 4 = .ok (.iload_n 1, 1) := by decide +kernel
theorem dX11_ways_5 : decode cX11_ways 5 = .ok (.invokevirtual 117, 3) := by decide +kernel
theorem dX11_ways_8 : decode cX11_ways 8 = .ok (.ifCond .ne 5, 3) := by decide +kernel
theorem dX11_ways_11 : decode cX11_ways 11 = .ok (.iconst (-1), 1) := by decide +kernel
theorem dX11_ways_12 : decode cX11_ways 12 = .ok (.ireturn, 1) := by decide +kernel
theorem dX11_ways_13 : decode cX11_ways 13 = .ok (.aload_n 0, 1) := by decide +kernel
theorem dX11_ways_14 : decode cX11_ways 14 = .ok (.getfield 64, 3) := by decide +kernel
theorem dX11_ways_17 : decode cX11_ways 17 = .ok (.invokevirtual 185, 3) := by decide +kernel
theorem dX11_ways_20 : decode cX11_ways 20 = .ok (.aload_n 0, 1) := by decide +kernel
theorem dX11_ways_21 : decode cX11_ways 21 = .ok (.getfield 64, 3) := by decide +kernel
theorem dX11_ways_24 : decode cX11_ways 24 = .ok (.aload_n 0, 1) := by decide +kernel
theorem dX11_ways_25 : decode cX11_ways 25 = .ok (.getfield 35, 3) := by decide +kernel
theorem dX11_ways_28 : decode cX11_ways 28 = .ok (.getfield 125, 3) := by decide +kernel
theorem dX11_ways_31 : decode cX11_ways 31 = .ok (.iload_n 1, 1) := by decide +kernel
theorem dX11_ways_32 : decode cX11_ways 32 = .ok (.invokevirtual 188, 3) := by decide +kernel
theorem dX11_ways_35 : decode cX11_ways 35 = .ok (.istore_n 2, 1) := by decide +kernel
theorem dX11_ways_36 : decode cX11_ways 36 = .ok (.iload_n 2, 1) := by decide +kernel
theorem dX11_ways_37 : decode cX11_ways 37 = .ok (.ifCond .ge 5, 3) := by decide +kernel
theorem dX11_ways_40 : decode cX11_ways 40 = .ok (.iconst 0, 1) := by decide +kernel
theorem dX11_ways_41 : decode cX11_ways 41 = .ok (.ireturn, 1) := by decide +kernel
theorem dX11_ways_42 : decode cX11_ways 42 = .ok (.aload_n 0, 1) := by decide +kernel
theorem dX11_ways_43 : decode cX11_ways 43 = .ok (.getfield 71, 3) := by decide +kernel
theorem dX11_ways_46 : decode cX11_ways 46 = .ok (.aload_n 0, 1) := by decide +kernel
theorem dX11_ways_47 : decode cX11_ways 47 = .ok (.getfield 35, 3) := by decide +kernel
theorem dX11_ways_50 : decode cX11_ways 50 = .ok (.getfield 125, 3) := by decide +kernel
theorem dX11_ways_53 : decode cX11_ways 53 = .ok (.invokevirtual 179, 3) := by decide +kernel
theorem dX11_ways_56 : decode cX11_ways 56 = .ok (.aload_n 0, 1) := by decide +kernel
theorem dX11_ways_57 : decode cX11_ways 57 = .ok (.getfield 71, 3) := by decide +kernel
theorem dX11_ways_60 : decode cX11_ways 60 = .ok (.iload_n 1, 1) := by decide +kernel
theorem dX11_ways_61 : decode cX11_ways 61 = .ok (.iload_n 2, 1) := by decide +kernel
theorem dX11_ways_62 : decode cX11_ways 62 = .ok (.invokevirtual 194, 3) := by decide +kernel
theorem dX11_ways_65 : decode cX11_ways 65 = .ok (.ireturn, 1) := by decide +kernel
abbrev tX11_ways (k : Nat) : MT := (RX11, cX11_ways, 3, k, (some .int))
def mX11_ways : MX := bodyOf 3 (sSeq (sIf (cNot (cZ zne (iCallV 0 mX0_isHut (aR (rGet 11 7 (rLoc 0)) (aI (iLoc 1) aNil))))) (sRetI (iK (-1))) sSkip) (sSeq (sCallV 3 mX3_prepare (aR (rGet 11 4 (rLoc 0)) aNil)) (sSeq (sSetI 2 (iCallV 3 mX3_fewestTo (aR (rGet 11 4 (rLoc 0)) (aI (iGet 5 9 (rGet 11 3 (rLoc 0))) (aI (iLoc 1) aNil))))) (sSeq (sIf (cZ zlt (iLoc 2)) (sRetI (iK 0)) sSkip) (sSeq (sCallV 10 mX10_startAt (aR (rGet 11 5 (rLoc 0)) (aI (iGet 5 9 (rGet 11 3 (rLoc 0))) aNil))) (sRetI (iCallV 10 mX10_countRows (aR (rGet 11 5 (rLoc 0)) (aI (iLoc 1) (aI (iLoc 2) aNil))))))))))
theorem kX11_ways (g : GT) : MK g 7 yX11_ways cX11_ways 3 (some .int) mX11_ways := MK.of (pcN := 99999) (pcB := 0) (pcC := 0) rfl (Sok.seq (pc1 := 13) (Sok.ite (pc1 := 11) (pc2 := 13) (Cok.not (Cok.zero (pc1 := 8) (pcT := 13) (pcF := 11) (EokI.iCallV (pc1 := 5) (Aok.aR (pc1 := 4) (EokR.getf (pc1 := 1) (j := 7) (ci := 11) (T := TX11) (N := 11) (EokR.aload_n (q := 0) dX11_ways_0) rfl wsX11_in (by decide) flX11_42 dX11_ways_1) (Aok.aI (pc1 := 5) (EokI.iload_n (q := 1) dX11_ways_4) Aok.nil)) (kX0_isHut g) rfl ykX0_isHut vkX11_117 (by decide) (by decide) dX11_ways_5) (JZ.neT (tgt := 13) dX11_ways_8 (by decide)))) (by decide) (Sok.retI (pc1 := 12) (EokI.iconst (v := (-1)) dX11_ways_11 (by decide)) (by decide) dX11_ways_12 rfl) (Sok.skip (pc := 13))) (Sok.seq (pc1 := 20) (Sok.sCallV (pc1 := 17) (Aok.aR (pc1 := 17) (EokR.getf (pc1 := 14) (j := 4) (ci := 11) (T := TX11) (N := 11) (EokR.aload_n (q := 0) dX11_ways_13) rfl wsX11_in (by decide) flX11_64 dX11_ways_14) Aok.nil) (by decide) (kX3_prepare g) rfl ykX3_prepare vkX11_185 (by decide) (by decide) dX11_ways_17) (Sok.seq (pc1 := 36) (Sok.setI_n (q := 2) (pc1 := 35) (EokI.iCallV (pc1 := 32) (Aok.aR (pc1 := 24) (EokR.getf (pc1 := 21) (j := 4) (ci := 11) (T := TX11) (N := 11) (EokR.aload_n (q := 0) dX11_ways_20) rfl wsX11_in (by decide) flX11_64 dX11_ways_21) (Aok.aI (pc1 := 31) (EokI.getf (pc1 := 28) (j := 9) (ci := 5) (T := TX5) (N := 13) (EokR.getf (pc1 := 25) (j := 3) (ci := 11) (T := TX11) (N := 11) (EokR.aload_n (q := 0) dX11_ways_24) rfl wsX11_in (by decide) flX11_35 dX11_ways_25) rfl wsX5_in (by decide) flX11_125 dX11_ways_28) (Aok.aI (pc1 := 32) (EokI.iload_n (q := 1) dX11_ways_31) Aok.nil))) (kX3_fewestTo g) rfl ykX3_fewestTo vkX11_188 (by decide) (by decide) dX11_ways_32) (by decide) dX11_ways_35 (show 2 < 3 by decide)) (Sok.seq (pc1 := 42) (Sok.ite (pc1 := 40) (pc2 := 42) (Cok.zero (pc1 := 37) (pcT := 40) (pcF := 42) (EokI.iload_n (q := 2) dX11_ways_36) (JZ.ltF (tgt := 42) dX11_ways_37 (by decide))) (by decide) (Sok.retI (pc1 := 41) (EokI.iconst (v := 0) dX11_ways_40 (by decide)) (by decide) dX11_ways_41 rfl) (Sok.skip (pc := 42))) (Sok.seq (pc1 := 56) (Sok.sCallV (pc1 := 53) (Aok.aR (pc1 := 46) (EokR.getf (pc1 := 43) (j := 5) (ci := 11) (T := TX11) (N := 11) (EokR.aload_n (q := 0) dX11_ways_42) rfl wsX11_in (by decide) flX11_71 dX11_ways_43) (Aok.aI (pc1 := 53) (EokI.getf (pc1 := 50) (j := 9) (ci := 5) (T := TX5) (N := 13) (EokR.getf (pc1 := 47) (j := 3) (ci := 11) (T := TX11) (N := 11) (EokR.aload_n (q := 0) dX11_ways_46) rfl wsX11_in (by decide) flX11_35 dX11_ways_47) rfl wsX5_in (by decide) flX11_125 dX11_ways_50) Aok.nil)) (by decide) (kX10_startAt g) rfl ykX10_startAt vkX11_179 (by decide) (by decide) dX11_ways_53) (Sok.retI (pc1 := 65) (EokI.iCallV (pc1 := 62) (Aok.aR (pc1 := 60) (EokR.getf (pc1 := 57) (j := 5) (ci := 11) (T := TX11) (N := 11) (EokR.aload_n (q := 0) dX11_ways_56) rfl wsX11_in (by decide) flX11_71 dX11_ways_57) (Aok.aI (pc1 := 61) (EokI.iload_n (q := 1) dX11_ways_60) (Aok.aI (pc1 := 62) (EokI.iload_n (q := 2) dX11_ways_61) Aok.nil))) (kX10_countRows g) rfl ykX10_countRows vkX11_194 (by decide) (by decide) dX11_ways_62) (by decide) dX11_ways_65 rfl))))))
/-! PassHuts.over(I)I -/
theorem dX11_over_0 : decode cX11_over 0 = .ok (.aload_n 0, 1) := by decide +kernel
theorem dX11_over_1 : decode cX11_over 1 = .ok (.getfield 42, 3) := by decide +kernel
theorem dX11_over_4 : decode cX11_over 4 = .ok (.iload_n 1, 1) := by decide +kernel
theorem dX11_over_5 : decode cX11_over 5 = .ok (.invokevirtual 117, 3) := by decide +kernel
theorem dX11_over_8 : decode cX11_over 8 = .ok (.ifCond .ne 5, 3) := by decide +kernel
theorem dX11_over_11 : decode cX11_over 11 = .ok (.iconst (-1), 1) := by decide +kernel
theorem dX11_over_12 : decode cX11_over 12 = .ok (.ireturn, 1) := by decide +kernel
theorem dX11_over_13 : decode cX11_over 13 = .ok (.aload_n 0, 1) := by decide +kernel
theorem dX11_over_14 : decode cX11_over 14 = .ok (.getfield 71, 3) := by decide +kernel
theorem dX11_over_17 : decode cX11_over 17 = .ok (.aload_n 0, 1) := by decide +kernel
theorem dX11_over_18 : decode cX11_over 18 = .ok (.getfield 35, 3) := by decide +kernel
theorem dX11_over_21 : decode cX11_over 21 = .ok (.getfield 125, 3) := by decide +kernel
theorem dX11_over_24 : decode cX11_over 24 = .ok (.invokevirtual 179, 3) := by decide +kernel
theorem dX11_over_27 : decode cX11_over 27 = .ok (.aload_n 0, 1) := by decide +kernel
theorem dX11_over_28 : decode cX11_over 28 = .ok (.getfield 71, 3) := by decide +kernel
theorem dX11_over_31 : decode cX11_over 31 = .ok (.iload_n 1, 1) := by decide +kernel
theorem dX11_over_32 : decode cX11_over 32 = .ok (.invokevirtual 197, 3) := by decide +kernel
theorem dX11_over_35 : decode cX11_over 35 = .ok (.ireturn, 1) := by decide +kernel
abbrev tX11_over (k : Nat) : MT := (RX11, cX11_over, 2, k, (some .int))
def mX11_over : MX := bodyOf 2 (sSeq (sIf (cNot (cZ zne (iCallV 0 mX0_isHut (aR (rGet 11 7 (rLoc 0)) (aI (iLoc 1) aNil))))) (sRetI (iK (-1))) sSkip) (sSeq (sCallV 10 mX10_startAt (aR (rGet 11 5 (rLoc 0)) (aI (iGet 5 9 (rGet 11 3 (rLoc 0))) aNil))) (sRetI (iCallV 10 mX10_mostTogether (aR (rGet 11 5 (rLoc 0)) (aI (iLoc 1) aNil))))))
theorem kX11_over (g : GT) : MK g 7 yX11_over cX11_over 2 (some .int) mX11_over := MK.of (pcN := 99999) (pcB := 0) (pcC := 0) rfl (Sok.seq (pc1 := 13) (Sok.ite (pc1 := 11) (pc2 := 13) (Cok.not (Cok.zero (pc1 := 8) (pcT := 13) (pcF := 11) (EokI.iCallV (pc1 := 5) (Aok.aR (pc1 := 4) (EokR.getf (pc1 := 1) (j := 7) (ci := 11) (T := TX11) (N := 11) (EokR.aload_n (q := 0) dX11_over_0) rfl wsX11_in (by decide) flX11_42 dX11_over_1) (Aok.aI (pc1 := 5) (EokI.iload_n (q := 1) dX11_over_4) Aok.nil)) (kX0_isHut g) rfl ykX0_isHut vkX11_117 (by decide) (by decide) dX11_over_5) (JZ.neT (tgt := 13) dX11_over_8 (by decide)))) (by decide) (Sok.retI (pc1 := 12) (EokI.iconst (v := (-1)) dX11_over_11 (by decide)) (by decide) dX11_over_12 rfl) (Sok.skip (pc := 13))) (Sok.seq (pc1 := 27) (Sok.sCallV (pc1 := 24) (Aok.aR (pc1 := 17) (EokR.getf (pc1 := 14) (j := 5) (ci := 11) (T := TX11) (N := 11) (EokR.aload_n (q := 0) dX11_over_13) rfl wsX11_in (by decide) flX11_71 dX11_over_14) (Aok.aI (pc1 := 24) (EokI.getf (pc1 := 21) (j := 9) (ci := 5) (T := TX5) (N := 13) (EokR.getf (pc1 := 18) (j := 3) (ci := 11) (T := TX11) (N := 11) (EokR.aload_n (q := 0) dX11_over_17) rfl wsX11_in (by decide) flX11_35 dX11_over_18) rfl wsX5_in (by decide) flX11_125 dX11_over_21) Aok.nil)) (by decide) (kX10_startAt g) rfl ykX10_startAt vkX11_179 (by decide) (by decide) dX11_over_24) (Sok.retI (pc1 := 35) (EokI.iCallV (pc1 := 32) (Aok.aR (pc1 := 31) (EokR.getf (pc1 := 28) (j := 5) (ci := 11) (T := TX11) (N := 11) (EokR.aload_n (q := 0) dX11_over_27) rfl wsX11_in (by decide) flX11_71 dX11_over_28) (Aok.aI (pc1 := 32) (EokI.iload_n (q := 1) dX11_over_31) Aok.nil)) (kX10_mostTogether g) rfl ykX10_mostTogether vkX11_197 (by decide) (by decide) dX11_over_32) (by decide) dX11_over_35 rfl)))
/-! PassHuts.cover()I -/
theorem dX11_cover_0 : decode cX11_cover 0 = .ok (.aload_n 0, 1) := by decide +kernel
theorem dX11_cover_1 : decode cX11_cover 1 = .ok (.getfield 71, 3) := by decide +kernel
theorem dX11_cover_4 : decode cX11_cover 4 = .ok (.aload_n 0, 1) := by decide +kernel
theorem dX11_cover_5 : decode cX11_cover 5 = .ok (.getfield 35, 3) := by decide +kernel
theorem dX11_cover_8 : decode cX11_cover 8 = .ok (.getfield 125, 3) := by decide +kernel
theorem dX11_cover_11 : decode cX11_cover 11 = .ok (.invokevirtual 179, 3) := by decide +kernel
theorem dX11_cover_14 : decode cX11_cover 14 = .ok (.aload_n 0, 1) := by decide +kernel
theorem dX11_cover_15 : decode cX11_cover 15 = .ok (.getfield 71, 3) := by decide +kernel
theorem dX11_cover_18 : decode cX11_cover 18 = .ok (.aload_n 0, 1) := by decide +kernel
theorem dX11_cover_19 : decode cX11_cover 19 = .ok (.getfield 42, 3) := by decide +kernel
theorem dX11_cover_22 : decode cX11_cover 22 = .ok (.invokevirtual 200, 3) := by decide +kernel
theorem dX11_cover_25 : decode cX11_cover 25 = .ok (.invokevirtual 203, 3) := by decide +kernel
theorem dX11_cover_28 : decode cX11_cover 28 = .ok (.ireturn, 1) := by decide +kernel
abbrev tX11_cover (k : Nat) : MT := (RX11, cX11_cover, 1, k, (some .int))
def mX11_cover : MX := bodyOf 1 (sSeq (sCallV 10 mX10_startAt (aR (rGet 11 5 (rLoc 0)) (aI (iGet 5 9 (rGet 11 3 (rLoc 0))) aNil))) (sRetI (iCallV 10 mX10_fewestToHave (aR (rGet 11 5 (rLoc 0)) (aI (iCallV 0 mX0_allHuts (aR (rGet 11 7 (rLoc 0)) aNil)) aNil)))))
theorem kX11_cover (g : GT) : MK g 7 yX11_cover cX11_cover 1 (some .int) mX11_cover := MK.of (pcN := 99999) (pcB := 0) (pcC := 0) rfl (Sok.seq (pc1 := 14) (Sok.sCallV (pc1 := 11) (Aok.aR (pc1 := 4) (EokR.getf (pc1 := 1) (j := 5) (ci := 11) (T := TX11) (N := 11) (EokR.aload_n (q := 0) dX11_cover_0) rfl wsX11_in (by decide) flX11_71 dX11_cover_1) (Aok.aI (pc1 := 11) (EokI.getf (pc1 := 8) (j := 9) (ci := 5) (T := TX5) (N := 13) (EokR.getf (pc1 := 5) (j := 3) (ci := 11) (T := TX11) (N := 11) (EokR.aload_n (q := 0) dX11_cover_4) rfl wsX11_in (by decide) flX11_35 dX11_cover_5) rfl wsX5_in (by decide) flX11_125 dX11_cover_8) Aok.nil)) (by decide) (kX10_startAt g) rfl ykX10_startAt vkX11_179 (by decide) (by decide) dX11_cover_11) (Sok.retI (pc1 := 28) (EokI.iCallV (pc1 := 25) (Aok.aR (pc1 := 18) (EokR.getf (pc1 := 15) (j := 5) (ci := 11) (T := TX11) (N := 11) (EokR.aload_n (q := 0) dX11_cover_14) rfl wsX11_in (by decide) flX11_71 dX11_cover_15) (Aok.aI (pc1 := 25) (EokI.iCallV (pc1 := 22) (Aok.aR (pc1 := 22) (EokR.getf (pc1 := 19) (j := 7) (ci := 11) (T := TX11) (N := 11) (EokR.aload_n (q := 0) dX11_cover_18) rfl wsX11_in (by decide) flX11_42 dX11_cover_19) Aok.nil) (kX0_allHuts g) rfl ykX0_allHuts vkX11_200 (by decide) (by decide) dX11_cover_22) Aok.nil)) (kX10_fewestToHave g) rfl ykX10_fewestToHave vkX11_203 (by decide) (by decide) dX11_cover_25) (by decide) dX11_cover_28 rfl))
/-! PassHuts.both(II)I -/
theorem dX11_both_0 : decode cX11_both 0 = .ok (.aload_n 0, 1) := by decide +kernel
theorem dX11_both_1 : decode cX11_both 1 = .ok (.getfield 42, 3) := by decide +kernel
theorem dX11_both_4 : decode cX11_both 4 = .ok (.iload_n 1, 1) := by decide +kernel
theorem dX11_both_5 : decode cX11_both 5 = .ok (.invokevirtual 117, 3) := by decide +kernel
theorem dX11_both_8 : decode cX11_both 8 = .ok (.ifCond .eq 19, 3) := by decide +kernel
theorem dX11_both_11 : decode cX11_both 11 = .ok (.aload_n 0, 1) := by decide +kernel
theorem dX11_both_12 : decode cX11_both 12 = .ok (.getfield 42, 3) := by decide +kernel
theorem dX11_both_15 : decode cX11_both 15 = .ok (.iload_n 2, 1) := by decide +kernel
theorem dX11_both_16 : decode cX11_both 16 = .ok (.invokevirtual 117, 3) := by decide +kernel
theorem dX11_both_19 : decode cX11_both 19 = .ok (.ifCond .eq 8, 3) := by decide +kernel
theorem dX11_both_22 : decode cX11_both 22 = .ok (.iload_n 1, 1) := by decide +kernel
theorem dX11_both_23 : decode cX11_both 23 = .ok (.iload_n 2, 1) := by decide +kernel
theorem dX11_both_24 : decode cX11_both 24 = .ok (.if_icmp .ne 5, 3) := by decide +kernel
theorem dX11_both_27 : decode cX11_both 27 = .ok (.iconst (-1), 1) := by decide +kernel
theorem dX11_both_28 : decode cX11_both 28 = .ok (.ireturn, 1) := by decide +kernel
theorem dX11_both_29 : decode cX11_both 29 = .ok (.aload_n 0, 1) := by decide +kernel
theorem dX11_both_30 : decode cX11_both 30 = .ok (.getfield 71, 3) := by decide +kernel
theorem dX11_both_33 : decode cX11_both 33 = .ok (.aload_n 0, 1) := by decide +kernel
theorem dX11_both_34 : decode cX11_both 34 = .ok (.getfield 35, 3) := by decide +kernel
theorem dX11_both_37 : decode cX11_both 37 = .ok (.getfield 125, 3) := by decide +kernel
theorem dX11_both_40 : decode cX11_both 40 = .ok (.invokevirtual 179, 3) := by decide +kernel
theorem dX11_both_43 : decode cX11_both 43 = .ok (.aload_n 0, 1) := by decide +kernel
theorem dX11_both_44 : decode cX11_both 44 = .ok (.getfield 71, 3) := by decide +kernel
theorem dX11_both_47 : decode cX11_both 47 = .ok (.iconst 1, 1) := by decide +kernel
theorem dX11_both_48 : decode cX11_both 48 = .ok (.iload_n 1, 1) := by decide +kernel
theorem dX11_both_49 : decode cX11_both 49 = .ok (.ishl, 1) := by decide +kernel
theorem dX11_both_50 : decode cX11_both 50 = .ok (.iconst 1, 1) := by decide +kernel
theorem dX11_both_51 : decode cX11_both 51 = .ok (.iload_n 2, 1) := by decide +kernel
theorem dX11_both_52 : decode cX11_both 52 = .ok (.ishl, 1) := by decide +kernel
theorem dX11_both_53 : decode cX11_both 53 = .ok (.ior, 1) := by decide +kernel
theorem dX11_both_54 : decode cX11_both 54 = .ok (.invokevirtual 203, 3) := by decide +kernel
theorem dX11_both_57 : decode cX11_both 57 = .ok (.ireturn, 1) := by decide +kernel
abbrev tX11_both (k : Nat) : MT := (RX11, cX11_both, 3, k, (some .int))
def mX11_both : MX := bodyOf 3 (sSeq (sIf (cOr (cOr (cNot (cZ zne (iCallV 0 mX0_isHut (aR (rGet 11 7 (rLoc 0)) (aI (iLoc 1) aNil))))) (cNot (cZ zne (iCallV 0 mX0_isHut (aR (rGet 11 7 (rLoc 0)) (aI (iLoc 2) aNil)))))) (cB req (iLoc 1) (iLoc 2))) (sRetI (iK (-1))) sSkip) (sSeq (sCallV 10 mX10_startAt (aR (rGet 11 5 (rLoc 0)) (aI (iGet 5 9 (rGet 11 3 (rLoc 0))) aNil))) (sRetI (iCallV 10 mX10_fewestToHave (aR (rGet 11 5 (rLoc 0)) (aI (iB gT2 (· ||| ·) (iB gT2 jshl (iK 1) (iLoc 1)) (iB gT2 jshl (iK 1) (iLoc 2))) aNil))))))
theorem kX11_both (g : GT) : MK g 7 yX11_both cX11_both 3 (some .int) mX11_both := MK.of (pcN := 99999) (pcB := 0) (pcC := 0) rfl (Sok.seq (pc1 := 29) (Sok.ite (pc1 := 27) (pc2 := 29) (Cok.or (pc1 := 22) (Cok.or (pc1 := 11) (Cok.not (Cok.zero (pc1 := 8) (pcT := 11) (pcF := 27) (EokI.iCallV (pc1 := 5) (Aok.aR (pc1 := 4) (EokR.getf (pc1 := 1) (j := 7) (ci := 11) (T := TX11) (N := 11) (EokR.aload_n (q := 0) dX11_both_0) rfl wsX11_in (by decide) flX11_42 dX11_both_1) (Aok.aI (pc1 := 5) (EokI.iload_n (q := 1) dX11_both_4) Aok.nil)) (kX0_isHut g) rfl ykX0_isHut vkX11_117 (by decide) (by decide) dX11_both_5) (JZ.neF (tgt := 27) dX11_both_8 (by decide)))) (Cok.not (Cok.zero (pc1 := 19) (pcT := 22) (pcF := 27) (EokI.iCallV (pc1 := 16) (Aok.aR (pc1 := 15) (EokR.getf (pc1 := 12) (j := 7) (ci := 11) (T := TX11) (N := 11) (EokR.aload_n (q := 0) dX11_both_11) rfl wsX11_in (by decide) flX11_42 dX11_both_12) (Aok.aI (pc1 := 16) (EokI.iload_n (q := 2) dX11_both_15) Aok.nil)) (kX0_isHut g) rfl ykX0_isHut vkX11_117 (by decide) (by decide) dX11_both_16) (JZ.neF (tgt := 27) dX11_both_19 (by decide))))) (Cok.cmp (pc1 := 23) (pc2 := 24) (pcT := 27) (pcF := 29) (EokI.iload_n (q := 1) dX11_both_22) (EokI.iload_n (q := 2) dX11_both_23) (JI.eqF (tgt := 29) dX11_both_24 (by decide)))) (by decide) (Sok.retI (pc1 := 28) (EokI.iconst (v := (-1)) dX11_both_27 (by decide)) (by decide) dX11_both_28 rfl) (Sok.skip (pc := 29))) (Sok.seq (pc1 := 43) (Sok.sCallV (pc1 := 40) (Aok.aR (pc1 := 33) (EokR.getf (pc1 := 30) (j := 5) (ci := 11) (T := TX11) (N := 11) (EokR.aload_n (q := 0) dX11_both_29) rfl wsX11_in (by decide) flX11_71 dX11_both_30) (Aok.aI (pc1 := 40) (EokI.getf (pc1 := 37) (j := 9) (ci := 5) (T := TX5) (N := 13) (EokR.getf (pc1 := 34) (j := 3) (ci := 11) (T := TX11) (N := 11) (EokR.aload_n (q := 0) dX11_both_33) rfl wsX11_in (by decide) flX11_35 dX11_both_34) rfl wsX5_in (by decide) flX11_125 dX11_both_37) Aok.nil)) (by decide) (kX10_startAt g) rfl ykX10_startAt vkX11_179 (by decide) (by decide) dX11_both_40) (Sok.retI (pc1 := 57) (EokI.iCallV (pc1 := 54) (Aok.aR (pc1 := 47) (EokR.getf (pc1 := 44) (j := 5) (ci := 11) (T := TX11) (N := 11) (EokR.aload_n (q := 0) dX11_both_43) rfl wsX11_in (by decide) flX11_71 dX11_both_44) (Aok.aI (pc1 := 54) (EokI.bin (pc1 := 50) (pc2 := 53) (EokI.bin (pc1 := 48) (pc2 := 49) (EokI.iconst (v := 1) dX11_both_47 (by decide)) (EokI.iload_n (q := 1) dX11_both_48) (OPI.ishl dX11_both_49)) (EokI.bin (pc1 := 51) (pc2 := 52) (EokI.iconst (v := 1) dX11_both_50 (by decide)) (EokI.iload_n (q := 2) dX11_both_51) (OPI.ishl dX11_both_52)) (OPI.ior dX11_both_53)) Aok.nil)) (kX10_fewestToHave g) rfl ykX10_fewestToHave vkX11_203 (by decide) (by decide) dX11_both_54) (by decide) dX11_both_57 rfl)))
/-! PassHuts.isSum(I)Z -/
theorem dX11_isSum_0 : decode cX11_isSum 0 = .ok (.iload_n 0, 1) := by decide +kernel
theorem dX11_isSum_1 : decode cX11_isSum 1 = .ok (.ifCond .lt 13, 3) := by decide +kernel
theorem dX11_isSum_4 : decode cX11_isSum 4 = .ok (.iload_n 0, 1) := by decide +kernel
theorem dX11_isSum_5 : decode cX11_isSum 5 = .ok (.bipush 12, 2) := by decide +kernel
theorem dX11_isSum_7 : decode cX11_isSum 7 = .ok (.if_icmp .gt 7, 3) := by decide +kernel
theorem dX11_isSum_10 : decode cX11_isSum 10 = .ok (.iconst 1, 1) := by decide +kernel
theorem dX11_isSum_11 : decode cX11_isSum 11 = .ok (.goto 4, 3) := by decide +kernel
theorem dX11_isSum_14 : decode cX11_isSum 14 = .ok (.iconst 0, 1) := by decide +kernel
theorem dX11_isSum_15 : decode cX11_isSum 15 = .ok (.ireturn, 1) := by decide +kernel
abbrev tX11_isSum (k : Nat) : MT := (RX11, cX11_isSum, 1, k, (some .boolean))
def mX11_isSum : MX := bodyOf 1 (sRetZ (iBool (cAnd (cZ zge (iLoc 0)) (cB rle (iLoc 0) (iK 12)))))
theorem kX11_isSum (g : GT) : MK g 0 yX11_isSum cX11_isSum 1 (some .boolean) mX11_isSum := MK.of (pcN := 99999) (pcB := 0) (pcC := 0) rfl (Sok.retZ (pc1 := 15) (EokI.cond' (pc1 := 10) (pc2 := 14) (Cok.and (pc1 := 4) (Cok.zero (pc1 := 1) (pcT := 4) (pcF := 14) (EokI.iload_n (q := 0) dX11_isSum_0) (JZ.geF (tgt := 14) dX11_isSum_1 (by decide))) (Cok.cmp (pc1 := 5) (pc2 := 7) (pcT := 10) (pcF := 14) (EokI.iload_n (q := 0) dX11_isSum_4) (EokI.bipush (v := 12) dX11_isSum_5 (by decide)) (JI.leF (tgt := 14) dX11_isSum_7 (by decide)))) (EokI.goto (pc1 := 11) (pc2 := 15) (EokI.iconst (v := 1) dX11_isSum_10 (by decide)) dX11_isSum_11 (by decide)) (EokI.iconst (v := 0) dX11_isSum_14 (by decide))) (by decide) dX11_isSum_15 rfl)
/-! PassHuts.shrink(I)I -/
theorem dX11_shrink_0 : decode cX11_shrink 0 = .ok (.iload_n 1, 1) := by decide +kernel
theorem dX11_shrink_1 : decode cX11_shrink 1 = .ok (.invokestatic 206, 3) := by decide +kernel
theorem dX11_shrink_4 : decode cX11_shrink 4 = .ok (.ifCond .ne 5, 3) := by decide +kernel
theorem dX11_shrink_7 : decode cX11_shrink 7 = .ok (.iconst (-1), 1) := by decide +kernel
theorem dX11_shrink_8 : decode cX11_shrink 8 = .ok (.ireturn, 1) := by decide +kernel
theorem dX11_shrink_9 : decode cX11_shrink 9 = .ok (.aload_n 0, 1) := by decide +kernel
theorem dX11_shrink_10 : decode cX11_shrink 10 = .ok (.getfield 71, 3) := by decide +kernel
theorem dX11_shrink_13 : decode cX11_shrink 13 = .ok (.aload_n 0, 1) := by decide +kernel
theorem dX11_shrink_14 : decode cX11_shrink 14 = .ok (.getfield 35, 3) := by decide +kernel
theorem dX11_shrink_17 : decode cX11_shrink 17 = .ok (.getfield 125, 3) := by decide +kernel
theorem dX11_shrink_20 : decode cX11_shrink 20 = .ok (.invokevirtual 179, 3) := by decide +kernel
theorem dX11_shrink_23 : decode cX11_shrink 23 = .ok (.aload_n 0, 1) := by decide +kernel
theorem dX11_shrink_24 : decode cX11_shrink 24 = .ok (.getfield 71, 3) := by decide +kernel
theorem dX11_shrink_27 : decode cX11_shrink 27 = .ok (.iload_n 1, 1) := by decide +kernel
theorem dX11_shrink_28 : decode cX11_shrink 28 = .ok (.invokevirtual 209, 3) := by decide +kernel
theorem dX11_shrink_31 : decode cX11_shrink 31 = .ok (.ireturn, 1) := by decide +kernel
abbrev tX11_shrink (k : Nat) : MT := (RX11, cX11_shrink, 2, k, (some .int))
def mX11_shrink : MX := bodyOf 2 (sSeq (sIf (cNot (cZ zne (iCallS mX11_isSum (aI (iLoc 1) aNil)))) (sRetI (iK (-1))) sSkip) (sSeq (sCallV 10 mX10_startAt (aR (rGet 11 5 (rLoc 0)) (aI (iGet 5 9 (rGet 11 3 (rLoc 0))) aNil))) (sRetI (iCallV 10 mX10_fewestToSum (aR (rGet 11 5 (rLoc 0)) (aI (iLoc 1) aNil))))))
theorem kX11_shrink (g : GT) : MK g 7 yX11_shrink cX11_shrink 2 (some .int) mX11_shrink := MK.of (pcN := 99999) (pcB := 0) (pcC := 0) rfl (Sok.seq (pc1 := 9) (Sok.ite (pc1 := 7) (pc2 := 9) (Cok.not (Cok.zero (pc1 := 4) (pcT := 9) (pcF := 7) (EokI.iCallS (pc1 := 1) (Aok.aI (pc1 := 1) (EokI.iload_n (q := 1) dX11_shrink_0) Aok.nil) (kX11_isSum g) ykX11_isSum skX11_206 (by decide) (by decide) dX11_shrink_1) (JZ.neT (tgt := 9) dX11_shrink_4 (by decide)))) (by decide) (Sok.retI (pc1 := 8) (EokI.iconst (v := (-1)) dX11_shrink_7 (by decide)) (by decide) dX11_shrink_8 rfl) (Sok.skip (pc := 9))) (Sok.seq (pc1 := 23) (Sok.sCallV (pc1 := 20) (Aok.aR (pc1 := 13) (EokR.getf (pc1 := 10) (j := 5) (ci := 11) (T := TX11) (N := 11) (EokR.aload_n (q := 0) dX11_shrink_9) rfl wsX11_in (by decide) flX11_71 dX11_shrink_10) (Aok.aI (pc1 := 20) (EokI.getf (pc1 := 17) (j := 9) (ci := 5) (T := TX5) (N := 13) (EokR.getf (pc1 := 14) (j := 3) (ci := 11) (T := TX11) (N := 11) (EokR.aload_n (q := 0) dX11_shrink_13) rfl wsX11_in (by decide) flX11_35 dX11_shrink_14) rfl wsX5_in (by decide) flX11_125 dX11_shrink_17) Aok.nil)) (by decide) (kX10_startAt g) rfl ykX10_startAt vkX11_179 (by decide) (by decide) dX11_shrink_20) (Sok.retI (pc1 := 31) (EokI.iCallV (pc1 := 28) (Aok.aR (pc1 := 27) (EokR.getf (pc1 := 24) (j := 5) (ci := 11) (T := TX11) (N := 11) (EokR.aload_n (q := 0) dX11_shrink_23) rfl wsX11_in (by decide) flX11_71 dX11_shrink_24) (Aok.aI (pc1 := 28) (EokI.iload_n (q := 1) dX11_shrink_27) Aok.nil)) (kX10_fewestToSum g) rfl ykX10_fewestToSum vkX11_209 (by decide) (by decide) dX11_shrink_28) (by decide) dX11_shrink_31 rfl)))
/-! PassHuts.stuck()Z -/
theorem dX11_stuck_0 : decode cX11_stuck 0 = .ok (.aload_n 0, 1) := by decide +kernel
theorem dX11_stuck_1 : decode cX11_stuck 1 = .ok (.getfield 42, 3) := by decide +kernel
theorem dX11_stuck_4 : decode cX11_stuck 4 = .ok (.aload_n 0, 1) := by decide +kernel
theorem dX11_stuck_5 : decode cX11_stuck 5 = .ok (.getfield 35, 3) := by decide +kernel
theorem dX11_stuck_8 : decode cX11_stuck 8 = .ok (.getfield 125, 3) := by decide +kernel
theorem dX11_stuck_11 : decode cX11_stuck 11 = .ok (.invokevirtual 212, 3) := by decide +kernel
theorem dX11_stuck_14 : decode cX11_stuck 14 = .ok (.ireturn, 1) := by decide +kernel
abbrev tX11_stuck (k : Nat) : MT := (RX11, cX11_stuck, 1, k, (some .boolean))
def mX11_stuck : MX := bodyOf 1 (sRetZ (iCallV 0 mX0_isStuck (aR (rGet 11 7 (rLoc 0)) (aI (iGet 5 9 (rGet 11 3 (rLoc 0))) aNil))))
theorem kX11_stuck (g : GT) : MK g 5 yX11_stuck cX11_stuck 1 (some .boolean) mX11_stuck := MK.of (pcN := 99999) (pcB := 0) (pcC := 0) rfl (Sok.retZ (pc1 := 14) (EokI.iCallV (pc1 := 11) (Aok.aR (pc1 := 4) (EokR.getf (pc1 := 1) (j := 7) (ci := 11) (T := TX11) (N := 11) (EokR.aload_n (q := 0) dX11_stuck_0) rfl wsX11_in (by decide) flX11_42 dX11_stuck_1) (Aok.aI (pc1 := 11) (EokI.getf (pc1 := 8) (j := 9) (ci := 5) (T := TX5) (N := 13) (EokR.getf (pc1 := 5) (j := 3) (ci := 11) (T := TX11) (N := 11) (EokR.aload_n (q := 0) dX11_stuck_4) rfl wsX11_in (by decide) flX11_35 dX11_stuck_5) rfl wsX5_in (by decide) flX11_125 dX11_stuck_8) Aok.nil)) (kX0_isStuck g) rfl ykX0_isStuck vkX11_212 (by decide) (by decide) dX11_stuck_11) (by decide) dX11_stuck_14 rfl)
/-! PassHuts.longest()I -/
theorem dX11_longest_0 : decode cX11_longest 0 = .ok (.aload_n 0, 1) := by decide +kernel
theorem dX11_longest_1 : decode cX11_longest 1 = .ok (.getfield 71, 3) := by decide +kernel
theorem dX11_longest_4 : decode cX11_longest 4 = .ok (.aload_n 0, 1) := by decide +kernel
theorem dX11_longest_5 : decode cX11_longest 5 = .ok (.getfield 35, 3) := by decide +kernel
theorem dX11_longest_8 : decode cX11_longest 8 = .ok (.getfield 125, 3) := by decide +kernel
theorem dX11_longest_11 : decode cX11_longest 11 = .ok (.invokevirtual 179, 3) := by decide +kernel
theorem dX11_longest_14 : decode cX11_longest 14 = .ok (.aload_n 0, 1) := by decide +kernel
theorem dX11_longest_15 : decode cX11_longest 15 = .ok (.getfield 71, 3) := by decide +kernel
theorem dX11_longest_18 : decode cX11_longest 18 = .ok (.invokevirtual 215, 3) := by decide +kernel
theorem dX11_longest_21 : decode cX11_longest 21 = .ok (.ireturn, 1) := by decide +kernel
abbrev tX11_longest (k : Nat) : MT := (RX11, cX11_longest, 1, k, (some .int))
def mX11_longest : MX := bodyOf 1 (sSeq (sCallV 10 mX10_startAt (aR (rGet 11 5 (rLoc 0)) (aI (iGet 5 9 (rGet 11 3 (rLoc 0))) aNil))) (sRetI (iCallV 10 mX10_longestRow (aR (rGet 11 5 (rLoc 0)) aNil))))
theorem kX11_longest (g : GT) : MK g 7 yX11_longest cX11_longest 1 (some .int) mX11_longest := MK.of (pcN := 99999) (pcB := 0) (pcC := 0) rfl (Sok.seq (pc1 := 14) (Sok.sCallV (pc1 := 11) (Aok.aR (pc1 := 4) (EokR.getf (pc1 := 1) (j := 5) (ci := 11) (T := TX11) (N := 11) (EokR.aload_n (q := 0) dX11_longest_0) rfl wsX11_in (by decide) flX11_71 dX11_longest_1) (Aok.aI (pc1 := 11) (EokI.getf (pc1 := 8) (j := 9) (ci := 5) (T := TX5) (N := 13) (EokR.getf (pc1 := 5) (j := 3) (ci := 11) (T := TX11) (N := 11) (EokR.aload_n (q := 0) dX11_longest_4) rfl wsX11_in (by decide) flX11_35 dX11_longest_5) rfl wsX5_in (by decide) flX11_125 dX11_longest_8) Aok.nil)) (by decide) (kX10_startAt g) rfl ykX10_startAt vkX11_179 (by decide) (by decide) dX11_longest_11) (Sok.retI (pc1 := 21) (EokI.iCallV (pc1 := 18) (Aok.aR (pc1 := 18) (EokR.getf (pc1 := 15) (j := 5) (ci := 11) (T := TX11) (N := 11) (EokR.aload_n (q := 0) dX11_longest_14) rfl wsX11_in (by decide) flX11_71 dX11_longest_15) Aok.nil) (kX10_longestRow g) rfl ykX10_longestRow vkX11_215 (by decide) (by decide) dX11_longest_18) (by decide) dX11_longest_21 rfl))
/-! PassHuts.ends()I -/
theorem dX11_ends_0 : decode cX11_ends 0 = .ok (.aload_n 0, 1) := by decide +kernel
theorem dX11_ends_1 : decode cX11_ends 1 = .ok (.getfield 71, 3) := by decide +kernel
theorem dX11_ends_4 : decode cX11_ends 4 = .ok (.aload_n 0, 1) := by decide +kernel
theorem dX11_ends_5 : decode cX11_ends 5 = .ok (.getfield 35, 3) := by decide +kernel
theorem dX11_ends_8 : decode cX11_ends 8 = .ok (.getfield 125, 3) := by decide +kernel
theorem dX11_ends_11 : decode cX11_ends 11 = .ok (.invokevirtual 179, 3) := by decide +kernel
theorem dX11_ends_14 : decode cX11_ends 14 = .ok (.aload_n 0, 1) := by decide +kernel
theorem dX11_ends_15 : decode cX11_ends 15 = .ok (.getfield 71, 3) := by decide +kernel
theorem dX11_ends_18 : decode cX11_ends 18 = .ok (.invokevirtual 218, 3) := by decide +kernel
theorem dX11_ends_21 : decode cX11_ends 21 = .ok (.ireturn, 1) := by decide +kernel
abbrev tX11_ends (k : Nat) : MT := (RX11, cX11_ends, 1, k, (some .int))
def mX11_ends : MX := bodyOf 1 (sSeq (sCallV 10 mX10_startAt (aR (rGet 11 5 (rLoc 0)) (aI (iGet 5 9 (rGet 11 3 (rLoc 0))) aNil))) (sRetI (iCallV 10 mX10_countEnds (aR (rGet 11 5 (rLoc 0)) aNil))))
theorem kX11_ends (g : GT) : MK g 7 yX11_ends cX11_ends 1 (some .int) mX11_ends := MK.of (pcN := 99999) (pcB := 0) (pcC := 0) rfl (Sok.seq (pc1 := 14) (Sok.sCallV (pc1 := 11) (Aok.aR (pc1 := 4) (EokR.getf (pc1 := 1) (j := 5) (ci := 11) (T := TX11) (N := 11) (EokR.aload_n (q := 0) dX11_ends_0) rfl wsX11_in (by decide) flX11_71 dX11_ends_1) (Aok.aI (pc1 := 11) (EokI.getf (pc1 := 8) (j := 9) (ci := 5) (T := TX5) (N := 13) (EokR.getf (pc1 := 5) (j := 3) (ci := 11) (T := TX11) (N := 11) (EokR.aload_n (q := 0) dX11_ends_4) rfl wsX11_in (by decide) flX11_35 dX11_ends_5) rfl wsX5_in (by decide) flX11_125 dX11_ends_8) Aok.nil)) (by decide) (kX10_startAt g) rfl ykX10_startAt vkX11_179 (by decide) (by decide) dX11_ends_11) (Sok.retI (pc1 := 21) (EokI.iCallV (pc1 := 18) (Aok.aR (pc1 := 18) (EokR.getf (pc1 := 15) (j := 5) (ci := 11) (T := TX11) (N := 11) (EokR.aload_n (q := 0) dX11_ends_14) rfl wsX11_in (by decide) flX11_71 dX11_ends_15) Aok.nil) (kX10_countEnds g) rfl ykX10_countEnds vkX11_218 (by decide) (by decide) dX11_ends_18) (by decide) dX11_ends_21 rfl))
/-! PassHuts.alone(II)I -/
theorem dX11_alone_0 : decode cX11_alone 0 = .ok (.aload_n 0, 1) := by decide +kernel
theorem dX11_alone_1 : decode cX11_alone 1 = .ok (.getfield 42, 3) := by decide +kernel
theorem dX11_alone_4 : decode cX11_alone 4 = .ok (.iload_n 1, 1) := by decide +kernel
theorem dX11_alone_5 : decode cX11_alone 5 = .ok (.invokevirtual 117, 3) := by decide +kernel
theorem dX11_alone_8 : decode cX11_alone 8 = .ok (.ifCond .eq 14, 3) := by decide +kernel
theorem dX11_alone_11 : decode cX11_alone 11 = .ok (.aload_n 0, 1) := by decide +kernel
theorem dX11_alone_12 : decode cX11_alone 12 = .ok (.getfield 42, 3) := by decide +kernel
theorem dX11_alone_15 : decode cX11_alone 15 = .ok (.iload_n 2, 1) := by decide +kernel
theorem dX11_alone_16 : decode cX11_alone 16 = .ok (.invokevirtual 117, 3) := by decide +kernel
theorem dX11_alone_19 : decode cX11_alone 19 = .ok (.ifCond .ne 5, 3) := by decide +kernel
theorem dX11_alone_22 : decode cX11_alone 22 = .ok (.iconst (-1), 1) := by decide +kernel
theorem dX11_alone_23 : decode cX11_alone 23 = .ok (.ireturn, 1) := by decide +kernel
theorem dX11_alone_24 : decode cX11_alone 24 = .ok (.aload_n 0, 1) := by decide +kernel
theorem dX11_alone_25 : decode cX11_alone 25 = .ok (.getfield 71, 3) := by decide +kernel
theorem dX11_alone_28 : decode cX11_alone 28 = .ok (.aload_n 0, 1) := by decide +kernel
theorem dX11_alone_29 : decode cX11_alone 29 = .ok (.getfield 42, 3) := by decide +kernel
theorem dX11_alone_32 : decode cX11_alone 32 = .ok (.aload_n 0, 1) := by decide +kernel
theorem dX11_alone_33 : decode cX11_alone 33 = .ok (.getfield 35, 3) := by decide +kernel
theorem dX11_alone_36 : decode cX11_alone 36 = .ok (.getfield 125, 3) := by decide +kernel
theorem dX11_alone_39 : decode cX11_alone 39 = .ok (.iload_n 1, 1) := by decide +kernel
theorem dX11_alone_40 : decode cX11_alone 40 = .ok (.invokevirtual 221, 3) := by decide +kernel
theorem dX11_alone_43 : decode cX11_alone 43 = .ok (.invokevirtual 179, 3) := by decide +kernel
theorem dX11_alone_46 : decode cX11_alone 46 = .ok (.aload_n 0, 1) := by decide +kernel
theorem dX11_alone_47 : decode cX11_alone 47 = .ok (.getfield 71, 3) := by decide +kernel
theorem dX11_alone_50 : decode cX11_alone 50 = .ok (.iload_n 2, 1) := by decide +kernel
theorem dX11_alone_51 : decode cX11_alone 51 = .ok (.invokevirtual 182, 3) := by decide +kernel
theorem dX11_alone_54 : decode cX11_alone 54 = .ok (.ireturn, 1) := by decide +kernel
abbrev tX11_alone (k : Nat) : MT := (RX11, cX11_alone, 3, k, (some .int))
def mX11_alone : MX := bodyOf 3 (sSeq (sIf (cOr (cNot (cZ zne (iCallV 0 mX0_isHut (aR (rGet 11 7 (rLoc 0)) (aI (iLoc 1) aNil))))) (cNot (cZ zne (iCallV 0 mX0_isHut (aR (rGet 11 7 (rLoc 0)) (aI (iLoc 2) aNil)))))) (sRetI (iK (-1))) sSkip) (sSeq (sCallV 10 mX10_startAt (aR (rGet 11 5 (rLoc 0)) (aI (iCallV 0 mX0_onlyIn (aR (rGet 11 7 (rLoc 0)) (aI (iGet 5 9 (rGet 11 3 (rLoc 0))) (aI (iLoc 1) aNil)))) aNil))) (sRetI (iCallV 10 mX10_mostLoads (aR (rGet 11 5 (rLoc 0)) (aI (iLoc 2) aNil))))))
theorem kX11_alone (g : GT) : MK g 7 yX11_alone cX11_alone 3 (some .int) mX11_alone := MK.of (pcN := 99999) (pcB := 0) (pcC := 0) rfl (Sok.seq (pc1 := 24) (Sok.ite (pc1 := 22) (pc2 := 24) (Cok.or (pc1 := 11) (Cok.not (Cok.zero (pc1 := 8) (pcT := 11) (pcF := 22) (EokI.iCallV (pc1 := 5) (Aok.aR (pc1 := 4) (EokR.getf (pc1 := 1) (j := 7) (ci := 11) (T := TX11) (N := 11) (EokR.aload_n (q := 0) dX11_alone_0) rfl wsX11_in (by decide) flX11_42 dX11_alone_1) (Aok.aI (pc1 := 5) (EokI.iload_n (q := 1) dX11_alone_4) Aok.nil)) (kX0_isHut g) rfl ykX0_isHut vkX11_117 (by decide) (by decide) dX11_alone_5) (JZ.neF (tgt := 22) dX11_alone_8 (by decide)))) (Cok.not (Cok.zero (pc1 := 19) (pcT := 24) (pcF := 22) (EokI.iCallV (pc1 := 16) (Aok.aR (pc1 := 15) (EokR.getf (pc1 := 12) (j := 7) (ci := 11) (T := TX11) (N := 11) (EokR.aload_n (q := 0) dX11_alone_11) rfl wsX11_in (by decide) flX11_42 dX11_alone_12) (Aok.aI (pc1 := 16) (EokI.iload_n (q := 2) dX11_alone_15) Aok.nil)) (kX0_isHut g) rfl ykX0_isHut vkX11_117 (by decide) (by decide) dX11_alone_16) (JZ.neT (tgt := 24) dX11_alone_19 (by decide))))) (by decide) (Sok.retI (pc1 := 23) (EokI.iconst (v := (-1)) dX11_alone_22 (by decide)) (by decide) dX11_alone_23 rfl) (Sok.skip (pc := 24))) (Sok.seq (pc1 := 46) (Sok.sCallV (pc1 := 43) (Aok.aR (pc1 := 28) (EokR.getf (pc1 := 25) (j := 5) (ci := 11) (T := TX11) (N := 11) (EokR.aload_n (q := 0) dX11_alone_24) rfl wsX11_in (by decide) flX11_71 dX11_alone_25) (Aok.aI (pc1 := 43) (EokI.iCallV (pc1 := 40) (Aok.aR (pc1 := 32) (EokR.getf (pc1 := 29) (j := 7) (ci := 11) (T := TX11) (N := 11) (EokR.aload_n (q := 0) dX11_alone_28) rfl wsX11_in (by decide) flX11_42 dX11_alone_29) (Aok.aI (pc1 := 39) (EokI.getf (pc1 := 36) (j := 9) (ci := 5) (T := TX5) (N := 13) (EokR.getf (pc1 := 33) (j := 3) (ci := 11) (T := TX11) (N := 11) (EokR.aload_n (q := 0) dX11_alone_32) rfl wsX11_in (by decide) flX11_35 dX11_alone_33) rfl wsX5_in (by decide) flX11_125 dX11_alone_36) (Aok.aI (pc1 := 40) (EokI.iload_n (q := 1) dX11_alone_39) Aok.nil))) (kX0_onlyIn g) rfl ykX0_onlyIn vkX11_221 (by decide) (by decide) dX11_alone_40) Aok.nil)) (by decide) (kX10_startAt g) rfl ykX10_startAt vkX11_179 (by decide) (by decide) dX11_alone_43) (Sok.retI (pc1 := 54) (EokI.iCallV (pc1 := 51) (Aok.aR (pc1 := 50) (EokR.getf (pc1 := 47) (j := 5) (ci := 11) (T := TX11) (N := 11) (EokR.aload_n (q := 0) dX11_alone_46) rfl wsX11_in (by decide) flX11_71 dX11_alone_47) (Aok.aI (pc1 := 51) (EokI.iload_n (q := 2) dX11_alone_50) Aok.nil)) (kX10_mostLoads g) rfl ykX10_mostLoads vkX11_182 (by decide) (by decide) dX11_alone_51) (by decide) dX11_alone_54 rfl)))
/-! PassHuts.needed(I)I -/
theorem dX11_needed_0 : decode cX11_needed 0 = .ok (.aload_n 0, 1) := by decide +kernel
theorem dX11_needed_1 : decode cX11_needed 1 = .ok (.getfield 64, 3) := by decide +kernel
theorem dX11_needed_4 : decode cX11_needed 4 = .ok (.invokevirtual 185, 3) := by decide +kernel
theorem dX11_needed_7 : decode cX11_needed 7 = .ok (.aload_n 0, 1) := by decide +kernel
theorem dX11_needed_8 : decode cX11_needed 8 = .ok (.getfield 42, 3) := by decide +kernel
theorem dX11_needed_11 : decode cX11_needed 11 = .ok (.iload_n 1, 1) := by decide +kernel
theorem dX11_needed_12 : decode cX11_needed 12 = .ok (.invokevirtual 117, 3) := by decide +kernel
theorem dX11_needed_15 : decode cX11_needed 15 = .ok (.ifCond .eq 21, 3) := by decide +kernel
theorem dX11_needed_18 : decode cX11_needed 18 = .ok (.aload_n 0, 1) := by decide +kernel
theorem dX11_needed_19 : decode cX11_needed 19 = .ok (.getfield 64, 3) := by decide +kernel
theorem dX11_needed_22 : decode cX11_needed 22 = .ok (.aload_n 0, 1) := by decide +kernel
theorem dX11_needed_23 : decode cX11_needed 23 = .ok (.getfield 35, 3) := by decide +kernel
theorem dX11_needed_26 : decode cX11_needed 26 = .ok (.getfield 125, 3) := by decide +kernel
theorem dX11_needed_29 : decode cX11_needed 29 = .ok (.iload_n 1, 1) := by decide +kernel
theorem dX11_needed_30 : decode cX11_needed 30 = .ok (.invokevirtual 224, 3) := by decide +kernel
theorem dX11_needed_33 : decode cX11_needed 33 = .ok (.ifCond .ne 5, 3) := by decide +kernel
theorem dX11_needed_36 : decode cX11_needed 36 = .ok (.iconst (-1), 1) := by decide +kernel
theorem dX11_needed_37 : decode cX11_needed 37 = .ok (.ireturn, 1) := by decide +kernel
theorem dX11_needed_38 : decode cX11_needed 38 = .ok (.iconst 0, 1) := by decide +kernel
theorem dX11_needed_39 : decode cX11_needed 39 = .ok (.istore_n 2, 1) := by decide +kernel
theorem dX11_needed_40 : decode cX11_needed 40 = .ok (.iconst 0, 1) := by decide +kernel
theorem dX11_needed_41 : decode cX11_needed 41 = .ok (.istore_n 3, 1) := by decide +kernel
theorem dX11_needed_42 : decode cX11_needed 42 = .ok (.iload_n 3, 1) := by decide +kernel
theorem dX11_needed_43 : decode cX11_needed 43 = .ok (.aload_n 0, 1) := by decide +kernel
theorem dX11_needed_44 : decode cX11_needed 44 = .ok (.getfield 42, 3) := by decide +kernel
theorem dX11_needed_47 : decode cX11_needed 47 = .ok (.getfield 227, 3) := by decide +kernel
theorem dX11_needed_50 : decode cX11_needed 50 = .ok (.if_icmp .ge 50, 3) := by decide +kernel
theorem dX11_needed_53 : decode cX11_needed 53 = .ok (.aload_n 0, 1) := by decide +kernel
theorem dX11_needed_54 : decode cX11_needed 54 = .ok (.getfield 42, 3) := by decide +kernel
theorem dX11_needed_57 : decode cX11_needed 57 = .ok (.aload_n 0, 1) := by decide +kernel
theorem dX11_needed_58 : decode cX11_needed 58 = .ok (.getfield 35, 3) := by decide +kernel
theorem dX11_needed_61 : decode cX11_needed 61 = .ok (.getfield 125, 3) := by decide +kernel
theorem dX11_needed_64 : decode cX11_needed 64 = .ok (.iload_n 3, 1) := by decide +kernel
theorem dX11_needed_65 : decode cX11_needed 65 = .ok (.invokevirtual 160, 3) := by decide +kernel
theorem dX11_needed_68 : decode cX11_needed 68 = .ok (.istore 4, 2) := by decide +kernel
theorem dX11_needed_70 : decode cX11_needed 70 = .ok (.iload 4, 2) := by decide +kernel
theorem dX11_needed_72 : decode cX11_needed 72 = .ok (.ifCond .lt 22, 3) := by decide +kernel
theorem dX11_needed_75 : decode cX11_needed 75 = .ok (.aload_n 0, 1) := by decide +kernel
theorem dX11_needed_76 : decode cX11_needed 76 = .ok (.getfield 64, 3) := by decide +kernel
theorem dX11_needed_79 : decode cX11_needed 79 = .ok (.iload 4, 2) := by decide +kernel
theorem dX11_needed_81 : decode cX11_needed 81 = .ok (.iload_n 1, 1) := by decide +kernel
theorem dX11_needed_82 : decode cX11_needed 82 = .ok (.invokevirtual 224, 3) := by decide +kernel
theorem dX11_needed_85 : decode cX11_needed 85 = .ok (.ifCond .ne 9, 3) := by decide +kernel
theorem dX11_needed_88 : decode cX11_needed 88 = .ok (.iload_n 2, 1) := by decide +kernel
theorem dX11_needed_89 : decode cX11_needed 89 = .ok (.iconst 1, 1) := by decide +kernel
theorem dX11_needed_90 : decode cX11_needed 90 = .ok (.iload_n 3, 1) := by decide +kernel
theorem dX11_needed_91 : decode cX11_needed 91 = .ok (.ishl, 1) := by decide +kernel
theorem dX11_needed_92 : decode cX11_needed 92 = .ok (.ior, 1) := by decide +kernel
theorem dX11_needed_93 : decode cX11_needed 93 = .ok (.istore_n 2, 1) := by decide +kernel
theorem dX11_needed_94 : decode cX11_needed 94 = .ok (.iinc 3 1, 3) := by decide +kernel
theorem dX11_needed_97 : decode cX11_needed 97 = .ok (.goto (-55), 3) := by decide +kernel
theorem dX11_needed_100 : decode cX11_needed 100 = .ok (.iload_n 2, 1) := by decide +kernel
theorem dX11_needed_101 : decode cX11_needed 101 = .ok (.ireturn, 1) := by decide +kernel
abbrev tX11_needed (k : Nat) : MT := (RX11, cX11_needed, 5, k, (some .int))
def lX11_needed_1 : SX := (sLoop (cB rlt (iLoc 3) (iGet 0 3 (rGet 11 7 (rLoc 0)))) (sSeq (sSetI 4 (iCallV 0 mX0_afterEating (aR (rGet 11 7 (rLoc 0)) (aI (iGet 5 9 (rGet 11 3 (rLoc 0))) (aI (iLoc 3) aNil))))) (sIf (cAnd (cZ zge (iLoc 4)) (cNot (cZ zne (iCallV 3 mX3_comesTo (aR (rGet 11 4 (rLoc 0)) (aI (iLoc 4) (aI (iLoc 1) aNil))))))) (sSetI 2 (iB gT2 (· ||| ·) (iLoc 2) (iB gT2 jshl (iK 1) (iLoc 3)))) sSkip)) (sSeq (sForget 4) (sInc 3 1)))
theorem olX11_needed_1 (g : GT) {pcB pcC : Nat} : Sok g (tX11_needed 7) 42 100 pcB pcC (lX11_needed_1) := (Sok.loop (pc := 42) (pc1 := 53) (pc2 := 94) (pcN := 100) (Cok.cmp (pc1 := 43) (pc2 := 50) (pcT := 53) (pcF := 100) (EokI.iload_n (q := 3) dX11_needed_42) (EokI.getf (pc1 := 47) (j := 3) (ci := 0) (T := TX0) (N := 17) (EokR.getf (pc1 := 44) (j := 7) (ci := 11) (T := TX11) (N := 11) (EokR.aload_n (q := 0) dX11_needed_43) rfl wsX11_in (by decide) flX11_42 dX11_needed_44) rfl wsX0_in (by decide) flX11_227 dX11_needed_47) (JI.ltF (tgt := 100) dX11_needed_50 (by decide))) (by decide) (Sok.seq (pc1 := 70) (Sok.setI (i := 4) (pc1 := 68) (EokI.iCallV (pc1 := 65) (Aok.aR (pc1 := 57) (EokR.getf (pc1 := 54) (j := 7) (ci := 11) (T := TX11) (N := 11) (EokR.aload_n (q := 0) dX11_needed_53) rfl wsX11_in (by decide) flX11_42 dX11_needed_54) (Aok.aI (pc1 := 64) (EokI.getf (pc1 := 61) (j := 9) (ci := 5) (T := TX5) (N := 13) (EokR.getf (pc1 := 58) (j := 3) (ci := 11) (T := TX11) (N := 11) (EokR.aload_n (q := 0) dX11_needed_57) rfl wsX11_in (by decide) flX11_35 dX11_needed_58) rfl wsX5_in (by decide) flX11_125 dX11_needed_61) (Aok.aI (pc1 := 65) (EokI.iload_n (q := 3) dX11_needed_64) Aok.nil))) (kX0_afterEating g) rfl ykX0_afterEating vkX11_160 (by decide) (by decide) dX11_needed_65) (by decide) dX11_needed_68 (show 4 < 5 by decide)) (Sok.ite (pc1 := 88) (pc2 := 94) (Cok.and (pc1 := 75) (Cok.zero (pc1 := 72) (pcT := 75) (pcF := 94) (EokI.iload (i := 4) dX11_needed_70) (JZ.geF (tgt := 94) dX11_needed_72 (by decide))) (Cok.not (Cok.zero (pc1 := 85) (pcT := 94) (pcF := 88) (EokI.iCallV (pc1 := 82) (Aok.aR (pc1 := 79) (EokR.getf (pc1 := 76) (j := 4) (ci := 11) (T := TX11) (N := 11) (EokR.aload_n (q := 0) dX11_needed_75) rfl wsX11_in (by decide) flX11_64 dX11_needed_76) (Aok.aI (pc1 := 81) (EokI.iload (i := 4) dX11_needed_79) (Aok.aI (pc1 := 82) (EokI.iload_n (q := 1) dX11_needed_81) Aok.nil))) (kX3_comesTo g) rfl ykX3_comesTo vkX11_224 (by decide) (by decide) dX11_needed_82) (JZ.neT (tgt := 94) dX11_needed_85 (by decide))))) (by decide) (Sok.setI_n (q := 2) (pc1 := 93) (EokI.bin (pc1 := 89) (pc2 := 92) (EokI.iload_n (q := 2) dX11_needed_88) (EokI.bin (pc1 := 90) (pc2 := 91) (EokI.iconst (v := 1) dX11_needed_89 (by decide)) (EokI.iload_n (q := 3) dX11_needed_90) (OPI.ishl dX11_needed_91)) (OPI.ior dX11_needed_92)) (by decide) dX11_needed_93 (show 2 < 5 by decide)) (Sok.skip (pc := 94)))) (Sok.seq (pc1 := 94) Sok.forget (Sok.goto (pc1 := 97) (pcN := 42) (Sok.iinc (i := 3) (v := 1) dX11_needed_94 (show 3 < 5 by decide) (by decide)) dX11_needed_97 (by decide))))
def mX11_needed : MX := bodyOf 5 (sSeq (sCallV 3 mX3_prepare (aR (rGet 11 4 (rLoc 0)) aNil)) (sSeq (sIf (cOr (cNot (cZ zne (iCallV 0 mX0_isHut (aR (rGet 11 7 (rLoc 0)) (aI (iLoc 1) aNil))))) (cNot (cZ zne (iCallV 3 mX3_comesTo (aR (rGet 11 4 (rLoc 0)) (aI (iGet 5 9 (rGet 11 3 (rLoc 0))) (aI (iLoc 1) aNil))))))) (sRetI (iK (-1))) sSkip) (sSeq (sSetI 2 (iK 0)) (sSeq (sSeq (sSeq (sSetI 3 (iK 0)) lX11_needed_1) (sForget 3)) (sRetI (iLoc 2))))))
theorem kX11_needed (g : GT) : MK g 7 yX11_needed cX11_needed 5 (some .int) mX11_needed := MK.of (pcN := 99999) (pcB := 0) (pcC := 0) rfl (Sok.seq (pc1 := 7) (Sok.sCallV (pc1 := 4) (Aok.aR (pc1 := 4) (EokR.getf (pc1 := 1) (j := 4) (ci := 11) (T := TX11) (N := 11) (EokR.aload_n (q := 0) dX11_needed_0) rfl wsX11_in (by decide) flX11_64 dX11_needed_1) Aok.nil) (by decide) (kX3_prepare g) rfl ykX3_prepare vkX11_185 (by decide) (by decide) dX11_needed_4) (Sok.seq (pc1 := 38) (Sok.ite (pc1 := 36) (pc2 := 38) (Cok.or (pc1 := 18) (Cok.not (Cok.zero (pc1 := 15) (pcT := 18) (pcF := 36) (EokI.iCallV (pc1 := 12) (Aok.aR (pc1 := 11) (EokR.getf (pc1 := 8) (j := 7) (ci := 11) (T := TX11) (N := 11) (EokR.aload_n (q := 0) dX11_needed_7) rfl wsX11_in (by decide) flX11_42 dX11_needed_8) (Aok.aI (pc1 := 12) (EokI.iload_n (q := 1) dX11_needed_11) Aok.nil)) (kX0_isHut g) rfl ykX0_isHut vkX11_117 (by decide) (by decide) dX11_needed_12) (JZ.neF (tgt := 36) dX11_needed_15 (by decide)))) (Cok.not (Cok.zero (pc1 := 33) (pcT := 38) (pcF := 36) (EokI.iCallV (pc1 := 30) (Aok.aR (pc1 := 22) (EokR.getf (pc1 := 19) (j := 4) (ci := 11) (T := TX11) (N := 11) (EokR.aload_n (q := 0) dX11_needed_18) rfl wsX11_in (by decide) flX11_64 dX11_needed_19) (Aok.aI (pc1 := 29) (EokI.getf (pc1 := 26) (j := 9) (ci := 5) (T := TX5) (N := 13) (EokR.getf (pc1 := 23) (j := 3) (ci := 11) (T := TX11) (N := 11) (EokR.aload_n (q := 0) dX11_needed_22) rfl wsX11_in (by decide) flX11_35 dX11_needed_23) rfl wsX5_in (by decide) flX11_125 dX11_needed_26) (Aok.aI (pc1 := 30) (EokI.iload_n (q := 1) dX11_needed_29) Aok.nil))) (kX3_comesTo g) rfl ykX3_comesTo vkX11_224 (by decide) (by decide) dX11_needed_30) (JZ.neT (tgt := 38) dX11_needed_33 (by decide))))) (by decide) (Sok.retI (pc1 := 37) (EokI.iconst (v := (-1)) dX11_needed_36 (by decide)) (by decide) dX11_needed_37 rfl) (Sok.skip (pc := 38))) (Sok.seq (pc1 := 40) (Sok.setI_n (q := 2) (pc1 := 39) (EokI.iconst (v := 0) dX11_needed_38 (by decide)) (by decide) dX11_needed_39 (show 2 < 5 by decide)) (Sok.seq (pc1 := 100) (Sok.seq (pc1 := 100) (Sok.seq (pc1 := 42) (Sok.setI_n (q := 3) (pc1 := 41) (EokI.iconst (v := 0) dX11_needed_40 (by decide)) (by decide) dX11_needed_41 (show 3 < 5 by decide)) (olX11_needed_1 g )) (Sok.forget (pc := 100))) (Sok.retI (pc1 := 101) (EokI.iload_n (q := 2) dX11_needed_100) (by decide) dX11_needed_101 rfl)))))
/-! PassHuts.brings(I)I -/
theorem dX11_brings_0 : decode cX11_brings 0 = .ok (.aload_n 0, 1) := by decide +kernel
theorem dX11_brings_1 : decode cX11_brings 1 = .ok (.getfield 42, 3) := by decide +kernel
theorem dX11_brings_4 : decode cX11_brings 4 = .ok (.iload_n 1, 1) := by decide +kernel
theorem dX11_brings_5 : decode cX11_brings 5 = .ok (.invokevirtual 117, 3) := by decide +kernel
theorem dX11_brings_8 : decode cX11_brings 8 = .ok (.ifCond .ne 5, 3) := by decide +kernel
theorem dX11_brings_11 : decode cX11_brings 11 = .ok (.iconst (-1), 1) := by decide +kernel
theorem dX11_brings_12 : decode cX11_brings 12 = .ok (.ireturn, 1) := by decide +kernel
theorem dX11_brings_13 : decode cX11_brings 13 = .ok (.aload_n 0, 1) := by decide +kernel
theorem dX11_brings_14 : decode cX11_brings 14 = .ok (.getfield 64, 3) := by decide +kernel
theorem dX11_brings_17 : decode cX11_brings 17 = .ok (.invokevirtual 185, 3) := by decide +kernel
theorem dX11_brings_20 : decode cX11_brings 20 = .ok (.aload_n 0, 1) := by decide +kernel
theorem dX11_brings_21 : decode cX11_brings 21 = .ok (.getfield 64, 3) := by decide +kernel
theorem dX11_brings_24 : decode cX11_brings 24 = .ok (.aload_n 0, 1) := by decide +kernel
theorem dX11_brings_25 : decode cX11_brings 25 = .ok (.getfield 42, 3) := by decide +kernel
theorem dX11_brings_28 : decode cX11_brings 28 = .ok (.aload_n 0, 1) := by decide +kernel
theorem dX11_brings_29 : decode cX11_brings 29 = .ok (.getfield 35, 3) := by decide +kernel
theorem dX11_brings_32 : decode cX11_brings 32 = .ok (.getfield 125, 3) := by decide +kernel
theorem dX11_brings_35 : decode cX11_brings 35 = .ok (.iload_n 1, 1) := by decide +kernel
theorem dX11_brings_36 : decode cX11_brings 36 = .ok (.invokevirtual 221, 3) := by decide +kernel
theorem dX11_brings_39 : decode cX11_brings 39 = .ok (.invokevirtual 230, 3) := by decide +kernel
theorem dX11_brings_42 : decode cX11_brings 42 = .ok (.ireturn, 1) := by decide +kernel
abbrev tX11_brings (k : Nat) : MT := (RX11, cX11_brings, 2, k, (some .int))
def mX11_brings : MX := bodyOf 2 (sSeq (sIf (cNot (cZ zne (iCallV 0 mX0_isHut (aR (rGet 11 7 (rLoc 0)) (aI (iLoc 1) aNil))))) (sRetI (iK (-1))) sSkip) (sSeq (sCallV 3 mX3_prepare (aR (rGet 11 4 (rLoc 0)) aNil)) (sRetI (iCallV 3 mX3_hutsFrom (aR (rGet 11 4 (rLoc 0)) (aI (iCallV 0 mX0_onlyIn (aR (rGet 11 7 (rLoc 0)) (aI (iGet 5 9 (rGet 11 3 (rLoc 0))) (aI (iLoc 1) aNil)))) aNil))))))
theorem kX11_brings (g : GT) : MK g 7 yX11_brings cX11_brings 2 (some .int) mX11_brings := MK.of (pcN := 99999) (pcB := 0) (pcC := 0) rfl (Sok.seq (pc1 := 13) (Sok.ite (pc1 := 11) (pc2 := 13) (Cok.not (Cok.zero (pc1 := 8) (pcT := 13) (pcF := 11) (EokI.iCallV (pc1 := 5) (Aok.aR (pc1 := 4) (EokR.getf (pc1 := 1) (j := 7) (ci := 11) (T := TX11) (N := 11) (EokR.aload_n (q := 0) dX11_brings_0) rfl wsX11_in (by decide) flX11_42 dX11_brings_1) (Aok.aI (pc1 := 5) (EokI.iload_n (q := 1) dX11_brings_4) Aok.nil)) (kX0_isHut g) rfl ykX0_isHut vkX11_117 (by decide) (by decide) dX11_brings_5) (JZ.neT (tgt := 13) dX11_brings_8 (by decide)))) (by decide) (Sok.retI (pc1 := 12) (EokI.iconst (v := (-1)) dX11_brings_11 (by decide)) (by decide) dX11_brings_12 rfl) (Sok.skip (pc := 13))) (Sok.seq (pc1 := 20) (Sok.sCallV (pc1 := 17) (Aok.aR (pc1 := 17) (EokR.getf (pc1 := 14) (j := 4) (ci := 11) (T := TX11) (N := 11) (EokR.aload_n (q := 0) dX11_brings_13) rfl wsX11_in (by decide) flX11_64 dX11_brings_14) Aok.nil) (by decide) (kX3_prepare g) rfl ykX3_prepare vkX11_185 (by decide) (by decide) dX11_brings_17) (Sok.retI (pc1 := 42) (EokI.iCallV (pc1 := 39) (Aok.aR (pc1 := 24) (EokR.getf (pc1 := 21) (j := 4) (ci := 11) (T := TX11) (N := 11) (EokR.aload_n (q := 0) dX11_brings_20) rfl wsX11_in (by decide) flX11_64 dX11_brings_21) (Aok.aI (pc1 := 39) (EokI.iCallV (pc1 := 36) (Aok.aR (pc1 := 28) (EokR.getf (pc1 := 25) (j := 7) (ci := 11) (T := TX11) (N := 11) (EokR.aload_n (q := 0) dX11_brings_24) rfl wsX11_in (by decide) flX11_42 dX11_brings_25) (Aok.aI (pc1 := 35) (EokI.getf (pc1 := 32) (j := 9) (ci := 5) (T := TX5) (N := 13) (EokR.getf (pc1 := 29) (j := 3) (ci := 11) (T := TX11) (N := 11) (EokR.aload_n (q := 0) dX11_brings_28) rfl wsX11_in (by decide) flX11_35 dX11_brings_29) rfl wsX5_in (by decide) flX11_125 dX11_brings_32) (Aok.aI (pc1 := 36) (EokI.iload_n (q := 1) dX11_brings_35) Aok.nil))) (kX0_onlyIn g) rfl ykX0_onlyIn vkX11_221 (by decide) (by decide) dX11_brings_36) Aok.nil)) (kX3_hutsFrom g) rfl ykX3_hutsFrom vkX11_230 (by decide) (by decide) dX11_brings_39) (by decide) dX11_brings_42 rfl)))
/-! PassHuts.lack(II)I -/
theorem dX11_lack_0 : decode cX11_lack 0 = .ok (.aload_n 0, 1) := by decide +kernel
theorem dX11_lack_1 : decode cX11_lack 1 = .ok (.getfield 42, 3) := by decide +kernel
theorem dX11_lack_4 : decode cX11_lack 4 = .ok (.iload_n 1, 1) := by decide +kernel
theorem dX11_lack_5 : decode cX11_lack 5 = .ok (.invokevirtual 117, 3) := by decide +kernel
theorem dX11_lack_8 : decode cX11_lack 8 = .ok (.ifCond .eq 19, 3) := by decide +kernel
theorem dX11_lack_11 : decode cX11_lack 11 = .ok (.iload_n 2, 1) := by decide +kernel
theorem dX11_lack_12 : decode cX11_lack 12 = .ok (.iconst (-1), 1) := by decide +kernel
theorem dX11_lack_13 : decode cX11_lack 13 = .ok (.if_icmp .eq 17, 3) := by decide +kernel
theorem dX11_lack_16 : decode cX11_lack 16 = .ok (.aload_n 0, 1) := by decide +kernel
theorem dX11_lack_17 : decode cX11_lack 17 = .ok (.getfield 42, 3) := by decide +kernel
theorem dX11_lack_20 : decode cX11_lack 20 = .ok (.iload_n 2, 1) := by decide +kernel
theorem dX11_lack_21 : decode cX11_lack 21 = .ok (.invokevirtual 117, 3) := by decide +kernel
theorem dX11_lack_24 : decode cX11_lack 24 = .ok (.ifCond .ne 6, 3) := by decide +kernel
theorem dX11_lack_27 : decode cX11_lack 27 = .ok (.bipush (-2), 2) := by decide +kernel
theorem dX11_lack_29 : decode cX11_lack 29 = .ok (.ireturn, 1) := by decide +kernel
theorem dX11_lack_30 : decode cX11_lack 30 = .ok (.aload_n 0, 1) := by decide +kernel
theorem dX11_lack_31 : decode cX11_lack 31 = .ok (.getfield 64, 3) := by decide +kernel
theorem dX11_lack_34 : decode cX11_lack 34 = .ok (.invokevirtual 185, 3) := by decide +kernel
theorem dX11_lack_37 : decode cX11_lack 37 = .ok (.aload_n 0, 1) := by decide +kernel
theorem dX11_lack_38 : decode cX11_lack 38 = .ok (.getfield 64, 3) := by decide +kernel
theorem dX11_lack_41 : decode cX11_lack 41 = .ok (.aload_n 0, 1) := by decide +kernel
theorem dX11_lack_42 : decode cX11_lack 42 = .ok (.getfield 35, 3) := by decide +kernel
theorem dX11_lack_45 : decode cX11_lack 45 = .ok (.getfield 125, 3) := by decide +kernel
theorem dX11_lack_48 : decode cX11_lack 48 = .ok (.iload_n 1, 1) := by decide +kernel
theorem dX11_lack_49 : decode cX11_lack 49 = .ok (.invokevirtual 224, 3) := by decide +kernel
theorem dX11_lack_52 : decode cX11_lack 52 = .ok (.ifCond .eq 5, 3) := by decide +kernel
theorem dX11_lack_55 : decode cX11_lack 55 = .ok (.iconst 0, 1) := by decide +kernel
theorem dX11_lack_56 : decode cX11_lack 56 = .ok (.ireturn, 1) := by decide +kernel
theorem dX11_lack_57 : decode cX11_lack 57 = .ok (.aload_n 0, 1) := by decide +kernel
theorem dX11_lack_58 : decode cX11_lack 58 = .ok (.getfield 80, 3) := by decide +kernel
theorem dX11_lack_61 : decode cX11_lack 61 = .ok (.aload_n 0, 1) := by decide +kernel
theorem dX11_lack_62 : decode cX11_lack 62 = .ok (.getfield 35, 3) := by decide +kernel
theorem dX11_lack_65 : decode cX11_lack 65 = .ok (.getfield 125, 3) := by decide +kernel
theorem dX11_lack_68 : decode cX11_lack 68 = .ok (.iload_n 1, 1) := by decide +kernel
theorem dX11_lack_69 : decode cX11_lack 69 = .ok (.invokevirtual 233, 3) := by decide +kernel
theorem dX11_lack_72 : decode cX11_lack 72 = .ok (.istore_n 3, 1) := by decide +kernel
theorem dX11_lack_73 : decode cX11_lack 73 = .ok (.iload_n 3, 1) := by decide +kernel
theorem dX11_lack_74 : decode cX11_lack 74 = .ok (.ifCond .ge 6, 3) := by decide +kernel
theorem dX11_lack_77 : decode cX11_lack 77 = .ok (.bipush (-2), 2) := by decide +kernel
theorem dX11_lack_79 : decode cX11_lack 79 = .ok (.ireturn, 1) := by decide +kernel
theorem dX11_lack_80 : decode cX11_lack 80 = .ok (.iload_n 2, 1) := by decide +kernel
theorem dX11_lack_81 : decode cX11_lack 81 = .ok (.iconst (-1), 1) := by decide +kernel
theorem dX11_lack_82 : decode cX11_lack 82 = .ok (.if_icmp .eq 8, 3) := by decide +kernel
theorem dX11_lack_85 : decode cX11_lack 85 = .ok (.iload_n 2, 1) := by decide +kernel
theorem dX11_lack_86 : decode cX11_lack 86 = .ok (.iload_n 3, 1) := by decide +kernel
theorem dX11_lack_87 : decode cX11_lack 87 = .ok (.if_icmp .ne 7, 3) := by decide +kernel
theorem dX11_lack_90 : decode cX11_lack 90 = .ok (.iconst 1, 1) := by decide +kernel
theorem dX11_lack_91 : decode cX11_lack 91 = .ok (.goto 4, 3) := by decide +kernel
theorem dX11_lack_94 : decode cX11_lack 94 = .ok (.iconst 0, 1) := by decide +kernel
theorem dX11_lack_95 : decode cX11_lack 95 = .ok (.ireturn, 1) := by decide +kernel
abbrev tX11_lack (k : Nat) : MT := (RX11, cX11_lack, 4, k, (some .int))
def mX11_lack : MX := bodyOf 4 (sSeq (sIf (cOr (cNot (cZ zne (iCallV 0 mX0_isHut (aR (rGet 11 7 (rLoc 0)) (aI (iLoc 1) aNil))))) (cAnd (cB rne (iLoc 2) (iK (-1))) (cNot (cZ zne (iCallV 0 mX0_isHut (aR (rGet 11 7 (rLoc 0)) (aI (iLoc 2) aNil))))))) (sRetI (iK (-2))) sSkip) (sSeq (sCallV 3 mX3_prepare (aR (rGet 11 4 (rLoc 0)) aNil)) (sSeq (sIf (cZ zne (iCallV 3 mX3_comesTo (aR (rGet 11 4 (rLoc 0)) (aI (iGet 5 9 (rGet 11 3 (rLoc 0))) (aI (iLoc 1) aNil))))) (sRetI (iK 0)) sSkip) (sSeq (sSetI 3 (iCallV 6 mX6_firstToLayIn (aR (rGet 11 6 (rLoc 0)) (aI (iGet 5 9 (rGet 11 3 (rLoc 0))) (aI (iLoc 1) aNil))))) (sSeq (sIf (cZ zlt (iLoc 3)) (sRetI (iK (-2))) sSkip) (sRetI (iCond (cOr (cB req (iLoc 2) (iK (-1))) (cB req (iLoc 2) (iLoc 3))) (iK 1) (iK 0))))))))
theorem kX11_lack (g : GT) : MK g 7 yX11_lack cX11_lack 4 (some .int) mX11_lack := MK.of (pcN := 99999) (pcB := 0) (pcC := 0) rfl (Sok.seq (pc1 := 30) (Sok.ite (pc1 := 27) (pc2 := 30) (Cok.or (pc1 := 11) (Cok.not (Cok.zero (pc1 := 8) (pcT := 11) (pcF := 27) (EokI.iCallV (pc1 := 5) (Aok.aR (pc1 := 4) (EokR.getf (pc1 := 1) (j := 7) (ci := 11) (T := TX11) (N := 11) (EokR.aload_n (q := 0) dX11_lack_0) rfl wsX11_in (by decide) flX11_42 dX11_lack_1) (Aok.aI (pc1 := 5) (EokI.iload_n (q := 1) dX11_lack_4) Aok.nil)) (kX0_isHut g) rfl ykX0_isHut vkX11_117 (by decide) (by decide) dX11_lack_5) (JZ.neF (tgt := 27) dX11_lack_8 (by decide)))) (Cok.and (pc1 := 16) (Cok.cmp (pc1 := 12) (pc2 := 13) (pcT := 16) (pcF := 30) (EokI.iload_n (q := 2) dX11_lack_11) (EokI.iconst (v := (-1)) dX11_lack_12 (by decide)) (JI.neF (tgt := 30) dX11_lack_13 (by decide))) (Cok.not (Cok.zero (pc1 := 24) (pcT := 30) (pcF := 27) (EokI.iCallV (pc1 := 21) (Aok.aR (pc1 := 20) (EokR.getf (pc1 := 17) (j := 7) (ci := 11) (T := TX11) (N := 11) (EokR.aload_n (q := 0) dX11_lack_16) rfl wsX11_in (by decide) flX11_42 dX11_lack_17) (Aok.aI (pc1 := 21) (EokI.iload_n (q := 2) dX11_lack_20) Aok.nil)) (kX0_isHut g) rfl ykX0_isHut vkX11_117 (by decide) (by decide) dX11_lack_21) (JZ.neT (tgt := 30) dX11_lack_24 (by decide)))))) (by decide) (Sok.retI (pc1 := 29) (EokI.bipush (v := (-2)) dX11_lack_27 (by decide)) (by decide) dX11_lack_29 rfl) (Sok.skip (pc := 30))) (Sok.seq (pc1 := 37) (Sok.sCallV (pc1 := 34) (Aok.aR (pc1 := 34) (EokR.getf (pc1 := 31) (j := 4) (ci := 11) (T := TX11) (N := 11) (EokR.aload_n (q := 0) dX11_lack_30) rfl wsX11_in (by decide) flX11_64 dX11_lack_31) Aok.nil) (by decide) (kX3_prepare g) rfl ykX3_prepare vkX11_185 (by decide) (by decide) dX11_lack_34) (Sok.seq (pc1 := 57) (Sok.ite (pc1 := 55) (pc2 := 57) (Cok.zero (pc1 := 52) (pcT := 55) (pcF := 57) (EokI.iCallV (pc1 := 49) (Aok.aR (pc1 := 41) (EokR.getf (pc1 := 38) (j := 4) (ci := 11) (T := TX11) (N := 11) (EokR.aload_n (q := 0) dX11_lack_37) rfl wsX11_in (by decide) flX11_64 dX11_lack_38) (Aok.aI (pc1 := 48) (EokI.getf (pc1 := 45) (j := 9) (ci := 5) (T := TX5) (N := 13) (EokR.getf (pc1 := 42) (j := 3) (ci := 11) (T := TX11) (N := 11) (EokR.aload_n (q := 0) dX11_lack_41) rfl wsX11_in (by decide) flX11_35 dX11_lack_42) rfl wsX5_in (by decide) flX11_125 dX11_lack_45) (Aok.aI (pc1 := 49) (EokI.iload_n (q := 1) dX11_lack_48) Aok.nil))) (kX3_comesTo g) rfl ykX3_comesTo vkX11_224 (by decide) (by decide) dX11_lack_49) (JZ.neF (tgt := 57) dX11_lack_52 (by decide))) (by decide) (Sok.retI (pc1 := 56) (EokI.iconst (v := 0) dX11_lack_55 (by decide)) (by decide) dX11_lack_56 rfl) (Sok.skip (pc := 57))) (Sok.seq (pc1 := 73) (Sok.setI_n (q := 3) (pc1 := 72) (EokI.iCallV (pc1 := 69) (Aok.aR (pc1 := 61) (EokR.getf (pc1 := 58) (j := 6) (ci := 11) (T := TX11) (N := 11) (EokR.aload_n (q := 0) dX11_lack_57) rfl wsX11_in (by decide) flX11_80 dX11_lack_58) (Aok.aI (pc1 := 68) (EokI.getf (pc1 := 65) (j := 9) (ci := 5) (T := TX5) (N := 13) (EokR.getf (pc1 := 62) (j := 3) (ci := 11) (T := TX11) (N := 11) (EokR.aload_n (q := 0) dX11_lack_61) rfl wsX11_in (by decide) flX11_35 dX11_lack_62) rfl wsX5_in (by decide) flX11_125 dX11_lack_65) (Aok.aI (pc1 := 69) (EokI.iload_n (q := 1) dX11_lack_68) Aok.nil))) (kX6_firstToLayIn g) rfl ykX6_firstToLayIn vkX11_233 (by decide) (by decide) dX11_lack_69) (by decide) dX11_lack_72 (show 3 < 4 by decide)) (Sok.seq (pc1 := 80) (Sok.ite (pc1 := 77) (pc2 := 80) (Cok.zero (pc1 := 74) (pcT := 77) (pcF := 80) (EokI.iload_n (q := 3) dX11_lack_73) (JZ.ltF (tgt := 80) dX11_lack_74 (by decide))) (by decide) (Sok.retI (pc1 := 79) (EokI.bipush (v := (-2)) dX11_lack_77 (by decide)) (by decide) dX11_lack_79 rfl) (Sok.skip (pc := 80))) (Sok.retI (pc1 := 95) (EokI.cond' (pc1 := 90) (pc2 := 94) (Cok.or (pc1 := 85) (Cok.cmp (pc1 := 81) (pc2 := 82) (pcT := 90) (pcF := 85) (EokI.iload_n (q := 2) dX11_lack_80) (EokI.iconst (v := (-1)) dX11_lack_81 (by decide)) (JI.eqT (tgt := 90) dX11_lack_82 (by decide))) (Cok.cmp (pc1 := 86) (pc2 := 87) (pcT := 90) (pcF := 94) (EokI.iload_n (q := 2) dX11_lack_85) (EokI.iload_n (q := 3) dX11_lack_86) (JI.eqF (tgt := 94) dX11_lack_87 (by decide)))) (EokI.goto (pc1 := 91) (pc2 := 95) (EokI.iconst (v := 1) dX11_lack_90 (by decide)) dX11_lack_91 (by decide)) (EokI.iconst (v := 0) dX11_lack_94 (by decide))) (by decide) dX11_lack_95 rfl))))))
/-! PassHuts.guard(II)I -/
theorem dX11_guard_0 : decode cX11_guard 0 = .ok (.aload_n 0, 1) := by decide +kernel
theorem dX11_guard_1 : decode cX11_guard 1 = .ok (.getfield 42, 3) := by decide +kernel
theorem dX11_guard_4 : decode cX11_guard 4 = .ok (.iload_n 1, 1) := by decide +kernel
theorem dX11_guard_5 : decode cX11_guard 5 = .ok (.invokevirtual 117, 3) := by decide +kernel
theorem dX11_guard_8 : decode cX11_guard 8 = .ok (.ifCond .eq 19, 3) := by decide +kernel
theorem dX11_guard_11 : decode cX11_guard 11 = .ok (.iload_n 2, 1) := by decide +kernel
theorem dX11_guard_12 : decode cX11_guard 12 = .ok (.iconst (-1), 1) := by decide +kernel
theorem dX11_guard_13 : decode cX11_guard 13 = .ok (.if_icmp .eq 17, 3) := by decide +kernel
theorem dX11_guard_16 : decode cX11_guard 16 = .ok (.aload_n 0, 1) := by decide +kernel
theorem dX11_guard_17 : decode cX11_guard 17 = .ok (.getfield 42, 3) := by decide +kernel
theorem dX11_guard_20 : decode cX11_guard 20 = .ok (.iload_n 2, 1) := by decide +kernel
theorem dX11_guard_21 : decode cX11_guard 21 = .ok (.invokevirtual 117, 3) := by decide +kernel
theorem dX11_guard_24 : decode cX11_guard 24 = .ok (.ifCond .ne 6, 3) := by decide +kernel
theorem dX11_guard_27 : decode cX11_guard 27 = .ok (.bipush (-2), 2) := by decide +kernel
theorem dX11_guard_29 : decode cX11_guard 29 = .ok (.ireturn, 1) := by decide +kernel
theorem dX11_guard_30 : decode cX11_guard 30 = .ok (.aload_n 0, 1) := by decide +kernel
theorem dX11_guard_31 : decode cX11_guard 31 = .ok (.getfield 64, 3) := by decide +kernel
theorem dX11_guard_34 : decode cX11_guard 34 = .ok (.invokevirtual 185, 3) := by decide +kernel
theorem dX11_guard_37 : decode cX11_guard 37 = .ok (.aload_n 0, 1) := by decide +kernel
theorem dX11_guard_38 : decode cX11_guard 38 = .ok (.getfield 80, 3) := by decide +kernel
theorem dX11_guard_41 : decode cX11_guard 41 = .ok (.aload_n 0, 1) := by decide +kernel
theorem dX11_guard_42 : decode cX11_guard 42 = .ok (.getfield 35, 3) := by decide +kernel
theorem dX11_guard_45 : decode cX11_guard 45 = .ok (.getfield 125, 3) := by decide +kernel
theorem dX11_guard_48 : decode cX11_guard 48 = .ok (.iload_n 1, 1) := by decide +kernel
theorem dX11_guard_49 : decode cX11_guard 49 = .ok (.invokevirtual 236, 3) := by decide +kernel
theorem dX11_guard_52 : decode cX11_guard 52 = .ok (.istore_n 3, 1) := by decide +kernel
theorem dX11_guard_53 : decode cX11_guard 53 = .ok (.iload_n 3, 1) := by decide +kernel
theorem dX11_guard_54 : decode cX11_guard 54 = .ok (.ifCond .ge 6, 3) := by decide +kernel
theorem dX11_guard_57 : decode cX11_guard 57 = .ok (.bipush (-2), 2) := by decide +kernel
theorem dX11_guard_59 : decode cX11_guard 59 = .ok (.ireturn, 1) := by decide +kernel
theorem dX11_guard_60 : decode cX11_guard 60 = .ok (.iload_n 2, 1) := by decide +kernel
theorem dX11_guard_61 : decode cX11_guard 61 = .ok (.iconst (-1), 1) := by decide +kernel
theorem dX11_guard_62 : decode cX11_guard 62 = .ok (.if_icmp .ne 27, 3) := by decide +kernel
theorem dX11_guard_65 : decode cX11_guard 65 = .ok (.aload_n 0, 1) := by decide +kernel
theorem dX11_guard_66 : decode cX11_guard 66 = .ok (.getfield 42, 3) := by decide +kernel
theorem dX11_guard_69 : decode cX11_guard 69 = .ok (.aload_n 0, 1) := by decide +kernel
theorem dX11_guard_70 : decode cX11_guard 70 = .ok (.getfield 35, 3) := by decide +kernel
theorem dX11_guard_73 : decode cX11_guard 73 = .ok (.getfield 125, 3) := by decide +kernel
theorem dX11_guard_76 : decode cX11_guard 76 = .ok (.invokevirtual 239, 3) := by decide +kernel
theorem dX11_guard_79 : decode cX11_guard 79 = .ok (.aload_n 0, 1) := by decide +kernel
theorem dX11_guard_80 : decode cX11_guard 80 = .ok (.getfield 42, 3) := by decide +kernel
theorem dX11_guard_83 : decode cX11_guard 83 = .ok (.iload_n 3, 1) := by decide +kernel
theorem dX11_guard_84 : decode cX11_guard 84 = .ok (.invokevirtual 239, 3) := by decide +kernel
theorem dX11_guard_87 : decode cX11_guard 87 = .ok (.isub, 1) := by decide +kernel
theorem dX11_guard_88 : decode cX11_guard 88 = .ok (.ireturn, 1) := by decide +kernel
theorem dX11_guard_89 : decode cX11_guard 89 = .ok (.aload_n 0, 1) := by decide +kernel
theorem dX11_guard_90 : decode cX11_guard 90 = .ok (.getfield 42, 3) := by decide +kernel
theorem dX11_guard_93 : decode cX11_guard 93 = .ok (.aload_n 0, 1) := by decide +kernel
theorem dX11_guard_94 : decode cX11_guard 94 = .ok (.getfield 35, 3) := by decide +kernel
theorem dX11_guard_97 : decode cX11_guard 97 = .ok (.getfield 125, 3) := by decide +kernel
theorem dX11_guard_100 : decode cX11_guard 100 = .ok (.iload_n 2, 1) := by decide +kernel
theorem dX11_guard_101 : decode cX11_guard 101 = .ok (.invokevirtual 128, 3) := by decide +kernel
theorem dX11_guard_104 : decode cX11_guard 104 = .ok (.aload_n 0, 1) := by decide +kernel
theorem dX11_guard_105 : decode cX11_guard 105 = .ok (.getfield 42, 3) := by decide +kernel
theorem dX11_guard_108 : decode cX11_guard 108 = .ok (.iload_n 3, 1) := by decide +kernel
theorem dX11_guard_109 : decode cX11_guard 109 = .ok (.iload_n 2, 1) := by decide +kernel
theorem dX11_guard_110 : decode cX11_guard 110 = .ok (.invokevirtual 128, 3) := by decide +kernel
theorem dX11_guard_113 : decode cX11_guard 113 = .ok (.isub, 1) := by decide +kernel
theorem dX11_guard_114 : decode cX11_guard 114 = .ok (.ireturn, 1) := by decide +kernel
abbrev tX11_guard (k : Nat) : MT := (RX11, cX11_guard, 4, k, (some .int))
def mX11_guard : MX := bodyOf 4 (sSeq (sIf (cOr (cNot (cZ zne (iCallV 0 mX0_isHut (aR (rGet 11 7 (rLoc 0)) (aI (iLoc 1) aNil))))) (cAnd (cB rne (iLoc 2) (iK (-1))) (cNot (cZ zne (iCallV 0 mX0_isHut (aR (rGet 11 7 (rLoc 0)) (aI (iLoc 2) aNil))))))) (sRetI (iK (-2))) sSkip) (sSeq (sCallV 3 mX3_prepare (aR (rGet 11 4 (rLoc 0)) aNil)) (sSeq (sSetI 3 (iCallV 6 mX6_firstGuarded (aR (rGet 11 6 (rLoc 0)) (aI (iGet 5 9 (rGet 11 3 (rLoc 0))) (aI (iLoc 1) aNil))))) (sSeq (sIf (cZ zlt (iLoc 3)) (sRetI (iK (-2))) sSkip) (sSeq (sIf (cB req (iLoc 2) (iK (-1))) (sRetI (iB gT2 (· - ·) (iCallV 0 mX0_sumOf (aR (rGet 11 7 (rLoc 0)) (aI (iGet 5 9 (rGet 11 3 (rLoc 0))) aNil))) (iCallV 0 mX0_sumOf (aR (rGet 11 7 (rLoc 0)) (aI (iLoc 3) aNil))))) sSkip) (sRetI (iB gT2 (· - ·) (iCallV 0 mX0_loadsIn (aR (rGet 11 7 (rLoc 0)) (aI (iGet 5 9 (rGet 11 3 (rLoc 0))) (aI (iLoc 2) aNil)))) (iCallV 0 mX0_loadsIn (aR (rGet 11 7 (rLoc 0)) (aI (iLoc 3) (aI (iLoc 2) aNil)))))))))))
theorem kX11_guard (g : GT) : MK g 7 yX11_guard cX11_guard 4 (some .int) mX11_guard := MK.of (pcN := 99999) (pcB := 0) (pcC := 0) rfl (Sok.seq (pc1 := 30) (Sok.ite (pc1 := 27) (pc2 := 30) (Cok.or (pc1 := 11) (Cok.not (Cok.zero (pc1 := 8) (pcT := 11) (pcF := 27) (EokI.iCallV (pc1 := 5) (Aok.aR (pc1 := 4) (EokR.getf (pc1 := 1) (j := 7) (ci := 11) (T := TX11) (N := 11) (EokR.aload_n (q := 0) dX11_guard_0) rfl wsX11_in (by decide) flX11_42 dX11_guard_1) (Aok.aI (pc1 := 5) (EokI.iload_n (q := 1) dX11_guard_4) Aok.nil)) (kX0_isHut g) rfl ykX0_isHut vkX11_117 (by decide) (by decide) dX11_guard_5) (JZ.neF (tgt := 27) dX11_guard_8 (by decide)))) (Cok.and (pc1 := 16) (Cok.cmp (pc1 := 12) (pc2 := 13) (pcT := 16) (pcF := 30) (EokI.iload_n (q := 2) dX11_guard_11) (EokI.iconst (v := (-1)) dX11_guard_12 (by decide)) (JI.neF (tgt := 30) dX11_guard_13 (by decide))) (Cok.not (Cok.zero (pc1 := 24) (pcT := 30) (pcF := 27) (EokI.iCallV (pc1 := 21) (Aok.aR (pc1 := 20) (EokR.getf (pc1 := 17) (j := 7) (ci := 11) (T := TX11) (N := 11) (EokR.aload_n (q := 0) dX11_guard_16) rfl wsX11_in (by decide) flX11_42 dX11_guard_17) (Aok.aI (pc1 := 21) (EokI.iload_n (q := 2) dX11_guard_20) Aok.nil)) (kX0_isHut g) rfl ykX0_isHut vkX11_117 (by decide) (by decide) dX11_guard_21) (JZ.neT (tgt := 30) dX11_guard_24 (by decide)))))) (by decide) (Sok.retI (pc1 := 29) (EokI.bipush (v := (-2)) dX11_guard_27 (by decide)) (by decide) dX11_guard_29 rfl) (Sok.skip (pc := 30))) (Sok.seq (pc1 := 37) (Sok.sCallV (pc1 := 34) (Aok.aR (pc1 := 34) (EokR.getf (pc1 := 31) (j := 4) (ci := 11) (T := TX11) (N := 11) (EokR.aload_n (q := 0) dX11_guard_30) rfl wsX11_in (by decide) flX11_64 dX11_guard_31) Aok.nil) (by decide) (kX3_prepare g) rfl ykX3_prepare vkX11_185 (by decide) (by decide) dX11_guard_34) (Sok.seq (pc1 := 53) (Sok.setI_n (q := 3) (pc1 := 52) (EokI.iCallV (pc1 := 49) (Aok.aR (pc1 := 41) (EokR.getf (pc1 := 38) (j := 6) (ci := 11) (T := TX11) (N := 11) (EokR.aload_n (q := 0) dX11_guard_37) rfl wsX11_in (by decide) flX11_80 dX11_guard_38) (Aok.aI (pc1 := 48) (EokI.getf (pc1 := 45) (j := 9) (ci := 5) (T := TX5) (N := 13) (EokR.getf (pc1 := 42) (j := 3) (ci := 11) (T := TX11) (N := 11) (EokR.aload_n (q := 0) dX11_guard_41) rfl wsX11_in (by decide) flX11_35 dX11_guard_42) rfl wsX5_in (by decide) flX11_125 dX11_guard_45) (Aok.aI (pc1 := 49) (EokI.iload_n (q := 1) dX11_guard_48) Aok.nil))) (kX6_firstGuarded g) rfl ykX6_firstGuarded vkX11_236 (by decide) (by decide) dX11_guard_49) (by decide) dX11_guard_52 (show 3 < 4 by decide)) (Sok.seq (pc1 := 60) (Sok.ite (pc1 := 57) (pc2 := 60) (Cok.zero (pc1 := 54) (pcT := 57) (pcF := 60) (EokI.iload_n (q := 3) dX11_guard_53) (JZ.ltF (tgt := 60) dX11_guard_54 (by decide))) (by decide) (Sok.retI (pc1 := 59) (EokI.bipush (v := (-2)) dX11_guard_57 (by decide)) (by decide) dX11_guard_59 rfl) (Sok.skip (pc := 60))) (Sok.seq (pc1 := 89) (Sok.ite (pc1 := 65) (pc2 := 89) (Cok.cmp (pc1 := 61) (pc2 := 62) (pcT := 65) (pcF := 89) (EokI.iload_n (q := 2) dX11_guard_60) (EokI.iconst (v := (-1)) dX11_guard_61 (by decide)) (JI.eqF (tgt := 89) dX11_guard_62 (by decide))) (by decide) (Sok.retI (pc1 := 88) (EokI.bin (pc1 := 79) (pc2 := 87) (EokI.iCallV (pc1 := 76) (Aok.aR (pc1 := 69) (EokR.getf (pc1 := 66) (j := 7) (ci := 11) (T := TX11) (N := 11) (EokR.aload_n (q := 0) dX11_guard_65) rfl wsX11_in (by decide) flX11_42 dX11_guard_66) (Aok.aI (pc1 := 76) (EokI.getf (pc1 := 73) (j := 9) (ci := 5) (T := TX5) (N := 13) (EokR.getf (pc1 := 70) (j := 3) (ci := 11) (T := TX11) (N := 11) (EokR.aload_n (q := 0) dX11_guard_69) rfl wsX11_in (by decide) flX11_35 dX11_guard_70) rfl wsX5_in (by decide) flX11_125 dX11_guard_73) Aok.nil)) (kX0_sumOf g) rfl ykX0_sumOf vkX11_239 (by decide) (by decide) dX11_guard_76) (EokI.iCallV (pc1 := 84) (Aok.aR (pc1 := 83) (EokR.getf (pc1 := 80) (j := 7) (ci := 11) (T := TX11) (N := 11) (EokR.aload_n (q := 0) dX11_guard_79) rfl wsX11_in (by decide) flX11_42 dX11_guard_80) (Aok.aI (pc1 := 84) (EokI.iload_n (q := 3) dX11_guard_83) Aok.nil)) (kX0_sumOf g) rfl ykX0_sumOf vkX11_239 (by decide) (by decide) dX11_guard_84) (OPI.isub dX11_guard_87)) (by decide) dX11_guard_88 rfl) (Sok.skip (pc := 89))) (Sok.retI (pc1 := 114) (EokI.bin (pc1 := 104) (pc2 := 113) (EokI.iCallV (pc1 := 101) (Aok.aR (pc1 := 93) (EokR.getf (pc1 := 90) (j := 7) (ci := 11) (T := TX11) (N := 11) (EokR.aload_n (q := 0) dX11_guard_89) rfl wsX11_in (by decide) flX11_42 dX11_guard_90) (Aok.aI (pc1 := 100) (EokI.getf (pc1 := 97) (j := 9) (ci := 5) (T := TX5) (N := 13) (EokR.getf (pc1 := 94) (j := 3) (ci := 11) (T := TX11) (N := 11) (EokR.aload_n (q := 0) dX11_guard_93) rfl wsX11_in (by decide) flX11_35 dX11_guard_94) rfl wsX5_in (by decide) flX11_125 dX11_guard_97) (Aok.aI (pc1 := 101) (EokI.iload_n (q := 2) dX11_guard_100) Aok.nil))) (kX0_loadsIn g) rfl ykX0_loadsIn vkX11_128 (by decide) (by decide) dX11_guard_101) (EokI.iCallV (pc1 := 110) (Aok.aR (pc1 := 108) (EokR.getf (pc1 := 105) (j := 7) (ci := 11) (T := TX11) (N := 11) (EokR.aload_n (q := 0) dX11_guard_104) rfl wsX11_in (by decide) flX11_42 dX11_guard_105) (Aok.aI (pc1 := 109) (EokI.iload_n (q := 3) dX11_guard_108) (Aok.aI (pc1 := 110) (EokI.iload_n (q := 2) dX11_guard_109) Aok.nil))) (kX0_loadsIn g) rfl ykX0_loadsIn vkX11_128 (by decide) (by decide) dX11_guard_110) (OPI.isub dX11_guard_113)) (by decide) dX11_guard_114 rfl))))))
/-! PassHuts.before()I -/
theorem dX11_before_0 : decode cX11_before 0 = .ok (.aload_n 0, 1) := by decide +kernel
theorem dX11_before_1 : decode cX11_before 1 = .ok (.getfield 42, 3) := by decide +kernel
theorem dX11_before_4 : decode cX11_before 4 = .ok (.aload_n 0, 1) := by decide +kernel
theorem dX11_before_5 : decode cX11_before 5 = .ok (.getfield 35, 3) := by decide +kernel
theorem dX11_before_8 : decode cX11_before 8 = .ok (.getfield 125, 3) := by decide +kernel
theorem dX11_before_11 : decode cX11_before 11 = .ok (.invokevirtual 242, 3) := by decide +kernel
theorem dX11_before_14 : decode cX11_before 14 = .ok (.ireturn, 1) := by decide +kernel
abbrev tX11_before (k : Nat) : MT := (RX11, cX11_before, 1, k, (some .int))
def mX11_before : MX := bodyOf 1 (sRetI (iCallV 0 mX0_countBefore (aR (rGet 11 7 (rLoc 0)) (aI (iGet 5 9 (rGet 11 3 (rLoc 0))) aNil))))
theorem kX11_before (g : GT) : MK g 5 yX11_before cX11_before 1 (some .int) mX11_before := MK.of (pcN := 99999) (pcB := 0) (pcC := 0) rfl (Sok.retI (pc1 := 14) (EokI.iCallV (pc1 := 11) (Aok.aR (pc1 := 4) (EokR.getf (pc1 := 1) (j := 7) (ci := 11) (T := TX11) (N := 11) (EokR.aload_n (q := 0) dX11_before_0) rfl wsX11_in (by decide) flX11_42 dX11_before_1) (Aok.aI (pc1 := 11) (EokI.getf (pc1 := 8) (j := 9) (ci := 5) (T := TX5) (N := 13) (EokR.getf (pc1 := 5) (j := 3) (ci := 11) (T := TX11) (N := 11) (EokR.aload_n (q := 0) dX11_before_4) rfl wsX11_in (by decide) flX11_35 dX11_before_5) rfl wsX5_in (by decide) flX11_125 dX11_before_8) Aok.nil)) (kX0_countBefore g) rfl ykX0_countBefore vkX11_242 (by decide) (by decide) dX11_before_11) (by decide) dX11_before_14 rfl)
/-! PassHuts.reach(I)I -/
theorem dX11_reach_0 : decode cX11_reach 0 = .ok (.aload_n 0, 1) := by decide +kernel
theorem dX11_reach_1 : decode cX11_reach 1 = .ok (.getfield 42, 3) := by decide +kernel
theorem dX11_reach_4 : decode cX11_reach 4 = .ok (.iload_n 1, 1) := by decide +kernel
theorem dX11_reach_5 : decode cX11_reach 5 = .ok (.invokevirtual 117, 3) := by decide +kernel
theorem dX11_reach_8 : decode cX11_reach 8 = .ok (.ifCond .eq 14, 3) := by decide +kernel
theorem dX11_reach_11 : decode cX11_reach 11 = .ok (.aload_n 0, 1) := by decide +kernel
theorem dX11_reach_12 : decode cX11_reach 12 = .ok (.getfield 42, 3) := by decide +kernel
theorem dX11_reach_15 : decode cX11_reach 15 = .ok (.iload_n 1, 1) := by decide +kernel
theorem dX11_reach_16 : decode cX11_reach 16 = .ok (.invokevirtual 245, 3) := by decide +kernel
theorem dX11_reach_19 : decode cX11_reach 19 = .ok (.goto 4, 3) := by decide +kernel
theorem dX11_reach_22 : decode cX11_reach 22 = .ok (.iconst (-1), 1) := by decide +kernel
theorem dX11_reach_23 : decode cX11_reach 23 = .ok (.ireturn, 1) := by decide +kernel
abbrev tX11_reach (k : Nat) : MT := (RX11, cX11_reach, 2, k, (some .int))
def mX11_reach : MX := bodyOf 2 (sRetI (iCond (cZ zne (iCallV 0 mX0_isHut (aR (rGet 11 7 (rLoc 0)) (aI (iLoc 1) aNil)))) (iCallV 0 mX0_joinedTo (aR (rGet 11 7 (rLoc 0)) (aI (iLoc 1) aNil))) (iK (-1))))
theorem kX11_reach (g : GT) : MK g 5 yX11_reach cX11_reach 2 (some .int) mX11_reach := MK.of (pcN := 99999) (pcB := 0) (pcC := 0) rfl (Sok.retI (pc1 := 23) (EokI.cond' (pc1 := 11) (pc2 := 22) (Cok.zero (pc1 := 8) (pcT := 11) (pcF := 22) (EokI.iCallV (pc1 := 5) (Aok.aR (pc1 := 4) (EokR.getf (pc1 := 1) (j := 7) (ci := 11) (T := TX11) (N := 11) (EokR.aload_n (q := 0) dX11_reach_0) rfl wsX11_in (by decide) flX11_42 dX11_reach_1) (Aok.aI (pc1 := 5) (EokI.iload_n (q := 1) dX11_reach_4) Aok.nil)) (kX0_isHut g) rfl ykX0_isHut vkX11_117 (by decide) (by decide) dX11_reach_5) (JZ.neF (tgt := 22) dX11_reach_8 (by decide))) (EokI.goto (pc1 := 19) (pc2 := 23) (EokI.iCallV (pc1 := 16) (Aok.aR (pc1 := 15) (EokR.getf (pc1 := 12) (j := 7) (ci := 11) (T := TX11) (N := 11) (EokR.aload_n (q := 0) dX11_reach_11) rfl wsX11_in (by decide) flX11_42 dX11_reach_12) (Aok.aI (pc1 := 16) (EokI.iload_n (q := 1) dX11_reach_15) Aok.nil)) (kX0_joinedTo g) rfl ykX0_joinedTo vkX11_245 (by decide) (by decide) dX11_reach_16) dX11_reach_19 (by decide)) (EokI.iconst (v := (-1)) dX11_reach_22 (by decide))) (by decide) dX11_reach_23 rfl)
/-! PassHuts.far(II)I -/
theorem dX11_far_0 : decode cX11_far 0 = .ok (.aload_n 0, 1) := by decide +kernel
theorem dX11_far_1 : decode cX11_far 1 = .ok (.getfield 42, 3) := by decide +kernel
theorem dX11_far_4 : decode cX11_far 4 = .ok (.iload_n 1, 1) := by decide +kernel
theorem dX11_far_5 : decode cX11_far 5 = .ok (.invokevirtual 117, 3) := by decide +kernel
theorem dX11_far_8 : decode cX11_far 8 = .ok (.ifCond .eq 26, 3) := by decide +kernel
theorem dX11_far_11 : decode cX11_far 11 = .ok (.aload_n 0, 1) := by decide +kernel
theorem dX11_far_12 : decode cX11_far 12 = .ok (.getfield 42, 3) := by decide +kernel
theorem dX11_far_15 : decode cX11_far 15 = .ok (.iload_n 2, 1) := by decide +kernel
theorem dX11_far_16 : decode cX11_far 16 = .ok (.invokevirtual 117, 3) := by decide +kernel
theorem dX11_far_19 : decode cX11_far 19 = .ok (.ifCond .eq 15, 3) := by decide +kernel
theorem dX11_far_22 : decode cX11_far 22 = .ok (.aload_n 0, 1) := by decide +kernel
theorem dX11_far_23 : decode cX11_far 23 = .ok (.getfield 42, 3) := by decide +kernel
theorem dX11_far_26 : decode cX11_far 26 = .ok (.iload_n 1, 1) := by decide +kernel
theorem dX11_far_27 : decode cX11_far 27 = .ok (.iload_n 2, 1) := by decide +kernel
theorem dX11_far_28 : decode cX11_far 28 = .ok (.invokevirtual 248, 3) := by decide +kernel
theorem dX11_far_31 : decode cX11_far 31 = .ok (.goto 4, 3) := by decide +kernel
theorem dX11_far_34 : decode cX11_far 34 = .ok (.iconst (-1), 1) := by decide +kernel
theorem dX11_far_35 : decode cX11_far 35 = .ok (.ireturn, 1) := by decide +kernel
abbrev tX11_far (k : Nat) : MT := (RX11, cX11_far, 3, k, (some .int))
def mX11_far : MX := bodyOf 3 (sRetI (iCond (cAnd (cZ zne (iCallV 0 mX0_isHut (aR (rGet 11 7 (rLoc 0)) (aI (iLoc 1) aNil)))) (cZ zne (iCallV 0 mX0_isHut (aR (rGet 11 7 (rLoc 0)) (aI (iLoc 2) aNil))))) (iCallV 0 mX0_pathsBetween (aR (rGet 11 7 (rLoc 0)) (aI (iLoc 1) (aI (iLoc 2) aNil)))) (iK (-1))))
theorem kX11_far (g : GT) : MK g 5 yX11_far cX11_far 3 (some .int) mX11_far := MK.of (pcN := 99999) (pcB := 0) (pcC := 0) rfl (Sok.retI (pc1 := 35) (EokI.cond' (pc1 := 22) (pc2 := 34) (Cok.and (pc1 := 11) (Cok.zero (pc1 := 8) (pcT := 11) (pcF := 34) (EokI.iCallV (pc1 := 5) (Aok.aR (pc1 := 4) (EokR.getf (pc1 := 1) (j := 7) (ci := 11) (T := TX11) (N := 11) (EokR.aload_n (q := 0) dX11_far_0) rfl wsX11_in (by decide) flX11_42 dX11_far_1) (Aok.aI (pc1 := 5) (EokI.iload_n (q := 1) dX11_far_4) Aok.nil)) (kX0_isHut g) rfl ykX0_isHut vkX11_117 (by decide) (by decide) dX11_far_5) (JZ.neF (tgt := 34) dX11_far_8 (by decide))) (Cok.zero (pc1 := 19) (pcT := 22) (pcF := 34) (EokI.iCallV (pc1 := 16) (Aok.aR (pc1 := 15) (EokR.getf (pc1 := 12) (j := 7) (ci := 11) (T := TX11) (N := 11) (EokR.aload_n (q := 0) dX11_far_11) rfl wsX11_in (by decide) flX11_42 dX11_far_12) (Aok.aI (pc1 := 16) (EokI.iload_n (q := 2) dX11_far_15) Aok.nil)) (kX0_isHut g) rfl ykX0_isHut vkX11_117 (by decide) (by decide) dX11_far_16) (JZ.neF (tgt := 34) dX11_far_19 (by decide)))) (EokI.goto (pc1 := 31) (pc2 := 35) (EokI.iCallV (pc1 := 28) (Aok.aR (pc1 := 26) (EokR.getf (pc1 := 23) (j := 7) (ci := 11) (T := TX11) (N := 11) (EokR.aload_n (q := 0) dX11_far_22) rfl wsX11_in (by decide) flX11_42 dX11_far_23) (Aok.aI (pc1 := 27) (EokI.iload_n (q := 1) dX11_far_26) (Aok.aI (pc1 := 28) (EokI.iload_n (q := 2) dX11_far_27) Aok.nil))) (kX0_pathsBetween g) rfl ykX0_pathsBetween vkX11_248 (by decide) (by decide) dX11_far_28) dX11_far_31 (by decide)) (EokI.iconst (v := (-1)) dX11_far_34 (by decide))) (by decide) dX11_far_35 rfl)
/-! PassHuts.rich()I -/
theorem dX11_rich_0 : decode cX11_rich 0 = .ok (.iconst (-1), 1) := by decide +kernel
theorem dX11_rich_1 : decode cX11_rich 1 = .ok (.istore_n 1, 1) := by decide +kernel
theorem dX11_rich_2 : decode cX11_rich 2 = .ok (.iconst (-1), 1) := by decide +kernel
theorem dX11_rich_3 : decode cX11_rich 3 = .ok (.istore_n 2, 1) := by decide +kernel
theorem dX11_rich_4 : decode cX11_rich 4 = .ok (.iconst 0, 1) := by decide +kernel
theorem dX11_rich_5 : decode cX11_rich 5 = .ok (.istore_n 3, 1) := by decide +kernel
theorem dX11_rich_6 : decode cX11_rich 6 = .ok (.iload_n 3, 1) := by decide +kernel
theorem dX11_rich_7 : decode cX11_rich 7 = .ok (.aload_n 0, 1) := by decide +kernel
theorem dX11_rich_8 : decode cX11_rich 8 = .ok (.getfield 42, 3) := by decide +kernel
theorem dX11_rich_11 : decode cX11_rich 11 = .ok (.getfield 227, 3) := by decide +kernel
theorem dX11_rich_14 : decode cX11_rich 14 = .ok (.if_icmp .ge 46, 3) := by decide +kernel
theorem dX11_rich_17 : decode cX11_rich 17 = .ok (.aload_n 0, 1) := by decide +kernel
theorem dX11_rich_18 : decode cX11_rich 18 = .ok (.getfield 42, 3) := by decide +kernel
theorem dX11_rich_21 : decode cX11_rich 21 = .ok (.aload_n 0, 1) := by decide +kernel
theorem dX11_rich_22 : decode cX11_rich 22 = .ok (.getfield 35, 3) := by decide +kernel
theorem dX11_rich_25 : decode cX11_rich 25 = .ok (.getfield 125, 3) := by decide +kernel
theorem dX11_rich_28 : decode cX11_rich 28 = .ok (.iload_n 3, 1) := by decide +kernel
theorem dX11_rich_29 : decode cX11_rich 29 = .ok (.invokevirtual 128, 3) := by decide +kernel
theorem dX11_rich_32 : decode cX11_rich 32 = .ok (.iload_n 2, 1) := by decide +kernel
theorem dX11_rich_33 : decode cX11_rich 33 = .ok (.if_icmp .le 21, 3) := by decide +kernel
theorem dX11_rich_36 : decode cX11_rich 36 = .ok (.iload_n 3, 1) := by decide +kernel
theorem dX11_rich_37 : decode cX11_rich 37 = .ok (.istore_n 1, 1) := by decide +kernel
theorem dX11_rich_38 : decode cX11_rich 38 = .ok (.aload_n 0, 1) := by decide +kernel
theorem dX11_rich_39 : decode cX11_rich 39 = .ok (.getfield 42, 3) := by decide +kernel
theorem dX11_rich_42 : decode cX11_rich 42 = .ok (.aload_n 0, 1) := by decide +kernel
theorem dX11_rich_43 : decode cX11_rich 43 = .ok (.getfield 35, 3) := by decide +kernel
theorem dX11_rich_46 : decode cX11_rich 46 = .ok (.getfield 125, 3) := by decide +kernel
theorem dX11_rich_49 : decode cX11_rich 49 = .ok (.iload_n 3, 1) := by decide +kernel
theorem dX11_rich_50 : decode cX11_rich 50 = .ok (.invokevirtual 128, 3) := by decide +kernel
theorem dX11_rich_53 : decode cX11_rich 53 = .ok (.istore_n 2, 1) := by decide +kernel
theorem dX11_rich_54 : decode cX11_rich 54 = .ok (.iinc 3 1, 3) := by decide +kernel
theorem dX11_rich_57 : decode cX11_rich 57 = .ok (.goto (-51), 3) := by decide +kernel
theorem dX11_rich_60 : decode cX11_rich 60 = .ok (.iload_n 1, 1) := by decide +kernel
theorem dX11_rich_61 : decode cX11_rich 61 = .ok (.ireturn, 1) := by decide +kernel
abbrev tX11_rich (k : Nat) : MT := (RX11, cX11_rich, 4, k, (some .int))
def lX11_rich_1 : SX := (sLoop (cB rlt (iLoc 3) (iGet 0 3 (rGet 11 7 (rLoc 0)))) (sIf (cB rgt (iCallV 0 mX0_loadsIn (aR (rGet 11 7 (rLoc 0)) (aI (iGet 5 9 (rGet 11 3 (rLoc 0))) (aI (iLoc 3) aNil)))) (iLoc 2)) (sSeq (sSetI 1 (iLoc 3)) (sSetI 2 (iCallV 0 mX0_loadsIn (aR (rGet 11 7 (rLoc 0)) (aI (iGet 5 9 (rGet 11 3 (rLoc 0))) (aI (iLoc 3) aNil)))))) sSkip) (sInc 3 1))
theorem olX11_rich_1 (g : GT) {pcB pcC : Nat} : Sok g (tX11_rich 2) 6 60 pcB pcC (lX11_rich_1) := (Sok.loop (pc := 6) (pc1 := 17) (pc2 := 54) (pcN := 60) (Cok.cmp (pc1 := 7) (pc2 := 14) (pcT := 17) (pcF := 60) (EokI.iload_n (q := 3) dX11_rich_6) (EokI.getf (pc1 := 11) (j := 3) (ci := 0) (T := TX0) (N := 17) (EokR.getf (pc1 := 8) (j := 7) (ci := 11) (T := TX11) (N := 11) (EokR.aload_n (q := 0) dX11_rich_7) rfl wsX11_in (by decide) flX11_42 dX11_rich_8) rfl wsX0_in (by decide) flX11_227 dX11_rich_11) (JI.ltF (tgt := 60) dX11_rich_14 (by decide))) (by decide) (Sok.ite (pc1 := 36) (pc2 := 54) (Cok.cmp (pc1 := 32) (pc2 := 33) (pcT := 36) (pcF := 54) (EokI.iCallV (pc1 := 29) (Aok.aR (pc1 := 21) (EokR.getf (pc1 := 18) (j := 7) (ci := 11) (T := TX11) (N := 11) (EokR.aload_n (q := 0) dX11_rich_17) rfl wsX11_in (by decide) flX11_42 dX11_rich_18) (Aok.aI (pc1 := 28) (EokI.getf (pc1 := 25) (j := 9) (ci := 5) (T := TX5) (N := 13) (EokR.getf (pc1 := 22) (j := 3) (ci := 11) (T := TX11) (N := 11) (EokR.aload_n (q := 0) dX11_rich_21) rfl wsX11_in (by decide) flX11_35 dX11_rich_22) rfl wsX5_in (by decide) flX11_125 dX11_rich_25) (Aok.aI (pc1 := 29) (EokI.iload_n (q := 3) dX11_rich_28) Aok.nil))) (kX0_loadsIn g) rfl ykX0_loadsIn vkX11_128 (by decide) (by decide) dX11_rich_29) (EokI.iload_n (q := 2) dX11_rich_32) (JI.gtF (tgt := 54) dX11_rich_33 (by decide))) (by decide) (Sok.seq (pc1 := 38) (Sok.setI_n (q := 1) (pc1 := 37) (EokI.iload_n (q := 3) dX11_rich_36) (by decide) dX11_rich_37 (show 1 < 4 by decide)) (Sok.setI_n (q := 2) (pc1 := 53) (EokI.iCallV (pc1 := 50) (Aok.aR (pc1 := 42) (EokR.getf (pc1 := 39) (j := 7) (ci := 11) (T := TX11) (N := 11) (EokR.aload_n (q := 0) dX11_rich_38) rfl wsX11_in (by decide) flX11_42 dX11_rich_39) (Aok.aI (pc1 := 49) (EokI.getf (pc1 := 46) (j := 9) (ci := 5) (T := TX5) (N := 13) (EokR.getf (pc1 := 43) (j := 3) (ci := 11) (T := TX11) (N := 11) (EokR.aload_n (q := 0) dX11_rich_42) rfl wsX11_in (by decide) flX11_35 dX11_rich_43) rfl wsX5_in (by decide) flX11_125 dX11_rich_46) (Aok.aI (pc1 := 50) (EokI.iload_n (q := 3) dX11_rich_49) Aok.nil))) (kX0_loadsIn g) rfl ykX0_loadsIn vkX11_128 (by decide) (by decide) dX11_rich_50) (by decide) dX11_rich_53 (show 2 < 4 by decide))) (Sok.skip (pc := 54))) (Sok.goto (pc1 := 57) (pcN := 6) (Sok.iinc (i := 3) (v := 1) dX11_rich_54 (show 3 < 4 by decide) (by decide)) dX11_rich_57 (by decide)))
def mX11_rich : MX := bodyOf 4 (sSeq (sSetI 1 (iK (-1))) (sSeq (sSetI 2 (iK (-1))) (sSeq (sSeq (sSeq (sSetI 3 (iK 0)) lX11_rich_1) (sForget 3)) (sRetI (iLoc 1)))))
theorem kX11_rich (g : GT) : MK g 2 yX11_rich cX11_rich 4 (some .int) mX11_rich := MK.of (pcN := 99999) (pcB := 0) (pcC := 0) rfl (Sok.seq (pc1 := 2) (Sok.setI_n (q := 1) (pc1 := 1) (EokI.iconst (v := (-1)) dX11_rich_0 (by decide)) (by decide) dX11_rich_1 (show 1 < 4 by decide)) (Sok.seq (pc1 := 4) (Sok.setI_n (q := 2) (pc1 := 3) (EokI.iconst (v := (-1)) dX11_rich_2 (by decide)) (by decide) dX11_rich_3 (show 2 < 4 by decide)) (Sok.seq (pc1 := 60) (Sok.seq (pc1 := 60) (Sok.seq (pc1 := 6) (Sok.setI_n (q := 3) (pc1 := 5) (EokI.iconst (v := 0) dX11_rich_4 (by decide)) (by decide) dX11_rich_5 (show 3 < 4 by decide)) (olX11_rich_1 g )) (Sok.forget (pc := 60))) (Sok.retI (pc1 := 61) (EokI.iload_n (q := 1) dX11_rich_60) (by decide) dX11_rich_61 rfl))))
/-! PassHuts.cheap(II)I -/
theorem dX11_cheap_0 : decode cX11_cheap 0 = .ok (.aload_n 0, 1) := by decide +kernel
theorem dX11_cheap_1 : decode cX11_cheap 1 = .ok (.getfield 42, 3) := by decide +kernel
theorem dX11_cheap_4 : decode cX11_cheap 4 = .ok (.iload_n 1, 1) := by decide +kernel
theorem dX11_cheap_5 : decode cX11_cheap 5 = .ok (.invokevirtual 117, 3) := by decide +kernel
theorem dX11_cheap_8 : decode cX11_cheap 8 = .ok (.ifCond .eq 26, 3) := by decide +kernel
theorem dX11_cheap_11 : decode cX11_cheap 11 = .ok (.aload_n 0, 1) := by decide +kernel
theorem dX11_cheap_12 : decode cX11_cheap 12 = .ok (.getfield 42, 3) := by decide +kernel
theorem dX11_cheap_15 : decode cX11_cheap 15 = .ok (.iload_n 2, 1) := by decide +kernel
theorem dX11_cheap_16 : decode cX11_cheap 16 = .ok (.invokevirtual 117, 3) := by decide +kernel
theorem dX11_cheap_19 : decode cX11_cheap 19 = .ok (.ifCond .eq 15, 3) := by decide +kernel
theorem dX11_cheap_22 : decode cX11_cheap 22 = .ok (.aload_n 0, 1) := by decide +kernel
theorem dX11_cheap_23 : decode cX11_cheap 23 = .ok (.getfield 42, 3) := by decide +kernel
theorem dX11_cheap_26 : decode cX11_cheap 26 = .ok (.iload_n 1, 1) := by decide +kernel
theorem dX11_cheap_27 : decode cX11_cheap 27 = .ok (.iload_n 2, 1) := by decide +kernel
theorem dX11_cheap_28 : decode cX11_cheap 28 = .ok (.invokevirtual 251, 3) := by decide +kernel
theorem dX11_cheap_31 : decode cX11_cheap 31 = .ok (.goto 4, 3) := by decide +kernel
theorem dX11_cheap_34 : decode cX11_cheap 34 = .ok (.iconst (-1), 1) := by decide +kernel
theorem dX11_cheap_35 : decode cX11_cheap 35 = .ok (.ireturn, 1) := by decide +kernel
abbrev tX11_cheap (k : Nat) : MT := (RX11, cX11_cheap, 3, k, (some .int))
def mX11_cheap : MX := bodyOf 3 (sRetI (iCond (cAnd (cZ zne (iCallV 0 mX0_isHut (aR (rGet 11 7 (rLoc 0)) (aI (iLoc 1) aNil)))) (cZ zne (iCallV 0 mX0_isHut (aR (rGet 11 7 (rLoc 0)) (aI (iLoc 2) aNil))))) (iCallV 0 mX0_leastProduct (aR (rGet 11 7 (rLoc 0)) (aI (iLoc 1) (aI (iLoc 2) aNil)))) (iK (-1))))
theorem kX11_cheap (g : GT) : MK g 4 yX11_cheap cX11_cheap 3 (some .int) mX11_cheap := MK.of (pcN := 99999) (pcB := 0) (pcC := 0) rfl (Sok.retI (pc1 := 35) (EokI.cond' (pc1 := 22) (pc2 := 34) (Cok.and (pc1 := 11) (Cok.zero (pc1 := 8) (pcT := 11) (pcF := 34) (EokI.iCallV (pc1 := 5) (Aok.aR (pc1 := 4) (EokR.getf (pc1 := 1) (j := 7) (ci := 11) (T := TX11) (N := 11) (EokR.aload_n (q := 0) dX11_cheap_0) rfl wsX11_in (by decide) flX11_42 dX11_cheap_1) (Aok.aI (pc1 := 5) (EokI.iload_n (q := 1) dX11_cheap_4) Aok.nil)) (kX0_isHut g) rfl ykX0_isHut vkX11_117 (by decide) (by decide) dX11_cheap_5) (JZ.neF (tgt := 34) dX11_cheap_8 (by decide))) (Cok.zero (pc1 := 19) (pcT := 22) (pcF := 34) (EokI.iCallV (pc1 := 16) (Aok.aR (pc1 := 15) (EokR.getf (pc1 := 12) (j := 7) (ci := 11) (T := TX11) (N := 11) (EokR.aload_n (q := 0) dX11_cheap_11) rfl wsX11_in (by decide) flX11_42 dX11_cheap_12) (Aok.aI (pc1 := 16) (EokI.iload_n (q := 2) dX11_cheap_15) Aok.nil)) (kX0_isHut g) rfl ykX0_isHut vkX11_117 (by decide) (by decide) dX11_cheap_16) (JZ.neF (tgt := 34) dX11_cheap_19 (by decide)))) (EokI.goto (pc1 := 31) (pc2 := 35) (EokI.iCallV (pc1 := 28) (Aok.aR (pc1 := 26) (EokR.getf (pc1 := 23) (j := 7) (ci := 11) (T := TX11) (N := 11) (EokR.aload_n (q := 0) dX11_cheap_22) rfl wsX11_in (by decide) flX11_42 dX11_cheap_23) (Aok.aI (pc1 := 27) (EokI.iload_n (q := 1) dX11_cheap_26) (Aok.aI (pc1 := 28) (EokI.iload_n (q := 2) dX11_cheap_27) Aok.nil))) (kX0_leastProduct g) rfl ykX0_leastProduct vkX11_251 (by decide) (by decide) dX11_cheap_28) dX11_cheap_31 (by decide)) (EokI.iconst (v := (-1)) dX11_cheap_34 (by decide))) (by decide) dX11_cheap_35 rfl)
/-! PassHuts.layings(I)I -/
theorem dX11_layings_0 : decode cX11_layings 0 = .ok (.iload_n 1, 1) := by decide +kernel
theorem dX11_layings_1 : decode cX11_layings 1 = .ok (.invokestatic 206, 3) := by decide +kernel
theorem dX11_layings_4 : decode cX11_layings 4 = .ok (.ifCond .eq 14, 3) := by decide +kernel
theorem dX11_layings_7 : decode cX11_layings 7 = .ok (.aload_n 0, 1) := by decide +kernel
theorem dX11_layings_8 : decode cX11_layings 8 = .ok (.getfield 80, 3) := by decide +kernel
theorem dX11_layings_11 : decode cX11_layings 11 = .ok (.iload_n 1, 1) := by decide +kernel
theorem dX11_layings_12 : decode cX11_layings 12 = .ok (.invokevirtual 254, 3) := by decide +kernel
theorem dX11_layings_15 : decode cX11_layings 15 = .ok (.goto 4, 3) := by decide +kernel
theorem dX11_layings_18 : decode cX11_layings 18 = .ok (.iconst (-1), 1) := by decide +kernel
theorem dX11_layings_19 : decode cX11_layings 19 = .ok (.ireturn, 1) := by decide +kernel
abbrev tX11_layings (k : Nat) : MT := (RX11, cX11_layings, 2, k, (some .int))
def mX11_layings : MX := bodyOf 2 (sRetI (iCond (cZ zne (iCallS mX11_isSum (aI (iLoc 1) aNil))) (iCallV 6 mX6_countLayings (aR (rGet 11 6 (rLoc 0)) (aI (iLoc 1) aNil))) (iK (-1))))
theorem kX11_layings (g : GT) : MK g 2 yX11_layings cX11_layings 2 (some .int) mX11_layings := MK.of (pcN := 99999) (pcB := 0) (pcC := 0) rfl (Sok.retI (pc1 := 19) (EokI.cond' (pc1 := 7) (pc2 := 18) (Cok.zero (pc1 := 4) (pcT := 7) (pcF := 18) (EokI.iCallS (pc1 := 1) (Aok.aI (pc1 := 1) (EokI.iload_n (q := 1) dX11_layings_0) Aok.nil) (kX11_isSum g) ykX11_isSum skX11_206 (by decide) (by decide) dX11_layings_1) (JZ.neF (tgt := 18) dX11_layings_4 (by decide))) (EokI.goto (pc1 := 15) (pc2 := 19) (EokI.iCallV (pc1 := 12) (Aok.aR (pc1 := 11) (EokR.getf (pc1 := 8) (j := 6) (ci := 11) (T := TX11) (N := 11) (EokR.aload_n (q := 0) dX11_layings_7) rfl wsX11_in (by decide) flX11_80 dX11_layings_8) (Aok.aI (pc1 := 12) (EokI.iload_n (q := 1) dX11_layings_11) Aok.nil)) (kX6_countLayings g) rfl ykX6_countLayings vkX11_254 (by decide) (by decide) dX11_layings_12) dX11_layings_15 (by decide)) (EokI.iconst (v := (-1)) dX11_layings_18 (by decide))) (by decide) dX11_layings_19 rfl)
/-! PassHuts.comes(II)I -/
theorem dX11_comes_0 : decode cX11_comes 0 = .ok (.aload_n 0, 1) := by decide +kernel
theorem dX11_comes_1 : decode cX11_comes 1 = .ok (.getfield 64, 3) := by decide +kernel
theorem dX11_comes_4 : decode cX11_comes 4 = .ok (.invokevirtual 185, 3) := by decide +kernel
theorem dX11_comes_7 : decode cX11_comes 7 = .ok (.aload_n 0, 1) := by decide +kernel
theorem dX11_comes_8 : decode cX11_comes 8 = .ok (.getfield 42, 3) := by decide +kernel
theorem dX11_comes_11 : decode cX11_comes 11 = .ok (.iload_n 1, 1) := by decide +kernel
theorem dX11_comes_12 : decode cX11_comes 12 = .ok (.invokevirtual 117, 3) := by decide +kernel
theorem dX11_comes_15 : decode cX11_comes 15 = .ok (.ifCond .eq 22, 3) := by decide +kernel
theorem dX11_comes_18 : decode cX11_comes 18 = .ok (.iload_n 2, 1) := by decide +kernel
theorem dX11_comes_19 : decode cX11_comes 19 = .ok (.invokestatic 206, 3) := by decide +kernel
theorem dX11_comes_22 : decode cX11_comes 22 = .ok (.ifCond .eq 15, 3) := by decide +kernel
theorem dX11_comes_25 : decode cX11_comes 25 = .ok (.aload_n 0, 1) := by decide +kernel
theorem dX11_comes_26 : decode cX11_comes 26 = .ok (.getfield 80, 3) := by decide +kernel
theorem dX11_comes_29 : decode cX11_comes 29 = .ok (.iload_n 1, 1) := by decide +kernel
theorem dX11_comes_30 : decode cX11_comes 30 = .ok (.iload_n 2, 1) := by decide +kernel
theorem dX11_comes_31 : decode cX11_comes 31 = .ok (.invokevirtual 257, 3) := by decide +kernel
theorem dX11_comes_34 : decode cX11_comes 34 = .ok (.goto 4, 3) := by decide +kernel
theorem dX11_comes_37 : decode cX11_comes 37 = .ok (.iconst (-1), 1) := by decide +kernel
theorem dX11_comes_38 : decode cX11_comes 38 = .ok (.ireturn, 1) := by decide +kernel
abbrev tX11_comes (k : Nat) : MT := (RX11, cX11_comes, 3, k, (some .int))
def mX11_comes : MX := bodyOf 3 (sSeq (sCallV 3 mX3_prepare (aR (rGet 11 4 (rLoc 0)) aNil)) (sRetI (iCond (cAnd (cZ zne (iCallV 0 mX0_isHut (aR (rGet 11 7 (rLoc 0)) (aI (iLoc 1) aNil)))) (cZ zne (iCallS mX11_isSum (aI (iLoc 2) aNil)))) (iCallV 6 mX6_countComing (aR (rGet 11 6 (rLoc 0)) (aI (iLoc 1) (aI (iLoc 2) aNil)))) (iK (-1)))))
theorem kX11_comes (g : GT) : MK g 7 yX11_comes cX11_comes 3 (some .int) mX11_comes := MK.of (pcN := 99999) (pcB := 0) (pcC := 0) rfl (Sok.seq (pc1 := 7) (Sok.sCallV (pc1 := 4) (Aok.aR (pc1 := 4) (EokR.getf (pc1 := 1) (j := 4) (ci := 11) (T := TX11) (N := 11) (EokR.aload_n (q := 0) dX11_comes_0) rfl wsX11_in (by decide) flX11_64 dX11_comes_1) Aok.nil) (by decide) (kX3_prepare g) rfl ykX3_prepare vkX11_185 (by decide) (by decide) dX11_comes_4) (Sok.retI (pc1 := 38) (EokI.cond' (pc1 := 25) (pc2 := 37) (Cok.and (pc1 := 18) (Cok.zero (pc1 := 15) (pcT := 18) (pcF := 37) (EokI.iCallV (pc1 := 12) (Aok.aR (pc1 := 11) (EokR.getf (pc1 := 8) (j := 7) (ci := 11) (T := TX11) (N := 11) (EokR.aload_n (q := 0) dX11_comes_7) rfl wsX11_in (by decide) flX11_42 dX11_comes_8) (Aok.aI (pc1 := 12) (EokI.iload_n (q := 1) dX11_comes_11) Aok.nil)) (kX0_isHut g) rfl ykX0_isHut vkX11_117 (by decide) (by decide) dX11_comes_12) (JZ.neF (tgt := 37) dX11_comes_15 (by decide))) (Cok.zero (pc1 := 22) (pcT := 25) (pcF := 37) (EokI.iCallS (pc1 := 19) (Aok.aI (pc1 := 19) (EokI.iload_n (q := 2) dX11_comes_18) Aok.nil) (kX11_isSum g) ykX11_isSum skX11_206 (by decide) (by decide) dX11_comes_19) (JZ.neF (tgt := 37) dX11_comes_22 (by decide)))) (EokI.goto (pc1 := 34) (pc2 := 38) (EokI.iCallV (pc1 := 31) (Aok.aR (pc1 := 29) (EokR.getf (pc1 := 26) (j := 6) (ci := 11) (T := TX11) (N := 11) (EokR.aload_n (q := 0) dX11_comes_25) rfl wsX11_in (by decide) flX11_80 dX11_comes_26) (Aok.aI (pc1 := 30) (EokI.iload_n (q := 1) dX11_comes_29) (Aok.aI (pc1 := 31) (EokI.iload_n (q := 2) dX11_comes_30) Aok.nil))) (kX6_countComing g) rfl ykX6_countComing vkX11_257 (by decide) (by decide) dX11_comes_31) dX11_comes_34 (by decide)) (EokI.iconst (v := (-1)) dX11_comes_37 (by decide))) (by decide) dX11_comes_38 rfl))
/-! PassHuts.eden(I)I -/
theorem dX11_eden_0 : decode cX11_eden 0 = .ok (.iload_n 1, 1) := by decide +kernel
theorem dX11_eden_1 : decode cX11_eden 1 = .ok (.invokestatic 206, 3) := by decide +kernel
theorem dX11_eden_4 : decode cX11_eden 4 = .ok (.ifCond .eq 14, 3) := by decide +kernel
theorem dX11_eden_7 : decode cX11_eden 7 = .ok (.aload_n 0, 1) := by decide +kernel
theorem dX11_eden_8 : decode cX11_eden 8 = .ok (.getfield 80, 3) := by decide +kernel
theorem dX11_eden_11 : decode cX11_eden 11 = .ok (.iload_n 1, 1) := by decide +kernel
theorem dX11_eden_12 : decode cX11_eden 12 = .ok (.invokevirtual 260, 3) := by decide +kernel
theorem dX11_eden_15 : decode cX11_eden 15 = .ok (.goto 4, 3) := by decide +kernel
theorem dX11_eden_18 : decode cX11_eden 18 = .ok (.iconst (-1), 1) := by decide +kernel
theorem dX11_eden_19 : decode cX11_eden 19 = .ok (.ireturn, 1) := by decide +kernel
abbrev tX11_eden (k : Nat) : MT := (RX11, cX11_eden, 2, k, (some .int))
def mX11_eden : MX := bodyOf 2 (sRetI (iCond (cZ zne (iCallS mX11_isSum (aI (iLoc 1) aNil))) (iCallV 6 mX6_countEdens (aR (rGet 11 6 (rLoc 0)) (aI (iLoc 1) aNil))) (iK (-1))))
theorem kX11_eden (g : GT) : MK g 6 yX11_eden cX11_eden 2 (some .int) mX11_eden := MK.of (pcN := 99999) (pcB := 0) (pcC := 0) rfl (Sok.retI (pc1 := 19) (EokI.cond' (pc1 := 7) (pc2 := 18) (Cok.zero (pc1 := 4) (pcT := 7) (pcF := 18) (EokI.iCallS (pc1 := 1) (Aok.aI (pc1 := 1) (EokI.iload_n (q := 1) dX11_eden_0) Aok.nil) (kX11_isSum g) ykX11_isSum skX11_206 (by decide) (by decide) dX11_eden_1) (JZ.neF (tgt := 18) dX11_eden_4 (by decide))) (EokI.goto (pc1 := 15) (pc2 := 19) (EokI.iCallV (pc1 := 12) (Aok.aR (pc1 := 11) (EokR.getf (pc1 := 8) (j := 6) (ci := 11) (T := TX11) (N := 11) (EokR.aload_n (q := 0) dX11_eden_7) rfl wsX11_in (by decide) flX11_80 dX11_eden_8) (Aok.aI (pc1 := 12) (EokI.iload_n (q := 1) dX11_eden_11) Aok.nil)) (kX6_countEdens g) rfl ykX6_countEdens vkX11_260 (by decide) (by decide) dX11_eden_12) dX11_eden_15 (by decide)) (EokI.iconst (v := (-1)) dX11_eden_18 (by decide))) (by decide) dX11_eden_19 rfl)
/-! PassHuts.sure(I)I -/
theorem dX11_sure_0 : decode cX11_sure 0 = .ok (.aload_n 0, 1) := by decide +kernel
theorem dX11_sure_1 : decode cX11_sure 1 = .ok (.getfield 64, 3) := by decide +kernel
theorem dX11_sure_4 : decode cX11_sure 4 = .ok (.invokevirtual 185, 3) := by decide +kernel
theorem dX11_sure_7 : decode cX11_sure 7 = .ok (.aload_n 0, 1) := by decide +kernel
theorem dX11_sure_8 : decode cX11_sure 8 = .ok (.getfield 42, 3) := by decide +kernel
theorem dX11_sure_11 : decode cX11_sure 11 = .ok (.iload_n 1, 1) := by decide +kernel
theorem dX11_sure_12 : decode cX11_sure 12 = .ok (.invokevirtual 117, 3) := by decide +kernel
theorem dX11_sure_15 : decode cX11_sure 15 = .ok (.ifCond .eq 16, 3) := by decide +kernel
theorem dX11_sure_18 : decode cX11_sure 18 = .ok (.aload_n 0, 1) := by decide +kernel
theorem dX11_sure_19 : decode cX11_sure 19 = .ok (.getfield 80, 3) := by decide +kernel
theorem dX11_sure_22 : decode cX11_sure 22 = .ok (.iconst 1, 1) := by decide +kernel
theorem dX11_sure_23 : decode cX11_sure 23 = .ok (.iload_n 1, 1) := by decide +kernel
theorem dX11_sure_24 : decode cX11_sure 24 = .ok (.ishl, 1) := by decide +kernel
theorem dX11_sure_25 : decode cX11_sure 25 = .ok (.invokevirtual 263, 3) := by decide +kernel
theorem dX11_sure_28 : decode cX11_sure 28 = .ok (.goto 4, 3) := by decide +kernel
theorem dX11_sure_31 : decode cX11_sure 31 = .ok (.iconst (-1), 1) := by decide +kernel
theorem dX11_sure_32 : decode cX11_sure 32 = .ok (.ireturn, 1) := by decide +kernel
abbrev tX11_sure (k : Nat) : MT := (RX11, cX11_sure, 2, k, (some .int))
def mX11_sure : MX := bodyOf 2 (sSeq (sCallV 3 mX3_prepare (aR (rGet 11 4 (rLoc 0)) aNil)) (sRetI (iCond (cZ zne (iCallV 0 mX0_isHut (aR (rGet 11 7 (rLoc 0)) (aI (iLoc 1) aNil)))) (iCallV 6 mX6_sureFrom (aR (rGet 11 6 (rLoc 0)) (aI (iB gT2 jshl (iK 1) (iLoc 1)) aNil))) (iK (-1)))))
theorem kX11_sure (g : GT) : MK g 7 yX11_sure cX11_sure 2 (some .int) mX11_sure := MK.of (pcN := 99999) (pcB := 0) (pcC := 0) rfl (Sok.seq (pc1 := 7) (Sok.sCallV (pc1 := 4) (Aok.aR (pc1 := 4) (EokR.getf (pc1 := 1) (j := 4) (ci := 11) (T := TX11) (N := 11) (EokR.aload_n (q := 0) dX11_sure_0) rfl wsX11_in (by decide) flX11_64 dX11_sure_1) Aok.nil) (by decide) (kX3_prepare g) rfl ykX3_prepare vkX11_185 (by decide) (by decide) dX11_sure_4) (Sok.retI (pc1 := 32) (EokI.cond' (pc1 := 18) (pc2 := 31) (Cok.zero (pc1 := 15) (pcT := 18) (pcF := 31) (EokI.iCallV (pc1 := 12) (Aok.aR (pc1 := 11) (EokR.getf (pc1 := 8) (j := 7) (ci := 11) (T := TX11) (N := 11) (EokR.aload_n (q := 0) dX11_sure_7) rfl wsX11_in (by decide) flX11_42 dX11_sure_8) (Aok.aI (pc1 := 12) (EokI.iload_n (q := 1) dX11_sure_11) Aok.nil)) (kX0_isHut g) rfl ykX0_isHut vkX11_117 (by decide) (by decide) dX11_sure_12) (JZ.neF (tgt := 31) dX11_sure_15 (by decide))) (EokI.goto (pc1 := 28) (pc2 := 32) (EokI.iCallV (pc1 := 25) (Aok.aR (pc1 := 22) (EokR.getf (pc1 := 19) (j := 6) (ci := 11) (T := TX11) (N := 11) (EokR.aload_n (q := 0) dX11_sure_18) rfl wsX11_in (by decide) flX11_80 dX11_sure_19) (Aok.aI (pc1 := 25) (EokI.bin (pc1 := 23) (pc2 := 24) (EokI.iconst (v := 1) dX11_sure_22 (by decide)) (EokI.iload_n (q := 1) dX11_sure_23) (OPI.ishl dX11_sure_24)) Aok.nil)) (kX6_sureFrom g) rfl ykX6_sureFrom vkX11_263 (by decide) (by decide) dX11_sure_25) dX11_sure_28 (by decide)) (EokI.iconst (v := (-1)) dX11_sure_31 (by decide))) (by decide) dX11_sure_32 rfl))
/-! PassHuts.always()I -/
theorem dX11_always_0 : decode cX11_always 0 = .ok (.aload_n 0, 1) := by decide +kernel
theorem dX11_always_1 : decode cX11_always 1 = .ok (.getfield 64, 3) := by decide +kernel
theorem dX11_always_4 : decode cX11_always 4 = .ok (.invokevirtual 185, 3) := by decide +kernel
theorem dX11_always_7 : decode cX11_always 7 = .ok (.aload_n 0, 1) := by decide +kernel
theorem dX11_always_8 : decode cX11_always 8 = .ok (.getfield 42, 3) := by decide +kernel
theorem dX11_always_11 : decode cX11_always 11 = .ok (.getfield 227, 3) := by decide +kernel
theorem dX11_always_14 : decode cX11_always 14 = .ok (.ifCond .ne 7, 3) := by decide +kernel
theorem dX11_always_17 : decode cX11_always 17 = .ok (.iconst (-1), 1) := by decide +kernel
theorem dX11_always_18 : decode cX11_always 18 = .ok (.goto 17, 3) := by decide +kernel
theorem dX11_always_21 : decode cX11_always 21 = .ok (.aload_n 0, 1) := by decide +kernel
theorem dX11_always_22 : decode cX11_always 22 = .ok (.getfield 80, 3) := by decide +kernel
theorem dX11_always_25 : decode cX11_always 25 = .ok (.aload_n 0, 1) := by decide +kernel
theorem dX11_always_26 : decode cX11_always 26 = .ok (.getfield 42, 3) := by decide +kernel
theorem dX11_always_29 : decode cX11_always 29 = .ok (.invokevirtual 200, 3) := by decide +kernel
theorem dX11_always_32 : decode cX11_always 32 = .ok (.invokevirtual 263, 3) := by decide +kernel
theorem dX11_always_35 : decode cX11_always 35 = .ok (.ireturn, 1) := by decide +kernel
abbrev tX11_always (k : Nat) : MT := (RX11, cX11_always, 1, k, (some .int))
def mX11_always : MX := bodyOf 1 (sSeq (sCallV 3 mX3_prepare (aR (rGet 11 4 (rLoc 0)) aNil)) (sRetI (iCond (cZ zeq (iGet 0 3 (rGet 11 7 (rLoc 0)))) (iK (-1)) (iCallV 6 mX6_sureFrom (aR (rGet 11 6 (rLoc 0)) (aI (iCallV 0 mX0_allHuts (aR (rGet 11 7 (rLoc 0)) aNil)) aNil))))))
theorem kX11_always (g : GT) : MK g 7 yX11_always cX11_always 1 (some .int) mX11_always := MK.of (pcN := 99999) (pcB := 0) (pcC := 0) rfl (Sok.seq (pc1 := 7) (Sok.sCallV (pc1 := 4) (Aok.aR (pc1 := 4) (EokR.getf (pc1 := 1) (j := 4) (ci := 11) (T := TX11) (N := 11) (EokR.aload_n (q := 0) dX11_always_0) rfl wsX11_in (by decide) flX11_64 dX11_always_1) Aok.nil) (by decide) (kX3_prepare g) rfl ykX3_prepare vkX11_185 (by decide) (by decide) dX11_always_4) (Sok.retI (pc1 := 35) (EokI.cond' (pc1 := 17) (pc2 := 21) (Cok.zero (pc1 := 14) (pcT := 17) (pcF := 21) (EokI.getf (pc1 := 11) (j := 3) (ci := 0) (T := TX0) (N := 17) (EokR.getf (pc1 := 8) (j := 7) (ci := 11) (T := TX11) (N := 11) (EokR.aload_n (q := 0) dX11_always_7) rfl wsX11_in (by decide) flX11_42 dX11_always_8) rfl wsX0_in (by decide) flX11_227 dX11_always_11) (JZ.eqF (tgt := 21) dX11_always_14 (by decide))) (EokI.goto (pc1 := 18) (pc2 := 35) (EokI.iconst (v := (-1)) dX11_always_17 (by decide)) dX11_always_18 (by decide)) (EokI.iCallV (pc1 := 32) (Aok.aR (pc1 := 25) (EokR.getf (pc1 := 22) (j := 6) (ci := 11) (T := TX11) (N := 11) (EokR.aload_n (q := 0) dX11_always_21) rfl wsX11_in (by decide) flX11_80 dX11_always_22) (Aok.aI (pc1 := 32) (EokI.iCallV (pc1 := 29) (Aok.aR (pc1 := 29) (EokR.getf (pc1 := 26) (j := 7) (ci := 11) (T := TX11) (N := 11) (EokR.aload_n (q := 0) dX11_always_25) rfl wsX11_in (by decide) flX11_42 dX11_always_26) Aok.nil) (kX0_allHuts g) rfl ykX0_allHuts vkX11_200 (by decide) (by decide) dX11_always_29) Aok.nil)) (kX6_sureFrom g) rfl ykX6_sureFrom vkX11_263 (by decide) (by decide) dX11_always_32)) (by decide) dX11_always_35 rfl))
/-! PassHuts.worst(III)I -/
theorem dX11_worst_0 : decode cX11_worst 0 = .ok (.aload_n 0, 1) := by decide +kernel
theorem dX11_worst_1 : decode cX11_worst 1 = .ok (.getfield 42, 3) := by decide +kernel
theorem dX11_worst_4 : decode cX11_worst 4 = .ok (.iload_n 1, 1) := by decide +kernel
theorem dX11_worst_5 : decode cX11_worst 5 = .ok (.invokevirtual 117, 3) := by decide +kernel
theorem dX11_worst_8 : decode cX11_worst 8 = .ok (.ifCond .eq 21, 3) := by decide +kernel
theorem dX11_worst_11 : decode cX11_worst 11 = .ok (.iload_n 2, 1) := by decide +kernel
theorem dX11_worst_12 : decode cX11_worst 12 = .ok (.invokestatic 206, 3) := by decide +kernel
theorem dX11_worst_15 : decode cX11_worst 15 = .ok (.ifCond .eq 14, 3) := by decide +kernel
theorem dX11_worst_18 : decode cX11_worst 18 = .ok (.aload_n 0, 1) := by decide +kernel
theorem dX11_worst_19 : decode cX11_worst 19 = .ok (.getfield 42, 3) := by decide +kernel
theorem dX11_worst_22 : decode cX11_worst 22 = .ok (.iload_n 3, 1) := by decide +kernel
theorem dX11_worst_23 : decode cX11_worst 23 = .ok (.invokevirtual 117, 3) := by decide +kernel
theorem dX11_worst_26 : decode cX11_worst 26 = .ok (.ifCond .ne 5, 3) := by decide +kernel
theorem dX11_worst_29 : decode cX11_worst 29 = .ok (.iconst (-1), 1) := by decide +kernel
theorem dX11_worst_30 : decode cX11_worst 30 = .ok (.ireturn, 1) := by decide +kernel
theorem dX11_worst_31 : decode cX11_worst 31 = .ok (.aload_n 0, 1) := by decide +kernel
theorem dX11_worst_32 : decode cX11_worst 32 = .ok (.getfield 64, 3) := by decide +kernel
theorem dX11_worst_35 : decode cX11_worst 35 = .ok (.invokevirtual 185, 3) := by decide +kernel
theorem dX11_worst_38 : decode cX11_worst 38 = .ok (.aload_n 0, 1) := by decide +kernel
theorem dX11_worst_39 : decode cX11_worst 39 = .ok (.getfield 80, 3) := by decide +kernel
theorem dX11_worst_42 : decode cX11_worst 42 = .ok (.iload_n 1, 1) := by decide +kernel
theorem dX11_worst_43 : decode cX11_worst 43 = .ok (.iload_n 2, 1) := by decide +kernel
theorem dX11_worst_44 : decode cX11_worst 44 = .ok (.invokevirtual 266, 3) := by decide +kernel
theorem dX11_worst_47 : decode cX11_worst 47 = .ok (.istore 4, 2) := by decide +kernel
theorem dX11_worst_49 : decode cX11_worst 49 = .ok (.iload 4, 2) := by decide +kernel
theorem dX11_worst_51 : decode cX11_worst 51 = .ok (.ifCond .ge 7, 3) := by decide +kernel
theorem dX11_worst_54 : decode cX11_worst 54 = .ok (.iconst (-1), 1) := by decide +kernel
theorem dX11_worst_55 : decode cX11_worst 55 = .ok (.goto 13, 3) := by decide +kernel
theorem dX11_worst_58 : decode cX11_worst 58 = .ok (.aload_n 0, 1) := by decide +kernel
theorem dX11_worst_59 : decode cX11_worst 59 = .ok (.getfield 42, 3) := by decide +kernel
theorem dX11_worst_62 : decode cX11_worst 62 = .ok (.iload 4, 2) := by decide +kernel
theorem dX11_worst_64 : decode cX11_worst 64 = .ok (.iload_n 3, 1) := by decide +kernel
theorem dX11_worst_65 : decode cX11_worst 65 = .ok (.invokevirtual 128, 3) := by decide +kernel
theorem dX11_worst_68 : decode cX11_worst 68 = .ok (.ireturn, 1) := by decide +kernel
abbrev tX11_worst (k : Nat) : MT := (RX11, cX11_worst, 5, k, (some .int))
def mX11_worst : MX := bodyOf 5 (sSeq (sIf (cOr (cOr (cNot (cZ zne (iCallV 0 mX0_isHut (aR (rGet 11 7 (rLoc 0)) (aI (iLoc 1) aNil))))) (cNot (cZ zne (iCallS mX11_isSum (aI (iLoc 2) aNil))))) (cNot (cZ zne (iCallV 0 mX0_isHut (aR (rGet 11 7 (rLoc 0)) (aI (iLoc 3) aNil)))))) (sRetI (iK (-1))) sSkip) (sSeq (sCallV 3 mX3_prepare (aR (rGet 11 4 (rLoc 0)) aNil)) (sSeq (sSetI 4 (iCallV 6 mX6_firstWithout (aR (rGet 11 6 (rLoc 0)) (aI (iLoc 1) (aI (iLoc 2) aNil))))) (sRetI (iCond (cZ zlt (iLoc 4)) (iK (-1)) (iCallV 0 mX0_loadsIn (aR (rGet 11 7 (rLoc 0)) (aI (iLoc 4) (aI (iLoc 3) aNil)))))))))
theorem kX11_worst (g : GT) : MK g 7 yX11_worst cX11_worst 5 (some .int) mX11_worst := MK.of (pcN := 99999) (pcB := 0) (pcC := 0) rfl (Sok.seq (pc1 := 31) (Sok.ite (pc1 := 29) (pc2 := 31) (Cok.or (pc1 := 18) (Cok.or (pc1 := 11) (Cok.not (Cok.zero (pc1 := 8) (pcT := 11) (pcF := 29) (EokI.iCallV (pc1 := 5) (Aok.aR (pc1 := 4) (EokR.getf (pc1 := 1) (j := 7) (ci := 11) (T := TX11) (N := 11) (EokR.aload_n (q := 0) dX11_worst_0) rfl wsX11_in (by decide) flX11_42 dX11_worst_1) (Aok.aI (pc1 := 5) (EokI.iload_n (q := 1) dX11_worst_4) Aok.nil)) (kX0_isHut g) rfl ykX0_isHut vkX11_117 (by decide) (by decide) dX11_worst_5) (JZ.neF (tgt := 29) dX11_worst_8 (by decide)))) (Cok.not (Cok.zero (pc1 := 15) (pcT := 18) (pcF := 29) (EokI.iCallS (pc1 := 12) (Aok.aI (pc1 := 12) (EokI.iload_n (q := 2) dX11_worst_11) Aok.nil) (kX11_isSum g) ykX11_isSum skX11_206 (by decide) (by decide) dX11_worst_12) (JZ.neF (tgt := 29) dX11_worst_15 (by decide))))) (Cok.not (Cok.zero (pc1 := 26) (pcT := 31) (pcF := 29) (EokI.iCallV (pc1 := 23) (Aok.aR (pc1 := 22) (EokR.getf (pc1 := 19) (j := 7) (ci := 11) (T := TX11) (N := 11) (EokR.aload_n (q := 0) dX11_worst_18) rfl wsX11_in (by decide) flX11_42 dX11_worst_19) (Aok.aI (pc1 := 23) (EokI.iload_n (q := 3) dX11_worst_22) Aok.nil)) (kX0_isHut g) rfl ykX0_isHut vkX11_117 (by decide) (by decide) dX11_worst_23) (JZ.neT (tgt := 31) dX11_worst_26 (by decide))))) (by decide) (Sok.retI (pc1 := 30) (EokI.iconst (v := (-1)) dX11_worst_29 (by decide)) (by decide) dX11_worst_30 rfl) (Sok.skip (pc := 31))) (Sok.seq (pc1 := 38) (Sok.sCallV (pc1 := 35) (Aok.aR (pc1 := 35) (EokR.getf (pc1 := 32) (j := 4) (ci := 11) (T := TX11) (N := 11) (EokR.aload_n (q := 0) dX11_worst_31) rfl wsX11_in (by decide) flX11_64 dX11_worst_32) Aok.nil) (by decide) (kX3_prepare g) rfl ykX3_prepare vkX11_185 (by decide) (by decide) dX11_worst_35) (Sok.seq (pc1 := 49) (Sok.setI (i := 4) (pc1 := 47) (EokI.iCallV (pc1 := 44) (Aok.aR (pc1 := 42) (EokR.getf (pc1 := 39) (j := 6) (ci := 11) (T := TX11) (N := 11) (EokR.aload_n (q := 0) dX11_worst_38) rfl wsX11_in (by decide) flX11_80 dX11_worst_39) (Aok.aI (pc1 := 43) (EokI.iload_n (q := 1) dX11_worst_42) (Aok.aI (pc1 := 44) (EokI.iload_n (q := 2) dX11_worst_43) Aok.nil))) (kX6_firstWithout g) rfl ykX6_firstWithout vkX11_266 (by decide) (by decide) dX11_worst_44) (by decide) dX11_worst_47 (show 4 < 5 by decide)) (Sok.retI (pc1 := 68) (EokI.cond' (pc1 := 54) (pc2 := 58) (Cok.zero (pc1 := 51) (pcT := 54) (pcF := 58) (EokI.iload (i := 4) dX11_worst_49) (JZ.ltF (tgt := 58) dX11_worst_51 (by decide))) (EokI.goto (pc1 := 55) (pc2 := 68) (EokI.iconst (v := (-1)) dX11_worst_54 (by decide)) dX11_worst_55 (by decide)) (EokI.iCallV (pc1 := 65) (Aok.aR (pc1 := 62) (EokR.getf (pc1 := 59) (j := 7) (ci := 11) (T := TX11) (N := 11) (EokR.aload_n (q := 0) dX11_worst_58) rfl wsX11_in (by decide) flX11_42 dX11_worst_59) (Aok.aI (pc1 := 64) (EokI.iload (i := 4) dX11_worst_62) (Aok.aI (pc1 := 65) (EokI.iload_n (q := 3) dX11_worst_64) Aok.nil))) (kX0_loadsIn g) rfl ykX0_loadsIn vkX11_128 (by decide) (by decide) dX11_worst_65)) (by decide) dX11_worst_68 rfl))))
/-! PassHuts.best(I)I -/
theorem dX11_best_0 : decode cX11_best 0 = .ok (.iload_n 1, 1) := by decide +kernel
theorem dX11_best_1 : decode cX11_best 1 = .ok (.iconst (-1), 1) := by decide +kernel
theorem dX11_best_2 : decode cX11_best 2 = .ok (.if_icmp .eq 17, 3) := by decide +kernel
theorem dX11_best_5 : decode cX11_best 5 = .ok (.aload_n 0, 1) := by decide +kernel
theorem dX11_best_6 : decode cX11_best 6 = .ok (.getfield 42, 3) := by decide +kernel
theorem dX11_best_9 : decode cX11_best 9 = .ok (.iload_n 1, 1) := by decide +kernel
theorem dX11_best_10 : decode cX11_best 10 = .ok (.invokevirtual 117, 3) := by decide +kernel
theorem dX11_best_13 : decode cX11_best 13 = .ok (.ifCond .ne 6, 3) := by decide +kernel
theorem dX11_best_16 : decode cX11_best 16 = .ok (.bipush (-2), 2) := by decide +kernel
theorem dX11_best_18 : decode cX11_best 18 = .ok (.ireturn, 1) := by decide +kernel
theorem dX11_best_19 : decode cX11_best 19 = .ok (.aload_n 0, 1) := by decide +kernel
theorem dX11_best_20 : decode cX11_best 20 = .ok (.getfield 64, 3) := by decide +kernel
theorem dX11_best_23 : decode cX11_best 23 = .ok (.invokevirtual 185, 3) := by decide +kernel
theorem dX11_best_26 : decode cX11_best 26 = .ok (.aload_n 0, 1) := by decide +kernel
theorem dX11_best_27 : decode cX11_best 27 = .ok (.getfield 80, 3) := by decide +kernel
theorem dX11_best_30 : decode cX11_best 30 = .ok (.invokevirtual 269, 3) := by decide +kernel
theorem dX11_best_33 : decode cX11_best 33 = .ok (.istore_n 2, 1) := by decide +kernel
theorem dX11_best_34 : decode cX11_best 34 = .ok (.iload_n 2, 1) := by decide +kernel
theorem dX11_best_35 : decode cX11_best 35 = .ok (.ifCond .ge 6, 3) := by decide +kernel
theorem dX11_best_38 : decode cX11_best 38 = .ok (.bipush (-2), 2) := by decide +kernel
theorem dX11_best_40 : decode cX11_best 40 = .ok (.ireturn, 1) := by decide +kernel
theorem dX11_best_41 : decode cX11_best 41 = .ok (.iload_n 1, 1) := by decide +kernel
theorem dX11_best_42 : decode cX11_best 42 = .ok (.iconst (-1), 1) := by decide +kernel
theorem dX11_best_43 : decode cX11_best 43 = .ok (.if_icmp .ne 14, 3) := by decide +kernel
theorem dX11_best_46 : decode cX11_best 46 = .ok (.aload_n 0, 1) := by decide +kernel
theorem dX11_best_47 : decode cX11_best 47 = .ok (.getfield 42, 3) := by decide +kernel
theorem dX11_best_50 : decode cX11_best 50 = .ok (.iload_n 2, 1) := by decide +kernel
theorem dX11_best_51 : decode cX11_best 51 = .ok (.invokevirtual 239, 3) := by decide +kernel
theorem dX11_best_54 : decode cX11_best 54 = .ok (.goto 12, 3) := by decide +kernel
theorem dX11_best_57 : decode cX11_best 57 = .ok (.aload_n 0, 1) := by decide +kernel
theorem dX11_best_58 : decode cX11_best 58 = .ok (.getfield 42, 3) := by decide +kernel
theorem dX11_best_61 : decode cX11_best 61 = .ok (.iload_n 2, 1) := by decide +kernel
theorem dX11_best_62 : decode cX11_best 62 = .ok (.iload_n 1, 1) := by decide +kernel
theorem dX11_best_63 : decode cX11_best 63 = .ok (.invokevirtual 128, 3) := by decide +kernel
theorem dX11_best_66 : decode cX11_best 66 = .ok (.ireturn, 1) := by decide +kernel
abbrev tX11_best (k : Nat) : MT := (RX11, cX11_best, 3, k, (some .int))
def mX11_best : MX := bodyOf 3 (sSeq (sIf (cAnd (cB rne (iLoc 1) (iK (-1))) (cNot (cZ zne (iCallV 0 mX0_isHut (aR (rGet 11 7 (rLoc 0)) (aI (iLoc 1) aNil)))))) (sRetI (iK (-2))) sSkip) (sSeq (sCallV 3 mX3_prepare (aR (rGet 11 4 (rLoc 0)) aNil)) (sSeq (sSetI 2 (iCallV 6 mX6_firstForAll (aR (rGet 11 6 (rLoc 0)) aNil))) (sSeq (sIf (cZ zlt (iLoc 2)) (sRetI (iK (-2))) sSkip) (sRetI (iCond (cB req (iLoc 1) (iK (-1))) (iCallV 0 mX0_sumOf (aR (rGet 11 7 (rLoc 0)) (aI (iLoc 2) aNil))) (iCallV 0 mX0_loadsIn (aR (rGet 11 7 (rLoc 0)) (aI (iLoc 2) (aI (iLoc 1) aNil))))))))))
theorem kX11_best (g : GT) : MK g 7 yX11_best cX11_best 3 (some .int) mX11_best := MK.of (pcN := 99999) (pcB := 0) (pcC := 0) rfl (Sok.seq (pc1 := 19) (Sok.ite (pc1 := 16) (pc2 := 19) (Cok.and (pc1 := 5) (Cok.cmp (pc1 := 1) (pc2 := 2) (pcT := 5) (pcF := 19) (EokI.iload_n (q := 1) dX11_best_0) (EokI.iconst (v := (-1)) dX11_best_1 (by decide)) (JI.neF (tgt := 19) dX11_best_2 (by decide))) (Cok.not (Cok.zero (pc1 := 13) (pcT := 19) (pcF := 16) (EokI.iCallV (pc1 := 10) (Aok.aR (pc1 := 9) (EokR.getf (pc1 := 6) (j := 7) (ci := 11) (T := TX11) (N := 11) (EokR.aload_n (q := 0) dX11_best_5) rfl wsX11_in (by decide) flX11_42 dX11_best_6) (Aok.aI (pc1 := 10) (EokI.iload_n (q := 1) dX11_best_9) Aok.nil)) (kX0_isHut g) rfl ykX0_isHut vkX11_117 (by decide) (by decide) dX11_best_10) (JZ.neT (tgt := 19) dX11_best_13 (by decide))))) (by decide) (Sok.retI (pc1 := 18) (EokI.bipush (v := (-2)) dX11_best_16 (by decide)) (by decide) dX11_best_18 rfl) (Sok.skip (pc := 19))) (Sok.seq (pc1 := 26) (Sok.sCallV (pc1 := 23) (Aok.aR (pc1 := 23) (EokR.getf (pc1 := 20) (j := 4) (ci := 11) (T := TX11) (N := 11) (EokR.aload_n (q := 0) dX11_best_19) rfl wsX11_in (by decide) flX11_64 dX11_best_20) Aok.nil) (by decide) (kX3_prepare g) rfl ykX3_prepare vkX11_185 (by decide) (by decide) dX11_best_23) (Sok.seq (pc1 := 34) (Sok.setI_n (q := 2) (pc1 := 33) (EokI.iCallV (pc1 := 30) (Aok.aR (pc1 := 30) (EokR.getf (pc1 := 27) (j := 6) (ci := 11) (T := TX11) (N := 11) (EokR.aload_n (q := 0) dX11_best_26) rfl wsX11_in (by decide) flX11_80 dX11_best_27) Aok.nil) (kX6_firstForAll g) rfl ykX6_firstForAll vkX11_269 (by decide) (by decide) dX11_best_30) (by decide) dX11_best_33 (show 2 < 3 by decide)) (Sok.seq (pc1 := 41) (Sok.ite (pc1 := 38) (pc2 := 41) (Cok.zero (pc1 := 35) (pcT := 38) (pcF := 41) (EokI.iload_n (q := 2) dX11_best_34) (JZ.ltF (tgt := 41) dX11_best_35 (by decide))) (by decide) (Sok.retI (pc1 := 40) (EokI.bipush (v := (-2)) dX11_best_38 (by decide)) (by decide) dX11_best_40 rfl) (Sok.skip (pc := 41))) (Sok.retI (pc1 := 66) (EokI.cond' (pc1 := 46) (pc2 := 57) (Cok.cmp (pc1 := 42) (pc2 := 43) (pcT := 46) (pcF := 57) (EokI.iload_n (q := 1) dX11_best_41) (EokI.iconst (v := (-1)) dX11_best_42 (by decide)) (JI.eqF (tgt := 57) dX11_best_43 (by decide))) (EokI.goto (pc1 := 54) (pc2 := 66) (EokI.iCallV (pc1 := 51) (Aok.aR (pc1 := 50) (EokR.getf (pc1 := 47) (j := 7) (ci := 11) (T := TX11) (N := 11) (EokR.aload_n (q := 0) dX11_best_46) rfl wsX11_in (by decide) flX11_42 dX11_best_47) (Aok.aI (pc1 := 51) (EokI.iload_n (q := 2) dX11_best_50) Aok.nil)) (kX0_sumOf g) rfl ykX0_sumOf vkX11_239 (by decide) (by decide) dX11_best_51) dX11_best_54 (by decide)) (EokI.iCallV (pc1 := 63) (Aok.aR (pc1 := 61) (EokR.getf (pc1 := 58) (j := 7) (ci := 11) (T := TX11) (N := 11) (EokR.aload_n (q := 0) dX11_best_57) rfl wsX11_in (by decide) flX11_42 dX11_best_58) (Aok.aI (pc1 := 62) (EokI.iload_n (q := 2) dX11_best_61) (Aok.aI (pc1 := 63) (EokI.iload_n (q := 1) dX11_best_62) Aok.nil))) (kX0_loadsIn g) rfl ykX0_loadsIn vkX11_128 (by decide) (by decide) dX11_best_63)) (by decide) dX11_best_66 rfl)))))
/-! PassHuts.wins(I)I -/
theorem dX11_wins_0 : decode cX11_wins 0 = .ok (.iload_n 1, 1) := by decide +kernel
theorem dX11_wins_1 : decode cX11_wins 1 = .ok (.ifCond .eq 10, 3) := by decide +kernel
theorem dX11_wins_4 : decode cX11_wins 4 = .ok (.iload_n 1, 1) := by decide +kernel
theorem dX11_wins_5 : decode cX11_wins 5 = .ok (.iconst 1, 1) := by decide +kernel
theorem dX11_wins_6 : decode cX11_wins 6 = .ok (.if_icmp .eq 5, 3) := by decide +kernel
theorem dX11_wins_9 : decode cX11_wins 9 = .ok (.iconst (-1), 1) := by decide +kernel
theorem dX11_wins_10 : decode cX11_wins 10 = .ok (.ireturn, 1) := by decide +kernel
theorem dX11_wins_11 : decode cX11_wins 11 = .ok (.aload_n 0, 1) := by decide +kernel
theorem dX11_wins_12 : decode cX11_wins 12 = .ok (.getfield 64, 3) := by decide +kernel
theorem dX11_wins_15 : decode cX11_wins 15 = .ok (.invokevirtual 185, 3) := by decide +kernel
theorem dX11_wins_18 : decode cX11_wins 18 = .ok (.aload_n 0, 1) := by decide +kernel
theorem dX11_wins_19 : decode cX11_wins 19 = .ok (.getfield 64, 3) := by decide +kernel
theorem dX11_wins_22 : decode cX11_wins 22 = .ok (.aload_n 0, 1) := by decide +kernel
theorem dX11_wins_23 : decode cX11_wins 23 = .ok (.getfield 35, 3) := by decide +kernel
theorem dX11_wins_26 : decode cX11_wins 26 = .ok (.getfield 125, 3) := by decide +kernel
theorem dX11_wins_29 : decode cX11_wins 29 = .ok (.invokevirtual 272, 3) := by decide +kernel
theorem dX11_wins_32 : decode cX11_wins 32 = .ok (.istore_n 2, 1) := by decide +kernel
theorem dX11_wins_33 : decode cX11_wins 33 = .ok (.iload_n 1, 1) := by decide +kernel
theorem dX11_wins_34 : decode cX11_wins 34 = .ok (.ifCond .ne 9, 3) := by decide +kernel
theorem dX11_wins_37 : decode cX11_wins 37 = .ok (.iload_n 2, 1) := by decide +kernel
theorem dX11_wins_38 : decode cX11_wins 38 = .ok (.iconst 1, 1) := by decide +kernel
theorem dX11_wins_39 : decode cX11_wins 39 = .ok (.iand, 1) := by decide +kernel
theorem dX11_wins_40 : decode cX11_wins 40 = .ok (.goto 4, 3) := by decide +kernel
theorem dX11_wins_43 : decode cX11_wins 43 = .ok (.iload_n 2, 1) := by decide +kernel
theorem dX11_wins_44 : decode cX11_wins 44 = .ok (.ireturn, 1) := by decide +kernel
abbrev tX11_wins (k : Nat) : MT := (RX11, cX11_wins, 3, k, (some .int))
def mX11_wins : MX := bodyOf 3 (sSeq (sIf (cAnd (cZ zne (iLoc 1)) (cB rne (iLoc 1) (iK 1))) (sRetI (iK (-1))) sSkip) (sSeq (sCallV 3 mX3_prepare (aR (rGet 11 4 (rLoc 0)) aNil)) (sSeq (sSetI 2 (iCallV 3 mX3_pullLength (aR (rGet 11 4 (rLoc 0)) (aI (iGet 5 9 (rGet 11 3 (rLoc 0))) aNil)))) (sRetI (iCond (cZ zeq (iLoc 1)) (iB gT2 (· &&& ·) (iLoc 2) (iK 1)) (iLoc 2))))))
theorem kX11_wins (g : GT) : MK g 7 yX11_wins cX11_wins 3 (some .int) mX11_wins := MK.of (pcN := 99999) (pcB := 0) (pcC := 0) rfl (Sok.seq (pc1 := 11) (Sok.ite (pc1 := 9) (pc2 := 11) (Cok.and (pc1 := 4) (Cok.zero (pc1 := 1) (pcT := 4) (pcF := 11) (EokI.iload_n (q := 1) dX11_wins_0) (JZ.neF (tgt := 11) dX11_wins_1 (by decide))) (Cok.cmp (pc1 := 5) (pc2 := 6) (pcT := 9) (pcF := 11) (EokI.iload_n (q := 1) dX11_wins_4) (EokI.iconst (v := 1) dX11_wins_5 (by decide)) (JI.neF (tgt := 11) dX11_wins_6 (by decide)))) (by decide) (Sok.retI (pc1 := 10) (EokI.iconst (v := (-1)) dX11_wins_9 (by decide)) (by decide) dX11_wins_10 rfl) (Sok.skip (pc := 11))) (Sok.seq (pc1 := 18) (Sok.sCallV (pc1 := 15) (Aok.aR (pc1 := 15) (EokR.getf (pc1 := 12) (j := 4) (ci := 11) (T := TX11) (N := 11) (EokR.aload_n (q := 0) dX11_wins_11) rfl wsX11_in (by decide) flX11_64 dX11_wins_12) Aok.nil) (by decide) (kX3_prepare g) rfl ykX3_prepare vkX11_185 (by decide) (by decide) dX11_wins_15) (Sok.seq (pc1 := 33) (Sok.setI_n (q := 2) (pc1 := 32) (EokI.iCallV (pc1 := 29) (Aok.aR (pc1 := 22) (EokR.getf (pc1 := 19) (j := 4) (ci := 11) (T := TX11) (N := 11) (EokR.aload_n (q := 0) dX11_wins_18) rfl wsX11_in (by decide) flX11_64 dX11_wins_19) (Aok.aI (pc1 := 29) (EokI.getf (pc1 := 26) (j := 9) (ci := 5) (T := TX5) (N := 13) (EokR.getf (pc1 := 23) (j := 3) (ci := 11) (T := TX11) (N := 11) (EokR.aload_n (q := 0) dX11_wins_22) rfl wsX11_in (by decide) flX11_35 dX11_wins_23) rfl wsX5_in (by decide) flX11_125 dX11_wins_26) Aok.nil)) (kX3_pullLength g) rfl ykX3_pullLength vkX11_272 (by decide) (by decide) dX11_wins_29) (by decide) dX11_wins_32 (show 2 < 3 by decide)) (Sok.retI (pc1 := 44) (EokI.cond' (pc1 := 37) (pc2 := 43) (Cok.zero (pc1 := 34) (pcT := 37) (pcF := 43) (EokI.iload_n (q := 1) dX11_wins_33) (JZ.eqF (tgt := 43) dX11_wins_34 (by decide))) (EokI.goto (pc1 := 40) (pc2 := 44) (EokI.bin (pc1 := 38) (pc2 := 39) (EokI.iload_n (q := 2) dX11_wins_37) (EokI.iconst (v := 1) dX11_wins_38 (by decide)) (OPI.iand dX11_wins_39)) dX11_wins_40 (by decide)) (EokI.iload_n (q := 2) dX11_wins_43)) (by decide) dX11_wins_44 rfl))))
/-! PassHuts.his()I -/
theorem dX11_his_0 : decode cX11_his 0 = .ok (.aload_n 0, 1) := by decide +kernel
theorem dX11_his_1 : decode cX11_his 1 = .ok (.getfield 64, 3) := by decide +kernel
theorem dX11_his_4 : decode cX11_his 4 = .ok (.invokevirtual 185, 3) := by decide +kernel
theorem dX11_his_7 : decode cX11_his 7 = .ok (.aload_n 0, 1) := by decide +kernel
theorem dX11_his_8 : decode cX11_his 8 = .ok (.getfield 64, 3) := by decide +kernel
theorem dX11_his_11 : decode cX11_his 11 = .ok (.aload_n 0, 1) := by decide +kernel
theorem dX11_his_12 : decode cX11_his 12 = .ok (.getfield 35, 3) := by decide +kernel
theorem dX11_his_15 : decode cX11_his 15 = .ok (.getfield 125, 3) := by decide +kernel
theorem dX11_his_18 : decode cX11_his 18 = .ok (.invokevirtual 275, 3) := by decide +kernel
theorem dX11_his_21 : decode cX11_his 21 = .ok (.istore_n 1, 1) := by decide +kernel
theorem dX11_his_22 : decode cX11_his 22 = .ok (.iload_n 1, 1) := by decide +kernel
theorem dX11_his_23 : decode cX11_his 23 = .ok (.ifCond .ge 7, 3) := by decide +kernel
theorem dX11_his_26 : decode cX11_his 26 = .ok (.iconst (-1), 1) := by decide +kernel
theorem dX11_his_27 : decode cX11_his 27 = .ok (.goto 11, 3) := by decide +kernel
theorem dX11_his_30 : decode cX11_his 30 = .ok (.aload_n 0, 1) := by decide +kernel
theorem dX11_his_31 : decode cX11_his 31 = .ok (.getfield 42, 3) := by decide +kernel
theorem dX11_his_34 : decode cX11_his 34 = .ok (.iload_n 1, 1) := by decide +kernel
theorem dX11_his_35 : decode cX11_his 35 = .ok (.invokevirtual 278, 3) := by decide +kernel
theorem dX11_his_38 : decode cX11_his 38 = .ok (.ireturn, 1) := by decide +kernel
abbrev tX11_his (k : Nat) : MT := (RX11, cX11_his, 2, k, (some .int))
def mX11_his : MX := bodyOf 2 (sSeq (sCallV 3 mX3_prepare (aR (rGet 11 4 (rLoc 0)) aNil)) (sSeq (sSetI 1 (iCallV 3 mX3_bestPull (aR (rGet 11 4 (rLoc 0)) (aI (iGet 5 9 (rGet 11 3 (rLoc 0))) aNil)))) (sRetI (iCond (cZ zlt (iLoc 1)) (iK (-1)) (iCallV 0 mX0_codeOf (aR (rGet 11 7 (rLoc 0)) (aI (iLoc 1) aNil)))))))
theorem kX11_his (g : GT) : MK g 7 yX11_his cX11_his 2 (some .int) mX11_his := MK.of (pcN := 99999) (pcB := 0) (pcC := 0) rfl (Sok.seq (pc1 := 7) (Sok.sCallV (pc1 := 4) (Aok.aR (pc1 := 4) (EokR.getf (pc1 := 1) (j := 4) (ci := 11) (T := TX11) (N := 11) (EokR.aload_n (q := 0) dX11_his_0) rfl wsX11_in (by decide) flX11_64 dX11_his_1) Aok.nil) (by decide) (kX3_prepare g) rfl ykX3_prepare vkX11_185 (by decide) (by decide) dX11_his_4) (Sok.seq (pc1 := 22) (Sok.setI_n (q := 1) (pc1 := 21) (EokI.iCallV (pc1 := 18) (Aok.aR (pc1 := 11) (EokR.getf (pc1 := 8) (j := 4) (ci := 11) (T := TX11) (N := 11) (EokR.aload_n (q := 0) dX11_his_7) rfl wsX11_in (by decide) flX11_64 dX11_his_8) (Aok.aI (pc1 := 18) (EokI.getf (pc1 := 15) (j := 9) (ci := 5) (T := TX5) (N := 13) (EokR.getf (pc1 := 12) (j := 3) (ci := 11) (T := TX11) (N := 11) (EokR.aload_n (q := 0) dX11_his_11) rfl wsX11_in (by decide) flX11_35 dX11_his_12) rfl wsX5_in (by decide) flX11_125 dX11_his_15) Aok.nil)) (kX3_bestPull g) rfl ykX3_bestPull vkX11_275 (by decide) (by decide) dX11_his_18) (by decide) dX11_his_21 (show 1 < 2 by decide)) (Sok.retI (pc1 := 38) (EokI.cond' (pc1 := 26) (pc2 := 30) (Cok.zero (pc1 := 23) (pcT := 26) (pcF := 30) (EokI.iload_n (q := 1) dX11_his_22) (JZ.ltF (tgt := 30) dX11_his_23 (by decide))) (EokI.goto (pc1 := 27) (pc2 := 38) (EokI.iconst (v := (-1)) dX11_his_26 (by decide)) dX11_his_27 (by decide)) (EokI.iCallV (pc1 := 35) (Aok.aR (pc1 := 34) (EokR.getf (pc1 := 31) (j := 7) (ci := 11) (T := TX11) (N := 11) (EokR.aload_n (q := 0) dX11_his_30) rfl wsX11_in (by decide) flX11_42 dX11_his_31) (Aok.aI (pc1 := 35) (EokI.iload_n (q := 1) dX11_his_34) Aok.nil)) (kX0_codeOf g) rfl ykX0_codeOf vkX11_278 (by decide) (by decide) dX11_his_35)) (by decide) dX11_his_38 rfl)))
/-! PassHuts.see(IIZ)Z -/
theorem dX11_see_0 : decode cX11_see 0 = .ok (.aload_n 0, 1) := by decide +kernel
theorem dX11_see_1 : decode cX11_see 1 = .ok (.getfield 42, 3) := by decide +kernel
theorem dX11_see_4 : decode cX11_see 4 = .ok (.iload_n 1, 1) := by decide +kernel
theorem dX11_see_5 : decode cX11_see 5 = .ok (.invokevirtual 117, 3) := by decide +kernel
theorem dX11_see_8 : decode cX11_see 8 = .ok (.ifCond .eq 14, 3) := by decide +kernel
theorem dX11_see_11 : decode cX11_see 11 = .ok (.iload_n 2, 1) := by decide +kernel
theorem dX11_see_12 : decode cX11_see 12 = .ok (.iconst 1, 1) := by decide +kernel
theorem dX11_see_13 : decode cX11_see 13 = .ok (.if_icmp .lt 9, 3) := by decide +kernel
theorem dX11_see_16 : decode cX11_see 16 = .ok (.iload_n 2, 1) := by decide +kernel
theorem dX11_see_17 : decode cX11_see 17 = .ok (.bipush 12, 2) := by decide +kernel
theorem dX11_see_19 : decode cX11_see 19 = .ok (.if_icmp .le 5, 3) := by decide +kernel
theorem dX11_see_22 : decode cX11_see 22 = .ok (.iconst 0, 1) := by decide +kernel
theorem dX11_see_23 : decode cX11_see 23 = .ok (.ireturn, 1) := by decide +kernel
theorem dX11_see_24 : decode cX11_see 24 = .ok (.aload_n 0, 1) := by decide +kernel
theorem dX11_see_25 : decode cX11_see 25 = .ok (.getfield 35, 3) := by decide +kernel
theorem dX11_see_28 : decode cX11_see 28 = .ok (.iload_n 1, 1) := by decide +kernel
theorem dX11_see_29 : decode cX11_see 29 = .ok (.iload_n 2, 1) := by decide +kernel
theorem dX11_see_30 : decode cX11_see 30 = .ok (.iload_n 3, 1) := by decide +kernel
theorem dX11_see_31 : decode cX11_see 31 = .ok (.invokevirtual 281, 3) := by decide +kernel
theorem dX11_see_34 : decode cX11_see 34 = .ok (.ireturn, 1) := by decide +kernel
abbrev tX11_see (k : Nat) : MT := (RX11, cX11_see, 4, k, (some .boolean))
def mX11_see : MX := bodyOf 4 (sSeq (sIf (cOr (cOr (cNot (cZ zne (iCallV 0 mX0_isHut (aR (rGet 11 7 (rLoc 0)) (aI (iLoc 1) aNil))))) (cB rlt (iLoc 2) (iK 1))) (cB rgt (iLoc 2) (iK 12))) (sRetZ (iK 0)) sSkip) (sRetZ (iCallV 5 mX5_addSeen (aR (rGet 11 3 (rLoc 0)) (aI (iLoc 1) (aI (iLoc 2) (aI (iLoc 3) aNil)))))))
theorem kX11_see (g : GT) : MK g 1 yX11_see cX11_see 4 (some .boolean) mX11_see := MK.of (pcN := 99999) (pcB := 0) (pcC := 0) rfl (Sok.seq (pc1 := 24) (Sok.ite (pc1 := 22) (pc2 := 24) (Cok.or (pc1 := 16) (Cok.or (pc1 := 11) (Cok.not (Cok.zero (pc1 := 8) (pcT := 11) (pcF := 22) (EokI.iCallV (pc1 := 5) (Aok.aR (pc1 := 4) (EokR.getf (pc1 := 1) (j := 7) (ci := 11) (T := TX11) (N := 11) (EokR.aload_n (q := 0) dX11_see_0) rfl wsX11_in (by decide) flX11_42 dX11_see_1) (Aok.aI (pc1 := 5) (EokI.iload_n (q := 1) dX11_see_4) Aok.nil)) (kX0_isHut g) rfl ykX0_isHut vkX11_117 (by decide) (by decide) dX11_see_5) (JZ.neF (tgt := 22) dX11_see_8 (by decide)))) (Cok.cmp (pc1 := 12) (pc2 := 13) (pcT := 22) (pcF := 16) (EokI.iload_n (q := 2) dX11_see_11) (EokI.iconst (v := 1) dX11_see_12 (by decide)) (JI.ltT (tgt := 22) dX11_see_13 (by decide)))) (Cok.cmp (pc1 := 17) (pc2 := 19) (pcT := 22) (pcF := 24) (EokI.iload_n (q := 2) dX11_see_16) (EokI.bipush (v := 12) dX11_see_17 (by decide)) (JI.gtF (tgt := 24) dX11_see_19 (by decide)))) (by decide) (Sok.retZ (pc1 := 23) (EokI.iconst (v := 0) dX11_see_22 (by decide)) (by decide) dX11_see_23 rfl) (Sok.skip (pc := 24))) (Sok.retZ (pc1 := 34) (EokI.iCallV (pc1 := 31) (Aok.aR (pc1 := 28) (EokR.getf (pc1 := 25) (j := 3) (ci := 11) (T := TX11) (N := 11) (EokR.aload_n (q := 0) dX11_see_24) rfl wsX11_in (by decide) flX11_35 dX11_see_25) (Aok.aI (pc1 := 29) (EokI.iload_n (q := 1) dX11_see_28) (Aok.aI (pc1 := 30) (EokI.iload_n (q := 2) dX11_see_29) (Aok.aI (pc1 := 31) (EokI.iload_n (q := 3) dX11_see_30) Aok.nil)))) (kX5_addSeen g) rfl ykX5_addSeen vkX11_281 (by decide) (by decide) dX11_see_31) (by decide) dX11_see_34 rfl))
/-! PassHuts.fit()I -/
theorem dX11_fit_0 : decode cX11_fit 0 = .ok (.aload_n 0, 1) := by decide +kernel
theorem dX11_fit_1 : decode cX11_fit 1 = .ok (.getfield 80, 3) := by decide +kernel
theorem dX11_fit_4 : decode cX11_fit 4 = .ok (.aload_n 0, 1) := by decide +kernel
theorem dX11_fit_5 : decode cX11_fit 5 = .ok (.getfield 35, 3) := by decide +kernel
theorem dX11_fit_8 : decode cX11_fit 8 = .ok (.invokevirtual 285, 3) := by decide +kernel
theorem dX11_fit_11 : decode cX11_fit 11 = .ok (.ireturn, 1) := by decide +kernel
abbrev tX11_fit (k : Nat) : MT := (RX11, cX11_fit, 1, k, (some .int))
def mX11_fit : MX := bodyOf 1 (sRetI (iCallV 6 mX6_countFitting (aR (rGet 11 6 (rLoc 0)) (aR (rGet 11 3 (rLoc 0)) aNil))))
theorem kX11_fit (g : GT) : MK g 4 yX11_fit cX11_fit 1 (some .int) mX11_fit := MK.of (pcN := 99999) (pcB := 0) (pcC := 0) rfl (Sok.retI (pc1 := 11) (EokI.iCallV (pc1 := 8) (Aok.aR (pc1 := 4) (EokR.getf (pc1 := 1) (j := 6) (ci := 11) (T := TX11) (N := 11) (EokR.aload_n (q := 0) dX11_fit_0) rfl wsX11_in (by decide) flX11_80 dX11_fit_1) (Aok.aR (pc1 := 8) (EokR.getf (pc1 := 5) (j := 3) (ci := 11) (T := TX11) (N := 11) (EokR.aload_n (q := 0) dX11_fit_4) rfl wsX11_in (by decide) flX11_35 dX11_fit_5) Aok.nil)) (kX6_countFitting g) rfl ykX6_countFitting vkX11_285 (by decide) (by decide) dX11_fit_8) (by decide) dX11_fit_11 rfl)
/-! PassHuts.look()I -/
theorem dX11_look_0 : decode cX11_look 0 = .ok (.aload_n 0, 1) := by decide +kernel
theorem dX11_look_1 : decode cX11_look 1 = .ok (.getfield 80, 3) := by decide +kernel
theorem dX11_look_4 : decode cX11_look 4 = .ok (.aload_n 0, 1) := by decide +kernel
theorem dX11_look_5 : decode cX11_look 5 = .ok (.getfield 35, 3) := by decide +kernel
theorem dX11_look_8 : decode cX11_look 8 = .ok (.invokevirtual 289, 3) := by decide +kernel
theorem dX11_look_11 : decode cX11_look 11 = .ok (.ireturn, 1) := by decide +kernel
abbrev tX11_look (k : Nat) : MT := (RX11, cX11_look, 1, k, (some .int))
def mX11_look : MX := bodyOf 1 (sRetI (iCallV 6 mX6_bestLook (aR (rGet 11 6 (rLoc 0)) (aR (rGet 11 3 (rLoc 0)) aNil))))
theorem kX11_look (g : GT) : MK g 5 yX11_look cX11_look 1 (some .int) mX11_look := MK.of (pcN := 99999) (pcB := 0) (pcC := 0) rfl (Sok.retI (pc1 := 11) (EokI.iCallV (pc1 := 8) (Aok.aR (pc1 := 4) (EokR.getf (pc1 := 1) (j := 6) (ci := 11) (T := TX11) (N := 11) (EokR.aload_n (q := 0) dX11_look_0) rfl wsX11_in (by decide) flX11_80 dX11_look_1) (Aok.aR (pc1 := 8) (EokR.getf (pc1 := 5) (j := 3) (ci := 11) (T := TX11) (N := 11) (EokR.aload_n (q := 0) dX11_look_4) rfl wsX11_in (by decide) flX11_35 dX11_look_5) Aok.nil)) (kX6_bestLook g) rfl ykX6_bestLook vkX11_289 (by decide) (by decide) dX11_look_8) (by decide) dX11_look_11 rfl)
/-! PassHuts.chance(II)I -/
theorem dX11_chance_0 : decode cX11_chance 0 = .ok (.aload_n 0, 1) := by decide +kernel
theorem dX11_chance_1 : decode cX11_chance 1 = .ok (.getfield 42, 3) := by decide +kernel
theorem dX11_chance_4 : decode cX11_chance 4 = .ok (.iload_n 1, 1) := by decide +kernel
theorem dX11_chance_5 : decode cX11_chance 5 = .ok (.invokevirtual 117, 3) := by decide +kernel
theorem dX11_chance_8 : decode cX11_chance 8 = .ok (.ifCond .eq 23, 3) := by decide +kernel
theorem dX11_chance_11 : decode cX11_chance 11 = .ok (.iload_n 2, 1) := by decide +kernel
theorem dX11_chance_12 : decode cX11_chance 12 = .ok (.iconst 1, 1) := by decide +kernel
theorem dX11_chance_13 : decode cX11_chance 13 = .ok (.if_icmp .lt 18, 3) := by decide +kernel
theorem dX11_chance_16 : decode cX11_chance 16 = .ok (.iload_n 2, 1) := by decide +kernel
theorem dX11_chance_17 : decode cX11_chance 17 = .ok (.iconst 4, 1) := by decide +kernel
theorem dX11_chance_18 : decode cX11_chance 18 = .ok (.if_icmp .gt 13, 3) := by decide +kernel
theorem dX11_chance_21 : decode cX11_chance 21 = .ok (.aload_n 0, 1) := by decide +kernel
theorem dX11_chance_22 : decode cX11_chance 22 = .ok (.getfield 42, 3) := by decide +kernel
theorem dX11_chance_25 : decode cX11_chance 25 = .ok (.getfield 292, 3) := by decide +kernel
theorem dX11_chance_28 : decode cX11_chance 28 = .ok (.ifCond .ne 5, 3) := by decide +kernel
theorem dX11_chance_31 : decode cX11_chance 31 = .ok (.iconst (-1), 1) := by decide +kernel
theorem dX11_chance_32 : decode cX11_chance 32 = .ok (.ireturn, 1) := by decide +kernel
theorem dX11_chance_33 : decode cX11_chance 33 = .ok (.aload_n 0, 1) := by decide +kernel
theorem dX11_chance_34 : decode cX11_chance 34 = .ok (.getfield 71, 3) := by decide +kernel
theorem dX11_chance_37 : decode cX11_chance 37 = .ok (.aload_n 0, 1) := by decide +kernel
theorem dX11_chance_38 : decode cX11_chance 38 = .ok (.getfield 35, 3) := by decide +kernel
theorem dX11_chance_41 : decode cX11_chance 41 = .ok (.getfield 125, 3) := by decide +kernel
theorem dX11_chance_44 : decode cX11_chance 44 = .ok (.invokevirtual 179, 3) := by decide +kernel
theorem dX11_chance_47 : decode cX11_chance 47 = .ok (.aload_n 0, 1) := by decide +kernel
theorem dX11_chance_48 : decode cX11_chance 48 = .ok (.getfield 71, 3) := by decide +kernel
theorem dX11_chance_51 : decode cX11_chance 51 = .ok (.iload_n 1, 1) := by decide +kernel
theorem dX11_chance_52 : decode cX11_chance 52 = .ok (.iload_n 2, 1) := by decide +kernel
theorem dX11_chance_53 : decode cX11_chance 53 = .ok (.invokevirtual 295, 3) := by decide +kernel
theorem dX11_chance_56 : decode cX11_chance 56 = .ok (.ireturn, 1) := by decide +kernel
abbrev tX11_chance (k : Nat) : MT := (RX11, cX11_chance, 3, k, (some .int))
def mX11_chance : MX := bodyOf 3 (sSeq (sIf (cOr (cOr (cOr (cNot (cZ zne (iCallV 0 mX0_isHut (aR (rGet 11 7 (rLoc 0)) (aI (iLoc 1) aNil))))) (cB rlt (iLoc 2) (iK 1))) (cB rgt (iLoc 2) (iK 4))) (cZ zeq (iGet 0 4 (rGet 11 7 (rLoc 0))))) (sRetI (iK (-1))) sSkip) (sSeq (sCallV 10 mX10_startAt (aR (rGet 11 5 (rLoc 0)) (aI (iGet 5 9 (rGet 11 3 (rLoc 0))) aNil))) (sRetI (iCallV 10 mX10_millionths (aR (rGet 11 5 (rLoc 0)) (aI (iLoc 1) (aI (iLoc 2) aNil)))))))
theorem kX11_chance (g : GT) : MK g 7 yX11_chance cX11_chance 3 (some .int) mX11_chance := MK.of (pcN := 99999) (pcB := 0) (pcC := 0) rfl (Sok.seq (pc1 := 33) (Sok.ite (pc1 := 31) (pc2 := 33) (Cok.or (pc1 := 21) (Cok.or (pc1 := 16) (Cok.or (pc1 := 11) (Cok.not (Cok.zero (pc1 := 8) (pcT := 11) (pcF := 31) (EokI.iCallV (pc1 := 5) (Aok.aR (pc1 := 4) (EokR.getf (pc1 := 1) (j := 7) (ci := 11) (T := TX11) (N := 11) (EokR.aload_n (q := 0) dX11_chance_0) rfl wsX11_in (by decide) flX11_42 dX11_chance_1) (Aok.aI (pc1 := 5) (EokI.iload_n (q := 1) dX11_chance_4) Aok.nil)) (kX0_isHut g) rfl ykX0_isHut vkX11_117 (by decide) (by decide) dX11_chance_5) (JZ.neF (tgt := 31) dX11_chance_8 (by decide)))) (Cok.cmp (pc1 := 12) (pc2 := 13) (pcT := 31) (pcF := 16) (EokI.iload_n (q := 2) dX11_chance_11) (EokI.iconst (v := 1) dX11_chance_12 (by decide)) (JI.ltT (tgt := 31) dX11_chance_13 (by decide)))) (Cok.cmp (pc1 := 17) (pc2 := 18) (pcT := 31) (pcF := 21) (EokI.iload_n (q := 2) dX11_chance_16) (EokI.iconst (v := 4) dX11_chance_17 (by decide)) (JI.gtT (tgt := 31) dX11_chance_18 (by decide)))) (Cok.zero (pc1 := 28) (pcT := 31) (pcF := 33) (EokI.getf (pc1 := 25) (j := 4) (ci := 0) (T := TX0) (N := 17) (EokR.getf (pc1 := 22) (j := 7) (ci := 11) (T := TX11) (N := 11) (EokR.aload_n (q := 0) dX11_chance_21) rfl wsX11_in (by decide) flX11_42 dX11_chance_22) rfl wsX0_in (by decide) flX11_292 dX11_chance_25) (JZ.eqF (tgt := 33) dX11_chance_28 (by decide)))) (by decide) (Sok.retI (pc1 := 32) (EokI.iconst (v := (-1)) dX11_chance_31 (by decide)) (by decide) dX11_chance_32 rfl) (Sok.skip (pc := 33))) (Sok.seq (pc1 := 47) (Sok.sCallV (pc1 := 44) (Aok.aR (pc1 := 37) (EokR.getf (pc1 := 34) (j := 5) (ci := 11) (T := TX11) (N := 11) (EokR.aload_n (q := 0) dX11_chance_33) rfl wsX11_in (by decide) flX11_71 dX11_chance_34) (Aok.aI (pc1 := 44) (EokI.getf (pc1 := 41) (j := 9) (ci := 5) (T := TX5) (N := 13) (EokR.getf (pc1 := 38) (j := 3) (ci := 11) (T := TX11) (N := 11) (EokR.aload_n (q := 0) dX11_chance_37) rfl wsX11_in (by decide) flX11_35 dX11_chance_38) rfl wsX5_in (by decide) flX11_125 dX11_chance_41) Aok.nil)) (by decide) (kX10_startAt g) rfl ykX10_startAt vkX11_179 (by decide) (by decide) dX11_chance_44) (Sok.retI (pc1 := 56) (EokI.iCallV (pc1 := 53) (Aok.aR (pc1 := 51) (EokR.getf (pc1 := 48) (j := 5) (ci := 11) (T := TX11) (N := 11) (EokR.aload_n (q := 0) dX11_chance_47) rfl wsX11_in (by decide) flX11_71 dX11_chance_48) (Aok.aI (pc1 := 52) (EokI.iload_n (q := 1) dX11_chance_51) (Aok.aI (pc1 := 53) (EokI.iload_n (q := 2) dX11_chance_52) Aok.nil))) (kX10_millionths g) rfl ykX10_millionths vkX11_295 (by decide) (by decide) dX11_chance_53) (by decide) dX11_chance_56 rfl)))
/-! PassHuts.isStake(I)Z -/
theorem dX11_isStake_0 : decode cX11_isStake 0 = .ok (.iload_n 0, 1) := by decide +kernel
theorem dX11_isStake_1 : decode cX11_isStake 1 = .ok (.ifCond .lt 13, 3) := by decide +kernel
theorem dX11_isStake_4 : decode cX11_isStake 4 = .ok (.iload_n 0, 1) := by decide +kernel
theorem dX11_isStake_5 : decode cX11_isStake 5 = .ok (.bipush 9, 2) := by decide +kernel
theorem dX11_isStake_7 : decode cX11_isStake 7 = .ok (.if_icmp .gt 7, 3) := by decide +kernel
theorem dX11_isStake_10 : decode cX11_isStake 10 = .ok (.iconst 1, 1) := by decide +kernel
theorem dX11_isStake_11 : decode cX11_isStake 11 = .ok (.goto 4, 3) := by decide +kernel
theorem dX11_isStake_14 : decode cX11_isStake 14 = .ok (.iconst 0, 1) := by decide +kernel
theorem dX11_isStake_15 : decode cX11_isStake 15 = .ok (.ireturn, 1) := by decide +kernel
abbrev tX11_isStake (k : Nat) : MT := (RX11, cX11_isStake, 1, k, (some .boolean))
def mX11_isStake : MX := bodyOf 1 (sRetZ (iBool (cAnd (cZ zge (iLoc 0)) (cB rle (iLoc 0) (iK 9)))))
theorem kX11_isStake (g : GT) : MK g 0 yX11_isStake cX11_isStake 1 (some .boolean) mX11_isStake := MK.of (pcN := 99999) (pcB := 0) (pcC := 0) rfl (Sok.retZ (pc1 := 15) (EokI.cond' (pc1 := 10) (pc2 := 14) (Cok.and (pc1 := 4) (Cok.zero (pc1 := 1) (pcT := 4) (pcF := 14) (EokI.iload_n (q := 0) dX11_isStake_0) (JZ.geF (tgt := 14) dX11_isStake_1 (by decide))) (Cok.cmp (pc1 := 5) (pc2 := 7) (pcT := 10) (pcF := 14) (EokI.iload_n (q := 0) dX11_isStake_4) (EokI.bipush (v := 9) dX11_isStake_5 (by decide)) (JI.leF (tgt := 14) dX11_isStake_7 (by decide)))) (EokI.goto (pc1 := 11) (pc2 := 15) (EokI.iconst (v := 1) dX11_isStake_10 (by decide)) dX11_isStake_11 (by decide)) (EokI.iconst (v := 0) dX11_isStake_14 (by decide))) (by decide) dX11_isStake_15 rfl)
/-! PassHuts.gain(IIIZZ)I -/
theorem dX11_gain_0 : decode cX11_gain 0 = .ok (.iload_n 3, 1) := by decide +kernel
theorem dX11_gain_1 : decode cX11_gain 1 = .ok (.ifCond .eq 15, 3) := by decide +kernel
theorem dX11_gain_4 : decode cX11_gain 4 = .ok (.iload 4, 2) := by decide +kernel
theorem dX11_gain_6 : decode cX11_gain 6 = .ok (.ifCond .eq 8, 3) := by decide +kernel
theorem dX11_gain_9 : decode cX11_gain 9 = .ok (.iload_n 0, 1) := by decide +kernel
theorem dX11_gain_10 : decode cX11_gain 10 = .ok (.ineg, 1) := by decide +kernel
theorem dX11_gain_11 : decode cX11_gain 11 = .ok (.goto 4, 3) := by decide +kernel
theorem dX11_gain_14 : decode cX11_gain 14 = .ok (.iload_n 1, 1) := by decide +kernel
theorem dX11_gain_15 : decode cX11_gain 15 = .ok (.ireturn, 1) := by decide +kernel
theorem dX11_gain_16 : decode cX11_gain 16 = .ok (.iload 4, 2) := by decide +kernel
theorem dX11_gain_18 : decode cX11_gain 18 = .ok (.ifCond .eq 7, 3) := by decide +kernel
theorem dX11_gain_21 : decode cX11_gain 21 = .ok (.iload_n 2, 1) := by decide +kernel
theorem dX11_gain_22 : decode cX11_gain 22 = .ok (.goto 4, 3) := by decide +kernel
theorem dX11_gain_25 : decode cX11_gain 25 = .ok (.iconst 0, 1) := by decide +kernel
theorem dX11_gain_26 : decode cX11_gain 26 = .ok (.ireturn, 1) := by decide +kernel
abbrev tX11_gain (k : Nat) : MT := (RX11, cX11_gain, 5, k, (some .int))
def mX11_gain : MX := bodyOf 5 (sSeq (sIf (cZ zne (iLoc 3)) (sRetI (iCond (cZ zne (iLoc 4)) (iNeg (iLoc 0)) (iLoc 1))) sSkip) (sRetI (iCond (cZ zne (iLoc 4)) (iLoc 2) (iK 0))))
theorem kX11_gain (g : GT) : MK g 0 yX11_gain cX11_gain 5 (some .int) mX11_gain := MK.of (pcN := 99999) (pcB := 0) (pcC := 0) rfl (Sok.seq (pc1 := 16) (Sok.ite (pc1 := 4) (pc2 := 16) (Cok.zero (pc1 := 1) (pcT := 4) (pcF := 16) (EokI.iload_n (q := 3) dX11_gain_0) (JZ.neF (tgt := 16) dX11_gain_1 (by decide))) (by decide) (Sok.retI (pc1 := 15) (EokI.cond' (pc1 := 9) (pc2 := 14) (Cok.zero (pc1 := 6) (pcT := 9) (pcF := 14) (EokI.iload (i := 4) dX11_gain_4) (JZ.neF (tgt := 14) dX11_gain_6 (by decide))) (EokI.goto (pc1 := 11) (pc2 := 15) (EokI.ineg (pc1 := 10) (EokI.iload_n (q := 0) dX11_gain_9) dX11_gain_10) dX11_gain_11 (by decide)) (EokI.iload_n (q := 1) dX11_gain_14)) (by decide) dX11_gain_15 rfl) (Sok.skip (pc := 16))) (Sok.retI (pc1 := 26) (EokI.cond' (pc1 := 21) (pc2 := 25) (Cok.zero (pc1 := 18) (pcT := 21) (pcF := 25) (EokI.iload (i := 4) dX11_gain_16) (JZ.neF (tgt := 25) dX11_gain_18 (by decide))) (EokI.goto (pc1 := 22) (pc2 := 26) (EokI.iload_n (q := 2) dX11_gain_21) dX11_gain_22 (by decide)) (EokI.iconst (v := 0) dX11_gain_25 (by decide))) (by decide) dX11_gain_26 rfl))
/-! PassHuts.isRest(IIII)Z -/
theorem dX11_isRest_0 : decode cX11_isRest 0 = .ok (.iload_n 3, 1) := by decide +kernel
theorem dX11_isRest_1 : decode cX11_isRest 1 = .ok (.iconst 2, 1) := by decide +kernel
theorem dX11_isRest_2 : decode cX11_isRest 2 = .ok (.iand, 1) := by decide +kernel
theorem dX11_isRest_3 : decode cX11_isRest 3 = .ok (.ifCond .eq 7, 3) := by decide +kernel
theorem dX11_isRest_6 : decode cX11_isRest 6 = .ok (.iconst 1, 1) := by decide +kernel
theorem dX11_isRest_7 : decode cX11_isRest 7 = .ok (.goto 4, 3) := by decide +kernel
theorem dX11_isRest_10 : decode cX11_isRest 10 = .ok (.iconst 0, 1) := by decide +kernel
theorem dX11_isRest_11 : decode cX11_isRest 11 = .ok (.istore 4, 2) := by decide +kernel
theorem dX11_isRest_13 : decode cX11_isRest 13 = .ok (.iload_n 3, 1) := by decide +kernel
theorem dX11_isRest_14 : decode cX11_isRest 14 = .ok (.iconst 1, 1) := by decide +kernel
theorem dX11_isRest_15 : decode cX11_isRest 15 = .ok (.iand, 1) := by decide +kernel
theorem dX11_isRest_16 : decode cX11_isRest 16 = .ok (.ifCond .eq 7, 3) := by decide +kernel
theorem dX11_isRest_19 : decode cX11_isRest 19 = .ok (.iconst 1, 1) := by decide +kernel
theorem dX11_isRest_20 : decode cX11_isRest 20 = .ok (.goto 4, 3) := by decide +kernel
theorem dX11_isRest_23 : decode cX11_isRest 23 = .ok (.iconst 0, 1) := by decide +kernel
theorem dX11_isRest_24 : decode cX11_isRest 24 = .ok (.istore 5, 2) := by decide +kernel
theorem dX11_isRest_26 : decode cX11_isRest 26 = .ok (.iload_n 0, 1) := by decide +kernel
theorem dX11_isRest_27 : decode cX11_isRest 27 = .ok (.iload_n 1, 1) := by decide +kernel
theorem dX11_isRest_28 : decode cX11_isRest 28 = .ok (.iload_n 2, 1) := by decide +kernel
theorem dX11_isRest_29 : decode cX11_isRest 29 = .ok (.iload 4, 2) := by decide +kernel
theorem dX11_isRest_31 : decode cX11_isRest 31 = .ok (.iload 5, 2) := by decide +kernel
theorem dX11_isRest_33 : decode cX11_isRest 33 = .ok (.invokestatic 308, 3) := by decide +kernel
theorem dX11_isRest_36 : decode cX11_isRest 36 = .ok (.iload_n 0, 1) := by decide +kernel
theorem dX11_isRest_37 : decode cX11_isRest 37 = .ok (.iload_n 1, 1) := by decide +kernel
theorem dX11_isRest_38 : decode cX11_isRest 38 = .ok (.iload_n 2, 1) := by decide +kernel
theorem dX11_isRest_39 : decode cX11_isRest 39 = .ok (.iload 4, 2) := by decide +kernel
theorem dX11_isRest_41 : decode cX11_isRest 41 = .ok (.ifCond .ne 7, 3) := by decide +kernel
theorem dX11_isRest_44 : decode cX11_isRest 44 = .ok (.iconst 1, 1) := by decide +kernel
theorem dX11_isRest_45 : decode cX11_isRest 45 = .ok (.goto 4, 3) := by decide +kernel
theorem dX11_isRest_48 : decode cX11_isRest 48 = .ok (.iconst 0, 1) := by decide +kernel
theorem dX11_isRest_49 : decode cX11_isRest 49 = .ok (.iload 5, 2) := by decide +kernel
theorem dX11_isRest_51 : decode cX11_isRest 51 = .ok (.invokestatic 308, 3) := by decide +kernel
theorem dX11_isRest_54 : decode cX11_isRest 54 = .ok (.if_icmp .lt 38, 3) := by decide +kernel
theorem dX11_isRest_57 : decode cX11_isRest 57 = .ok (.iload_n 0, 1) := by decide +kernel
theorem dX11_isRest_58 : decode cX11_isRest 58 = .ok (.iload_n 1, 1) := by decide +kernel
theorem dX11_isRest_59 : decode cX11_isRest 59 = .ok (.iload_n 2, 1) := by decide +kernel
theorem dX11_isRest_60 : decode cX11_isRest 60 = .ok (.iload 5, 2) := by decide +kernel
theorem dX11_isRest_62 : decode cX11_isRest 62 = .ok (.iload 4, 2) := by decide +kernel
theorem dX11_isRest_64 : decode cX11_isRest 64 = .ok (.invokestatic 308, 3) := by decide +kernel
theorem dX11_isRest_67 : decode cX11_isRest 67 = .ok (.iload_n 0, 1) := by decide +kernel
theorem dX11_isRest_68 : decode cX11_isRest 68 = .ok (.iload_n 1, 1) := by decide +kernel
theorem dX11_isRest_69 : decode cX11_isRest 69 = .ok (.iload_n 2, 1) := by decide +kernel
theorem dX11_isRest_70 : decode cX11_isRest 70 = .ok (.iload 5, 2) := by decide +kernel
theorem dX11_isRest_72 : decode cX11_isRest 72 = .ok (.ifCond .ne 7, 3) := by decide +kernel
theorem dX11_isRest_75 : decode cX11_isRest 75 = .ok (.iconst 1, 1) := by decide +kernel
theorem dX11_isRest_76 : decode cX11_isRest 76 = .ok (.goto 4, 3) := by decide +kernel
theorem dX11_isRest_79 : decode cX11_isRest 79 = .ok (.iconst 0, 1) := by decide +kernel
theorem dX11_isRest_80 : decode cX11_isRest 80 = .ok (.iload 4, 2) := by decide +kernel
theorem dX11_isRest_82 : decode cX11_isRest 82 = .ok (.invokestatic 308, 3) := by decide +kernel
theorem dX11_isRest_85 : decode cX11_isRest 85 = .ok (.if_icmp .lt 7, 3) := by decide +kernel
theorem dX11_isRest_88 : decode cX11_isRest 88 = .ok (.iconst 1, 1) := by decide +kernel
theorem dX11_isRest_89 : decode cX11_isRest 89 = .ok (.goto 4, 3) := by decide +kernel
theorem dX11_isRest_92 : decode cX11_isRest 92 = .ok (.iconst 0, 1) := by decide +kernel
theorem dX11_isRest_93 : decode cX11_isRest 93 = .ok (.ireturn, 1) := by decide +kernel
abbrev tX11_isRest (k : Nat) : MT := (RX11, cX11_isRest, 6, k, (some .boolean))
def mX11_isRest : MX := bodyOf 6 (sSeq (sSetI 4 (iBool (cZ zne (iB gT2 (· &&& ·) (iLoc 3) (iK 2))))) (sSeq (sSetI 5 (iBool (cZ zne (iB gT2 (· &&& ·) (iLoc 3) (iK 1))))) (sRetZ (iBool (cAnd (cB rge (iCallS mX11_gain (aI (iLoc 0) (aI (iLoc 1) (aI (iLoc 2) (aI (iLoc 4) (aI (iLoc 5) aNil)))))) (iCallS mX11_gain (aI (iLoc 0) (aI (iLoc 1) (aI (iLoc 2) (aI (iBool (cNot (cZ zne (iLoc 4)))) (aI (iLoc 5) aNil))))))) (cB rge (iCallS mX11_gain (aI (iLoc 0) (aI (iLoc 1) (aI (iLoc 2) (aI (iLoc 5) (aI (iLoc 4) aNil)))))) (iCallS mX11_gain (aI (iLoc 0) (aI (iLoc 1) (aI (iLoc 2) (aI (iBool (cNot (cZ zne (iLoc 5)))) (aI (iLoc 4) aNil))))))))))))
theorem kX11_isRest (g : GT) : MK g 1 yX11_isRest cX11_isRest 6 (some .boolean) mX11_isRest := MK.of (pcN := 99999) (pcB := 0) (pcC := 0) rfl (Sok.seq (pc1 := 13) (Sok.setI (i := 4) (pc1 := 11) (EokI.cond' (pc1 := 6) (pc2 := 10) (Cok.zero (pc1 := 3) (pcT := 6) (pcF := 10) (EokI.bin (pc1 := 1) (pc2 := 2) (EokI.iload_n (q := 3) dX11_isRest_0) (EokI.iconst (v := 2) dX11_isRest_1 (by decide)) (OPI.iand dX11_isRest_2)) (JZ.neF (tgt := 10) dX11_isRest_3 (by decide))) (EokI.goto (pc1 := 7) (pc2 := 11) (EokI.iconst (v := 1) dX11_isRest_6 (by decide)) dX11_isRest_7 (by decide)) (EokI.iconst (v := 0) dX11_isRest_10 (by decide))) (by decide) dX11_isRest_11 (show 4 < 6 by decide)) (Sok.seq (pc1 := 26) (Sok.setI (i := 5) (pc1 := 24) (EokI.cond' (pc1 := 19) (pc2 := 23) (Cok.zero (pc1 := 16) (pcT := 19) (pcF := 23) (EokI.bin (pc1 := 14) (pc2 := 15) (EokI.iload_n (q := 3) dX11_isRest_13) (EokI.iconst (v := 1) dX11_isRest_14 (by decide)) (OPI.iand dX11_isRest_15)) (JZ.neF (tgt := 23) dX11_isRest_16 (by decide))) (EokI.goto (pc1 := 20) (pc2 := 24) (EokI.iconst (v := 1) dX11_isRest_19 (by decide)) dX11_isRest_20 (by decide)) (EokI.iconst (v := 0) dX11_isRest_23 (by decide))) (by decide) dX11_isRest_24 (show 5 < 6 by decide)) (Sok.retZ (pc1 := 93) (EokI.cond' (pc1 := 88) (pc2 := 92) (Cok.and (pc1 := 57) (Cok.cmp (pc1 := 36) (pc2 := 54) (pcT := 57) (pcF := 92) (EokI.iCallS (pc1 := 33) (Aok.aI (pc1 := 27) (EokI.iload_n (q := 0) dX11_isRest_26) (Aok.aI (pc1 := 28) (EokI.iload_n (q := 1) dX11_isRest_27) (Aok.aI (pc1 := 29) (EokI.iload_n (q := 2) dX11_isRest_28) (Aok.aI (pc1 := 31) (EokI.iload (i := 4) dX11_isRest_29) (Aok.aI (pc1 := 33) (EokI.iload (i := 5) dX11_isRest_31) Aok.nil))))) (kX11_gain g) ykX11_gain skX11_308 (by decide) (by decide) dX11_isRest_33) (EokI.iCallS (pc1 := 51) (Aok.aI (pc1 := 37) (EokI.iload_n (q := 0) dX11_isRest_36) (Aok.aI (pc1 := 38) (EokI.iload_n (q := 1) dX11_isRest_37) (Aok.aI (pc1 := 39) (EokI.iload_n (q := 2) dX11_isRest_38) (Aok.aI (pc1 := 49) (EokI.cond' (pc1 := 44) (pc2 := 48) (Cok.not (Cok.zero (pc1 := 41) (pcT := 48) (pcF := 44) (EokI.iload (i := 4) dX11_isRest_39) (JZ.neT (tgt := 48) dX11_isRest_41 (by decide)))) (EokI.goto (pc1 := 45) (pc2 := 49) (EokI.iconst (v := 1) dX11_isRest_44 (by decide)) dX11_isRest_45 (by decide)) (EokI.iconst (v := 0) dX11_isRest_48 (by decide))) (Aok.aI (pc1 := 51) (EokI.iload (i := 5) dX11_isRest_49) Aok.nil))))) (kX11_gain g) ykX11_gain skX11_308 (by decide) (by decide) dX11_isRest_51) (JI.geF (tgt := 92) dX11_isRest_54 (by decide))) (Cok.cmp (pc1 := 67) (pc2 := 85) (pcT := 88) (pcF := 92) (EokI.iCallS (pc1 := 64) (Aok.aI (pc1 := 58) (EokI.iload_n (q := 0) dX11_isRest_57) (Aok.aI (pc1 := 59) (EokI.iload_n (q := 1) dX11_isRest_58) (Aok.aI (pc1 := 60) (EokI.iload_n (q := 2) dX11_isRest_59) (Aok.aI (pc1 := 62) (EokI.iload (i := 5) dX11_isRest_60) (Aok.aI (pc1 := 64) (EokI.iload (i := 4) dX11_isRest_62) Aok.nil))))) (kX11_gain g) ykX11_gain skX11_308 (by decide) (by decide) dX11_isRest_64) (EokI.iCallS (pc1 := 82) (Aok.aI (pc1 := 68) (EokI.iload_n (q := 0) dX11_isRest_67) (Aok.aI (pc1 := 69) (EokI.iload_n (q := 1) dX11_isRest_68) (Aok.aI (pc1 := 70) (EokI.iload_n (q := 2) dX11_isRest_69) (Aok.aI (pc1 := 80) (EokI.cond' (pc1 := 75) (pc2 := 79) (Cok.not (Cok.zero (pc1 := 72) (pcT := 79) (pcF := 75) (EokI.iload (i := 5) dX11_isRest_70) (JZ.neT (tgt := 79) dX11_isRest_72 (by decide)))) (EokI.goto (pc1 := 76) (pc2 := 80) (EokI.iconst (v := 1) dX11_isRest_75 (by decide)) dX11_isRest_76 (by decide)) (EokI.iconst (v := 0) dX11_isRest_79 (by decide))) (Aok.aI (pc1 := 82) (EokI.iload (i := 4) dX11_isRest_80) Aok.nil))))) (kX11_gain g) ykX11_gain skX11_308 (by decide) (by decide) dX11_isRest_82) (JI.geF (tgt := 92) dX11_isRest_85 (by decide)))) (EokI.goto (pc1 := 89) (pc2 := 93) (EokI.iconst (v := 1) dX11_isRest_88 (by decide)) dX11_isRest_89 (by decide)) (EokI.iconst (v := 0) dX11_isRest_92 (by decide))) (by decide) dX11_isRest_93 rfl)))
/-! PassHuts.seasons(III)I -/
theorem dX11_seasons_0 : decode cX11_seasons 0 = .ok (.iload_n 1, 1) := by decide +kernel
theorem dX11_seasons_1 : decode cX11_seasons 1 = .ok (.ifCond .lt 30, 3) := by decide +kernel
theorem dX11_seasons_4 : decode cX11_seasons 4 = .ok (.iload_n 1, 1) := by decide +kernel
theorem dX11_seasons_5 : decode cX11_seasons 5 = .ok (.sipush 9999, 3) := by decide +kernel
theorem dX11_seasons_8 : decode cX11_seasons 8 = .ok (.if_icmp .gt 23, 3) := by decide +kernel
theorem dX11_seasons_11 : decode cX11_seasons 11 = .ok (.iload_n 2, 1) := by decide +kernel
theorem dX11_seasons_12 : decode cX11_seasons 12 = .ok (.iconst 1, 1) := by decide +kernel
theorem dX11_seasons_13 : decode cX11_seasons 13 = .ok (.if_icmp .lt 18, 3) := by decide +kernel
theorem dX11_seasons_16 : decode cX11_seasons 16 = .ok (.iload_n 2, 1) := by decide +kernel
theorem dX11_seasons_17 : decode cX11_seasons 17 = .ok (.bipush 99, 2) := by decide +kernel
theorem dX11_seasons_19 : decode cX11_seasons 19 = .ok (.if_icmp .gt 12, 3) := by decide +kernel
theorem dX11_seasons_22 : decode cX11_seasons 22 = .ok (.iload_n 3, 1) := by decide +kernel
theorem dX11_seasons_23 : decode cX11_seasons 23 = .ok (.ifCond .lt 8, 3) := by decide +kernel
theorem dX11_seasons_26 : decode cX11_seasons 26 = .ok (.iload_n 3, 1) := by decide +kernel
theorem dX11_seasons_27 : decode cX11_seasons 27 = .ok (.iconst 2, 1) := by decide +kernel
theorem dX11_seasons_28 : decode cX11_seasons 28 = .ok (.if_icmp .le 5, 3) := by decide +kernel
theorem dX11_seasons_31 : decode cX11_seasons 31 = .ok (.iconst (-1), 1) := by decide +kernel
theorem dX11_seasons_32 : decode cX11_seasons 32 = .ok (.ireturn, 1) := by decide +kernel
theorem dX11_seasons_33 : decode cX11_seasons 33 = .ok (.aload_n 0, 1) := by decide +kernel
theorem dX11_seasons_34 : decode cX11_seasons 34 = .ok (.getfield 35, 3) := by decide +kernel
theorem dX11_seasons_37 : decode cX11_seasons 37 = .ok (.aload_n 0, 1) := by decide +kernel
theorem dX11_seasons_38 : decode cX11_seasons 38 = .ok (.getfield 42, 3) := by decide +kernel
theorem dX11_seasons_41 : decode cX11_seasons 41 = .ok (.iload_n 1, 1) := by decide +kernel
theorem dX11_seasons_42 : decode cX11_seasons 42 = .ok (.iload_n 2, 1) := by decide +kernel
theorem dX11_seasons_43 : decode cX11_seasons 43 = .ok (.iload_n 3, 1) := by decide +kernel
theorem dX11_seasons_44 : decode cX11_seasons 44 = .ok (.invokevirtual 312, 3) := by decide +kernel
theorem dX11_seasons_47 : decode cX11_seasons 47 = .ok (.ireturn, 1) := by decide +kernel
abbrev tX11_seasons (k : Nat) : MT := (RX11, cX11_seasons, 4, k, (some .int))
def mX11_seasons : MX := bodyOf 4 (sSeq (sIf (cOr (cOr (cOr (cOr (cOr (cZ zlt (iLoc 1)) (cB rgt (iLoc 1) (iK 9999))) (cB rlt (iLoc 2) (iK 1))) (cB rgt (iLoc 2) (iK 99))) (cZ zlt (iLoc 3))) (cB rgt (iLoc 3) (iK 2))) (sRetI (iK (-1))) sSkip) (sRetI (iCallV 5 mX5_drawSeasons (aR (rGet 11 3 (rLoc 0)) (aR (rGet 11 7 (rLoc 0)) (aI (iLoc 1) (aI (iLoc 2) (aI (iLoc 3) aNil))))))))
theorem kX11_seasons (g : GT) : MK g 6 yX11_seasons cX11_seasons 4 (some .int) mX11_seasons := MK.of (pcN := 99999) (pcB := 0) (pcC := 0) rfl (Sok.seq (pc1 := 33) (Sok.ite (pc1 := 31) (pc2 := 33) (Cok.or (pc1 := 26) (Cok.or (pc1 := 22) (Cok.or (pc1 := 16) (Cok.or (pc1 := 11) (Cok.or (pc1 := 4) (Cok.zero (pc1 := 1) (pcT := 31) (pcF := 4) (EokI.iload_n (q := 1) dX11_seasons_0) (JZ.ltT (tgt := 31) dX11_seasons_1 (by decide))) (Cok.cmp (pc1 := 5) (pc2 := 8) (pcT := 31) (pcF := 11) (EokI.iload_n (q := 1) dX11_seasons_4) (EokI.sipush (v := 9999) dX11_seasons_5 (by decide)) (JI.gtT (tgt := 31) dX11_seasons_8 (by decide)))) (Cok.cmp (pc1 := 12) (pc2 := 13) (pcT := 31) (pcF := 16) (EokI.iload_n (q := 2) dX11_seasons_11) (EokI.iconst (v := 1) dX11_seasons_12 (by decide)) (JI.ltT (tgt := 31) dX11_seasons_13 (by decide)))) (Cok.cmp (pc1 := 17) (pc2 := 19) (pcT := 31) (pcF := 22) (EokI.iload_n (q := 2) dX11_seasons_16) (EokI.bipush (v := 99) dX11_seasons_17 (by decide)) (JI.gtT (tgt := 31) dX11_seasons_19 (by decide)))) (Cok.zero (pc1 := 23) (pcT := 31) (pcF := 26) (EokI.iload_n (q := 3) dX11_seasons_22) (JZ.ltT (tgt := 31) dX11_seasons_23 (by decide)))) (Cok.cmp (pc1 := 27) (pc2 := 28) (pcT := 31) (pcF := 33) (EokI.iload_n (q := 3) dX11_seasons_26) (EokI.iconst (v := 2) dX11_seasons_27 (by decide)) (JI.gtF (tgt := 33) dX11_seasons_28 (by decide)))) (by decide) (Sok.retI (pc1 := 32) (EokI.iconst (v := (-1)) dX11_seasons_31 (by decide)) (by decide) dX11_seasons_32 rfl) (Sok.skip (pc := 33))) (Sok.retI (pc1 := 47) (EokI.iCallV (pc1 := 44) (Aok.aR (pc1 := 37) (EokR.getf (pc1 := 34) (j := 3) (ci := 11) (T := TX11) (N := 11) (EokR.aload_n (q := 0) dX11_seasons_33) rfl wsX11_in (by decide) flX11_35 dX11_seasons_34) (Aok.aR (pc1 := 41) (EokR.getf (pc1 := 38) (j := 7) (ci := 11) (T := TX11) (N := 11) (EokR.aload_n (q := 0) dX11_seasons_37) rfl wsX11_in (by decide) flX11_42 dX11_seasons_38) (Aok.aI (pc1 := 42) (EokI.iload_n (q := 1) dX11_seasons_41) (Aok.aI (pc1 := 43) (EokI.iload_n (q := 2) dX11_seasons_42) (Aok.aI (pc1 := 44) (EokI.iload_n (q := 3) dX11_seasons_43) Aok.nil))))) (kX5_drawSeasons g) rfl ykX5_drawSeasons vkX11_312 (by decide) (by decide) dX11_seasons_44) (by decide) dX11_seasons_47 rfl))
/-! PassHuts.mark(IZ)Z -/
theorem dX11_mark_0 : decode cX11_mark 0 = .ok (.iload_n 1, 1) := by decide +kernel
theorem dX11_mark_1 : decode cX11_mark 1 = .ok (.ifCond .lt 8, 3) := by decide +kernel
theorem dX11_mark_4 : decode cX11_mark 4 = .ok (.iload_n 1, 1) := by decide +kernel
theorem dX11_mark_5 : decode cX11_mark 5 = .ok (.iconst 4, 1) := by decide +kernel
theorem dX11_mark_6 : decode cX11_mark 6 = .ok (.if_icmp .lt 5, 3) := by decide +kernel
theorem dX11_mark_9 : decode cX11_mark 9 = .ok (.iconst 0, 1) := by decide +kernel
theorem dX11_mark_10 : decode cX11_mark 10 = .ok (.ireturn, 1) := by decide +kernel
theorem dX11_mark_11 : decode cX11_mark 11 = .ok (.iload_n 2, 1) := by decide +kernel
theorem dX11_mark_12 : decode cX11_mark 12 = .ok (.ifCond .eq 14, 3) := by decide +kernel
theorem dX11_mark_15 : decode cX11_mark 15 = .ok (.aload_n 0, 1) := by decide +kernel
theorem dX11_mark_16 : decode cX11_mark 16 = .ok (.getfield 35, 3) := by decide +kernel
theorem dX11_mark_19 : decode cX11_mark 19 = .ok (.iload_n 1, 1) := by decide +kernel
theorem dX11_mark_20 : decode cX11_mark 20 = .ok (.invokevirtual 316, 3) := by decide +kernel
theorem dX11_mark_23 : decode cX11_mark 23 = .ok (.goto 11, 3) := by decide +kernel
theorem dX11_mark_26 : decode cX11_mark 26 = .ok (.aload_n 0, 1) := by decide +kernel
theorem dX11_mark_27 : decode cX11_mark 27 = .ok (.getfield 35, 3) := by decide +kernel
theorem dX11_mark_30 : decode cX11_mark 30 = .ok (.iload_n 1, 1) := by decide +kernel
theorem dX11_mark_31 : decode cX11_mark 31 = .ok (.invokevirtual 319, 3) := by decide +kernel
theorem dX11_mark_34 : decode cX11_mark 34 = .ok (.ireturn, 1) := by decide +kernel
abbrev tX11_mark (k : Nat) : MT := (RX11, cX11_mark, 3, k, (some .boolean))
def mX11_mark : MX := bodyOf 3 (sSeq (sIf (cOr (cZ zlt (iLoc 1)) (cB rge (iLoc 1) (iK 4))) (sRetZ (iK 0)) sSkip) (sRetZ (iCond (cZ zne (iLoc 2)) (iCallV 5 mX5_backToMark (aR (rGet 11 3 (rLoc 0)) (aI (iLoc 1) aNil))) (iCallV 5 mX5_layMark (aR (rGet 11 3 (rLoc 0)) (aI (iLoc 1) aNil))))))
theorem kX11_mark (g : GT) : MK g 1 yX11_mark cX11_mark 3 (some .boolean) mX11_mark := MK.of (pcN := 99999) (pcB := 0) (pcC := 0) rfl (Sok.seq (pc1 := 11) (Sok.ite (pc1 := 9) (pc2 := 11) (Cok.or (pc1 := 4) (Cok.zero (pc1 := 1) (pcT := 9) (pcF := 4) (EokI.iload_n (q := 1) dX11_mark_0) (JZ.ltT (tgt := 9) dX11_mark_1 (by decide))) (Cok.cmp (pc1 := 5) (pc2 := 6) (pcT := 9) (pcF := 11) (EokI.iload_n (q := 1) dX11_mark_4) (EokI.iconst (v := 4) dX11_mark_5 (by decide)) (JI.geF (tgt := 11) dX11_mark_6 (by decide)))) (by decide) (Sok.retZ (pc1 := 10) (EokI.iconst (v := 0) dX11_mark_9 (by decide)) (by decide) dX11_mark_10 rfl) (Sok.skip (pc := 11))) (Sok.retZ (pc1 := 34) (EokI.cond' (pc1 := 15) (pc2 := 26) (Cok.zero (pc1 := 12) (pcT := 15) (pcF := 26) (EokI.iload_n (q := 2) dX11_mark_11) (JZ.neF (tgt := 26) dX11_mark_12 (by decide))) (EokI.goto (pc1 := 23) (pc2 := 34) (EokI.iCallV (pc1 := 20) (Aok.aR (pc1 := 19) (EokR.getf (pc1 := 16) (j := 3) (ci := 11) (T := TX11) (N := 11) (EokR.aload_n (q := 0) dX11_mark_15) rfl wsX11_in (by decide) flX11_35 dX11_mark_16) (Aok.aI (pc1 := 20) (EokI.iload_n (q := 1) dX11_mark_19) Aok.nil)) (kX5_backToMark g) rfl ykX5_backToMark vkX11_316 (by decide) (by decide) dX11_mark_20) dX11_mark_23 (by decide)) (EokI.iCallV (pc1 := 31) (Aok.aR (pc1 := 30) (EokR.getf (pc1 := 27) (j := 3) (ci := 11) (T := TX11) (N := 11) (EokR.aload_n (q := 0) dX11_mark_26) rfl wsX11_in (by decide) flX11_35 dX11_mark_27) (Aok.aI (pc1 := 31) (EokI.iload_n (q := 1) dX11_mark_30) Aok.nil)) (kX5_layMark g) rfl ykX5_layMark vkX11_319 (by decide) (by decide) dX11_mark_31)) (by decide) dX11_mark_34 rfl))
/-! PassHuts.count(I)I -/
theorem dX11_count_0 : decode cX11_count 0 = .ok (.iload_n 1, 1) := by decide +kernel
theorem dX11_count_1 : decode cX11_count 1 = .ok (.tableswitch 165 0 9 #[55, 63, 73, 88, 96, 111, 133, 141, 149, 157], 55) := by decide +kernel
theorem dX11_count_56 : decode cX11_count 56 = .ok (.aload_n 0, 1) := by decide +kernel
theorem dX11_count_57 : decode cX11_count 57 = .ok (.getfield 42, 3) := by decide +kernel
theorem dX11_count_60 : decode cX11_count 60 = .ok (.getfield 227, 3) := by decide +kernel
theorem dX11_count_63 : decode cX11_count 63 = .ok (.ireturn, 1) := by decide +kernel
theorem dX11_count_64 : decode cX11_count 64 = .ok (.aload_n 0, 1) := by decide +kernel
theorem dX11_count_65 : decode cX11_count 65 = .ok (.getfield 42, 3) := by decide +kernel
theorem dX11_count_68 : decode cX11_count 68 = .ok (.getfield 292, 3) := by decide +kernel
theorem dX11_count_71 : decode cX11_count 71 = .ok (.iconst 2, 1) := by decide +kernel
theorem dX11_count_72 : decode cX11_count 72 = .ok (.idiv, 1) := by decide +kernel
theorem dX11_count_73 : decode cX11_count 73 = .ok (.ireturn, 1) := by decide +kernel
theorem dX11_count_74 : decode cX11_count 74 = .ok (.aload_n 0, 1) := by decide +kernel
theorem dX11_count_75 : decode cX11_count 75 = .ok (.getfield 42, 3) := by decide +kernel
theorem dX11_count_78 : decode cX11_count 78 = .ok (.aload_n 0, 1) := by decide +kernel
theorem dX11_count_79 : decode cX11_count 79 = .ok (.getfield 35, 3) := by decide +kernel
theorem dX11_count_82 : decode cX11_count 82 = .ok (.getfield 125, 3) := by decide +kernel
theorem dX11_count_85 : decode cX11_count 85 = .ok (.invokevirtual 239, 3) := by decide +kernel
theorem dX11_count_88 : decode cX11_count 88 = .ok (.ireturn, 1) := by decide +kernel
theorem dX11_count_89 : decode cX11_count 89 = .ok (.aload_n 0, 1) := by decide +kernel
theorem dX11_count_90 : decode cX11_count 90 = .ok (.getfield 35, 3) := by decide +kernel
theorem dX11_count_93 : decode cX11_count 93 = .ok (.getfield 322, 3) := by decide +kernel
theorem dX11_count_96 : decode cX11_count 96 = .ok (.ireturn, 1) := by decide +kernel
theorem dX11_count_97 : decode cX11_count 97 = .ok (.aload_n 0, 1) := by decide +kernel
theorem dX11_count_98 : decode cX11_count 98 = .ok (.getfield 42, 3) := by decide +kernel
theorem dX11_count_101 : decode cX11_count 101 = .ok (.aload_n 0, 1) := by decide +kernel
theorem dX11_count_102 : decode cX11_count 102 = .ok (.getfield 35, 3) := by decide +kernel
theorem dX11_count_105 : decode cX11_count 105 = .ok (.getfield 125, 3) := by decide +kernel
theorem dX11_count_108 : decode cX11_count 108 = .ok (.invokevirtual 325, 3) := by decide +kernel
theorem dX11_count_111 : decode cX11_count 111 = .ok (.ireturn, 1) := by decide +kernel
theorem dX11_count_112 : decode cX11_count 112 = .ok (.aload_n 0, 1) := by decide +kernel
theorem dX11_count_113 : decode cX11_count 113 = .ok (.getfield 64, 3) := by decide +kernel
theorem dX11_count_116 : decode cX11_count 116 = .ok (.invokevirtual 185, 3) := by decide +kernel
theorem dX11_count_119 : decode cX11_count 119 = .ok (.aload_n 0, 1) := by decide +kernel
theorem dX11_count_120 : decode cX11_count 120 = .ok (.getfield 64, 3) := by decide +kernel
theorem dX11_count_123 : decode cX11_count 123 = .ok (.aload_n 0, 1) := by decide +kernel
theorem dX11_count_124 : decode cX11_count 124 = .ok (.getfield 35, 3) := by decide +kernel
theorem dX11_count_127 : decode cX11_count 127 = .ok (.getfield 125, 3) := by decide +kernel
theorem dX11_count_130 : decode cX11_count 130 = .ok (.invokevirtual 230, 3) := by decide +kernel
theorem dX11_count_133 : decode cX11_count 133 = .ok (.ireturn, 1) := by decide +kernel
theorem dX11_count_134 : decode cX11_count 134 = .ok (.aload_n 0, 1) := by decide +kernel
theorem dX11_count_135 : decode cX11_count 135 = .ok (.getfield 52, 3) := by decide +kernel
theorem dX11_count_138 : decode cX11_count 138 = .ok (.getfield 328, 3) := by decide +kernel
theorem dX11_count_141 : decode cX11_count 141 = .ok (.ireturn, 1) := by decide +kernel
theorem dX11_count_142 : decode cX11_count 142 = .ok (.aload_n 0, 1) := by decide +kernel
theorem dX11_count_143 : decode cX11_count 143 = .ok (.getfield 35, 3) := by decide +kernel
theorem dX11_count_146 : decode cX11_count 146 = .ok (.getfield 331, 3) := by decide +kernel
theorem dX11_count_149 : decode cX11_count 149 = .ok (.ireturn, 1) := by decide +kernel
theorem dX11_count_150 : decode cX11_count 150 = .ok (.aload_n 0, 1) := by decide +kernel
theorem dX11_count_151 : decode cX11_count 151 = .ok (.getfield 35, 3) := by decide +kernel
theorem dX11_count_154 : decode cX11_count 154 = .ok (.getfield 334, 3) := by decide +kernel
theorem dX11_count_157 : decode cX11_count 157 = .ok (.ireturn, 1) := by decide +kernel
theorem dX11_count_158 : decode cX11_count 158 = .ok (.aload_n 0, 1) := by decide +kernel
theorem dX11_count_159 : decode cX11_count 159 = .ok (.getfield 10, 3) := by decide +kernel
theorem dX11_count_162 : decode cX11_count 162 = .ok (.getfield 88, 3) := by decide +kernel
theorem dX11_count_165 : decode cX11_count 165 = .ok (.ireturn, 1) := by decide +kernel
theorem dX11_count_166 : decode cX11_count 166 = .ok (.iconst (-1), 1) := by decide +kernel
theorem dX11_count_167 : decode cX11_count 167 = .ok (.ireturn, 1) := by decide +kernel
abbrev tX11_count (k : Nat) : MT := (RX11, cX11_count, 2, k, (some .int))
def mX11_count : MX := bodyOf 2 (sSw (sSwitch 0 (iLoc 1) [(sRetI (iGet 0 3 (rGet 11 7 (rLoc 0)))), (sRetI (iB gNZ (· / ·) (iGet 0 4 (rGet 11 7 (rLoc 0))) (iK 2))), (sRetI (iCallV 0 mX0_sumOf (aR (rGet 11 7 (rLoc 0)) (aI (iGet 5 9 (rGet 11 3 (rLoc 0))) aNil)))), (sRetI (iGet 5 10 (rGet 11 3 (rLoc 0)))), (sRetI (iCallV 0 mX0_occupied (aR (rGet 11 7 (rLoc 0)) (aI (iGet 5 9 (rGet 11 3 (rLoc 0))) aNil)))), (sSeq (sCallV 3 mX3_prepare (aR (rGet 11 4 (rLoc 0)) aNil)) (sRetI (iCallV 3 mX3_hutsFrom (aR (rGet 11 4 (rLoc 0)) (aI (iGet 5 9 (rGet 11 3 (rLoc 0))) aNil))))), (sRetI (iGet 9 3 (rGet 11 9 (rLoc 0)))), (sRetI (iGet 5 12 (rGet 11 3 (rLoc 0)))), (sRetI (iGet 5 11 (rGet 11 3 (rLoc 0)))), (sRetI (iGet 7 1 (rGet 11 0 (rLoc 0))))] (sRetI (iK (-1)))))
theorem kX11_count (g : GT) : MK g 7 yX11_count cX11_count 2 (some .int) mX11_count := MK.of (pcN := 99999) (pcB := 0) (pcC := 0) rfl (Sok.swB (Sok.tswitch (pc1 := 1) (pd := 166) (pcs := [56, 64, 74, 89, 97, 112, 134, 142, 150, 158]) (pcN := 99999) (pcB := 99999) (EokI.iload_n (q := 1) dX11_count_0) (by decide) dX11_count_1 (by decide) rfl (by decide) (by decide) (sw_list (pd := 166) (d := (sRetI (iK (-1)))) ⟨(Sok.retI (pc1 := 63) (EokI.getf (pc1 := 60) (j := 3) (ci := 0) (T := TX0) (N := 17) (EokR.getf (pc1 := 57) (j := 7) (ci := 11) (T := TX11) (N := 11) (EokR.aload_n (q := 0) dX11_count_56) rfl wsX11_in (by decide) flX11_42 dX11_count_57) rfl wsX0_in (by decide) flX11_227 dX11_count_60) (by decide) dX11_count_63 rfl), (Sok.retI (pc1 := 73) (EokI.bin (pc1 := 71) (pc2 := 72) (EokI.getf (pc1 := 68) (j := 4) (ci := 0) (T := TX0) (N := 17) (EokR.getf (pc1 := 65) (j := 7) (ci := 11) (T := TX11) (N := 11) (EokR.aload_n (q := 0) dX11_count_64) rfl wsX11_in (by decide) flX11_42 dX11_count_65) rfl wsX0_in (by decide) flX11_292 dX11_count_68) (EokI.iconst (v := 2) dX11_count_71 (by decide)) (OPI.idiv dX11_count_72)) (by decide) dX11_count_73 rfl), (Sok.retI (pc1 := 88) (EokI.iCallV (pc1 := 85) (Aok.aR (pc1 := 78) (EokR.getf (pc1 := 75) (j := 7) (ci := 11) (T := TX11) (N := 11) (EokR.aload_n (q := 0) dX11_count_74) rfl wsX11_in (by decide) flX11_42 dX11_count_75) (Aok.aI (pc1 := 85) (EokI.getf (pc1 := 82) (j := 9) (ci := 5) (T := TX5) (N := 13) (EokR.getf (pc1 := 79) (j := 3) (ci := 11) (T := TX11) (N := 11) (EokR.aload_n (q := 0) dX11_count_78) rfl wsX11_in (by decide) flX11_35 dX11_count_79) rfl wsX5_in (by decide) flX11_125 dX11_count_82) Aok.nil)) (kX0_sumOf g) rfl ykX0_sumOf vkX11_239 (by decide) (by decide) dX11_count_85) (by decide) dX11_count_88 rfl), (Sok.retI (pc1 := 96) (EokI.getf (pc1 := 93) (j := 10) (ci := 5) (T := TX5) (N := 13) (EokR.getf (pc1 := 90) (j := 3) (ci := 11) (T := TX11) (N := 11) (EokR.aload_n (q := 0) dX11_count_89) rfl wsX11_in (by decide) flX11_35 dX11_count_90) rfl wsX5_in (by decide) flX11_322 dX11_count_93) (by decide) dX11_count_96 rfl), (Sok.retI (pc1 := 111) (EokI.iCallV (pc1 := 108) (Aok.aR (pc1 := 101) (EokR.getf (pc1 := 98) (j := 7) (ci := 11) (T := TX11) (N := 11) (EokR.aload_n (q := 0) dX11_count_97) rfl wsX11_in (by decide) flX11_42 dX11_count_98) (Aok.aI (pc1 := 108) (EokI.getf (pc1 := 105) (j := 9) (ci := 5) (T := TX5) (N := 13) (EokR.getf (pc1 := 102) (j := 3) (ci := 11) (T := TX11) (N := 11) (EokR.aload_n (q := 0) dX11_count_101) rfl wsX11_in (by decide) flX11_35 dX11_count_102) rfl wsX5_in (by decide) flX11_125 dX11_count_105) Aok.nil)) (kX0_occupied g) rfl ykX0_occupied vkX11_325 (by decide) (by decide) dX11_count_108) (by decide) dX11_count_111 rfl), (Sok.seq (pc1 := 119) (Sok.sCallV (pc1 := 116) (Aok.aR (pc1 := 116) (EokR.getf (pc1 := 113) (j := 4) (ci := 11) (T := TX11) (N := 11) (EokR.aload_n (q := 0) dX11_count_112) rfl wsX11_in (by decide) flX11_64 dX11_count_113) Aok.nil) (by decide) (kX3_prepare g) rfl ykX3_prepare vkX11_185 (by decide) (by decide) dX11_count_116) (Sok.retI (pc1 := 133) (EokI.iCallV (pc1 := 130) (Aok.aR (pc1 := 123) (EokR.getf (pc1 := 120) (j := 4) (ci := 11) (T := TX11) (N := 11) (EokR.aload_n (q := 0) dX11_count_119) rfl wsX11_in (by decide) flX11_64 dX11_count_120) (Aok.aI (pc1 := 130) (EokI.getf (pc1 := 127) (j := 9) (ci := 5) (T := TX5) (N := 13) (EokR.getf (pc1 := 124) (j := 3) (ci := 11) (T := TX11) (N := 11) (EokR.aload_n (q := 0) dX11_count_123) rfl wsX11_in (by decide) flX11_35 dX11_count_124) rfl wsX5_in (by decide) flX11_125 dX11_count_127) Aok.nil)) (kX3_hutsFrom g) rfl ykX3_hutsFrom vkX11_230 (by decide) (by decide) dX11_count_130) (by decide) dX11_count_133 rfl)), (Sok.retI (pc1 := 141) (EokI.getf (pc1 := 138) (j := 3) (ci := 9) (T := TX9) (N := 7) (EokR.getf (pc1 := 135) (j := 9) (ci := 11) (T := TX11) (N := 11) (EokR.aload_n (q := 0) dX11_count_134) rfl wsX11_in (by decide) flX11_52 dX11_count_135) rfl wsX9_in (by decide) flX11_328 dX11_count_138) (by decide) dX11_count_141 rfl), (Sok.retI (pc1 := 149) (EokI.getf (pc1 := 146) (j := 12) (ci := 5) (T := TX5) (N := 13) (EokR.getf (pc1 := 143) (j := 3) (ci := 11) (T := TX11) (N := 11) (EokR.aload_n (q := 0) dX11_count_142) rfl wsX11_in (by decide) flX11_35 dX11_count_143) rfl wsX5_in (by decide) flX11_331 dX11_count_146) (by decide) dX11_count_149 rfl), (Sok.retI (pc1 := 157) (EokI.getf (pc1 := 154) (j := 11) (ci := 5) (T := TX5) (N := 13) (EokR.getf (pc1 := 151) (j := 3) (ci := 11) (T := TX11) (N := 11) (EokR.aload_n (q := 0) dX11_count_150) rfl wsX11_in (by decide) flX11_35 dX11_count_151) rfl wsX5_in (by decide) flX11_334 dX11_count_154) (by decide) dX11_count_157 rfl), (Sok.retI (pc1 := 165) (EokI.getf (pc1 := 162) (j := 1) (ci := 7) (T := TX7) (N := 2) (EokR.getf (pc1 := 159) (j := 0) (ci := 11) (T := TX11) (N := 11) (EokR.aload_n (q := 0) dX11_count_158) rfl wsX11_in (by decide) flX11_10 dX11_count_159) rfl wsX7_in (by decide) flX11_88 dX11_count_162) (by decide) dX11_count_165 rfl), trivial⟩) (Sok.retI (pc1 := 167) (EokI.iconst (v := (-1)) dX11_count_166 (by decide)) (by decide) dX11_count_167 rfl)))
