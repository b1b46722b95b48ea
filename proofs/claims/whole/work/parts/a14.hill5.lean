set_option maxRecDepth 20000
set_option maxHeartbeats 4000000
set_option linter.all false
/-! carryings, stuck, before, ways to lie, of the class -/
theorem wl_at {K : HK} {i j : Nat} (hi : i < Kn K) (hj : j < Kn K) (ht : Kt K i j ≠ 0) : ∃ w, w < (wl K).length ∧ wlg K w = (i, j) := by
  obtain ⟨w, hw, e⟩ := List.mem_iff_getElem.mp (mem_wl.mpr (show (i, j).1 < Kn K ∧ (i, j).2 < Kn K ∧ Kt K (i, j).1 (i, j).2 ≠ 0 from ⟨hi, hj, ht⟩))
  exact ⟨w, hw, by simp [wlg, hw, e]⟩
theorem Kc_0 {K : HK} {L : List Nat} {i j : Nat} (h : Kt K i j = 0) : Kc K L i j = false := by
  simp [Kc, h]
theorem s_afterCarrying {a : Nat} {K : HK} {h : HS} {R : Option Value → HS → Prop} (hh : HL a K h) {L : List Nat} (hL : LWF (Kn K) L) {i j : Nat} (hi : i < Kn K) (hj : j < Kn K)
    (kk : ∀ h', HL a K h' → LFr (a + 2) h h' → R (some (.int (aw K L (i, j)))) h') :
    mX0_afterCarrying [.ref a, .int (nI (pk L)), .int (nI i), .int (nI j)] h R := by
  have hc := hh.1
  simp only [mX0_afterCarrying, cI_s, cL0_s, cR_s, vI_s, vL_s, vR_s, u_iLoc, u_lLoc, u_rLoc, u_iK, u_lK, u_iBg, u_lBg, u_lBI, u_gT, u_gTL, u_gNZ, u_gNZL, u_iNeg, u_iOfL, u_lOfI, u_iByte, fI_s, u_iGet, fL_s, u_lGet, fR_s, u_rGet, eI_s, eL_s, u_iALd, u_bALd, u_zALd, u_lALd, u_iLen, u_iResLen, u_lRes, u_cB, u_cZ, u_cL, u_cAnd, u_cOr, u_cNot, u_cK, u_iCond, u_lCond, u_iBool, u_aNil, u_aI, u_aL, u_aR, rI_s, rL_s, rN_s, u_iCallV, u_lCallV, u_iCallS, u_lCallS, u_sCallV, u_sCallS, u_sSkip, u_sBreak, u_sCont, u_sSeq, u_sIf, u_sForget, u_sSetI, u_sSetL, u_sSetR, u_sInc, u_sRetV, u_sRetI, u_sRetL, u_sRetZB, u_sRetZC, u_sRetZV, u_sRetZS, u_sRetZL, u_sSw, u_sSwitch, pI_s, pL_s, pR_s, u_sPutI, u_sPutZ, u_sPutL, u_sPutR, u_sUpd, sI_s, sL_s, u_sAStN, u_sAStL, u_sAUpd, u_sAUpdL, u_body, u_env0, u_eAn, u_eAint, u_eAref, u_eAlong, kl_i, kl_r, kl_l, kl_n, kl_nn, u_set1_0, u_set2_0, u_s1_1, u_s2_1, u_s1_2, u_s2_2, u_s1_3, u_s2_3, u_s1_4, u_s2_4, u_s1_5, u_s2_5, u_s1_6, u_s2_6, u_s1_7, u_s2_7, u_s1_8, u_s2_8, u_s1_9, u_s2_9, u_s1_10, u_s2_10, u_s1_11, u_s2_11, u_s1_12, u_s2_12, u_s1_13, u_s2_13, u_s1_14, u_s2_14, ab0, ab1, u_sAStB, u_sAStZ, u_rcv, ocls_s, u_sCase, iteSX, u_rnd, loop_do, eN_s, u_iB, u_lB, sRetZ1, sRetZ0, va_up_at, Nat.add_left_cancel_iff, req_t, req_f, zeq_t, zeq_f, leq_t, leq_f, rne_t, rne_f, zne_t, zne_f, lne_t, lne_f, rlt_t, rlt_f, zlt_t, zlt_f, llt_t, llt_f, rge_t, rge_f, zge_t, zge_f, lge_t, lge_f, rgt_t, rgt_f, zgt_t, zgt_f, lgt_t, lgt_f, rle_t, rle_f, zle_t, zle_f, lle_t, lle_f, Bool.not_eq_true', Bool.not_true, Bool.not_false, Bool.true_eq_false, Bool.false_eq_true, List.getElem?_cons_zero, List.getElem?_cons_succ, List.getElem?_nil, List.set_cons_zero, List.set_cons_succ, List.cons_append, List.nil_append, List.replicate_succ, List.replicate_zero, List.length_cons, List.length_nil, List.length_append, List.length_replicate, List.take_succ_cons, List.take_zero, reduceIte, reduceCtorEq, Nat.reduceEqDiff, Nat.reduceAdd, Nat.reduceSub, Nat.reduceMul, Nat.reduceLeDiff, Nat.reduceLT, and_true, true_and, if_true, if_false, Nat.zero_add, Nat.add_zero, List.append_nil, not_true_eq_false, not_false_eq_true, and_false, false_and, or_true, true_or, or_false, false_or, ne_eq, Classical.not_not, hc.2.1, s_sumOf hc hL]
  by_cases ht : Kt K i j = 0
  · rw [s_wayBetween_no hc hi hj ht]
    simp only [cI_s, cL0_s, cR_s, vI_s, vL_s, vR_s, u_iLoc, u_lLoc, u_rLoc, u_iK, u_lK, u_iBg, u_lBg, u_lBI, u_gT, u_gTL, u_gNZ, u_gNZL, u_iNeg, u_iOfL, u_lOfI, u_iByte, fI_s, u_iGet, fL_s, u_lGet, fR_s, u_rGet, eI_s, eL_s, u_iALd, u_bALd, u_zALd, u_lALd, u_iLen, u_iResLen, u_lRes, u_cB, u_cZ, u_cL, u_cAnd, u_cOr, u_cNot, u_cK, u_iCond, u_lCond, u_iBool, u_aNil, u_aI, u_aL, u_aR, rI_s, rL_s, rN_s, u_iCallV, u_lCallV, u_iCallS, u_lCallS, u_sCallV, u_sCallS, u_sSkip, u_sBreak, u_sCont, u_sSeq, u_sIf, u_sForget, u_sSetI, u_sSetL, u_sSetR, u_sInc, u_sRetV, u_sRetI, u_sRetL, u_sRetZB, u_sRetZC, u_sRetZV, u_sRetZS, u_sRetZL, u_sSw, u_sSwitch, pI_s, pL_s, pR_s, u_sPutI, u_sPutZ, u_sPutL, u_sPutR, u_sUpd, sI_s, sL_s, u_sAStN, u_sAStL, u_sAUpd, u_sAUpdL, u_body, u_env0, u_eAn, u_eAint, u_eAref, u_eAlong, kl_i, kl_r, kl_l, kl_n, kl_nn, u_set1_0, u_set2_0, u_s1_1, u_s2_1, u_s1_2, u_s2_2, u_s1_3, u_s2_3, u_s1_4, u_s2_4, u_s1_5, u_s2_5, u_s1_6, u_s2_6, u_s1_7, u_s2_7, u_s1_8, u_s2_8, u_s1_9, u_s2_9, u_s1_10, u_s2_10, u_s1_11, u_s2_11, u_s1_12, u_s2_12, u_s1_13, u_s2_13, u_s1_14, u_s2_14, ab0, ab1, u_sAStB, u_sAStZ, u_rcv, ocls_s, u_sCase, iteSX, u_rnd, loop_do, eN_s, u_iB, u_lB, sRetZ1, sRetZ0, va_up_at, Nat.add_left_cancel_iff, req_t, req_f, zeq_t, zeq_f, leq_t, leq_f, rne_t, rne_f, zne_t, zne_f, lne_t, lne_f, rlt_t, rlt_f, zlt_t, zlt_f, llt_t, llt_f, rge_t, rge_f, zge_t, zge_f, lge_t, lge_f, rgt_t, rgt_f, zgt_t, zgt_f, lgt_t, lgt_f, rle_t, rle_f, zle_t, zle_f, lle_t, lle_f, Bool.not_eq_true', Bool.not_true, Bool.not_false, Bool.true_eq_false, Bool.false_eq_true, List.getElem?_cons_zero, List.getElem?_cons_succ, List.getElem?_nil, List.set_cons_zero, List.set_cons_succ, List.cons_append, List.nil_append, List.replicate_succ, List.replicate_zero, List.length_cons, List.length_nil, List.length_append, List.length_replicate, List.take_succ_cons, List.take_zero, reduceIte, reduceCtorEq, Nat.reduceEqDiff, Nat.reduceAdd, Nat.reduceSub, Nat.reduceMul, Nat.reduceLeDiff, Nat.reduceLT, and_true, true_and, if_true, if_false, Nat.zero_add, Nat.add_zero, List.append_nil, not_true_eq_false, not_false_eq_true, and_false, false_and, or_true, true_or, or_false, false_or, ne_eq, Classical.not_not, hc.2.1, s_afterWay_no]
    have := kk h hh LFr.rf
    rw [aw, if_neg (by simp [Kc_0 ht])] at this
    exact this
  · obtain ⟨w, hw, e⟩ := wl_at hi hj ht
    have e1 := s_wayBetween_wl (R := rI fun x h1 => ocls (h1 a) 0 ∧ mX0_afterWay [Value.ref a, Value.int (nI (pk L)), Value.int (nI L.sum), Value.int x] h1 (rI fun x h1 => R (some (Value.int x)) h1)) hc hw
    rw [e] at e1
    refine Eq.mpr e1 ?_
    simp only [cI_s, cL0_s, cR_s, vI_s, vL_s, vR_s, u_iLoc, u_lLoc, u_rLoc, u_iK, u_lK, u_iBg, u_lBg, u_lBI, u_gT, u_gTL, u_gNZ, u_gNZL, u_iNeg, u_iOfL, u_lOfI, u_iByte, fI_s, u_iGet, fL_s, u_lGet, fR_s, u_rGet, eI_s, eL_s, u_iALd, u_bALd, u_zALd, u_lALd, u_iLen, u_iResLen, u_lRes, u_cB, u_cZ, u_cL, u_cAnd, u_cOr, u_cNot, u_cK, u_iCond, u_lCond, u_iBool, u_aNil, u_aI, u_aL, u_aR, rI_s, rL_s, rN_s, u_iCallV, u_lCallV, u_iCallS, u_lCallS, u_sCallV, u_sCallS, u_sSkip, u_sBreak, u_sCont, u_sSeq, u_sIf, u_sForget, u_sSetI, u_sSetL, u_sSetR, u_sInc, u_sRetV, u_sRetI, u_sRetL, u_sRetZB, u_sRetZC, u_sRetZV, u_sRetZS, u_sRetZL, u_sSw, u_sSwitch, pI_s, pL_s, pR_s, u_sPutI, u_sPutZ, u_sPutL, u_sPutR, u_sUpd, sI_s, sL_s, u_sAStN, u_sAStL, u_sAUpd, u_sAUpdL, u_body, u_env0, u_eAn, u_eAint, u_eAref, u_eAlong, kl_i, kl_r, kl_l, kl_n, kl_nn, u_set1_0, u_set2_0, u_s1_1, u_s2_1, u_s1_2, u_s2_2, u_s1_3, u_s2_3, u_s1_4, u_s2_4, u_s1_5, u_s2_5, u_s1_6, u_s2_6, u_s1_7, u_s2_7, u_s1_8, u_s2_8, u_s1_9, u_s2_9, u_s1_10, u_s2_10, u_s1_11, u_s2_11, u_s1_12, u_s2_12, u_s1_13, u_s2_13, u_s1_14, u_s2_14, ab0, ab1, u_sAStB, u_sAStZ, u_rcv, ocls_s, u_sCase, iteSX, u_rnd, loop_do, eN_s, u_iB, u_lB, sRetZ1, sRetZ0, va_up_at, Nat.add_left_cancel_iff, req_t, req_f, zeq_t, zeq_f, leq_t, leq_f, rne_t, rne_f, zne_t, zne_f, lne_t, lne_f, rlt_t, rlt_f, zlt_t, zlt_f, llt_t, llt_f, rge_t, rge_f, zge_t, zge_f, lge_t, lge_f, rgt_t, rgt_f, zgt_t, zgt_f, lgt_t, lgt_f, rle_t, rle_f, zle_t, zle_f, lle_t, lle_f, Bool.not_eq_true', Bool.not_true, Bool.not_false, Bool.true_eq_false, Bool.false_eq_true, List.getElem?_cons_zero, List.getElem?_cons_succ, List.getElem?_nil, List.set_cons_zero, List.set_cons_succ, List.cons_append, List.nil_append, List.replicate_succ, List.replicate_zero, List.length_cons, List.length_nil, List.length_append, List.length_replicate, List.take_succ_cons, List.take_zero, reduceIte, reduceCtorEq, Nat.reduceEqDiff, Nat.reduceAdd, Nat.reduceSub, Nat.reduceMul, Nat.reduceLeDiff, Nat.reduceLT, and_true, true_and, if_true, if_false, Nat.zero_add, Nat.add_zero, List.append_nil, not_true_eq_false, not_false_eq_true, and_false, false_and, or_true, true_or, or_false, false_or, ne_eq, Classical.not_not, hc.2.1]
    exact s_afterWay hh hL hw (by rw [e]; exact kk)
theorem s_afterCarryingF {a : Nat} {K : HK} {h : HS} {R : Option Value → HS → Prop} (hh : HL a K h) {L : List Nat} (hL : LWF (Kn K) L) {x y : Int32} (hx : ¬ (isH K x ∧ isH K y)) : mX0_afterCarrying [.ref a, .int (nI (pk L)), .int x, .int y] h R = R (some (.int mo)) h := by
  have hc := hh.1
  simp only [mX0_afterCarrying, cI_s, cL0_s, cR_s, vI_s, vL_s, vR_s, u_iLoc, u_lLoc, u_rLoc, u_iK, u_lK, u_iBg, u_lBg, u_lBI, u_gT, u_gTL, u_gNZ, u_gNZL, u_iNeg, u_iOfL, u_lOfI, u_iByte, fI_s, u_iGet, fL_s, u_lGet, fR_s, u_rGet, eI_s, eL_s, u_iALd, u_bALd, u_zALd, u_lALd, u_iLen, u_iResLen, u_lRes, u_cB, u_cZ, u_cL, u_cAnd, u_cOr, u_cNot, u_cK, u_iCond, u_lCond, u_iBool, u_aNil, u_aI, u_aL, u_aR, rI_s, rL_s, rN_s, u_iCallV, u_lCallV, u_iCallS, u_lCallS, u_sCallV, u_sCallS, u_sSkip, u_sBreak, u_sCont, u_sSeq, u_sIf, u_sForget, u_sSetI, u_sSetL, u_sSetR, u_sInc, u_sRetV, u_sRetI, u_sRetL, u_sRetZB, u_sRetZC, u_sRetZV, u_sRetZS, u_sRetZL, u_sSw, u_sSwitch, pI_s, pL_s, pR_s, u_sPutI, u_sPutZ, u_sPutL, u_sPutR, u_sUpd, sI_s, sL_s, u_sAStN, u_sAStL, u_sAUpd, u_sAUpdL, u_body, u_env0, u_eAn, u_eAint, u_eAref, u_eAlong, kl_i, kl_r, kl_l, kl_n, kl_nn, u_set1_0, u_set2_0, u_s1_1, u_s2_1, u_s1_2, u_s2_2, u_s1_3, u_s2_3, u_s1_4, u_s2_4, u_s1_5, u_s2_5, u_s1_6, u_s2_6, u_s1_7, u_s2_7, u_s1_8, u_s2_8, u_s1_9, u_s2_9, u_s1_10, u_s2_10, u_s1_11, u_s2_11, u_s1_12, u_s2_12, u_s1_13, u_s2_13, u_s1_14, u_s2_14, ab0, ab1, u_sAStB, u_sAStZ, u_rcv, ocls_s, u_sCase, iteSX, u_rnd, loop_do, eN_s, u_iB, u_lB, sRetZ1, sRetZ0, va_up_at, Nat.add_left_cancel_iff, req_t, req_f, zeq_t, zeq_f, leq_t, leq_f, rne_t, rne_f, zne_t, zne_f, lne_t, lne_f, rlt_t, rlt_f, zlt_t, zlt_f, llt_t, llt_f, rge_t, rge_f, zge_t, zge_f, lge_t, lge_f, rgt_t, rgt_f, zgt_t, zgt_f, lgt_t, lgt_f, rle_t, rle_f, zle_t, zle_f, lle_t, lle_f, Bool.not_eq_true', Bool.not_true, Bool.not_false, Bool.true_eq_false, Bool.false_eq_true, List.getElem?_cons_zero, List.getElem?_cons_succ, List.getElem?_nil, List.set_cons_zero, List.set_cons_succ, List.cons_append, List.nil_append, List.replicate_succ, List.replicate_zero, List.length_cons, List.length_nil, List.length_append, List.length_replicate, List.take_succ_cons, List.take_zero, reduceIte, reduceCtorEq, Nat.reduceEqDiff, Nat.reduceAdd, Nat.reduceSub, Nat.reduceMul, Nat.reduceLeDiff, Nat.reduceLT, and_true, true_and, if_true, if_false, Nat.zero_add, Nat.add_zero, List.append_nil, not_true_eq_false, not_false_eq_true, and_false, false_and, or_true, true_or, or_false, false_or, ne_eq, Classical.not_not, hc.2.1, s_sumOf hc hL, s_wayBetween_nh hc hx, s_afterWay_no]
theorem nx_nil {K : HK} {L : List Nat} : nx K L = [] ↔ ∀ w, w < (wl K).length → Kc K L (wlg K w).1 (wlg K w).2 = false := by
  simp only [nx, List.map_eq_nil_iff, List.filter_eq_nil_iff]
  constructor
  · intro h w hw
    have := h _ (wlg_mem hw)
    simpa using this
  · intro h p hp
    obtain ⟨w, hw, e⟩ := List.mem_iff_getElem.mp hp
    have := h w hw
    rw [show wlg K w = p by simp [wlg, hw, e]] at this
    simp [this]
theorem aw_neg {K : HK} {L : List Nat} {p : Nat × Nat} (hK : KWF K) (hL : LWF (Kn K) L) (hp : p ∈ wl K) : (nI 0 ≤ aw K L p) = (Kc K L p.1 p.2 = true) := by
  unfold aw
  by_cases q : Kc K L p.1 p.2 = true
  · have := (Km_LWF hK hL hp q).1.pk_lt hK.1
    rw [if_pos q, nI_leI (by omega) (by omega)]; simp [q]
  · rw [if_neg q, le_mo (by omega)]; simp [q]
theorem aw_negp {K : HK} {L : List Nat} {p : Nat × Nat} (hK : KWF K) (hL : LWF (Kn K) L) (hp : p ∈ wl K) : (aw K L p < nI 0) = (Kc K L p.1 p.2 = false) := by
  unfold aw
  by_cases q : Kc K L p.1 p.2 = true
  · have := (Km_LWF hK hL hp q).1.pk_lt hK.1
    rw [if_pos q, nI_ltI (by omega) (by omega)]; simp [q]
  · rw [if_neg q, mo_lt (by omega)]; simp [q]
theorem s_isStuck {a : Nat} {K : HK} {h : HS} {R : Option Value → HS → Prop} (hh : HL a K h) {L : List Nat} (hL : LWF (Kn K) L)
    (kk : ∀ h', HL a K h' → LFr (a + 2) h h' → R (some (.int (nI (if nx K L = [] then 1 else 0)))) h') :
    mX0_isStuck [.ref a, .int (nI (pk L))] h R := by
  have hc := hh.1
  have hK := hc.1
  have hlw := wl_len hK
  simp only [mX0_isStuck, cI_s, cL0_s, cR_s, vI_s, vL_s, vR_s, u_iLoc, u_lLoc, u_rLoc, u_iK, u_lK, u_iBg, u_lBg, u_lBI, u_gT, u_gTL, u_gNZ, u_gNZL, u_iNeg, u_iOfL, u_lOfI, u_iByte, fI_s, u_iGet, fL_s, u_lGet, fR_s, u_rGet, eI_s, eL_s, u_iALd, u_bALd, u_zALd, u_lALd, u_iLen, u_iResLen, u_lRes, u_cB, u_cZ, u_cL, u_cAnd, u_cOr, u_cNot, u_cK, u_iCond, u_lCond, u_iBool, u_aNil, u_aI, u_aL, u_aR, rI_s, rL_s, rN_s, u_iCallV, u_lCallV, u_iCallS, u_lCallS, u_sCallV, u_sCallS, u_sSkip, u_sBreak, u_sCont, u_sSeq, u_sIf, u_sForget, u_sSetI, u_sSetL, u_sSetR, u_sInc, u_sRetV, u_sRetI, u_sRetL, u_sRetZB, u_sRetZC, u_sRetZV, u_sRetZS, u_sRetZL, u_sSw, u_sSwitch, pI_s, pL_s, pR_s, u_sPutI, u_sPutZ, u_sPutL, u_sPutR, u_sUpd, sI_s, sL_s, u_sAStN, u_sAStL, u_sAUpd, u_sAUpdL, u_body, u_env0, u_eAn, u_eAint, u_eAref, u_eAlong, kl_i, kl_r, kl_l, kl_n, kl_nn, u_set1_0, u_set2_0, u_s1_1, u_s2_1, u_s1_2, u_s2_2, u_s1_3, u_s2_3, u_s1_4, u_s2_4, u_s1_5, u_s2_5, u_s1_6, u_s2_6, u_s1_7, u_s2_7, u_s1_8, u_s2_8, u_s1_9, u_s2_9, u_s1_10, u_s2_10, u_s1_11, u_s2_11, u_s1_12, u_s2_12, u_s1_13, u_s2_13, u_s1_14, u_s2_14, ab0, ab1, u_sAStB, u_sAStZ, u_rcv, ocls_s, u_sCase, iteSX, u_rnd, loop_do, eN_s, u_iB, u_lB, sRetZ1, sRetZ0, va_up_at, Nat.add_left_cancel_iff, req_t, req_f, zeq_t, zeq_f, leq_t, leq_f, rne_t, rne_f, zne_t, zne_f, lne_t, lne_f, rlt_t, rlt_f, zlt_t, zlt_f, llt_t, llt_f, rge_t, rge_f, zge_t, zge_f, lge_t, lge_f, rgt_t, rgt_f, zgt_t, zgt_f, lgt_t, lgt_f, rle_t, rle_f, zle_t, zle_f, lle_t, lle_f, Bool.not_eq_true', Bool.not_true, Bool.not_false, Bool.true_eq_false, Bool.false_eq_true, List.getElem?_cons_zero, List.getElem?_cons_succ, List.getElem?_nil, List.set_cons_zero, List.set_cons_succ, List.cons_append, List.nil_append, List.replicate_succ, List.replicate_zero, List.length_cons, List.length_nil, List.length_append, List.length_replicate, List.take_succ_cons, List.take_zero, reduceIte, reduceCtorEq, Nat.reduceEqDiff, Nat.reduceAdd, Nat.reduceSub, Nat.reduceMul, Nat.reduceLeDiff, Nat.reduceLT, and_true, true_and, if_true, if_false, Nat.zero_add, Nat.add_zero, List.append_nil, not_true_eq_false, not_false_eq_true, and_false, false_and, or_true, true_or, or_false, false_or, ne_eq, Classical.not_not, hc.2.1, s_sumOf hc hL]
  refine loopE (fun i => [some (.ref a), some (.int (nI (pk L))), some (.int (nI L.sum)), some (.int (nI i))]) (fun i h' => HL a K h' ∧ LFr (a + 2) h h' ∧ ∀ w, w < i → Kc K L (wlg K w).1 (wlg K w).2 = false) (wl K).length ?_ ?_ 0 h (by omega) ⟨hh, LFr.rf, fun w hw => absurd hw (by omega)⟩
  · rintro i h1 X hi ⟨hh1, hf1, hn⟩ kX
    simp only [cI_s, cL0_s, cR_s, vI_s, vL_s, vR_s, u_iLoc, u_lLoc, u_rLoc, u_iK, u_lK, u_iBg, u_lBg, u_lBI, u_gT, u_gTL, u_gNZ, u_gNZL, u_iNeg, u_iOfL, u_lOfI, u_iByte, fI_s, u_iGet, fL_s, u_lGet, fR_s, u_rGet, eI_s, eL_s, u_iALd, u_bALd, u_zALd, u_lALd, u_iLen, u_iResLen, u_lRes, u_cB, u_cZ, u_cL, u_cAnd, u_cOr, u_cNot, u_cK, u_iCond, u_lCond, u_iBool, u_aNil, u_aI, u_aL, u_aR, rI_s, rL_s, rN_s, u_iCallV, u_lCallV, u_iCallS, u_lCallS, u_sCallV, u_sCallS, u_sSkip, u_sBreak, u_sCont, u_sSeq, u_sIf, u_sForget, u_sSetI, u_sSetL, u_sSetR, u_sInc, u_sRetV, u_sRetI, u_sRetL, u_sRetZB, u_sRetZC, u_sRetZV, u_sRetZS, u_sRetZL, u_sSw, u_sSwitch, pI_s, pL_s, pR_s, u_sPutI, u_sPutZ, u_sPutL, u_sPutR, u_sUpd, sI_s, sL_s, u_sAStN, u_sAStL, u_sAUpd, u_sAUpdL, u_body, u_env0, u_eAn, u_eAint, u_eAref, u_eAlong, kl_i, kl_r, kl_l, kl_n, kl_nn, u_set1_0, u_set2_0, u_s1_1, u_s2_1, u_s1_2, u_s2_2, u_s1_3, u_s2_3, u_s1_4, u_s2_4, u_s1_5, u_s2_5, u_s1_6, u_s2_6, u_s1_7, u_s2_7, u_s1_8, u_s2_8, u_s1_9, u_s2_9, u_s1_10, u_s2_10, u_s1_11, u_s2_11, u_s1_12, u_s2_12, u_s1_13, u_s2_13, u_s1_14, u_s2_14, ab0, ab1, u_sAStB, u_sAStZ, u_rcv, ocls_s, u_sCase, iteSX, u_rnd, loop_do, eN_s, u_iB, u_lB, sRetZ1, sRetZ0, va_up_at, Nat.add_left_cancel_iff, req_t, req_f, zeq_t, zeq_f, leq_t, leq_f, rne_t, rne_f, zne_t, zne_f, lne_t, lne_f, rlt_t, rlt_f, zlt_t, zlt_f, llt_t, llt_f, rge_t, rge_f, zge_t, zge_f, lge_t, lge_f, rgt_t, rgt_f, zgt_t, zgt_f, lgt_t, lgt_f, rle_t, rle_f, zle_t, zle_f, lle_t, lle_f, Bool.not_eq_true', Bool.not_true, Bool.not_false, Bool.true_eq_false, Bool.false_eq_true, List.getElem?_cons_zero, List.getElem?_cons_succ, List.getElem?_nil, List.set_cons_zero, List.set_cons_succ, List.cons_append, List.nil_append, List.replicate_succ, List.replicate_zero, List.length_cons, List.length_nil, List.length_append, List.length_replicate, List.take_succ_cons, List.take_zero, reduceIte, reduceCtorEq, Nat.reduceEqDiff, Nat.reduceAdd, Nat.reduceSub, Nat.reduceMul, Nat.reduceLeDiff, Nat.reduceLT, and_true, true_and, if_true, if_false, Nat.zero_add, Nat.add_zero, List.append_nil, not_true_eq_false, not_false_eq_true, and_false, false_and, or_true, true_or, or_false, false_or, ne_eq, Classical.not_not, hh1.1.2.1]
    simp (disch := omega) only [nI_lit, nI_add, pk_mul, nI_eq, nI_leI, nI_ltI, nI_clamp, nI_nn, nI_neg, vp_inT, pk_sub, jshrN, jshlN, nI_and, nI_or, nI_addmo, nI_moE, nI_mtE, nI_mo, nI_mt, mo_nI, mo_lt, lt_mo, mo_le, le_mo, true_or, or_true, or_false, false_or, or_self, Nat.zero_le, Nat.not_lt_zero, not_true_eq_false, not_false_eq_true, dec_T, dec_F, false_and, and_false, and_self, Bool.not_true, Bool.not_false, List.getElem?_cons_zero, List.getElem?_cons_succ, List.getElem?_nil, List.set_cons_zero, List.set_cons_succ, List.cons_append, List.nil_append, List.replicate, List.length_cons, List.length_nil, List.length_append, List.length_replicate, List.take, reduceIte, reduceCtorEq, Nat.reduceEqDiff, Nat.reduceAdd, Nat.reduceSub, Nat.reduceMul, Nat.reduceLeDiff, and_true, true_and, if_true, if_false, Bool.false_eq_true, Nat.zero_add, Nat.add_zero, List.append_nil, Option.some.injEq, hi]
    refine s_afterWay hh1 hL hi fun h2 hh2 hf2 => ?_
    simp only [cI_s, cL0_s, cR_s, vI_s, vL_s, vR_s, u_iLoc, u_lLoc, u_rLoc, u_iK, u_lK, u_iBg, u_lBg, u_lBI, u_gT, u_gTL, u_gNZ, u_gNZL, u_iNeg, u_iOfL, u_lOfI, u_iByte, fI_s, u_iGet, fL_s, u_lGet, fR_s, u_rGet, eI_s, eL_s, u_iALd, u_bALd, u_zALd, u_lALd, u_iLen, u_iResLen, u_lRes, u_cB, u_cZ, u_cL, u_cAnd, u_cOr, u_cNot, u_cK, u_iCond, u_lCond, u_iBool, u_aNil, u_aI, u_aL, u_aR, rI_s, rL_s, rN_s, u_iCallV, u_lCallV, u_iCallS, u_lCallS, u_sCallV, u_sCallS, u_sSkip, u_sBreak, u_sCont, u_sSeq, u_sIf, u_sForget, u_sSetI, u_sSetL, u_sSetR, u_sInc, u_sRetV, u_sRetI, u_sRetL, u_sRetZB, u_sRetZC, u_sRetZV, u_sRetZS, u_sRetZL, u_sSw, u_sSwitch, pI_s, pL_s, pR_s, u_sPutI, u_sPutZ, u_sPutL, u_sPutR, u_sUpd, sI_s, sL_s, u_sAStN, u_sAStL, u_sAUpd, u_sAUpdL, u_body, u_env0, u_eAn, u_eAint, u_eAref, u_eAlong, kl_i, kl_r, kl_l, kl_n, kl_nn, u_set1_0, u_set2_0, u_s1_1, u_s2_1, u_s1_2, u_s2_2, u_s1_3, u_s2_3, u_s1_4, u_s2_4, u_s1_5, u_s2_5, u_s1_6, u_s2_6, u_s1_7, u_s2_7, u_s1_8, u_s2_8, u_s1_9, u_s2_9, u_s1_10, u_s2_10, u_s1_11, u_s2_11, u_s1_12, u_s2_12, u_s1_13, u_s2_13, u_s1_14, u_s2_14, ab0, ab1, u_sAStB, u_sAStZ, u_rcv, ocls_s, u_sCase, iteSX, u_rnd, loop_do, eN_s, u_iB, u_lB, sRetZ1, sRetZ0, va_up_at, Nat.add_left_cancel_iff, req_t, req_f, zeq_t, zeq_f, leq_t, leq_f, rne_t, rne_f, zne_t, zne_f, lne_t, lne_f, rlt_t, rlt_f, zlt_t, zlt_f, llt_t, llt_f, rge_t, rge_f, zge_t, zge_f, lge_t, lge_f, rgt_t, rgt_f, zgt_t, zgt_f, lgt_t, lgt_f, rle_t, rle_f, zle_t, zle_f, lle_t, lle_f, Bool.not_eq_true', Bool.not_true, Bool.not_false, Bool.true_eq_false, Bool.false_eq_true, List.getElem?_cons_zero, List.getElem?_cons_succ, List.getElem?_nil, List.set_cons_zero, List.set_cons_succ, List.cons_append, List.nil_append, List.replicate_succ, List.replicate_zero, List.length_cons, List.length_nil, List.length_append, List.length_replicate, List.take_succ_cons, List.take_zero, reduceIte, reduceCtorEq, Nat.reduceEqDiff, Nat.reduceAdd, Nat.reduceSub, Nat.reduceMul, Nat.reduceLeDiff, Nat.reduceLT, and_true, true_and, if_true, if_false, Nat.zero_add, Nat.add_zero, List.append_nil, not_true_eq_false, not_false_eq_true, and_false, false_and, or_true, true_or, or_false, false_or, ne_eq, Classical.not_not]
    have e := aw_neg hK hL (wlg_mem hi)
    by_cases q : Kc K L (wlg K i).1 (wlg K i).2 = true
    · have := kk h2 hh2 (hf1.tr hf2)
      rw [if_neg (fun z => by have := nx_nil.mp z i hi; rw [q] at this; cases this)] at this
      rw [if_pos (e.mpr q)]; exact this
    · rw [if_neg (fun z => q (e.mp z))]
      have := kX h2 ⟨hh2, hf1.tr hf2, fun w hw => by
        by_cases z : w = i
        · rw [z]; simpa using q
        · exact hn w (by omega)⟩
      exact this
  · rintro h1 X ⟨hh1, hf1, hn⟩
    simp only [cI_s, cL0_s, cR_s, vI_s, vL_s, vR_s, u_iLoc, u_lLoc, u_rLoc, u_iK, u_lK, u_iBg, u_lBg, u_lBI, u_gT, u_gTL, u_gNZ, u_gNZL, u_iNeg, u_iOfL, u_lOfI, u_iByte, fI_s, u_iGet, fL_s, u_lGet, fR_s, u_rGet, eI_s, eL_s, u_iALd, u_bALd, u_zALd, u_lALd, u_iLen, u_iResLen, u_lRes, u_cB, u_cZ, u_cL, u_cAnd, u_cOr, u_cNot, u_cK, u_iCond, u_lCond, u_iBool, u_aNil, u_aI, u_aL, u_aR, rI_s, rL_s, rN_s, u_iCallV, u_lCallV, u_iCallS, u_lCallS, u_sCallV, u_sCallS, u_sSkip, u_sBreak, u_sCont, u_sSeq, u_sIf, u_sForget, u_sSetI, u_sSetL, u_sSetR, u_sInc, u_sRetV, u_sRetI, u_sRetL, u_sRetZB, u_sRetZC, u_sRetZV, u_sRetZS, u_sRetZL, u_sSw, u_sSwitch, pI_s, pL_s, pR_s, u_sPutI, u_sPutZ, u_sPutL, u_sPutR, u_sUpd, sI_s, sL_s, u_sAStN, u_sAStL, u_sAUpd, u_sAUpdL, u_body, u_env0, u_eAn, u_eAint, u_eAref, u_eAlong, kl_i, kl_r, kl_l, kl_n, kl_nn, u_set1_0, u_set2_0, u_s1_1, u_s2_1, u_s1_2, u_s2_2, u_s1_3, u_s2_3, u_s1_4, u_s2_4, u_s1_5, u_s2_5, u_s1_6, u_s2_6, u_s1_7, u_s2_7, u_s1_8, u_s2_8, u_s1_9, u_s2_9, u_s1_10, u_s2_10, u_s1_11, u_s2_11, u_s1_12, u_s2_12, u_s1_13, u_s2_13, u_s1_14, u_s2_14, ab0, ab1, u_sAStB, u_sAStZ, u_rcv, ocls_s, u_sCase, iteSX, u_rnd, loop_do, eN_s, u_iB, u_lB, sRetZ1, sRetZ0, va_up_at, Nat.add_left_cancel_iff, req_t, req_f, zeq_t, zeq_f, leq_t, leq_f, rne_t, rne_f, zne_t, zne_f, lne_t, lne_f, rlt_t, rlt_f, zlt_t, zlt_f, llt_t, llt_f, rge_t, rge_f, zge_t, zge_f, lge_t, lge_f, rgt_t, rgt_f, zgt_t, zgt_f, lgt_t, lgt_f, rle_t, rle_f, zle_t, zle_f, lle_t, lle_f, Bool.not_eq_true', Bool.not_true, Bool.not_false, Bool.true_eq_false, Bool.false_eq_true, List.getElem?_cons_zero, List.getElem?_cons_succ, List.getElem?_nil, List.set_cons_zero, List.set_cons_succ, List.cons_append, List.nil_append, List.replicate_succ, List.replicate_zero, List.length_cons, List.length_nil, List.length_append, List.length_replicate, List.take_succ_cons, List.take_zero, reduceIte, reduceCtorEq, Nat.reduceEqDiff, Nat.reduceAdd, Nat.reduceSub, Nat.reduceMul, Nat.reduceLeDiff, Nat.reduceLT, and_true, true_and, if_true, if_false, Nat.zero_add, Nat.add_zero, List.append_nil, not_true_eq_false, not_false_eq_true, and_false, false_and, or_true, true_or, or_false, false_or, ne_eq, Classical.not_not, hh1.1.2.1]
    simp (disch := omega) only [nI_lit, nI_add, pk_mul, nI_eq, nI_leI, nI_ltI, nI_clamp, nI_nn, nI_neg, vp_inT, pk_sub, jshrN, jshlN, nI_and, nI_or, nI_addmo, nI_moE, nI_mtE, nI_mo, nI_mt, mo_nI, mo_lt, lt_mo, mo_le, le_mo, true_or, or_true, or_false, false_or, or_self, Nat.zero_le, Nat.not_lt_zero, not_true_eq_false, not_false_eq_true, dec_T, dec_F, false_and, and_false, and_self, Bool.not_true, Bool.not_false, List.getElem?_cons_zero, List.getElem?_cons_succ, List.getElem?_nil, List.set_cons_zero, List.set_cons_succ, List.cons_append, List.nil_append, List.replicate, List.length_cons, List.length_nil, List.length_append, List.length_replicate, List.take, reduceIte, reduceCtorEq, Nat.reduceEqDiff, Nat.reduceAdd, Nat.reduceSub, Nat.reduceMul, Nat.reduceLeDiff, and_true, true_and, if_true, if_false, Bool.false_eq_true, Nat.zero_add, Nat.add_zero, List.append_nil, Option.some.injEq, Nat.lt_irrefl]
    have := kk h1 hh1 hf1
    rw [if_pos (nx_nil.mpr hn)] at this
    exact this
/-! no small hut has more than it can -/
theorem pk_bit {n : Nat} {L : List Nat} (hL : LWF n L) {i b : Nat} (hi : i < n) (hb : b < 4) : (pk L).testBit (4 * (n - 1 - i) + b) = (lg L i).testBit b := by
  have h := hL.dig hi
  rw [← h]
  have : ∀ m b, b < 4 → (m &&& 15).testBit b = m.testBit b := by
    intro m b hb
    rw [Nat.testBit_and]
    have : ∀ b, b < 4 → Nat.testBit 15 b = true := by decide
    rw [this b hb, Bool.and_true]
  rw [this _ _ hb, Nat.testBit_shiftRight]
theorem and12 {x : Nat} (hx : x < 16) : (3 < x) = (x.testBit 2 = true ∨ x.testBit 3 = true) := by
  have : ∀ x, x < 16 → ((3 < x) ↔ (x.testBit 2 = true ∨ x.testBit 3 = true)) := by decide
  exact propext (this x hx)
theorem crdR_bit (K : HK) : ∀ (m t : Nat), (crdR K m).testBit t = true ↔ ∃ i, i < m ∧ Kk K i = 3 ∧ ∃ b, (b = 2 ∨ b = 3) ∧ t = 4 * (Kn K - 1 - i) + b
  | 0, t => by simp [crdR]
  | m + 1, t => by
    have h12 : ∀ k, Nat.testBit 12 k = true ↔ (k = 2 ∨ k = 3) := by
      intro k
      by_cases hk : k < 4
      · have : ∀ k, k < 4 → (Nat.testBit 12 k = true ↔ (k = 2 ∨ k = 3)) := by decide
        exact this k hk
      · rw [Nat.testBit_lt_two_pow (Nat.lt_of_lt_of_le (by decide : 12 < 2 ^ 4) (Nat.pow_le_pow_right (by omega) (by omega)))]
        simp; omega
    have ih := crdR_bit K m t
    unfold crdR
    split
    · next q =>
      rw [Nat.testBit_or, Bool.or_eq_true, ih, Nat.testBit_shiftLeft, Bool.and_eq_true, decide_eq_true_iff, h12]
      constructor
      · rintro (⟨i, h1, h2⟩ | ⟨h1, h2⟩)
        · exact ⟨i, by omega, h2⟩
        · exact ⟨m, by omega, q, t - 4 * (Kn K - 1 - m), h2, by omega⟩
      · rintro ⟨i, h1, h2, b, hb, e⟩
        by_cases z : i = m
        · subst z; exact Or.inr ⟨by clear ih; omega, by clear ih; omega⟩
        · exact Or.inl ⟨i, by omega, h2, b, hb, e⟩
    · next q =>
      rw [ih]
      constructor
      · rintro ⟨i, h1, h2⟩; exact ⟨i, by omega, h2⟩
      · rintro ⟨i, h1, h2, h3⟩
        have hne : i ≠ m := by intro z; rw [z] at h2; exact q h2
        exact ⟨i, by clear h3; omega, h2, h3⟩
theorem Kway_iff {K : HK} {L : List Nat} : Kway K L = true ↔ ∀ i, i < Kn K → ¬ (Kk K i = 3 ∧ 3 < lg L i) := by
  simp [Kway]
  constructor
  · intro h i hi h3
    rcases h i hi with q | q
    · exact absurd h3 q
    · exact q
  · intro h i hi
    by_cases q : Kk K i = 3
    · exact Or.inr (h i hi q)
    · exact Or.inl q
theorem crd_way {K : HK} {L : List Nat} (hL : LWF (Kn K) L) : pk L &&& crd K = 0 ↔ Kway K L = true := by
  rw [Kway_iff]
  constructor
  · intro h i hi ⟨h1, h2⟩
    have := hL.le i
    rw [and12 (by omega)] at h2
    have key : ∀ b, (b = 2 ∨ b = 3) → (lg L i).testBit b = true → False := by
      intro b hb hbit
      have e : (pk L &&& crd K).testBit (4 * (Kn K - 1 - i) + b) = true := by
        rw [Nat.testBit_and, pk_bit hL hi (by omega), hbit, Bool.true_and]
        exact (crdR_bit K _ _).mpr ⟨i, hi, h1, b, hb, rfl⟩
      rw [h] at e; simp at e
    rcases h2 with h2 | h2
    · exact key 2 (Or.inl rfl) h2
    · exact key 3 (Or.inr rfl) h2
  · intro h
    apply Nat.eq_of_testBit_eq
    intro t
    rw [Nat.zero_testBit, Nat.testBit_and]
    cases e : (crd K).testBit t with
    | false => simp
    | true =>
      obtain ⟨i, hi, h1, b, hb, rfl⟩ := (crdR_bit K _ _).mp e
      rw [pk_bit hL hi (by omega), Bool.and_true]
      cases q : (lg L i).testBit b with
      | false => rfl
      | true =>
        have := hL.le i
        refine absurd ⟨h1, ?_⟩ (h i hi)
        rw [and12 (by omega)]
        rcases hb with rfl | rfl
        · exact Or.inl q
        · exact Or.inr q
theorem crdR_lt {K : HK} (hn : Kn K ≤ 5) : ∀ m, crdR K m < 2 ^ 20 := by
  intro m
  apply Nat.lt_pow_two_of_testBit
  intro t ht
  cases e : (crdR K m).testBit t with
  | false => rfl
  | true =>
    obtain ⟨i, _, _, b, hb, rfl⟩ := (crdR_bit K _ _).mp e
    omega
theorem s_isWayToLie {a : Nat} {K : HK} {h : HS} {R : Option Value → HS → Prop} (hc : HC a K h) {L : List Nat} (hL : LWF (Kn K) L) : mX0_isWayToLie [.ref a, .int (nI (pk L))] h R = R (some (.int (nI (if Kway K L = true then 1 else 0)))) h := by
  have h1 := hL.pk_lt hc.1.1
  have h2 : crd K < 2 ^ 20 := crdR_lt hc.1.1 _
  have h3 : pk L &&& crd K < 2 ^ 31 := Nat.lt_of_le_of_lt Nat.and_le_left (by omega)
  have e := @crd_way K L hL
  simp only [mX0_isWayToLie, cI_s, cL0_s, cR_s, vI_s, vL_s, vR_s, u_iLoc, u_lLoc, u_rLoc, u_iK, u_lK, u_iBg, u_lBg, u_lBI, u_gT, u_gTL, u_gNZ, u_gNZL, u_iNeg, u_iOfL, u_lOfI, u_iByte, fI_s, u_iGet, fL_s, u_lGet, fR_s, u_rGet, eI_s, eL_s, u_iALd, u_bALd, u_zALd, u_lALd, u_iLen, u_iResLen, u_lRes, u_cB, u_cZ, u_cL, u_cAnd, u_cOr, u_cNot, u_cK, u_iCond, u_lCond, u_iBool, u_aNil, u_aI, u_aL, u_aR, rI_s, rL_s, rN_s, u_iCallV, u_lCallV, u_iCallS, u_lCallS, u_sCallV, u_sCallS, u_sSkip, u_sBreak, u_sCont, u_sSeq, u_sIf, u_sForget, u_sSetI, u_sSetL, u_sSetR, u_sInc, u_sRetV, u_sRetI, u_sRetL, u_sRetZB, u_sRetZC, u_sRetZV, u_sRetZS, u_sRetZL, u_sSw, u_sSwitch, pI_s, pL_s, pR_s, u_sPutI, u_sPutZ, u_sPutL, u_sPutR, u_sUpd, sI_s, sL_s, u_sAStN, u_sAStL, u_sAUpd, u_sAUpdL, u_body, u_env0, u_eAn, u_eAint, u_eAref, u_eAlong, kl_i, kl_r, kl_l, kl_n, kl_nn, u_set1_0, u_set2_0, u_s1_1, u_s2_1, u_s1_2, u_s2_2, u_s1_3, u_s2_3, u_s1_4, u_s2_4, u_s1_5, u_s2_5, u_s1_6, u_s2_6, u_s1_7, u_s2_7, u_s1_8, u_s2_8, u_s1_9, u_s2_9, u_s1_10, u_s2_10, u_s1_11, u_s2_11, u_s1_12, u_s2_12, u_s1_13, u_s2_13, u_s1_14, u_s2_14, ab0, ab1, u_sAStB, u_sAStZ, u_rcv, ocls_s, u_sCase, iteSX, u_rnd, loop_do, eN_s, u_iB, u_lB, sRetZ1, sRetZ0, va_up_at, Nat.add_left_cancel_iff, req_t, req_f, zeq_t, zeq_f, leq_t, leq_f, rne_t, rne_f, zne_t, zne_f, lne_t, lne_f, rlt_t, rlt_f, zlt_t, zlt_f, llt_t, llt_f, rge_t, rge_f, zge_t, zge_f, lge_t, lge_f, rgt_t, rgt_f, zgt_t, zgt_f, lgt_t, lgt_f, rle_t, rle_f, zle_t, zle_f, lle_t, lle_f, Bool.not_eq_true', Bool.not_true, Bool.not_false, Bool.true_eq_false, Bool.false_eq_true, List.getElem?_cons_zero, List.getElem?_cons_succ, List.getElem?_nil, List.set_cons_zero, List.set_cons_succ, List.cons_append, List.nil_append, List.replicate_succ, List.replicate_zero, List.length_cons, List.length_nil, List.length_append, List.length_replicate, List.take_succ_cons, List.take_zero, reduceIte, reduceCtorEq, Nat.reduceEqDiff, Nat.reduceAdd, Nat.reduceSub, Nat.reduceMul, Nat.reduceLeDiff, Nat.reduceLT, and_true, true_and, if_true, if_false, Nat.zero_add, Nat.add_zero, List.append_nil, not_true_eq_false, not_false_eq_true, and_false, false_and, or_true, true_or, or_false, false_or, ne_eq, Classical.not_not, hc.2.1]
  simp (disch := omega) only [nI_lit, nI_add, pk_mul, nI_eq, nI_leI, nI_ltI, nI_clamp, nI_nn, nI_neg, vp_inT, pk_sub, jshrN, jshlN, nI_and, nI_or, nI_addmo, nI_moE, nI_mtE, nI_mo, nI_mt, mo_nI, mo_lt, lt_mo, mo_le, le_mo, true_or, or_true, or_false, false_or, or_self, Nat.zero_le, Nat.not_lt_zero, not_true_eq_false, not_false_eq_true, dec_T, dec_F, false_and, and_false, and_self, Bool.not_true, Bool.not_false, List.getElem?_cons_zero, List.getElem?_cons_succ, List.getElem?_nil, List.set_cons_zero, List.set_cons_succ, List.cons_append, List.nil_append, List.replicate, List.length_cons, List.length_nil, List.length_append, List.length_replicate, List.take, reduceIte, reduceCtorEq, Nat.reduceEqDiff, Nat.reduceAdd, Nat.reduceSub, Nat.reduceMul, Nat.reduceLeDiff, and_true, true_and, if_true, if_false, Bool.false_eq_true, Nat.zero_add, Nat.add_zero, List.append_nil, Option.some.injEq, e]
  by_cases q : Kway K L = true <;> simp only [q, true_or, or_true, or_false, false_or, or_self, Nat.zero_le, Nat.not_lt_zero, not_true_eq_false, not_false_eq_true, dec_T, dec_F, false_and, and_false, and_self, Bool.not_true, Bool.not_false, List.getElem?_cons_zero, List.getElem?_cons_succ, List.getElem?_nil, List.set_cons_zero, List.set_cons_succ, List.cons_append, List.nil_append, List.replicate, List.length_cons, List.length_nil, List.length_append, List.length_replicate, List.take, reduceIte, reduceCtorEq, Nat.reduceEqDiff, Nat.reduceAdd, Nat.reduceSub, Nat.reduceMul, Nat.reduceLeDiff, and_true, true_and, if_true, if_false, Bool.false_eq_true, Nat.zero_add, Nat.add_zero, List.append_nil, Option.some.injEq]
