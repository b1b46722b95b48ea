set_option maxRecDepth 20000
set_option maxHeartbeats 4000000
set_option linter.all false
/-! what is asked of a walk, of the class -/
def dmin (K : HK) (g : List Nat → Bool) (L : List Nat) : Nat := dp (nx K) (fun a => if g a = true then 1 else 0) g jmin1 L
theorem dmin_u {K : HK} (hK : KWF K) {L : List Nat} (hL : LWF (Kn K) L) {g : List Nat → Bool} {v : Nat} (h1 : ∀ d c, Rr (nx K) d L c → g c = true → 0 < v ∧ v ≤ d + 1) (h2 : 0 < v → ∃ c, Rr (nx K) (v - 1) L c ∧ g c = true) : v = dmin K g L := by
  have h := dp_min (g := g) (Dn_nx hK) L hL
  have e : dmin K g L = dp (nx K) (fun a => if g a = true then 1 else 0) g jmin1 L := rfl
  rw [← e] at h
  rcases Nat.eq_zero_or_pos v with q | q <;> rcases Nat.eq_zero_or_pos (dmin K g L) with q2 | q2
  · omega
  · obtain ⟨c, a, b⟩ := h.2 q2
    have := h1 _ c a b; omega
  · obtain ⟨c, a, b⟩ := h2 q
    have := h.1 _ c a b; omega
  · obtain ⟨c, a, b⟩ := h2 q
    obtain ⟨c2, a2, b2⟩ := h.2 q2
    have := h.1 _ c a b
    have := h1 _ c2 a2 b2
    omega
def dlong (K : HK) (L : List Nat) : Nat := dp (nx K) (fun _ => 0) (fun _ => false) (fun v n => if v < n + 1 then n + 1 else v) L
theorem dlong_u {K : HK} (hK : KWF K) {L : List Nat} (hL : LWF (Kn K) L) {v : Nat} (h1 : ∃ c, Rr (nx K) v L c) (h2 : ∀ d c, Rr (nx K) d L c → d ≤ v) : v = dlong K L := by
  have h := dp_long (Dn_nx hK) L hL
  obtain ⟨c, hc⟩ := h1
  obtain ⟨c2, hc2⟩ := h.1
  have a1 := h.2 _ c hc
  have a2 := h2 _ c2 hc2
  exact Nat.le_antisymm a1 a2
def dmax (K : HK) (g : List Nat → Nat) (L : List Nat) : Nat := dp (nx K) g (fun _ => false) (fun v n => if v < n then n else v) L
theorem dmax_u {K : HK} (hK : KWF K) {L : List Nat} (hL : LWF (Kn K) L) {g : List Nat → Nat} {v : Nat} (h1 : ∃ d c, Rr (nx K) d L c ∧ g c = v) (h2 : ∀ d c, Rr (nx K) d L c → g c ≤ v) : v = dmax K g L := by
  have h := dp_max (g := g) (Dn_nx hK) L hL
  obtain ⟨d, c, hc, e⟩ := h1
  obtain ⟨d2, c2, hc2, e2⟩ := h.1
  have a1 := h.2 d c hc
  have a2 := h2 d2 c2 hc2
  rw [e] at a1; rw [e2] at a2
  exact Nat.le_antisymm a1 a2
def dover (K : HK) (g : List Nat → Bool) (L : List Nat) : Nat := dp (nx K) (fun a => if g a = true then a.sum else 0) g (fun v n => if v < n then n else v) L
theorem dover_u {K : HK} (hK : KWF K) {L : List Nat} (hL : LWF (Kn K) L) {g : List Nat → Bool} (hg : ∀ c, g c = true → 0 < c.sum) {v : Nat} (h1 : ∀ d c, Rr (nx K) d L c → g c = true → c.sum ≤ v) (h2 : 0 < v → ∃ d c, Rr (nx K) d L c ∧ g c = true ∧ c.sum = v) : v = dover K g L := by
  have h := dp_over (g := g) (Dn_nx hK) hg L hL
  have e : dover K g L = dp (nx K) (fun a => if g a = true then a.sum else 0) g (fun v n => if v < n then n else v) L := rfl
  rw [← e] at h
  rcases Nat.eq_zero_or_pos v with q | q <;> rcases Nat.eq_zero_or_pos (dover K g L) with q2 | q2
  · omega
  · obtain ⟨d, c, a, b, e⟩ := h.2 q2
    have := h1 d c a b; omega
  · obtain ⟨d, c, a, b, e⟩ := h2 q
    have := h.1 d c a b; omega
  · obtain ⟨d, c, a, b, e⟩ := h2 q
    obtain ⟨d2, c2, a2, b2, e2⟩ := h.2 q2
    have := h.1 d c a b
    have := h1 d2 c2 a2 b2
    omega
/-- a walk stands ready to be asked -/
def WE (a : Nat) (K : HK) (L : List Nat) (O : List (List Nat)) (h : HS) : Prop := 20 ≤ a ∧ a ≤ 40 ∧ LY h ∧ HL a K h ∧ WK a K L O h
def oa (O : List (List Nat)) (t : Nat) : List Nat := O.getD t []
theorem oa_mem {O : List (List Nat)} {t : Nat} (h : t < O.length) : oa O t ∈ O := by simp [oa, h]
theorem oa_take {O : List (List Nat)} {t : Nat} (h : t < O.length) : O.take (t + 1) = O.take t ++ [oa O t] := by
  rw [List.take_add_one]; simp [oa, h]
section
variable {a : Nat} {K : HK} {L : List Nat} {O : List (List Nat)} {h : HS} {R : Option Value → HS → Prop}
theorem WE.at (hw : WE a K L O h) : ∃ I : List Nat → Nat, WI K L I 0 ∧ ∀ t, t < O.length → LWF (Kn K) (oa O t) ∧ cnum (oa O t) < 6188 ∧ ia h 73 t = nI (cnum (oa O t)) ∧ ia h 72 (cnum (oa O t)) = nI (I (oa O t)) ∧ I (oa O t) < 1024 ∧ I (oa O t) ≠ 0 := by
  obtain ⟨h1, h2, hy, hh, hW, hL, hwy, hO, hm, ha, ⟨I, hI, hWI⟩, hz⟩ := hw
  refine ⟨I, hWI, fun t ht => ?_⟩
  have hc := (hm (oa O t)).mp (oa_mem ht)
  obtain ⟨d, hd⟩ := hc.2
  exact ⟨hc.1, cnum_lt hc.1 hh.1.1.1, ha t ht, hI _ hc.1, hWI.2.2.2.2 _ hc.1, (WI_reach hh.1.1 hL hWI hc.1 (by omega) d hd).1⟩
theorem WE.len (hw : WE a K L O h) : O.length ≤ 6188 := by
  obtain ⟨h1, h2, hy, hh, hW, hL, hwy, hO, hm, _⟩ := hw
  exact OS_len hO fun x hx => cnum_lt ((hm x).mp hx).1 hh.1.1.1
theorem s_mostLoads (hw : WE a K L O h) {i : Nat} (hi : i < Kn K) : mX10_mostLoads [.ref 71, .int (nI i)] h R = R (some (.int (nI (dmax K (fun c => lg c i) L)))) h := by
  obtain ⟨I, hWI, hat⟩ := hw.at
  have hlen := hw.len
  obtain ⟨h1, h2, hy, hh, hW, hL, hwy, hO, hm, ha, _⟩ := id hw
  have hK := hh.1.1
  have hn := hK.1
  have key : ∀ t, t ≤ O.length → (O.take t).foldl (fun v c => max v (lg c i)) 0 ≤ 12 := by
    intro t ht
    refine fl_invm (f := fun v c => max v (lg c i)) (O.take t) (fun _ v => v ≤ 12) ?_ 0 (by omega)
    intro m v x hx hv
    have := ((hm x).mp (List.mem_of_mem_take hx)).1.le i
    show max v (lg x i) ≤ 12
    have hv : v ≤ 12 := hv
    omega
  have hres : O.foldl (fun v c => max v (lg c i)) 0 = dmax K (fun c => lg c i) L := by
    have hmx : ∀ (l : List (List Nat)) (v : Nat), v ≤ l.foldl (fun v c => max v (lg c i)) v ∧ (∀ c, c ∈ l → lg c i ≤ l.foldl (fun v c => max v (lg c i)) v) ∧ (l.foldl (fun v c => max v (lg c i)) v = v ∨ ∃ c, c ∈ l ∧ lg c i = l.foldl (fun v c => max v (lg c i)) v) := by
      intro l
      induction l with
      | nil => intro v; simp
      | cons x l ih =>
        intro v
        obtain ⟨a1, a2, a3⟩ := ih (max v (lg x i))
        simp only [List.foldl_cons, List.mem_cons]
        refine ⟨by omega, fun c hc => ?_, ?_⟩
        · rcases hc with rfl | hc
          · omega
          · exact a2 c hc
        · rcases a3 with a3 | ⟨c, hc, e⟩
          · rw [a3]
            rcases Nat.le_total v (lg x i) with q | q
            · exact Or.inr ⟨x, Or.inl rfl, by omega⟩
            · exact Or.inl (by omega)
          · exact Or.inr ⟨c, Or.inr hc, e⟩
    obtain ⟨a1, a2, a3⟩ := hmx O 0
    refine dmax_u hK hL ?_ fun d c hd => a2 c ((hm c).mpr ⟨(Rr_V (Dn_nx hK) hL hd).1, d, hd⟩)
    rcases a3 with a3 | ⟨c, hc, e⟩
    · refine ⟨0, L, rfl, ?_⟩
      have := a2 L ((hm L).mpr ⟨hL, 0, rfl⟩)
      show lg L i = _
      omega
    · obtain ⟨_, d, hd⟩ := (hm c).mp hc
      exact ⟨d, c, hd, e⟩
  rw [← hres]
  simp only [mX10_mostLoads, cI_s, cL0_s, cR_s, vI_s, vL_s, vR_s, u_iLoc, u_lLoc, u_rLoc, u_iK, u_lK, u_iBg, u_lBg, u_lBI, u_gT, u_gTL, u_gNZ, u_gNZL, u_iNeg, u_iOfL, u_lOfI, u_iByte, fI_s, u_iGet, fL_s, u_lGet, fR_s, u_rGet, eI_s, eL_s, u_iALd, u_bALd, u_zALd, u_lALd, u_iLen, u_iResLen, u_lRes, u_cB, u_cZ, u_cL, u_cAnd, u_cOr, u_cNot, u_cK, u_iCond, u_lCond, u_iBool, u_aNil, u_aI, u_aL, u_aR, rI_s, rL_s, rN_s, u_iCallV, u_lCallV, u_iCallS, u_lCallS, u_sCallV, u_sCallS, u_sSkip, u_sBreak, u_sCont, u_sSeq, u_sIf, u_sForget, u_sSetI, u_sSetL, u_sSetR, u_sInc, u_sRetV, u_sRetI, u_sRetL, u_sRetZB, u_sRetZC, u_sRetZV, u_sRetZS, u_sRetZL, u_sSw, u_sSwitch, pI_s, pL_s, pR_s, u_sPutI, u_sPutZ, u_sPutL, u_sPutR, u_sUpd, sI_s, sL_s, u_sAStN, u_sAStL, u_sAUpd, u_sAUpdL, u_body, u_env0, u_eAn, u_eAint, u_eAref, u_eAlong, kl_i, kl_r, kl_l, kl_n, kl_nn, u_set1_0, u_set2_0, u_s1_1, u_s2_1, u_s1_2, u_s2_2, u_s1_3, u_s2_3, u_s1_4, u_s2_4, u_s1_5, u_s2_5, u_s1_6, u_s2_6, u_s1_7, u_s2_7, u_s1_8, u_s2_8, u_s1_9, u_s2_9, u_s1_10, u_s2_10, u_s1_11, u_s2_11, u_s1_12, u_s2_12, u_s1_13, u_s2_13, u_s1_14, u_s2_14, ab0, ab1, u_sAStB, u_sAStZ, u_rcv, ocls_s, u_sCase, iteSX, u_rnd, loop_do, eN_s, u_iB, u_lB, sRetZ1, sRetZ0, va_up_at, Nat.add_left_cancel_iff, req_t, req_f, zeq_t, zeq_f, leq_t, leq_f, rne_t, rne_f, zne_t, zne_f, lne_t, lne_f, rlt_t, rlt_f, zlt_t, zlt_f, llt_t, llt_f, rge_t, rge_f, zge_t, zge_f, lge_t, lge_f, rgt_t, rgt_f, zgt_t, zgt_f, lgt_t, lgt_f, rle_t, rle_f, zle_t, zle_f, lle_t, lle_f, Bool.not_eq_true', Bool.not_true, Bool.not_false, Bool.true_eq_false, Bool.false_eq_true, List.getElem?_cons_zero, List.getElem?_cons_succ, List.getElem?_nil, List.set_cons_zero, List.set_cons_succ, List.cons_append, List.nil_append, List.replicate_succ, List.replicate_zero, List.length_cons, List.length_nil, List.length_append, List.length_replicate, List.take_succ_cons, List.take_zero, reduceIte, reduceCtorEq, Nat.reduceEqDiff, Nat.reduceAdd, Nat.reduceSub, Nat.reduceMul, Nat.reduceLeDiff, Nat.reduceLT, and_true, true_and, if_true, if_false, Nat.zero_add, Nat.add_zero, List.append_nil, not_true_eq_false, not_false_eq_true, and_false, false_and, or_true, true_or, or_false, false_or, ne_eq, Classical.not_not]
  refine loop_eq (fun t => [some (.ref 71), some (.int (nI i)), some (.int (nI ((O.take t).foldl (fun v c => max v (lg c i)) 0))), some (.int (nI t))]) (fun _ => h) O.length _ ?_ ?_ 0 (by omega)
  · intro t X ht
    obtain ⟨c1, c2, c3, c4, c5, c6⟩ := hat t ht
    have hk := key t (by omega)
    have hl := c1.le i
    rw [oa_take ht, List.foldl_append]
    simp only [cI_s, cL0_s, cR_s, vI_s, vL_s, vR_s, u_iLoc, u_lLoc, u_rLoc, u_iK, u_lK, u_iBg, u_lBg, u_lBI, u_gT, u_gTL, u_gNZ, u_gNZL, u_iNeg, u_iOfL, u_lOfI, u_iByte, fI_s, u_iGet, fL_s, u_lGet, fR_s, u_rGet, eI_s, eL_s, u_iALd, u_bALd, u_zALd, u_lALd, u_iLen, u_iResLen, u_lRes, u_cB, u_cZ, u_cL, u_cAnd, u_cOr, u_cNot, u_cK, u_iCond, u_lCond, u_iBool, u_aNil, u_aI, u_aL, u_aR, rI_s, rL_s, rN_s, u_iCallV, u_lCallV, u_iCallS, u_lCallS, u_sCallV, u_sCallS, u_sSkip, u_sBreak, u_sCont, u_sSeq, u_sIf, u_sForget, u_sSetI, u_sSetL, u_sSetR, u_sInc, u_sRetV, u_sRetI, u_sRetL, u_sRetZB, u_sRetZC, u_sRetZV, u_sRetZS, u_sRetZL, u_sSw, u_sSwitch, pI_s, pL_s, pR_s, u_sPutI, u_sPutZ, u_sPutL, u_sPutR, u_sUpd, sI_s, sL_s, u_sAStN, u_sAStL, u_sAUpd, u_sAUpdL, u_body, u_env0, u_eAn, u_eAint, u_eAref, u_eAlong, kl_i, kl_r, kl_l, kl_n, kl_nn, u_set1_0, u_set2_0, u_s1_1, u_s2_1, u_s1_2, u_s2_2, u_s1_3, u_s2_3, u_s1_4, u_s2_4, u_s1_5, u_s2_5, u_s1_6, u_s2_6, u_s1_7, u_s2_7, u_s1_8, u_s2_8, u_s1_9, u_s2_9, u_s1_10, u_s2_10, u_s1_11, u_s2_11, u_s1_12, u_s2_12, u_s1_13, u_s2_13, u_s1_14, u_s2_14, ab0, ab1, u_sAStB, u_sAStZ, u_rcv, ocls_s, u_sCase, iteSX, u_rnd, loop_do, eN_s, u_iB, u_lB, sRetZ1, sRetZ0, va_up_at, Nat.add_left_cancel_iff, req_t, req_f, zeq_t, zeq_f, leq_t, leq_f, rne_t, rne_f, zne_t, zne_f, lne_t, lne_f, rlt_t, rlt_f, zlt_t, zlt_f, llt_t, llt_f, rge_t, rge_f, zge_t, zge_f, lge_t, lge_f, rgt_t, rgt_f, zgt_t, zgt_f, lgt_t, lgt_f, rle_t, rle_f, zle_t, zle_f, lle_t, lle_f, Bool.not_eq_true', Bool.not_true, Bool.not_false, Bool.true_eq_false, Bool.false_eq_true, List.getElem?_cons_zero, List.getElem?_cons_succ, List.getElem?_nil, List.set_cons_zero, List.set_cons_succ, List.cons_append, List.nil_append, List.replicate_succ, List.replicate_zero, List.length_cons, List.length_nil, List.length_append, List.length_replicate, List.take_succ_cons, List.take_zero, reduceIte, reduceCtorEq, Nat.reduceEqDiff, Nat.reduceAdd, Nat.reduceSub, Nat.reduceMul, Nat.reduceLeDiff, Nat.reduceLT, and_true, true_and, if_true, if_false, Nat.zero_add, Nat.add_zero, List.append_nil, not_true_eq_false, not_false_eq_true, and_false, false_and, or_true, true_or, or_false, false_or, ne_eq, Classical.not_not, hW.1, s_numberAt hW.1 hW.2.2.1 ht hlen, hh.1.2.1, hy.1, List.foldl_cons, List.foldl_nil]
    simp (disch := omega) only [nI_lit, nI_add, pk_mul, nI_eq, nI_leI, nI_ltI, nI_clamp, nI_nn, nI_neg, vp_inT, pk_sub, jshrN, jshlN, nI_and, nI_or, nI_addmo, nI_moE, nI_mtE, nI_mo, nI_mt, mo_nI, mo_lt, lt_mo, mo_le, le_mo, true_or, or_true, or_false, false_or, or_self, Nat.zero_le, Nat.not_lt_zero, not_true_eq_false, not_false_eq_true, dec_T, dec_F, false_and, and_false, and_self, Bool.not_true, Bool.not_false, List.getElem?_cons_zero, List.getElem?_cons_succ, List.getElem?_nil, List.set_cons_zero, List.set_cons_succ, List.cons_append, List.nil_append, List.replicate, List.length_cons, List.length_nil, List.length_append, List.length_replicate, List.take, reduceIte, reduceCtorEq, Nat.reduceEqDiff, Nat.reduceAdd, Nat.reduceSub, Nat.reduceMul, Nat.reduceLeDiff, and_true, true_and, if_true, if_false, Bool.false_eq_true, Nat.zero_add, Nat.add_zero, List.append_nil, Option.some.injEq, ht, c3, s_lyingAt hy c1 hn, cI_s, cL0_s, cR_s, vI_s, vL_s, vR_s, u_iLoc, u_lLoc, u_rLoc, u_iK, u_lK, u_iBg, u_lBg, u_lBI, u_gT, u_gTL, u_gNZ, u_gNZL, u_iNeg, u_iOfL, u_lOfI, u_iByte, fI_s, u_iGet, fL_s, u_lGet, fR_s, u_rGet, eI_s, eL_s, u_iALd, u_bALd, u_zALd, u_lALd, u_iLen, u_iResLen, u_lRes, u_cB, u_cZ, u_cL, u_cAnd, u_cOr, u_cNot, u_cK, u_iCond, u_lCond, u_iBool, u_aNil, u_aI, u_aL, u_aR, rI_s, rL_s, rN_s, u_iCallV, u_lCallV, u_iCallS, u_lCallS, u_sCallV, u_sCallS, u_sSkip, u_sBreak, u_sCont, u_sSeq, u_sIf, u_sForget, u_sSetI, u_sSetL, u_sSetR, u_sInc, u_sRetV, u_sRetI, u_sRetL, u_sRetZB, u_sRetZC, u_sRetZV, u_sRetZS, u_sRetZL, u_sSw, u_sSwitch, pI_s, pL_s, pR_s, u_sPutI, u_sPutZ, u_sPutL, u_sPutR, u_sUpd, sI_s, sL_s, u_sAStN, u_sAStL, u_sAUpd, u_sAUpdL, u_body, u_env0, u_eAn, u_eAint, u_eAref, u_eAlong, kl_i, kl_r, kl_l, kl_n, kl_nn, u_set1_0, u_set2_0, u_s1_1, u_s2_1, u_s1_2, u_s2_2, u_s1_3, u_s2_3, u_s1_4, u_s2_4, u_s1_5, u_s2_5, u_s1_6, u_s2_6, u_s1_7, u_s2_7, u_s1_8, u_s2_8, u_s1_9, u_s2_9, u_s1_10, u_s2_10, u_s1_11, u_s2_11, u_s1_12, u_s2_12, u_s1_13, u_s2_13, u_s1_14, u_s2_14, ab0, ab1, u_sAStB, u_sAStZ, u_rcv, ocls_s, u_sCase, iteSX, u_rnd, loop_do, eN_s, u_iB, u_lB, sRetZ1, sRetZ0, va_up_at, Nat.add_left_cancel_iff, req_t, req_f, zeq_t, zeq_f, leq_t, leq_f, rne_t, rne_f, zne_t, zne_f, lne_t, lne_f, rlt_t, rlt_f, zlt_t, zlt_f, llt_t, llt_f, rge_t, rge_f, zge_t, zge_f, lge_t, lge_f, rgt_t, rgt_f, zgt_t, zgt_f, lgt_t, lgt_f, rle_t, rle_f, zle_t, zle_f, lle_t, lle_f, Bool.not_eq_true', Bool.not_true, Bool.not_false, Bool.true_eq_false, Bool.false_eq_true, List.getElem?_cons_zero, List.getElem?_cons_succ, List.getElem?_nil, List.set_cons_zero, List.set_cons_succ, List.cons_append, List.nil_append, List.replicate_succ, List.replicate_zero, List.length_cons, List.length_nil, List.length_append, List.length_replicate, List.take_succ_cons, List.take_zero, reduceIte, reduceCtorEq, Nat.reduceEqDiff, Nat.reduceAdd, Nat.reduceSub, Nat.reduceMul, Nat.reduceLeDiff, Nat.reduceLT, and_true, true_and, if_true, if_false, Nat.zero_add, Nat.add_zero, List.append_nil, not_true_eq_false, not_false_eq_true, and_false, false_and, or_true, true_or, or_false, false_or, ne_eq, Classical.not_not, hh.1.2.1, s_loadsIn hh.1 c1 hi, jmax_nI]
  · intro X
    simp only [cI_s, cL0_s, cR_s, vI_s, vL_s, vR_s, u_iLoc, u_lLoc, u_rLoc, u_iK, u_lK, u_iBg, u_lBg, u_lBI, u_gT, u_gTL, u_gNZ, u_gNZL, u_iNeg, u_iOfL, u_lOfI, u_iByte, fI_s, u_iGet, fL_s, u_lGet, fR_s, u_rGet, eI_s, eL_s, u_iALd, u_bALd, u_zALd, u_lALd, u_iLen, u_iResLen, u_lRes, u_cB, u_cZ, u_cL, u_cAnd, u_cOr, u_cNot, u_cK, u_iCond, u_lCond, u_iBool, u_aNil, u_aI, u_aL, u_aR, rI_s, rL_s, rN_s, u_iCallV, u_lCallV, u_iCallS, u_lCallS, u_sCallV, u_sCallS, u_sSkip, u_sBreak, u_sCont, u_sSeq, u_sIf, u_sForget, u_sSetI, u_sSetL, u_sSetR, u_sInc, u_sRetV, u_sRetI, u_sRetL, u_sRetZB, u_sRetZC, u_sRetZV, u_sRetZS, u_sRetZL, u_sSw, u_sSwitch, pI_s, pL_s, pR_s, u_sPutI, u_sPutZ, u_sPutL, u_sPutR, u_sUpd, sI_s, sL_s, u_sAStN, u_sAStL, u_sAUpd, u_sAUpdL, u_body, u_env0, u_eAn, u_eAint, u_eAref, u_eAlong, kl_i, kl_r, kl_l, kl_n, kl_nn, u_set1_0, u_set2_0, u_s1_1, u_s2_1, u_s1_2, u_s2_2, u_s1_3, u_s2_3, u_s1_4, u_s2_4, u_s1_5, u_s2_5, u_s1_6, u_s2_6, u_s1_7, u_s2_7, u_s1_8, u_s2_8, u_s1_9, u_s2_9, u_s1_10, u_s2_10, u_s1_11, u_s2_11, u_s1_12, u_s2_12, u_s1_13, u_s2_13, u_s1_14, u_s2_14, ab0, ab1, u_sAStB, u_sAStZ, u_rcv, ocls_s, u_sCase, iteSX, u_rnd, loop_do, eN_s, u_iB, u_lB, sRetZ1, sRetZ0, va_up_at, Nat.add_left_cancel_iff, req_t, req_f, zeq_t, zeq_f, leq_t, leq_f, rne_t, rne_f, zne_t, zne_f, lne_t, lne_f, rlt_t, rlt_f, zlt_t, zlt_f, llt_t, llt_f, rge_t, rge_f, zge_t, zge_f, lge_t, lge_f, rgt_t, rgt_f, zgt_t, zgt_f, lgt_t, lgt_f, rle_t, rle_f, zle_t, zle_f, lle_t, lle_f, Bool.not_eq_true', Bool.not_true, Bool.not_false, Bool.true_eq_false, Bool.false_eq_true, List.getElem?_cons_zero, List.getElem?_cons_succ, List.getElem?_nil, List.set_cons_zero, List.set_cons_succ, List.cons_append, List.nil_append, List.replicate_succ, List.replicate_zero, List.length_cons, List.length_nil, List.length_append, List.length_replicate, List.take_succ_cons, List.take_zero, reduceIte, reduceCtorEq, Nat.reduceEqDiff, Nat.reduceAdd, Nat.reduceSub, Nat.reduceMul, Nat.reduceLeDiff, Nat.reduceLT, and_true, true_and, if_true, if_false, Nat.zero_add, Nat.add_zero, List.append_nil, not_true_eq_false, not_false_eq_true, and_false, false_and, or_true, true_or, or_false, false_or, ne_eq, Classical.not_not, hW.1]
    simp (disch := omega) only [nI_lit, nI_add, pk_mul, nI_eq, nI_leI, nI_ltI, nI_clamp, nI_nn, nI_neg, vp_inT, pk_sub, jshrN, jshlN, nI_and, nI_or, nI_addmo, nI_moE, nI_mtE, nI_mo, nI_mt, mo_nI, mo_lt, lt_mo, mo_le, le_mo, true_or, or_true, or_false, false_or, or_self, Nat.zero_le, Nat.not_lt_zero, not_true_eq_false, not_false_eq_true, dec_T, dec_F, false_and, and_false, and_self, Bool.not_true, Bool.not_false, List.getElem?_cons_zero, List.getElem?_cons_succ, List.getElem?_nil, List.set_cons_zero, List.set_cons_succ, List.cons_append, List.nil_append, List.replicate, List.length_cons, List.length_nil, List.length_append, List.length_replicate, List.take, reduceIte, reduceCtorEq, Nat.reduceEqDiff, Nat.reduceAdd, Nat.reduceSub, Nat.reduceMul, Nat.reduceLeDiff, and_true, true_and, if_true, if_false, Bool.false_eq_true, Nat.zero_add, Nat.add_zero, List.append_nil, Option.some.injEq, Nat.lt_irrefl, List.take_length]
theorem s_mostTogether (hw : WE a K L O h) {i : Nat} (hi : i < Kn K) : mX10_mostTogether [.ref 71, .int (nI i)] h R = R (some (.int (if dover K (fun c => decide (0 < lg c i)) L = 0 then mo else nI (dover K (fun c => decide (0 < lg c i)) L)))) h := by
  obtain ⟨I, hWI, hat⟩ := hw.at
  have hlen := hw.len
  obtain ⟨h1, h2, hy, hh, hW, hL, hwy, hO, hm, ha, _⟩ := id hw
  have hK := hh.1.1
  have hn := hK.1
  let Y : Nat → Int32 := fun t => match (O.drop t).find? (fun c => decide (0 < lg c i)) with
    | some c => nI c.sum
    | none => mo
  have hg0 : ∀ c : List Nat, decide (0 < lg c i) = true → 0 < c.sum := fun c hc => by
    have := lg_le_sum c i; have := of_decide_eq_true hc; omega
  have hres : Y 0 = if dover K (fun c => decide (0 < lg c i)) L = 0 then mo else nI (dover K (fun c => decide (0 < lg c i)) L) := by
    show (match (O.drop 0).find? (fun c => decide (0 < lg c i)) with | some c => nI c.sum | none => mo) = _
    rw [List.drop_zero]
    cases e : O.find? (fun c => decide (0 < lg c i)) with
    | none =>
      have e2 := List.find?_eq_none.mp e
      have : 0 = dover K (fun c => decide (0 < lg c i)) L := by
        refine dover_u hK hL hg0 (fun d c hd hc => ?_) (fun z => absurd z (by omega))
        exact absurd hc (e2 c ((hm c).mpr ⟨(Rr_V (Dn_nx hK) hL hd).1, d, hd⟩))
      rw [← this, if_pos rfl]
    | some c =>
      obtain ⟨hc, l1, l2, e3, e4⟩ := List.find?_eq_some_iff_append.mp e
      have hcO : c ∈ O := by rw [e3]; simp
      obtain ⟨hcL, d0, hd0⟩ := (hm c).mp hcO
      have : c.sum = dover K (fun c => decide (0 < lg c i)) L := by
        refine dover_u hK hL hg0 (fun d x hd hx => ?_) (fun _ => ⟨d0, c, hd0, hc, rfl⟩)
        have hxL := (Rr_V (Dn_nx hK) hL hd).1
        have hxO := (hm x).mpr ⟨hxL, d, hd⟩
        rw [e3] at hxO hO
        rcases List.mem_append.mp hxO with q | q
        · have := e4 x q
          rw [hx] at this; simp at this
        · rcases List.mem_cons.mp q with q | q
          · rw [q]; exact Nat.le_refl _
          · have hp := (List.pairwise_cons.mp (List.pairwise_append.mp hO).2.1).1 x q
            rcases Nat.lt_or_ge c.sum x.sum with z | z
            · have := cnum_sum hcL hn z; omega
            · exact z
      have h0 := hg0 c hc
      rw [← this, if_neg (by omega)]
  rw [← hres]
  simp only [mX10_mostTogether, cI_s, cL0_s, cR_s, vI_s, vL_s, vR_s, u_iLoc, u_lLoc, u_rLoc, u_iK, u_lK, u_iBg, u_lBg, u_lBI, u_gT, u_gTL, u_gNZ, u_gNZL, u_iNeg, u_iOfL, u_lOfI, u_iByte, fI_s, u_iGet, fL_s, u_lGet, fR_s, u_rGet, eI_s, eL_s, u_iALd, u_bALd, u_zALd, u_lALd, u_iLen, u_iResLen, u_lRes, u_cB, u_cZ, u_cL, u_cAnd, u_cOr, u_cNot, u_cK, u_iCond, u_lCond, u_iBool, u_aNil, u_aI, u_aL, u_aR, rI_s, rL_s, rN_s, u_iCallV, u_lCallV, u_iCallS, u_lCallS, u_sCallV, u_sCallS, u_sSkip, u_sBreak, u_sCont, u_sSeq, u_sIf, u_sForget, u_sSetI, u_sSetL, u_sSetR, u_sInc, u_sRetV, u_sRetI, u_sRetL, u_sRetZB, u_sRetZC, u_sRetZV, u_sRetZS, u_sRetZL, u_sSw, u_sSwitch, pI_s, pL_s, pR_s, u_sPutI, u_sPutZ, u_sPutL, u_sPutR, u_sUpd, sI_s, sL_s, u_sAStN, u_sAStL, u_sAUpd, u_sAUpdL, u_body, u_env0, u_eAn, u_eAint, u_eAref, u_eAlong, kl_i, kl_r, kl_l, kl_n, kl_nn, u_set1_0, u_set2_0, u_s1_1, u_s2_1, u_s1_2, u_s2_2, u_s1_3, u_s2_3, u_s1_4, u_s2_4, u_s1_5, u_s2_5, u_s1_6, u_s2_6, u_s1_7, u_s2_7, u_s1_8, u_s2_8, u_s1_9, u_s2_9, u_s1_10, u_s2_10, u_s1_11, u_s2_11, u_s1_12, u_s2_12, u_s1_13, u_s2_13, u_s1_14, u_s2_14, ab0, ab1, u_sAStB, u_sAStZ, u_rcv, ocls_s, u_sCase, iteSX, u_rnd, loop_do, eN_s, u_iB, u_lB, sRetZ1, sRetZ0, va_up_at, Nat.add_left_cancel_iff, req_t, req_f, zeq_t, zeq_f, leq_t, leq_f, rne_t, rne_f, zne_t, zne_f, lne_t, lne_f, rlt_t, rlt_f, zlt_t, zlt_f, llt_t, llt_f, rge_t, rge_f, zge_t, zge_f, lge_t, lge_f, rgt_t, rgt_f, zgt_t, zgt_f, lgt_t, lgt_f, rle_t, rle_f, zle_t, zle_f, lle_t, lle_f, Bool.not_eq_true', Bool.not_true, Bool.not_false, Bool.true_eq_false, Bool.false_eq_true, List.getElem?_cons_zero, List.getElem?_cons_succ, List.getElem?_nil, List.set_cons_zero, List.set_cons_succ, List.cons_append, List.nil_append, List.replicate_succ, List.replicate_zero, List.length_cons, List.length_nil, List.length_append, List.length_replicate, List.take_succ_cons, List.take_zero, reduceIte, reduceCtorEq, Nat.reduceEqDiff, Nat.reduceAdd, Nat.reduceSub, Nat.reduceMul, Nat.reduceLeDiff, Nat.reduceLT, and_true, true_and, if_true, if_false, Nat.zero_add, Nat.add_zero, List.append_nil, not_true_eq_false, not_false_eq_true, and_false, false_and, or_true, true_or, or_false, false_or, ne_eq, Classical.not_not]
  refine loop_ex (fun t => [some (.ref 71), some (.int (nI i)), some (.int (nI t)), none]) (fun _ => h) O.length (fun t => R (some (.int (Y t))) h) ?_ ?_ 0 (by omega)
  · intro t X ht
    obtain ⟨c1, c2, c3, c4, c5, c6⟩ := hat t ht
    have hl := c1.le i
    have hY : Y t = if 0 < lg (oa O t) i then nI (oa O t).sum else Y (t + 1) := by
      show (match (O.drop t).find? (fun c => decide (0 < lg c i)) with | some c => nI c.sum | none => mo) = _
      rw [List.drop_eq_getElem_cons ht, List.find?_cons]
      have : O[t] = oa O t := by simp [oa, ht]
      rw [this]
      by_cases q : 0 < lg (oa O t) i
      · simp [q]
      · simp only [q, if_false]; rfl
    simp only [cI_s, cL0_s, cR_s, vI_s, vL_s, vR_s, u_iLoc, u_lLoc, u_rLoc, u_iK, u_lK, u_iBg, u_lBg, u_lBI, u_gT, u_gTL, u_gNZ, u_gNZL, u_iNeg, u_iOfL, u_lOfI, u_iByte, fI_s, u_iGet, fL_s, u_lGet, fR_s, u_rGet, eI_s, eL_s, u_iALd, u_bALd, u_zALd, u_lALd, u_iLen, u_iResLen, u_lRes, u_cB, u_cZ, u_cL, u_cAnd, u_cOr, u_cNot, u_cK, u_iCond, u_lCond, u_iBool, u_aNil, u_aI, u_aL, u_aR, rI_s, rL_s, rN_s, u_iCallV, u_lCallV, u_iCallS, u_lCallS, u_sCallV, u_sCallS, u_sSkip, u_sBreak, u_sCont, u_sSeq, u_sIf, u_sForget, u_sSetI, u_sSetL, u_sSetR, u_sInc, u_sRetV, u_sRetI, u_sRetL, u_sRetZB, u_sRetZC, u_sRetZV, u_sRetZS, u_sRetZL, u_sSw, u_sSwitch, pI_s, pL_s, pR_s, u_sPutI, u_sPutZ, u_sPutL, u_sPutR, u_sUpd, sI_s, sL_s, u_sAStN, u_sAStL, u_sAUpd, u_sAUpdL, u_body, u_env0, u_eAn, u_eAint, u_eAref, u_eAlong, kl_i, kl_r, kl_l, kl_n, kl_nn, u_set1_0, u_set2_0, u_s1_1, u_s2_1, u_s1_2, u_s2_2, u_s1_3, u_s2_3, u_s1_4, u_s2_4, u_s1_5, u_s2_5, u_s1_6, u_s2_6, u_s1_7, u_s2_7, u_s1_8, u_s2_8, u_s1_9, u_s2_9, u_s1_10, u_s2_10, u_s1_11, u_s2_11, u_s1_12, u_s2_12, u_s1_13, u_s2_13, u_s1_14, u_s2_14, ab0, ab1, u_sAStB, u_sAStZ, u_rcv, ocls_s, u_sCase, iteSX, u_rnd, loop_do, eN_s, u_iB, u_lB, sRetZ1, sRetZ0, va_up_at, Nat.add_left_cancel_iff, req_t, req_f, zeq_t, zeq_f, leq_t, leq_f, rne_t, rne_f, zne_t, zne_f, lne_t, lne_f, rlt_t, rlt_f, zlt_t, zlt_f, llt_t, llt_f, rge_t, rge_f, zge_t, zge_f, lge_t, lge_f, rgt_t, rgt_f, zgt_t, zgt_f, lgt_t, lgt_f, rle_t, rle_f, zle_t, zle_f, lle_t, lle_f, Bool.not_eq_true', Bool.not_true, Bool.not_false, Bool.true_eq_false, Bool.false_eq_true, List.getElem?_cons_zero, List.getElem?_cons_succ, List.getElem?_nil, List.set_cons_zero, List.set_cons_succ, List.cons_append, List.nil_append, List.replicate_succ, List.replicate_zero, List.length_cons, List.length_nil, List.length_append, List.length_replicate, List.take_succ_cons, List.take_zero, reduceIte, reduceCtorEq, Nat.reduceEqDiff, Nat.reduceAdd, Nat.reduceSub, Nat.reduceMul, Nat.reduceLeDiff, Nat.reduceLT, and_true, true_and, if_true, if_false, Nat.zero_add, Nat.add_zero, List.append_nil, not_true_eq_false, not_false_eq_true, and_false, false_and, or_true, true_or, or_false, false_or, ne_eq, Classical.not_not, hW.1, s_numberAt hW.1 hW.2.2.1 ht hlen, hh.1.2.1, hy.1]
    simp (disch := omega) only [nI_lit, nI_add, pk_mul, nI_eq, nI_leI, nI_ltI, nI_clamp, nI_nn, nI_neg, vp_inT, pk_sub, jshrN, jshlN, nI_and, nI_or, nI_addmo, nI_moE, nI_mtE, nI_mo, nI_mt, mo_nI, mo_lt, lt_mo, mo_le, le_mo, true_or, or_true, or_false, false_or, or_self, Nat.zero_le, Nat.not_lt_zero, not_true_eq_false, not_false_eq_true, dec_T, dec_F, false_and, and_false, and_self, Bool.not_true, Bool.not_false, List.getElem?_cons_zero, List.getElem?_cons_succ, List.getElem?_nil, List.set_cons_zero, List.set_cons_succ, List.cons_append, List.nil_append, List.replicate, List.length_cons, List.length_nil, List.length_append, List.length_replicate, List.take, reduceIte, reduceCtorEq, Nat.reduceEqDiff, Nat.reduceAdd, Nat.reduceSub, Nat.reduceMul, Nat.reduceLeDiff, and_true, true_and, if_true, if_false, Bool.false_eq_true, Nat.zero_add, Nat.add_zero, List.append_nil, Option.some.injEq, ht, c3, s_lyingAt hy c1 hn, cI_s, cL0_s, cR_s, vI_s, vL_s, vR_s, u_iLoc, u_lLoc, u_rLoc, u_iK, u_lK, u_iBg, u_lBg, u_lBI, u_gT, u_gTL, u_gNZ, u_gNZL, u_iNeg, u_iOfL, u_lOfI, u_iByte, fI_s, u_iGet, fL_s, u_lGet, fR_s, u_rGet, eI_s, eL_s, u_iALd, u_bALd, u_zALd, u_lALd, u_iLen, u_iResLen, u_lRes, u_cB, u_cZ, u_cL, u_cAnd, u_cOr, u_cNot, u_cK, u_iCond, u_lCond, u_iBool, u_aNil, u_aI, u_aL, u_aR, rI_s, rL_s, rN_s, u_iCallV, u_lCallV, u_iCallS, u_lCallS, u_sCallV, u_sCallS, u_sSkip, u_sBreak, u_sCont, u_sSeq, u_sIf, u_sForget, u_sSetI, u_sSetL, u_sSetR, u_sInc, u_sRetV, u_sRetI, u_sRetL, u_sRetZB, u_sRetZC, u_sRetZV, u_sRetZS, u_sRetZL, u_sSw, u_sSwitch, pI_s, pL_s, pR_s, u_sPutI, u_sPutZ, u_sPutL, u_sPutR, u_sUpd, sI_s, sL_s, u_sAStN, u_sAStL, u_sAUpd, u_sAUpdL, u_body, u_env0, u_eAn, u_eAint, u_eAref, u_eAlong, kl_i, kl_r, kl_l, kl_n, kl_nn, u_set1_0, u_set2_0, u_s1_1, u_s2_1, u_s1_2, u_s2_2, u_s1_3, u_s2_3, u_s1_4, u_s2_4, u_s1_5, u_s2_5, u_s1_6, u_s2_6, u_s1_7, u_s2_7, u_s1_8, u_s2_8, u_s1_9, u_s2_9, u_s1_10, u_s2_10, u_s1_11, u_s2_11, u_s1_12, u_s2_12, u_s1_13, u_s2_13, u_s1_14, u_s2_14, ab0, ab1, u_sAStB, u_sAStZ, u_rcv, ocls_s, u_sCase, iteSX, u_rnd, loop_do, eN_s, u_iB, u_lB, sRetZ1, sRetZ0, va_up_at, Nat.add_left_cancel_iff, req_t, req_f, zeq_t, zeq_f, leq_t, leq_f, rne_t, rne_f, zne_t, zne_f, lne_t, lne_f, rlt_t, rlt_f, zlt_t, zlt_f, llt_t, llt_f, rge_t, rge_f, zge_t, zge_f, lge_t, lge_f, rgt_t, rgt_f, zgt_t, zgt_f, lgt_t, lgt_f, rle_t, rle_f, zle_t, zle_f, lle_t, lle_f, Bool.not_eq_true', Bool.not_true, Bool.not_false, Bool.true_eq_false, Bool.false_eq_true, List.getElem?_cons_zero, List.getElem?_cons_succ, List.getElem?_nil, List.set_cons_zero, List.set_cons_succ, List.cons_append, List.nil_append, List.replicate_succ, List.replicate_zero, List.length_cons, List.length_nil, List.length_append, List.length_replicate, List.take_succ_cons, List.take_zero, reduceIte, reduceCtorEq, Nat.reduceEqDiff, Nat.reduceAdd, Nat.reduceSub, Nat.reduceMul, Nat.reduceLeDiff, Nat.reduceLT, and_true, true_and, if_true, if_false, Nat.zero_add, Nat.add_zero, List.append_nil, not_true_eq_false, not_false_eq_true, and_false, false_and, or_true, true_or, or_false, false_or, ne_eq, Classical.not_not, hW.1, hh.1.2.1, s_loadsIn hh.1 c1 hi, s_sumOf hh.1 c1, hY]
    by_cases q : 0 < lg (oa O t) i
    · right; simp only [q, true_or, or_true, or_false, false_or, or_self, Nat.zero_le, Nat.not_lt_zero, not_true_eq_false, not_false_eq_true, dec_T, dec_F, false_and, and_false, and_self, Bool.not_true, Bool.not_false, List.getElem?_cons_zero, List.getElem?_cons_succ, List.getElem?_nil, List.set_cons_zero, List.set_cons_succ, List.cons_append, List.nil_append, List.replicate, List.length_cons, List.length_nil, List.length_append, List.length_replicate, List.take, reduceIte, reduceCtorEq, Nat.reduceEqDiff, Nat.reduceAdd, Nat.reduceSub, Nat.reduceMul, Nat.reduceLeDiff, and_true, true_and, if_true, if_false, Bool.false_eq_true, Nat.zero_add, Nat.add_zero, List.append_nil, Option.some.injEq]
    · left; simp only [q, true_or, or_true, or_false, false_or, or_self, Nat.zero_le, Nat.not_lt_zero, not_true_eq_false, not_false_eq_true, dec_T, dec_F, false_and, and_false, and_self, Bool.not_true, Bool.not_false, List.getElem?_cons_zero, List.getElem?_cons_succ, List.getElem?_nil, List.set_cons_zero, List.set_cons_succ, List.cons_append, List.nil_append, List.replicate, List.length_cons, List.length_nil, List.length_append, List.length_replicate, List.take, reduceIte, reduceCtorEq, Nat.reduceEqDiff, Nat.reduceAdd, Nat.reduceSub, Nat.reduceMul, Nat.reduceLeDiff, and_true, true_and, if_true, if_false, Bool.false_eq_true, Nat.zero_add, Nat.add_zero, List.append_nil, Option.some.injEq]
  · intro X
    have hY : Y O.length = mo := by
      show (match (O.drop O.length).find? (fun c => decide (0 < lg c i)) with | some c => nI c.sum | none => mo) = _
      rw [List.drop_length]; rfl
    simp only [cI_s, cL0_s, cR_s, vI_s, vL_s, vR_s, u_iLoc, u_lLoc, u_rLoc, u_iK, u_lK, u_iBg, u_lBg, u_lBI, u_gT, u_gTL, u_gNZ, u_gNZL, u_iNeg, u_iOfL, u_lOfI, u_iByte, fI_s, u_iGet, fL_s, u_lGet, fR_s, u_rGet, eI_s, eL_s, u_iALd, u_bALd, u_zALd, u_lALd, u_iLen, u_iResLen, u_lRes, u_cB, u_cZ, u_cL, u_cAnd, u_cOr, u_cNot, u_cK, u_iCond, u_lCond, u_iBool, u_aNil, u_aI, u_aL, u_aR, rI_s, rL_s, rN_s, u_iCallV, u_lCallV, u_iCallS, u_lCallS, u_sCallV, u_sCallS, u_sSkip, u_sBreak, u_sCont, u_sSeq, u_sIf, u_sForget, u_sSetI, u_sSetL, u_sSetR, u_sInc, u_sRetV, u_sRetI, u_sRetL, u_sRetZB, u_sRetZC, u_sRetZV, u_sRetZS, u_sRetZL, u_sSw, u_sSwitch, pI_s, pL_s, pR_s, u_sPutI, u_sPutZ, u_sPutL, u_sPutR, u_sUpd, sI_s, sL_s, u_sAStN, u_sAStL, u_sAUpd, u_sAUpdL, u_body, u_env0, u_eAn, u_eAint, u_eAref, u_eAlong, kl_i, kl_r, kl_l, kl_n, kl_nn, u_set1_0, u_set2_0, u_s1_1, u_s2_1, u_s1_2, u_s2_2, u_s1_3, u_s2_3, u_s1_4, u_s2_4, u_s1_5, u_s2_5, u_s1_6, u_s2_6, u_s1_7, u_s2_7, u_s1_8, u_s2_8, u_s1_9, u_s2_9, u_s1_10, u_s2_10, u_s1_11, u_s2_11, u_s1_12, u_s2_12, u_s1_13, u_s2_13, u_s1_14, u_s2_14, ab0, ab1, u_sAStB, u_sAStZ, u_rcv, ocls_s, u_sCase, iteSX, u_rnd, loop_do, eN_s, u_iB, u_lB, sRetZ1, sRetZ0, va_up_at, Nat.add_left_cancel_iff, req_t, req_f, zeq_t, zeq_f, leq_t, leq_f, rne_t, rne_f, zne_t, zne_f, lne_t, lne_f, rlt_t, rlt_f, zlt_t, zlt_f, llt_t, llt_f, rge_t, rge_f, zge_t, zge_f, lge_t, lge_f, rgt_t, rgt_f, zgt_t, zgt_f, lgt_t, lgt_f, rle_t, rle_f, zle_t, zle_f, lle_t, lle_f, Bool.not_eq_true', Bool.not_true, Bool.not_false, Bool.true_eq_false, Bool.false_eq_true, List.getElem?_cons_zero, List.getElem?_cons_succ, List.getElem?_nil, List.set_cons_zero, List.set_cons_succ, List.cons_append, List.nil_append, List.replicate_succ, List.replicate_zero, List.length_cons, List.length_nil, List.length_append, List.length_replicate, List.take_succ_cons, List.take_zero, reduceIte, reduceCtorEq, Nat.reduceEqDiff, Nat.reduceAdd, Nat.reduceSub, Nat.reduceMul, Nat.reduceLeDiff, Nat.reduceLT, and_true, true_and, if_true, if_false, Nat.zero_add, Nat.add_zero, List.append_nil, not_true_eq_false, not_false_eq_true, and_false, false_and, or_true, true_or, or_false, false_or, ne_eq, Classical.not_not, hW.1]
    simp (disch := omega) only [nI_lit, nI_add, pk_mul, nI_eq, nI_leI, nI_ltI, nI_clamp, nI_nn, nI_neg, vp_inT, pk_sub, jshrN, jshlN, nI_and, nI_or, nI_addmo, nI_moE, nI_mtE, nI_mo, nI_mt, mo_nI, mo_lt, lt_mo, mo_le, le_mo, true_or, or_true, or_false, false_or, or_self, Nat.zero_le, Nat.not_lt_zero, not_true_eq_false, not_false_eq_true, dec_T, dec_F, false_and, and_false, and_self, Bool.not_true, Bool.not_false, List.getElem?_cons_zero, List.getElem?_cons_succ, List.getElem?_nil, List.set_cons_zero, List.set_cons_succ, List.cons_append, List.nil_append, List.replicate, List.length_cons, List.length_nil, List.length_append, List.length_replicate, List.take, reduceIte, reduceCtorEq, Nat.reduceEqDiff, Nat.reduceAdd, Nat.reduceSub, Nat.reduceMul, Nat.reduceLeDiff, and_true, true_and, if_true, if_false, Bool.false_eq_true, Nat.zero_add, Nat.add_zero, List.append_nil, Option.some.injEq, Nat.lt_irrefl, hY]
end
