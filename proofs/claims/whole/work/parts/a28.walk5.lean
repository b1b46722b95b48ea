set_option maxRecDepth 20000
set_option maxHeartbeats 4000000
set_option linter.all false
/-! rows counted, of the class -/
theorem sm_pos {S : List (List Nat)} {f : List Nat → Nat} (h : sm S f ≠ 0) : ∃ c, c ∈ S ∧ f c ≠ 0 := by
  apply Classical.byContradiction
  intro q
  exact h (sm_0 fun c hc => Classical.byContradiction fun z => q ⟨c, hc, z⟩)
theorem pshn_R {nxt : List Nat → List (List Nat)} {S : List (List Nat)} {a : List Nat} : ∀ {d : Nat} {c : List Nat}, pshn nxt S a d c ≠ 0 → Rr nxt d a c
  | 0, c, h => by
    simp only [pshn] at h
    by_cases q : c = a
    · exact q.symm
    · rw [if_neg q] at h; exact absurd rfl h
  | d + 1, c, h => by
    simp only [pshn, psh] at h
    obtain ⟨b, hb, h2⟩ := sm_pos h
    have h3 : pshn nxt S a d b ≠ 0 := fun z => h2 (by rw [z, Nat.zero_mul])
    have h4 : (nxt b).count c ≠ 0 := fun z => h2 (by rw [z, Nat.mul_zero])
    exact Rr_snoc.mpr ⟨b, pshn_R h3, List.count_pos_iff.mp (by omega)⟩
theorem sm_filter {S : List (List Nat)} (p : List Nat → Bool) (f : List Nat → Nat) : sm (S.filter p) f = sm S (fun c => if p c = true then f c else 0) := by
  induction S with
  | nil => rfl
  | cons x S ih =>
    by_cases q : p x = true
    · rw [List.filter_cons_of_pos q]; simp only [sm, List.map_cons, List.sum_cons] at ih ⊢; rw [ih, if_pos q]
    · rw [List.filter_cons_of_neg q, ih]; simp only [sm, List.map_cons, List.sum_cons]; rw [if_neg q]; omega
theorem sm_app (S T : List (List Nat)) (f : List Nat → Nat) : sm (S ++ T) f = sm S f + sm T f := by simp [sm]
theorem sm_snoc (S : List (List Nat)) (x : List Nat) (f : List Nat → Nat) : sm (S ++ [x]) f = sm S f + f x := by simp [sm]
/-- rows by which one comes here first, of what is reached -/
def Nf (K : HK) (L : List Nat) (O : List (List Nat)) (I : List Nat → Nat) (x : List Nat) : Nat := pshn (nx K) O L (I x % 16) x
/-- what is passed on of the first t -/
def Uf (K : HK) (L : List Nat) (O : List (List Nat)) (I : List Nat → Nat) (F t : Nat) (x : List Nat) : Nat := if I x % 16 = 0 then 1 else sm (O.take t) (fun b => if I b % 16 < F ∧ I b % 16 + 1 = I x % 16 then Nf K L O I b * (nx K b).count x else 0)
def sat (v : Nat) : Nat := min v CAP
theorem sat_add (a b : Nat) : sat (sat a + sat b) = sat (a + b) := by unfold sat; omega
theorem Uf_done {K : HK} (hK : KWF K) {L : List Nat} (hL : LWF (Kn K) L) {O : List (List Nat)} (hO : OS O) (hm : ∀ x, x ∈ O ↔ LWF (Kn K) x ∧ RC K L x) {I : List Nat → Nat} (hI : WI K L I 0) {F t : Nat} (ht : t < O.length) (hF : I (oa O t) % 16 ≤ F) : Uf K L O I F t (oa O t) = Nf K L O I (oa O t) := by
  have hcO := oa_mem ht
  have hc := (hm _).mp hcO
  have reach : ∀ x, x ∈ O → I x ≠ 0 ∧ ∀ d, Rr (nx K) d L x → I x % 16 ≤ d := by
    intro x hx
    obtain ⟨h1, d, hd⟩ := (hm x).mp hx
    exact ⟨(WI_reach hK hL hI h1 (by omega) d hd).1, fun d hd => (WI_reach hK hL hI h1 (by omega) d hd).2.1⟩
  unfold Uf Nf
  generalize hdx : I (oa O t) % 16 = dx at hF
  cases dx with
  | zero =>
    rw [if_pos rfl]
    have hr := (hI.1 _ hc.1 (reach _ hcO).1).1
    rw [hdx] at hr
    have e : L = oa O t := hr
    simp only [pshn]; rw [if_pos e.symm]
  | succ d =>
    rw [if_neg (by omega)]
    simp only [pshn, psh]
    have hsplit : O = O.take t ++ O.drop t := (List.take_append_drop t O).symm
    have e1 : sm O (fun b => pshn (nx K) O L d b * (nx K b).count (oa O t)) = sm (O.take t) (fun b => pshn (nx K) O L d b * (nx K b).count (oa O t)) + sm (O.drop t) (fun b => pshn (nx K) O L d b * (nx K b).count (oa O t)) := by
      have := sm_app (O.take t) (O.drop t) (fun b => pshn (nx K) O L d b * (nx K b).count (oa O t))
      rwa [← hsplit] at this
    have e2 : sm (O.drop t) (fun b => pshn (nx K) O L d b * (nx K b).count (oa O t)) = 0 := by
      refine sm_0 fun b hb => ?_
      have hbO := List.mem_of_mem_drop hb
      have hbL := ((hm b).mp hbO).1
      rcases Nat.eq_zero_or_pos ((nx K b).count (oa O t)) with z | z
      · rw [z, Nat.mul_zero]
      · have hin := List.count_pos_iff.mp z
        have hlt := cnum_sum hc.1 hK.1 ((Dn_nx hK).2 b hbL _ hin).2
        exfalso
        rw [List.drop_eq_getElem_cons ht] at hb
        have hot : O[t] = oa O t := by simp [oa, ht]
        rcases List.mem_cons.mp hb with q | q
        · rw [q, hot] at hlt; omega
        · have hp : (O.drop t).Pairwise (fun x y => cnum y < cnum x) := List.Pairwise.drop hO
          rw [List.drop_eq_getElem_cons ht] at hp
          have := (List.pairwise_cons.mp hp).1 b q
          rw [hot] at this; omega
    rw [e1, e2, Nat.add_zero]
    refine sm_congr fun b hb => ?_
    have hbO := List.mem_of_mem_take hb
    have hbL := ((hm b).mp hbO).1
    have hrb := reach b hbO
    by_cases q : I b % 16 + 1 = d + 1
    · rw [if_pos ⟨by omega, q⟩, show I b % 16 = d by omega]
    · rw [if_neg (fun z => q z.2)]
      rcases Nat.eq_zero_or_pos ((nx K b).count (oa O t)) with z | z
      · rw [z, Nat.mul_zero]
      · have hin := List.count_pos_iff.mp z
        have hr1 := (hI.1 b hbL hrb.1).1
        have h2 := (reach _ hcO).2 _ (Rr_snoc.mpr ⟨b, hr1, hin⟩)
        rcases Nat.eq_zero_or_pos (pshn (nx K) O L d b) with y | y
        · rw [y, Nat.zero_mul]
        · have := hrb.2 d (pshn_R (S := O) (by omega)); omega
theorem OS_nodup {O : List (List Nat)} (h : OS O) : O.Nodup := h.imp fun hab e => by rw [e] at hab; omega
/-- all rows of the fewest carryings -/
theorem rows_eq {K : HK} (hK : KWF K) {L : List Nat} (hL : LWF (Kn K) L) {O : List (List Nat)} (hO : OS O) (hm : ∀ x, x ∈ O ↔ LWF (Kn K) x ∧ RC K L x) {I : List Nat → Nat} (hI : WI K L I 0) {i F : Nat} (hF : few K i L = F + 1) :
    sm O (fun c => if I c % 16 = F ∧ 0 < lg c i then Nf K L O I c else 0) = nr (nx K) (gi fun c => decide (0 < lg c i)) F L := by
  have hcl : ∀ b, b ∈ O → ∀ x, x ∈ nx K b → x ∈ O := by
    intro b hb x hx
    obtain ⟨h1, d, hd⟩ := (hm b).mp hb
    exact (hm x).mpr ⟨((Dn_nx hK).2 b h1 x hx).1, d + 1, Rr_snoc.mpr ⟨b, hd, hx⟩⟩
  have hLO : L ∈ O := (hm L).mpr ⟨hL, 0, rfl⟩
  have := pshn_nr (OS_nodup hO) hcl hLO F 0 (gi fun c => decide (0 < lg c i))
  rw [Nat.zero_add] at this
  rw [← this]
  refine sm_congr fun c hc => ?_
  obtain ⟨h1, d, hd⟩ := (hm c).mp hc
  show _ = pshn (nx K) O L F c * gi (fun c => decide (0 < lg c i)) c
  unfold gi
  by_cases q : 0 < lg c i
  · simp only [q, decide_true, if_true, and_true, Nat.mul_one]
    by_cases q2 : I c % 16 = F
    · rw [if_pos q2, Nf, q2]
    · rw [if_neg q2]
      rcases Nat.eq_zero_or_pos (pshn (nx K) O L F c) with y | y
      · exact y.symm
      · have hr := pshn_R (show pshn (nx K) O L F c ≠ 0 by omega)
        have h2 := (WI_reach hK hL hI h1 (by omega) F hr).2.1
        have h0 := (WI_reach hK hL hI h1 (by omega) F hr).1
        have h3 := ((few_p hK hL i).1 _ c (hI.1 c h1 h0).1 q).2
        omega
  · simp [q]
section
variable {a : Nat} {K : HK} {L : List Nat} {O : List (List Nat)} {h : HS} {R : Option Value → HS → Prop}
theorem oa_0 (hw : WE a K L O h) : 0 < O.length ∧ oa O 0 = L := by
  obtain ⟨h1, h2, hy, hh, hW, hL, hwy, hO, hm, ha, _⟩ := id hw
  have hLO : L ∈ O := (hm L).mpr ⟨hL, 0, rfl⟩
  cases O with
  | nil => cases hLO
  | cons x l =>
    refine ⟨by simp, ?_⟩
    show x = L
    rcases List.mem_cons.mp hLO with q | q
    · exact q.symm
    · have hp := (List.pairwise_cons.mp hO).1 L q
      obtain ⟨hx, d, hd⟩ := (hm x).mp (by simp)
      have h3 := (Rr_V (Dn_nx hh.1.1) hL hd).2
      cases d with
      | zero => exact hd.symm
      | succ d => have := cnum_sum hx hh.1.1.1 (show x.sum < L.sum by omega); omega
/-- the walk with other tallies -/
theorem WE_t (hw : WE a K L O h) {h' : HS} (e : h' 74 = .inl (0, 6188, .inl (ia h' 74))) (hf : Fx a (fun c => c = 74) h h') (hh' : HL a K h') : WE a K L O h' := by
  obtain ⟨h1, h2, hy, hh, ⟨w0, w1, w2, w3⟩, hL, hwy, hO, hm, ha, ⟨I, hI, hWI⟩, hz⟩ := hw
  have f : ∀ c, c ≠ 74 → (c < 20 ∨ 60 ≤ c) → h' c = h c := fun c c1 c2 => hf c c1 (by omega) (by omega) (by omega) (by omega)
  exact ⟨h1, h2, LY_fr hy fun c c1 c2 => f c (by omega) (by omega), hh', ⟨(f 71 (by omega) (by omega)).trans w0, by rw [IA, ia_fr (f 72 (by omega) (by omega)), f 72 (by omega) (by omega)]; exact w1, by rw [IA, ia_fr (f 73 (by omega) (by omega)), f 73 (by omega) (by omega)]; exact w2, e⟩, hL, hwy, hO, hm, by rw [ia_fr (f 73 (by omega) (by omega))]; exact ha, ⟨I, by rw [ia_fr (f 72 (by omega) (by omega))]; exact hI, hWI⟩, by rw [ia_fr (f 72 (by omega) (by omega))]; exact hz⟩
theorem s_clearTally (hw : WE a K L O h)
    (kk : ∀ h', WE a K L O h' → Fx a (fun c => c = 74) h h' → (∀ c, c ∈ O → ia h' 74 (cnum c) = nI (if c = L then 1 else 0)) → R none h') : mX10_clearTally [.ref 71] h R := by
  obtain ⟨I, hWI, hat⟩ := hw.at
  have hlen := hw.len
  obtain ⟨z1, z2⟩ := oa_0 hw
  obtain ⟨h1, h2, hy, hh, ⟨w0, w1, w2, w3⟩, hL, hwy, hO, hm, ha, _⟩ := id hw
  have hn := hh.1.1.1
  simp only [mX10_clearTally, cI_s, cL0_s, cR_s, vI_s, vL_s, vR_s, u_iLoc, u_lLoc, u_rLoc, u_iK, u_lK, u_iBg, u_lBg, u_lBI, u_gT, u_gTL, u_gNZ, u_gNZL, u_iNeg, u_iOfL, u_lOfI, u_iByte, fI_s, u_iGet, fL_s, u_lGet, fR_s, u_rGet, eI_s, eL_s, u_iALd, u_bALd, u_zALd, u_lALd, u_iLen, u_iResLen, u_lRes, u_cB, u_cZ, u_cL, u_cAnd, u_cOr, u_cNot, u_cK, u_iCond, u_lCond, u_iBool, u_aNil, u_aI, u_aL, u_aR, rI_s, rL_s, rN_s, u_iCallV, u_lCallV, u_iCallS, u_lCallS, u_sCallV, u_sCallS, u_sSkip, u_sBreak, u_sCont, u_sSeq, u_sIf, u_sForget, u_sSetI, u_sSetL, u_sSetR, u_sInc, u_sRetV, u_sRetI, u_sRetL, u_sRetZB, u_sRetZC, u_sRetZV, u_sRetZS, u_sRetZL, u_sSw, u_sSwitch, pI_s, pL_s, pR_s, u_sPutI, u_sPutZ, u_sPutL, u_sPutR, u_sUpd, sI_s, sL_s, u_sAStN, u_sAStL, u_sAUpd, u_sAUpdL, u_body, u_env0, u_eAn, u_eAint, u_eAref, u_eAlong, kl_i, kl_r, kl_l, kl_n, kl_nn, u_set1_0, u_set2_0, u_s1_1, u_s2_1, u_s1_2, u_s2_2, u_s1_3, u_s2_3, u_s1_4, u_s2_4, u_s1_5, u_s2_5, u_s1_6, u_s2_6, u_s1_7, u_s2_7, u_s1_8, u_s2_8, u_s1_9, u_s2_9, u_s1_10, u_s2_10, u_s1_11, u_s2_11, u_s1_12, u_s2_12, u_s1_13, u_s2_13, u_s1_14, u_s2_14, ab0, ab1, u_sAStB, u_sAStZ, u_rcv, ocls_s, u_sCase, iteSX, u_rnd, loop_do, eN_s, u_iB, u_lB, sRetZ1, sRetZ0, va_up_at, Nat.add_left_cancel_iff, req_t, req_f, zeq_t, zeq_f, leq_t, leq_f, rne_t, rne_f, zne_t, zne_f, lne_t, lne_f, rlt_t, rlt_f, zlt_t, zlt_f, llt_t, llt_f, rge_t, rge_f, zge_t, zge_f, lge_t, lge_f, rgt_t, rgt_f, zgt_t, zgt_f, lgt_t, lgt_f, rle_t, rle_f, zle_t, zle_f, lle_t, lle_f, Bool.not_eq_true', Bool.not_true, Bool.not_false, Bool.true_eq_false, Bool.false_eq_true, List.getElem?_cons_zero, List.getElem?_cons_succ, List.getElem?_nil, List.set_cons_zero, List.set_cons_succ, List.cons_append, List.nil_append, List.replicate_succ, List.replicate_zero, List.length_cons, List.length_nil, List.length_append, List.length_replicate, List.take_succ_cons, List.take_zero, reduceIte, reduceCtorEq, Nat.reduceEqDiff, Nat.reduceAdd, Nat.reduceSub, Nat.reduceMul, Nat.reduceLeDiff, Nat.reduceLT, and_true, true_and, if_true, if_false, Nat.zero_add, Nat.add_zero, List.append_nil, not_true_eq_false, not_false_eq_true, and_false, false_and, or_true, true_or, or_false, false_or, ne_eq, Classical.not_not]
  refine loopE (fun t => [some (.ref 71), some (.int (nI t))]) (fun t h' => h' 74 = .inl (0, 6188, .inl (ia h' 74)) ∧ (∀ c, c ≠ 74 → h' c = h c) ∧ ∀ u, u < t → ia h' 74 (cnum (oa O u)) = nI 0) O.length ?_ ?_ 0 h (by omega) ⟨w3, fun _ _ => rfl, fun u hu => absurd hu (by omega)⟩
  · rintro t h3 X ht ⟨e1, e2, e3⟩ kX
    obtain ⟨c1, c2, c3, c4, c5, c6⟩ := hat t ht
    have g0 : h3 71 = _ := (e2 71 (by omega)).trans w0
    have g3 : h3 73 = _ := (e2 73 (by omega)).trans w2
    have q73 : IA 0 6188 h3 73 := by rw [IA, ia_fr (e2 73 (by omega)), e2 73 (by omega)]; exact w2
    rw [← ia_fr (e2 73 (by omega))] at c3
    simp only [cI_s, cL0_s, cR_s, vI_s, vL_s, vR_s, u_iLoc, u_lLoc, u_rLoc, u_iK, u_lK, u_iBg, u_lBg, u_lBI, u_gT, u_gTL, u_gNZ, u_gNZL, u_iNeg, u_iOfL, u_lOfI, u_iByte, fI_s, u_iGet, fL_s, u_lGet, fR_s, u_rGet, eI_s, eL_s, u_iALd, u_bALd, u_zALd, u_lALd, u_iLen, u_iResLen, u_lRes, u_cB, u_cZ, u_cL, u_cAnd, u_cOr, u_cNot, u_cK, u_iCond, u_lCond, u_iBool, u_aNil, u_aI, u_aL, u_aR, rI_s, rL_s, rN_s, u_iCallV, u_lCallV, u_iCallS, u_lCallS, u_sCallV, u_sCallS, u_sSkip, u_sBreak, u_sCont, u_sSeq, u_sIf, u_sForget, u_sSetI, u_sSetL, u_sSetR, u_sInc, u_sRetV, u_sRetI, u_sRetL, u_sRetZB, u_sRetZC, u_sRetZV, u_sRetZS, u_sRetZL, u_sSw, u_sSwitch, pI_s, pL_s, pR_s, u_sPutI, u_sPutZ, u_sPutL, u_sPutR, u_sUpd, sI_s, sL_s, u_sAStN, u_sAStL, u_sAUpd, u_sAUpdL, u_body, u_env0, u_eAn, u_eAint, u_eAref, u_eAlong, kl_i, kl_r, kl_l, kl_n, kl_nn, u_set1_0, u_set2_0, u_s1_1, u_s2_1, u_s1_2, u_s2_2, u_s1_3, u_s2_3, u_s1_4, u_s2_4, u_s1_5, u_s2_5, u_s1_6, u_s2_6, u_s1_7, u_s2_7, u_s1_8, u_s2_8, u_s1_9, u_s2_9, u_s1_10, u_s2_10, u_s1_11, u_s2_11, u_s1_12, u_s2_12, u_s1_13, u_s2_13, u_s1_14, u_s2_14, ab0, ab1, u_sAStB, u_sAStZ, u_rcv, ocls_s, u_sCase, iteSX, u_rnd, loop_do, eN_s, u_iB, u_lB, sRetZ1, sRetZ0, va_up_at, Nat.add_left_cancel_iff, req_t, req_f, zeq_t, zeq_f, leq_t, leq_f, rne_t, rne_f, zne_t, zne_f, lne_t, lne_f, rlt_t, rlt_f, zlt_t, zlt_f, llt_t, llt_f, rge_t, rge_f, zge_t, zge_f, lge_t, lge_f, rgt_t, rgt_f, zgt_t, zgt_f, lgt_t, lgt_f, rle_t, rle_f, zle_t, zle_f, lle_t, lle_f, Bool.not_eq_true', Bool.not_true, Bool.not_false, Bool.true_eq_false, Bool.false_eq_true, List.getElem?_cons_zero, List.getElem?_cons_succ, List.getElem?_nil, List.set_cons_zero, List.set_cons_succ, List.cons_append, List.nil_append, List.replicate_succ, List.replicate_zero, List.length_cons, List.length_nil, List.length_append, List.length_replicate, List.take_succ_cons, List.take_zero, reduceIte, reduceCtorEq, Nat.reduceEqDiff, Nat.reduceAdd, Nat.reduceSub, Nat.reduceMul, Nat.reduceLeDiff, Nat.reduceLT, and_true, true_and, if_true, if_false, Nat.zero_add, Nat.add_zero, List.append_nil, not_true_eq_false, not_false_eq_true, and_false, false_and, or_true, true_or, or_false, false_or, ne_eq, Classical.not_not, g0]
    simp (disch := omega) only [nI_lit, nI_add, pk_mul, nI_eq, nI_leI, nI_ltI, nI_clamp, nI_nn, nI_neg, vp_inT, pk_sub, jshrN, jshlN, nI_and, nI_or, nI_addmo, nI_moE, nI_mtE, nI_mo, nI_mt, mo_nI, mo_lt, lt_mo, mo_le, le_mo, true_or, or_true, or_false, false_or, or_self, Nat.zero_le, Nat.not_lt_zero, not_true_eq_false, not_false_eq_true, dec_T, dec_F, false_and, and_false, and_self, Bool.not_true, Bool.not_false, List.getElem?_cons_zero, List.getElem?_cons_succ, List.getElem?_nil, List.set_cons_zero, List.set_cons_succ, List.cons_append, List.nil_append, List.replicate, List.length_cons, List.length_nil, List.length_append, List.length_replicate, List.take, reduceIte, reduceCtorEq, Nat.reduceEqDiff, Nat.reduceAdd, Nat.reduceSub, Nat.reduceMul, Nat.reduceLeDiff, and_true, true_and, if_true, if_false, Bool.false_eq_true, Nat.zero_add, Nat.add_zero, List.append_nil, Option.some.injEq, ht, cI_s, cL0_s, cR_s, vI_s, vL_s, vR_s, u_iLoc, u_lLoc, u_rLoc, u_iK, u_lK, u_iBg, u_lBg, u_lBI, u_gT, u_gTL, u_gNZ, u_gNZL, u_iNeg, u_iOfL, u_lOfI, u_iByte, fI_s, u_iGet, fL_s, u_lGet, fR_s, u_rGet, eI_s, eL_s, u_iALd, u_bALd, u_zALd, u_lALd, u_iLen, u_iResLen, u_lRes, u_cB, u_cZ, u_cL, u_cAnd, u_cOr, u_cNot, u_cK, u_iCond, u_lCond, u_iBool, u_aNil, u_aI, u_aL, u_aR, rI_s, rL_s, rN_s, u_iCallV, u_lCallV, u_iCallS, u_lCallS, u_sCallV, u_sCallS, u_sSkip, u_sBreak, u_sCont, u_sSeq, u_sIf, u_sForget, u_sSetI, u_sSetL, u_sSetR, u_sInc, u_sRetV, u_sRetI, u_sRetL, u_sRetZB, u_sRetZC, u_sRetZV, u_sRetZS, u_sRetZL, u_sSw, u_sSwitch, pI_s, pL_s, pR_s, u_sPutI, u_sPutZ, u_sPutL, u_sPutR, u_sUpd, sI_s, sL_s, u_sAStN, u_sAStL, u_sAUpd, u_sAUpdL, u_body, u_env0, u_eAn, u_eAint, u_eAref, u_eAlong, kl_i, kl_r, kl_l, kl_n, kl_nn, u_set1_0, u_set2_0, u_s1_1, u_s2_1, u_s1_2, u_s2_2, u_s1_3, u_s2_3, u_s1_4, u_s2_4, u_s1_5, u_s2_5, u_s1_6, u_s2_6, u_s1_7, u_s2_7, u_s1_8, u_s2_8, u_s1_9, u_s2_9, u_s1_10, u_s2_10, u_s1_11, u_s2_11, u_s1_12, u_s2_12, u_s1_13, u_s2_13, u_s1_14, u_s2_14, ab0, ab1, u_sAStB, u_sAStZ, u_rcv, ocls_s, u_sCase, iteSX, u_rnd, loop_do, eN_s, u_iB, u_lB, sRetZ1, sRetZ0, va_up_at, Nat.add_left_cancel_iff, req_t, req_f, zeq_t, zeq_f, leq_t, leq_f, rne_t, rne_f, zne_t, zne_f, lne_t, lne_f, rlt_t, rlt_f, zlt_t, zlt_f, llt_t, llt_f, rge_t, rge_f, zge_t, zge_f, lge_t, lge_f, rgt_t, rgt_f, zgt_t, zgt_f, lgt_t, lgt_f, rle_t, rle_f, zle_t, zle_f, lle_t, lle_f, Bool.not_eq_true', Bool.not_true, Bool.not_false, Bool.true_eq_false, Bool.false_eq_true, List.getElem?_cons_zero, List.getElem?_cons_succ, List.getElem?_nil, List.set_cons_zero, List.set_cons_succ, List.cons_append, List.nil_append, List.replicate_succ, List.replicate_zero, List.length_cons, List.length_nil, List.length_append, List.length_replicate, List.take_succ_cons, List.take_zero, reduceIte, reduceCtorEq, Nat.reduceEqDiff, Nat.reduceAdd, Nat.reduceSub, Nat.reduceMul, Nat.reduceLeDiff, Nat.reduceLT, and_true, true_and, if_true, if_false, Nat.zero_add, Nat.add_zero, List.append_nil, not_true_eq_false, not_false_eq_true, and_false, false_and, or_true, true_or, or_false, false_or, ne_eq, Classical.not_not, g0, s_numberAt g0 q73 ht hlen, c3, s_setTally g0 e1 c2]
    refine kX _ ⟨by rw [ia_up, va_up_s], fun c hc => by rw [va_up_o hc]; exact e2 c hc, fun u hu => ?_⟩
    rw [ia_up, upd_at]
    by_cases q : cnum (oa O u) = cnum (oa O t)
    · rw [if_pos q]
    · rw [if_neg q]
      exact e3 u (by rcases Nat.lt_or_ge u t with z | z; exact z; exact absurd (by rw [show u = t by omega]) q)
  · rintro h3 X ⟨e1, e2, e3⟩
    obtain ⟨c1, c2, c3, c4, c5, c6⟩ := hat 0 z1
    have g0 : h3 71 = _ := (e2 71 (by omega)).trans w0
    have g3 : h3 73 = _ := (e2 73 (by omega)).trans w2
    rw [z2] at c3 c2
    have q73 : IA 0 6188 h3 73 := by rw [IA, ia_fr (e2 73 (by omega)), e2 73 (by omega)]; exact w2
    rw [← ia_fr (e2 73 (by omega))] at c3
    simp only [cI_s, cL0_s, cR_s, vI_s, vL_s, vR_s, u_iLoc, u_lLoc, u_rLoc, u_iK, u_lK, u_iBg, u_lBg, u_lBI, u_gT, u_gTL, u_gNZ, u_gNZL, u_iNeg, u_iOfL, u_lOfI, u_iByte, fI_s, u_iGet, fL_s, u_lGet, fR_s, u_rGet, eI_s, eL_s, u_iALd, u_bALd, u_zALd, u_lALd, u_iLen, u_iResLen, u_lRes, u_cB, u_cZ, u_cL, u_cAnd, u_cOr, u_cNot, u_cK, u_iCond, u_lCond, u_iBool, u_aNil, u_aI, u_aL, u_aR, rI_s, rL_s, rN_s, u_iCallV, u_lCallV, u_iCallS, u_lCallS, u_sCallV, u_sCallS, u_sSkip, u_sBreak, u_sCont, u_sSeq, u_sIf, u_sForget, u_sSetI, u_sSetL, u_sSetR, u_sInc, u_sRetV, u_sRetI, u_sRetL, u_sRetZB, u_sRetZC, u_sRetZV, u_sRetZS, u_sRetZL, u_sSw, u_sSwitch, pI_s, pL_s, pR_s, u_sPutI, u_sPutZ, u_sPutL, u_sPutR, u_sUpd, sI_s, sL_s, u_sAStN, u_sAStL, u_sAUpd, u_sAUpdL, u_body, u_env0, u_eAn, u_eAint, u_eAref, u_eAlong, kl_i, kl_r, kl_l, kl_n, kl_nn, u_set1_0, u_set2_0, u_s1_1, u_s2_1, u_s1_2, u_s2_2, u_s1_3, u_s2_3, u_s1_4, u_s2_4, u_s1_5, u_s2_5, u_s1_6, u_s2_6, u_s1_7, u_s2_7, u_s1_8, u_s2_8, u_s1_9, u_s2_9, u_s1_10, u_s2_10, u_s1_11, u_s2_11, u_s1_12, u_s2_12, u_s1_13, u_s2_13, u_s1_14, u_s2_14, ab0, ab1, u_sAStB, u_sAStZ, u_rcv, ocls_s, u_sCase, iteSX, u_rnd, loop_do, eN_s, u_iB, u_lB, sRetZ1, sRetZ0, va_up_at, Nat.add_left_cancel_iff, req_t, req_f, zeq_t, zeq_f, leq_t, leq_f, rne_t, rne_f, zne_t, zne_f, lne_t, lne_f, rlt_t, rlt_f, zlt_t, zlt_f, llt_t, llt_f, rge_t, rge_f, zge_t, zge_f, lge_t, lge_f, rgt_t, rgt_f, zgt_t, zgt_f, lgt_t, lgt_f, rle_t, rle_f, zle_t, zle_f, lle_t, lle_f, Bool.not_eq_true', Bool.not_true, Bool.not_false, Bool.true_eq_false, Bool.false_eq_true, List.getElem?_cons_zero, List.getElem?_cons_succ, List.getElem?_nil, List.set_cons_zero, List.set_cons_succ, List.cons_append, List.nil_append, List.replicate_succ, List.replicate_zero, List.length_cons, List.length_nil, List.length_append, List.length_replicate, List.take_succ_cons, List.take_zero, reduceIte, reduceCtorEq, Nat.reduceEqDiff, Nat.reduceAdd, Nat.reduceSub, Nat.reduceMul, Nat.reduceLeDiff, Nat.reduceLT, and_true, true_and, if_true, if_false, Nat.zero_add, Nat.add_zero, List.append_nil, not_true_eq_false, not_false_eq_true, and_false, false_and, or_true, true_or, or_false, false_or, ne_eq, Classical.not_not, g0]
    simp (disch := omega) only [nI_lit, nI_add, pk_mul, nI_eq, nI_leI, nI_ltI, nI_clamp, nI_nn, nI_neg, vp_inT, pk_sub, jshrN, jshlN, nI_and, nI_or, nI_addmo, nI_moE, nI_mtE, nI_mo, nI_mt, mo_nI, mo_lt, lt_mo, mo_le, le_mo, true_or, or_true, or_false, false_or, or_self, Nat.zero_le, Nat.not_lt_zero, not_true_eq_false, not_false_eq_true, dec_T, dec_F, false_and, and_false, and_self, Bool.not_true, Bool.not_false, List.getElem?_cons_zero, List.getElem?_cons_succ, List.getElem?_nil, List.set_cons_zero, List.set_cons_succ, List.cons_append, List.nil_append, List.replicate, List.length_cons, List.length_nil, List.length_append, List.length_replicate, List.take, reduceIte, reduceCtorEq, Nat.reduceEqDiff, Nat.reduceAdd, Nat.reduceSub, Nat.reduceMul, Nat.reduceLeDiff, and_true, true_and, if_true, if_false, Bool.false_eq_true, Nat.zero_add, Nat.add_zero, List.append_nil, Option.some.injEq, Nat.lt_irrefl, z1, cI_s, cL0_s, cR_s, vI_s, vL_s, vR_s, u_iLoc, u_lLoc, u_rLoc, u_iK, u_lK, u_iBg, u_lBg, u_lBI, u_gT, u_gTL, u_gNZ, u_gNZL, u_iNeg, u_iOfL, u_lOfI, u_iByte, fI_s, u_iGet, fL_s, u_lGet, fR_s, u_rGet, eI_s, eL_s, u_iALd, u_bALd, u_zALd, u_lALd, u_iLen, u_iResLen, u_lRes, u_cB, u_cZ, u_cL, u_cAnd, u_cOr, u_cNot, u_cK, u_iCond, u_lCond, u_iBool, u_aNil, u_aI, u_aL, u_aR, rI_s, rL_s, rN_s, u_iCallV, u_lCallV, u_iCallS, u_lCallS, u_sCallV, u_sCallS, u_sSkip, u_sBreak, u_sCont, u_sSeq, u_sIf, u_sForget, u_sSetI, u_sSetL, u_sSetR, u_sInc, u_sRetV, u_sRetI, u_sRetL, u_sRetZB, u_sRetZC, u_sRetZV, u_sRetZS, u_sRetZL, u_sSw, u_sSwitch, pI_s, pL_s, pR_s, u_sPutI, u_sPutZ, u_sPutL, u_sPutR, u_sUpd, sI_s, sL_s, u_sAStN, u_sAStL, u_sAUpd, u_sAUpdL, u_body, u_env0, u_eAn, u_eAint, u_eAref, u_eAlong, kl_i, kl_r, kl_l, kl_n, kl_nn, u_set1_0, u_set2_0, u_s1_1, u_s2_1, u_s1_2, u_s2_2, u_s1_3, u_s2_3, u_s1_4, u_s2_4, u_s1_5, u_s2_5, u_s1_6, u_s2_6, u_s1_7, u_s2_7, u_s1_8, u_s2_8, u_s1_9, u_s2_9, u_s1_10, u_s2_10, u_s1_11, u_s2_11, u_s1_12, u_s2_12, u_s1_13, u_s2_13, u_s1_14, u_s2_14, ab0, ab1, u_sAStB, u_sAStZ, u_rcv, ocls_s, u_sCase, iteSX, u_rnd, loop_do, eN_s, u_iB, u_lB, sRetZ1, sRetZ0, va_up_at, Nat.add_left_cancel_iff, req_t, req_f, zeq_t, zeq_f, leq_t, leq_f, rne_t, rne_f, zne_t, zne_f, lne_t, lne_f, rlt_t, rlt_f, zlt_t, zlt_f, llt_t, llt_f, rge_t, rge_f, zge_t, zge_f, lge_t, lge_f, rgt_t, rgt_f, zgt_t, zgt_f, lgt_t, lgt_f, rle_t, rle_f, zle_t, zle_f, lle_t, lle_f, Bool.not_eq_true', Bool.not_true, Bool.not_false, Bool.true_eq_false, Bool.false_eq_true, List.getElem?_cons_zero, List.getElem?_cons_succ, List.getElem?_nil, List.set_cons_zero, List.set_cons_succ, List.cons_append, List.nil_append, List.replicate_succ, List.replicate_zero, List.length_cons, List.length_nil, List.length_append, List.length_replicate, List.take_succ_cons, List.take_zero, reduceIte, reduceCtorEq, Nat.reduceEqDiff, Nat.reduceAdd, Nat.reduceSub, Nat.reduceMul, Nat.reduceLeDiff, Nat.reduceLT, and_true, true_and, if_true, if_false, Nat.zero_add, Nat.add_zero, List.append_nil, not_true_eq_false, not_false_eq_true, and_false, false_and, or_true, true_or, or_false, false_or, ne_eq, Classical.not_not, g0, s_numberAt g0 q73 z1 hlen, c3, s_setTally g0 e1 c2]
    have fo : ∀ c, c ≠ 74 → (va_up h3 74 (.inl (0, 6188, .inl (upd (ia h3 74) (cnum L) (nI 1))))) c = h c := fun c hc => by rw [va_up_o hc]; exact e2 c hc
    refine kk _ (WE_t hw (by rw [ia_up, va_up_s]) (fun c c1 _ _ _ _ => fo c c1) (HL_fr hh fun c c1 c2 => fo c (by omega))) (fun c c1 _ _ _ _ => fo c c1) fun c hc => ?_
    rw [ia_up, upd_at]
    by_cases q : c = L
    · rw [if_pos (by rw [q]), if_pos q]
    · rw [if_neg (fun z => q (cnum_inj ((hm c).mp hc).1 hL hn z)), if_neg q]
      obtain ⟨u, hu, e⟩ := List.mem_iff_getElem.mp hc
      have := e3 u hu
      rwa [show oa O u = c by simp [oa, hu, e]] at this
theorem s_addRows {x y : Nat} (hx : x ≤ CAP) (hy : y ≤ CAP) : mX10_addRows [.int (nI x), .int (nI y)] h R = R (some (.int (nI (sat (x + y))))) h := by
  have h1 : CAP = 2000000000 := rfl
  simp only [mX10_addRows, cI_s, cL0_s, cR_s, vI_s, vL_s, vR_s, u_iLoc, u_lLoc, u_rLoc, u_iK, u_lK, u_iBg, u_lBg, u_lBI, u_gT, u_gTL, u_gNZ, u_gNZL, u_iNeg, u_iOfL, u_lOfI, u_iByte, fI_s, u_iGet, fL_s, u_lGet, fR_s, u_rGet, eI_s, eL_s, u_iALd, u_bALd, u_zALd, u_lALd, u_iLen, u_iResLen, u_lRes, u_cB, u_cZ, u_cL, u_cAnd, u_cOr, u_cNot, u_cK, u_iCond, u_lCond, u_iBool, u_aNil, u_aI, u_aL, u_aR, rI_s, rL_s, rN_s, u_iCallV, u_lCallV, u_iCallS, u_lCallS, u_sCallV, u_sCallS, u_sSkip, u_sBreak, u_sCont, u_sSeq, u_sIf, u_sForget, u_sSetI, u_sSetL, u_sSetR, u_sInc, u_sRetV, u_sRetI, u_sRetL, u_sRetZB, u_sRetZC, u_sRetZV, u_sRetZS, u_sRetZL, u_sSw, u_sSwitch, pI_s, pL_s, pR_s, u_sPutI, u_sPutZ, u_sPutL, u_sPutR, u_sUpd, sI_s, sL_s, u_sAStN, u_sAStL, u_sAUpd, u_sAUpdL, u_body, u_env0, u_eAn, u_eAint, u_eAref, u_eAlong, kl_i, kl_r, kl_l, kl_n, kl_nn, u_set1_0, u_set2_0, u_s1_1, u_s2_1, u_s1_2, u_s2_2, u_s1_3, u_s2_3, u_s1_4, u_s2_4, u_s1_5, u_s2_5, u_s1_6, u_s2_6, u_s1_7, u_s2_7, u_s1_8, u_s2_8, u_s1_9, u_s2_9, u_s1_10, u_s2_10, u_s1_11, u_s2_11, u_s1_12, u_s2_12, u_s1_13, u_s2_13, u_s1_14, u_s2_14, ab0, ab1, u_sAStB, u_sAStZ, u_rcv, ocls_s, u_sCase, iteSX, u_rnd, loop_do, eN_s, u_iB, u_lB, sRetZ1, sRetZ0, va_up_at, Nat.add_left_cancel_iff, req_t, req_f, zeq_t, zeq_f, leq_t, leq_f, rne_t, rne_f, zne_t, zne_f, lne_t, lne_f, rlt_t, rlt_f, zlt_t, zlt_f, llt_t, llt_f, rge_t, rge_f, zge_t, zge_f, lge_t, lge_f, rgt_t, rgt_f, zgt_t, zgt_f, lgt_t, lgt_f, rle_t, rle_f, zle_t, zle_f, lle_t, lle_f, Bool.not_eq_true', Bool.not_true, Bool.not_false, Bool.true_eq_false, Bool.false_eq_true, List.getElem?_cons_zero, List.getElem?_cons_succ, List.getElem?_nil, List.set_cons_zero, List.set_cons_succ, List.cons_append, List.nil_append, List.replicate_succ, List.replicate_zero, List.length_cons, List.length_nil, List.length_append, List.length_replicate, List.take_succ_cons, List.take_zero, reduceIte, reduceCtorEq, Nat.reduceEqDiff, Nat.reduceAdd, Nat.reduceSub, Nat.reduceMul, Nat.reduceLeDiff, Nat.reduceLT, and_true, true_and, if_true, if_false, Nat.zero_add, Nat.add_zero, List.append_nil, not_true_eq_false, not_false_eq_true, and_false, false_and, or_true, true_or, or_false, false_or, ne_eq, Classical.not_not]
  simp (disch := omega) only [nI_lit, nI_add, pk_mul, nI_eq, nI_leI, nI_ltI, nI_clamp, nI_nn, nI_neg, vp_inT, pk_sub, jshrN, jshlN, nI_and, nI_or, nI_addmo, nI_moE, nI_mtE, nI_mo, nI_mt, mo_nI, mo_lt, lt_mo, mo_le, le_mo, lN_lit, lN_add, lN_mul, pk_lEQ, pk_lLT, pk_lLE, lN_and, lN_or, jlshlN, jlshrN, lN_i, nI_l, jlmin]
  unfold sat
  rw [h1]
  by_cases q : 2000000000 < x + y
  · simp (disch := omega) only [pk_lLT, q, if_true, lN_i, Nat.min_eq_right (show 2000000000 ≤ x + y by omega)]
  · simp (disch := omega) only [pk_lLT, q, if_false, lN_i, Nat.min_eq_left (show x + y ≤ 2000000000 by omega)]
end
