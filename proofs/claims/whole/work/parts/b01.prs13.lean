set_option maxRecDepth 20000
set_option maxHeartbeats 4000000
set_option linter.all false
/-! the reference reads a hut -/
theorem prs_filter (P : Nat × Nat → Bool) (n : Nat) (h : ∀ i j, (n ≤ i ∨ n ≤ j) → P (i, j) = false) : ∀ m, n ≤ m → (prs m).filter P = (prs n).filter P
  | m, hm => by
    have row : ∀ i k, n ≤ k → ((List.range k).map fun j => (i, j)).filter P = ((List.range n).map fun j => (i, j)).filter P := by
      intro i k hk
      induction k with
      | zero => rw [show n = 0 by omega]
      | succ k ih =>
        by_cases q : n = k + 1
        · rw [q]
        · rw [List.range_succ, List.map_append, List.filter_append, ih (by omega)]
          have : P (i, k) = false := h i k (by omega)
          simp [this]
    have col : ∀ k, n ≤ k → ((List.range k).flatMap fun i => ((List.range n).map fun j => (i, j)).filter P) = ((List.range n).flatMap fun i => ((List.range n).map fun j => (i, j)).filter P) := by
      intro k hk
      induction k with
      | zero => rw [show n = 0 by omega]
      | succ k ih =>
        by_cases q : n = k + 1
        · rw [q]
        · rw [List.range_succ, List.flatMap_append, ih (by omega)]
          have : ((List.range n).map fun j => (k, j)).filter P = [] := by
            rw [List.filter_eq_nil_iff]
            intro x hx
            obtain ⟨j, _, rfl⟩ := List.mem_map.mp hx
            rw [h k j (by omega)]; exact Bool.false_ne_true
          simp [this]
    unfold prs
    rw [List.filter_flatMap, List.filter_flatMap, ← col m hm]
    congr 1
    funext i
    exact row i m hm
theorem wl_5 {D : HK} (h : DOK D) : wl D = (prs 5).filter fun p => decide (Kt D p.1 p.2 ≠ 0) :=
  (prs_filter (fun p => decide (Kt D p.1 p.2 ≠ 0)) (Kn D) (fun i j hij => decide_eq_false fun z => z (h.2.2 i j hij)) 5 h.1.1).symm
theorem wl_addH {D : HK} (h : DOK D) {w : List Nat} {k l : Nat} (h' : DOK (addH D w k l)) : wl (addH D w k l) = wl D := by
  rw [wl_5 h, wl_5 h']; rfl
theorem wl_setW {D : HK} {w : List Nat} : wl (setW D w) = wl D := rfl
theorem fcnt_or {α : Type} [DecidableEq α] {P : α → Bool} {x : α} (hx : P x = false) : ∀ l : List α, (l.filter fun p => P p || decide (p = x)).length = (l.filter P).length + l.count x
  | [] => rfl
  | y :: l => by
    have ih := fcnt_or hx l
    by_cases q : y = x
    · subst q
      rw [List.filter_cons, List.filter_cons, hx, List.count_cons]
      simp only [decide_true, Bool.or_true, if_true, Bool.false_eq_true, if_false, List.length_cons, beq_self_eq_true, ih]
      omega
    · have e : (y == x) = false := by simpa using q
      rw [List.filter_cons, List.filter_cons, List.count_cons, e, decide_eq_false q, Bool.or_false]
      cases P y with
      | true => simp only [if_true, List.length_cons, ih, Bool.false_eq_true, if_false]; omega
      | false => simp only [Bool.false_eq_true, if_false, ih]; omega
theorem prs5_1 : ∀ a, a < 5 → ∀ b, b < 5 → @List.count (Nat × Nat) instBEqOfDecidableEq (a, b) (prs 5) = 1 := by decide +kernel
theorem wl_addP {D : HK} (h : DOK D) {a b t : Nat} (ha : a < Kn D) (hb : b < Kn D) (hab : b ≠ a) (h0 : Kt D a b = 0) (ht : t ≠ 0) (h' : DOK (addP D a b t)) : (wl (addP D a b t)).length = (wl D).length + 2 := by
  have h5 := h.1.1
  have hs := h.1.2.2.1 a b ha hb
  have e : (fun p : Nat × Nat => decide (Kt (addP D a b t) p.1 p.2 ≠ 0)) = (fun p => (decide (Kt D p.1 p.2 ≠ 0) || decide (p = (a, b))) || decide (p = (b, a))) := by
    funext p
    obtain ⟨i, j⟩ := p
    show decide ((if (i = a ∧ j = b) ∨ (i = b ∧ j = a) then t else Kt D i j) ≠ 0) = _
    by_cases q1 : i = a ∧ j = b
    · rw [if_pos (Or.inl q1), decide_eq_true ht, decide_eq_true (show ((i, j) = (a, b)) by rw [q1.1, q1.2]), Bool.or_true, Bool.true_or]
    · by_cases q2 : i = b ∧ j = a
      · rw [if_pos (Or.inr q2), decide_eq_true ht, decide_eq_true (show ((i, j) = (b, a)) by rw [q2.1, q2.2]), Bool.or_true]
      · rw [if_neg (by omega), decide_eq_false (show ¬ ((i, j) = (a, b)) by rw [Prod.mk.injEq]; exact q1), decide_eq_false (show ¬ ((i, j) = (b, a)) by rw [Prod.mk.injEq]; exact q2), Bool.or_false, Bool.or_false]
  rw [wl_5 h, wl_5 h', e, fcnt_or (P := fun p => decide (Kt D p.1 p.2 ≠ 0) || decide (p = (a, b))) (x := (b, a)), fcnt_or (P := fun p => decide (Kt D p.1 p.2 ≠ 0)) (x := (a, b)), prs5_1 a (by omega) b (by omega), prs5_1 b (by omega) a (by omega)]
  · show decide (Kt D a b ≠ 0) = false
    rw [h0]; rfl
  · show (decide (Kt D b a ≠ 0) || decide ((b, a) = (a, b))) = false
    rw [← hs, h0, decide_eq_false (show ¬ ((b, a) = (a, b)) by rw [Prod.mk.injEq]; exact fun z => hab z.1)]; rfl
/-- what has changed since the reading began -/
def MFR (h0 h : HS) : Prop := (∃ th tp sz at' ft cd at2 ft2 cd2 un ld g, h0 77 = mob th tp sz at' ft cd un ld g ∧ h 77 = mob th tp sz at2 ft2 cd2 un ld g) ∧ Fy [77, 83, 84, 85] h0 h ∧ IA 0 80 h 83 ∧ IA 0 2200 h 84 ∧ LA 10 h 85 ∧ (∀ j, j < 40 → ia h 83 j = ia h0 83 j) ∧ (∀ j, j < 1100 → ia h 84 j = ia h0 84 j) ∧ ∀ j, j < 5 → la h 85 j = la h0 85 j
def MRX (T : List Nat) (n : Nat) (h0 : HS) (s : RF) (h : HS) : Prop := MRS T n s.1 s.2 h ∧ s.1 ≤ n ∧ s.2 < 2 ^ 31 ∧ MFR h0 h
/-- hills that are being told, in the reference -/
def DMR (D : HK) (h : HS) : Prop := (∃ th tp sz at' ft un ld g, h 77 = mob th tp sz at' ft (nI (if Kw D = [] then 0 else (Kw D).length + 1)) un ld g) ∧ ia h 83 40 = nI (Kn D) ∧ (∃ q, ia h 83 41 = nI q ∧ 2 * q = (wl D).length) ∧ ia h 83 42 = (if Kw D = [] then mo else nI 0) ∧
  (∀ i, i < Kn D → ia h 83 (43 + 2 * i) = nI (Kk D i) ∧ ia h 83 (44 + 2 * i) = nI (lg (Kl D) i)) ∧ (∀ i j, i < 5 → j < 5 → ia h 83 (53 + 5 * i + j) = nI (Kt D i j)) ∧
  (∀ t, t < (Kw D).length → ia h 84 (1100 + t) = nI ((Kw D).getD t 0)) ∧ (Kw D ≠ [] → ia h 84 (1100 + (Kw D).length) = nI 0) ∧ ∀ i, i < Kn D → la h 85 (5 + i) = lN (r37 (Ks D i))
def rhS : SX := (sIf (cZ zeq (iGet 12 8 (rLoc 0))) (sSeq (sASt 0 narI (rGet 12 10 (rLoc 0)) (iB gT2 (· + ·) (iK 43) (iB gT2 (· * ·) (iK 2) (iLoc 1))) (iLoc 2)) (sSeq (sASt 0 narI (rGet 12 10 (rLoc 0)) (iB gT2 (· + ·) (iB gT2 (· + ·) (iK 43) (iB gT2 (· * ·) (iK 2) (iLoc 1))) (iK 1)) (iLoc 4)) (sAUpd gT2 (· + ·) (rGet 12 10 (rLoc 0)) (iK 40) (iK 1)))) sSkip)
def rhD : SX := (sSeq (sSetI 4 (iCallV 12 mX12_takeAfter (aR (rLoc 0) (aI (iK 1) (aI (iK 0) (aI (iCond (cAnd (cB req (iLoc 2) (iK 3)) (cB rgt (iLoc 3) (iK 3))) (iK 3) (iLoc 3)) aNil)))))) rhS)
def rhC2 : SX := (sSeq (sSetI 3 (iK 12)) (sSeq (sSeq (sSeq (sSetI 4 (iK 0)) lX12_readHut_1) (sForget 4)) rhD))
def rhC : SX := (sSeq (sSetI 2 (iCallV 12 mX12_takeOne (aR (rLoc 0) (aI (iK 8) (aI (iK 4) aNil))))) rhC2)
def rhB2 : SX := (sSeq (sAStL (rGet 12 13 (rLoc 0)) (iB gT2 (· + ·) (iK 5) (iLoc 1)) (lALd (rGet 12 6 (rLoc 0)) (iGet 12 7 (rLoc 0)))) (sSeq (sUpd 12 7 gT2 (· + ·) (rLoc 0) (iK 1)) rhC))
def rhB : SX := (sSeq (sIf (cZ zgt (iGet 12 8 (rLoc 0))) sRetV sSkip) rhB2)
def rhA : SX := (sSeq (sIf (cNot (cZ zne (iCallV 12 mX12_isName (aR (rLoc 0) aNil)))) (sCallV 12 mX12_wrong (aR (rLoc 0) (aI (iK 1) aNil))) (sIf (cZ zge (iCallV 12 mX12_nameAt (aR (rLoc 0) (aI (iK 5) (aI (iLoc 1) aNil))))) (sCallV 12 mX12_wrong (aR (rLoc 0) (aI (iK 3) aNil))) sSkip)) rhB)
def rhU : SX := (sSeq (sUpd 12 7 gT2 (· + ·) (rLoc 0) (iK 1)) rhA)
theorem rh_eq : mX12_readHut = bodyOf 5 (sSeq (sSeq (sSetI 1 (iALd (rGet 12 10 (rLoc 0)) (iK 40))) (sSeq (sIf (cB req (iLoc 1) (iK 5)) (sSeq (sCallV 12 mX12_wrong (aR (rLoc 0) (aI (iK 5) aNil))) sRetV) sSkip) rhU)) sRetV) := rfl
section
variable {T : List Nat} {n : Nat} {h0 h h' : HS} {s : RF} {D : HK} {R : Option Value → HS → Prop} {N B C : LE → HS → Prop}
theorem MRX.r (hq : MRX T n h0 s h) : ocls (h 77) 12 = True := hq.1.r
theorem MRX.mv (hq : MRX T n h0 s h) {i f : Nat} (v : MV i f h h') (hi : i ≤ n) (hf : f < 2 ^ 31) : MRX T n h0 (i, f) h' := by
  obtain ⟨a, b, c, ⟨th, tp, sz, at', ft, cd, at2, ft2, cd2, un, ld, g, e1, e2⟩, f1, f2, f3, f4, f5, f6, f7⟩ := hq
  have hm := a.mv v
  obtain ⟨⟨th', tp', sz', at'', ft', cd', un', ld', g', r1, r2⟩, vf⟩ := v
  have q := e2.symm.trans r1
  simp only [mob, Sum.inr.injEq, Prod.mk.injEq, List.cons.injEq, Value.int.injEq, Value.long.injEq, true_and, and_true] at q
  obtain ⟨rfl, rfl, rfl, _, _, rfl, rfl, rfl, rfl⟩ := q
  have e83 : h' 83 = h 83 := vf 83 (by decide)
  have e84 : h' 84 = h 84 := vf 84 (by decide)
  have e85 : h' 85 = h 85 := vf 85 (by decide)
  refine ⟨hm, hi, hf, ⟨_, _, _, _, _, _, _, _, _, _, _, _, e1, r2⟩, f1.tr (vf.mono (by simp)), IA_fr e83 f2, IA_fr e84 f3, LA_fr e85 f4, ?_, ?_, ?_⟩
  · rw [ia_fr e83]; exact f5
  · rw [ia_fr e84]; exact f6
  · rw [la_fr e85]; exact f7
theorem DMR.mv (hd : DMR D h) {i f : Nat} (v : MV i f h h') : DMR D h' := by
  obtain ⟨⟨th, tp, sz, at', ft, un, ld, g, e2⟩, d⟩ := hd
  obtain ⟨⟨th', tp', sz', at'', ft', cd', un', ld', g', r1, r2⟩, vf⟩ := v
  have q := e2.symm.trans r1
  simp only [mob, Sum.inr.injEq, Prod.mk.injEq, List.cons.injEq, Value.int.injEq, Value.long.injEq, true_and, and_true] at q
  obtain ⟨rfl, rfl, rfl, _, _, rfl, rfl, rfl, rfl⟩ := q
  refine ⟨⟨_, _, _, _, _, _, _, _, r2⟩, ?_⟩
  rw [ia_fr (vf 83 (by decide)), ia_fr (vf 84 (by decide)), la_fr (vf 85 (by decide))]
  exact d
theorem MRX.ob (hq : MRX T n h0 s h) : ∃ th tp sz cd un ld g, h 77 = mob th tp sz (nI s.1) (nI s.2) cd un ld g := by
  obtain ⟨⟨_, _, th, tp, sz, cd, un, ld, g, e⟩, _⟩ := hq
  exact ⟨_, _, _, _, _, _, _, e⟩
/-- one token gone over -/
theorem x_inc (ht : TOK T n) (hq : MRX T n h0 s h) (hlt : s.1 < n) {env : LE} (he : env[0]? = some (some (.ref 77))) (kk : ∀ h', MRX T n h0 (s.1 + 1, s.2) h' → MV (s.1 + 1) s.2 h h' → N env h') : (sUpd 12 7 gT2 (· + ·) (rLoc 0) (iK 1)) env h N B C R := by
  have h1000 := ht.1.2.2.1
  obtain ⟨th, tp, sz, cd, un, ld, g, e2⟩ := hq.ob
  have em := e2
  rw [mob] at em
  simp (disch := omega) only [cI_s, cL0_s, cR_s, vI_s, vL_s, vR_s, u_iLoc, u_lLoc, u_rLoc, u_iK, u_lK, u_iBg, u_lBg, u_lBI, u_gT, u_gTL, u_gNZ, u_gNZL, u_iNeg, u_iOfL, u_lOfI, u_iByte, fI_s, u_iGet, fL_s, u_lGet, fR_s, u_rGet, eI_s, eL_s, u_iALd, u_bALd, u_zALd, u_lALd, u_iLen, u_iResLen, u_lRes, u_cB, u_cZ, u_cL, u_cAnd, u_cOr, u_cNot, u_cK, u_iCond, u_lCond, u_iBool, u_aNil, u_aI, u_aL, u_aR, rI_s, rL_s, rN_s, u_iCallV, u_lCallV, u_iCallS, u_lCallS, u_sCallV, u_sCallS, u_sSkip, u_sBreak, u_sCont, u_sSeq, u_sIf, u_sForget, u_sSetI, u_sSetL, u_sSetR, u_sInc, u_sRetV, u_sRetI, u_sRetL, u_sRetZB, u_sRetZC, u_sRetZV, u_sRetZS, u_sRetZL, u_sSw, u_sSwitch, pI_s, pL_s, pR_s, u_sPutI, u_sPutZ, u_sPutL, u_sPutR, u_sUpd, sI_s, sL_s, u_sAStN, u_sAStL, u_sAUpd, u_sAUpdL, u_body, u_env0, u_eAn, u_eAint, u_eAref, u_eAlong, kl_i, kl_r, kl_l, kl_n, kl_nn, u_set1_0, u_set2_0, u_s1_1, u_s2_1, u_s1_2, u_s2_2, u_s1_3, u_s2_3, u_s1_4, u_s2_4, u_s1_5, u_s2_5, u_s1_6, u_s2_6, u_s1_7, u_s2_7, u_s1_8, u_s2_8, u_s1_9, u_s2_9, u_s1_10, u_s2_10, u_s1_11, u_s2_11, u_s1_12, u_s2_12, u_s1_13, u_s2_13, u_s1_14, u_s2_14, ab0, ab1, u_sAStB, u_sAStZ, u_rcv, ocls_s, u_sCase, iteSX, u_rnd, loop_do, eN_s, u_iB, u_lB, sRetZ1, sRetZ0, va_up_at, Nat.add_left_cancel_iff, req_t, req_f, zeq_t, zeq_f, leq_t, leq_f, rne_t, rne_f, zne_t, zne_f, lne_t, lne_f, rlt_t, rlt_f, zlt_t, zlt_f, llt_t, llt_f, rge_t, rge_f, zge_t, zge_f, lge_t, lge_f, rgt_t, rgt_f, zgt_t, zgt_f, lgt_t, lgt_f, rle_t, rle_f, zle_t, zle_f, lle_t, lle_f, Bool.not_eq_true', Bool.not_true, Bool.not_false, Bool.true_eq_false, Bool.false_eq_true, List.getElem?_cons_zero, List.getElem?_cons_succ, List.getElem?_nil, List.set_cons_zero, List.set_cons_succ, List.cons_append, List.nil_append, List.replicate_succ, List.replicate_zero, List.length_cons, List.length_nil, List.length_append, List.length_replicate, List.take_succ_cons, List.take_zero, reduceIte, reduceCtorEq, Nat.reduceEqDiff, Nat.reduceAdd, Nat.reduceSub, Nat.reduceMul, Nat.reduceLeDiff, Nat.reduceLT, and_true, true_and, if_true, if_false, Nat.zero_add, Nat.add_zero, List.append_nil, not_true_eq_false, not_false_eq_true, and_false, false_and, or_true, true_or, or_false, false_or, ne_eq, Classical.not_not, he, em, nI_lit, nI_add, pk_mul, nI_eq, nI_leI, nI_ltI, nI_clamp, nI_nn, nI_neg, vp_inT, pk_sub, jshrN, jshlN, nI_and, nI_or, nI_addmo, nI_moE, nI_mtE, nI_mo, nI_mt, mo_nI, mo_lt, lt_mo, mo_le, le_mo]
  have v : MV (s.1 + 1) s.2 h (va_up h 77 (mob th tp sz (nI (s.1 + 1)) (nI s.2) cd un ld g)) := ⟨⟨_, _, _, _, _, _, _, _, _, e2, va_up_s _ _ _⟩, Fy.rf.up (by simp)⟩
  exact kk _ (hq.mv v hlt hq.2.2.1) v
end
