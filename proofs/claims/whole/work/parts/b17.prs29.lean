set_option maxRecDepth 20000
set_option maxHeartbeats 4000000
set_option linter.all false
/-! a trip told: as such; the reference reads it -/
section
variable (T : List Nat) (K : HK)
def isT (i : Nat) : Bool := decide ((tok T i).1 = 1 ∧ 5 ≤ wix (tok T i).2.1 ∧ wix (tok T i).2.1 < 8)
def tl1 (s : RF) : RF × Nat := oT T (Ks K) (Kn K) (fun _ => false) (s.1 + 1, s.2)
def tl2 (s : RF) : RF × Nat := if wix (tok T s.1).2.1 = 5 then oT T (Ks K) (Kn K) (fun v => decide (v = (tl1 T K s).2)) (tl1 T K s).1 else ((tl1 T K s).1, 0)
def tlL (s : RF) : LN := (wix (tok T s.1).2.1 - 5, (tl1 T K s).2, (tl2 T K s).2)
def pTl (x : RF × List LN) : RF × List LN := if isT T x.1.1 = false then ((x.1.1, pwr T x.1.1 x.1.2 1), x.2) else if x.2.length = 40 then ((x.1.1, pwr T x.1.1 x.1.2 5), x.2) else (oS T 59 (tl2 T K x.1).1, x.2 ++ [tlL T K x.1])
def pTp : Nat → RF × List LN → RF × List LN
  | 0, x => x
  | k + 1, x => if lnB T x.1 = true then pTp k (pTl T K x) else x
def pTrip : RF × List LN := pTp T K 1001 ((0, 0), [])
end
theorem pTp_stop {T : List Nat} {K : HK} {x : RF × List LN} (h : ¬ lnB T x.1 = true) : ∀ k, pTp T K k x = x
  | 0 => rfl
  | k + 1 => if_neg h
section
variable {T : List Nat} {n : Nat} {K : HK}
theorem tl2_p (ht : TOK T n) {s : RF} : STP n (tl1 T K s).1 (tl2 T K s).1 ∨ (tl2 T K s).1 = (tl1 T K s).1 := by
  unfold tl2
  split
  · exact Or.inl (oT_p ht.1 _)
  · exact Or.inr rfl
theorem tl_b (ht : TOK T n) {s : RF} (hs : s.1 < n) (hf : s.2 < 2 ^ 31) : (tl1 T K s).1.1 ≤ n ∧ (tl1 T K s).1.2 < 2 ^ 31 ∧ s.1 < (tl1 T K s).1.1 ∧ (tl2 T K s).1.1 ≤ n ∧ (tl2 T K s).1.2 < 2 ^ 31 ∧ s.1 < (tl2 T K s).1.1 ∧ ((tl2 T K s).1.2 = 0 → (tl1 T K s).1.2 = 0) := by
  have p1 := oT_p (nm := Ks K) (k := Kn K) (bt := fun _ => false) ht.1 (s.1 + 1, s.2)
  obtain ⟨a1, a2, a3, _⟩ := p1 hs hf
  have a3 : s.1 + 1 ≤ (tl1 T K s).1.1 := a3
  rcases tl2_p (K := K) ht (s := s) with q | q
  · obtain ⟨b1, b2, b3, _⟩ := q a1 a2
    have b3 : (tl1 T K s).1.1 ≤ (tl2 T K s).1.1 := b3
    exact ⟨a1, a2, by omega, b1, b2, by omega, fun z => (q.z a1 a2 z).1⟩
  · rw [q]
    exact ⟨a1, a2, by omega, a1, a2, by omega, id⟩
theorem tlL_ok (ht : TOK T n) {s : RF} (hi : isT T s.1 = true) (hz : (tl2 T K s).1.2 = 0) (h1 : (tl1 T K s).1.2 = 0) : lnOK (Kn K) (tlL T K s) := by
  have hi := of_decide_eq_true hi
  have v1 : (tl1 T K s).2 < Kn K := (oT_v h1).1
  refine ⟨by show wix (tok T s.1).2.1 - 5 < 3; omega, v1, ?_⟩
  show (tl2 T K s).2 < Kn K
  unfold tl2 at hz ⊢
  by_cases q : wix (tok T s.1).2.1 = 5
  · rw [if_pos q] at hz ⊢; exact (oT_v hz).1
  · rw [if_neg q]; show 0 < Kn K; omega
theorem pTl_p (ht : TOK T n) {x : RF × List LN} (hs : x.1.1 < n) (hf : x.1.2 = 0) (hL : x.2.length ≤ 40 ∧ ∀ t, t ∈ x.2 → lnOK (Kn K) t) : (pTl T K x).1.1 ≤ n ∧ (pTl T K x).1.2 < 2 ^ 31 ∧ ((pTl T K x).1.2 = 0 → x.1.1 < (pTl T K x).1.1 ∧ (pTl T K x).2.length ≤ 40 ∧ ∀ t, t ∈ (pTl T K x).2 → lnOK (Kn K) t) := by
  unfold pTl
  by_cases q : isT T x.1.1 = false
  · rw [if_pos q]
    have hp := pwr_p (i := x.1.1) (f := x.1.2) (w := 1) ht.1 (by omega) (by omega)
    exact ⟨by dsimp only; omega, hp.1, fun z => absurd z hp.2.1⟩
  · rw [if_neg q]
    by_cases q2 : x.2.length = 40
    · rw [if_pos q2]
      have hp := pwr_p (i := x.1.1) (f := x.1.2) (w := 5) ht.1 (by omega) (by omega)
      exact ⟨by dsimp only; omega, hp.1, fun z => absurd z hp.2.1⟩
    · rw [if_neg q2]
      obtain ⟨c1, c2, c3, c4, c5, c6, c7⟩ := tl_b (K := K) ht hs (show x.1.2 < 2 ^ 31 by omega)
      have p5 := oS_p ht.1 59 (tl2 T K x.1).1
      obtain ⟨e1, e2, e3, _⟩ := p5 c4 c5
      refine ⟨e1, e2, fun z => ?_⟩
      obtain ⟨z2, l5⟩ := p5.z c4 c5 z
      have e3 : (tl2 T K x.1).1.1 ≤ (oS T 59 (tl2 T K x.1).1).1 := e3
      refine ⟨by dsimp only; omega, by dsimp only; rw [List.length_append]; simp only [List.length_cons, List.length_nil]; omega, fun t hm => ?_⟩
      rcases List.mem_append.mp hm with y | y
      · exact hL.2 t y
      · rw [List.mem_singleton.mp y]; exact tlL_ok ht ((Bool.not_eq_false _).mp q) z2 (c7 z2)
theorem pTp_ok (ht : TOK T n) : ∀ k (x : RF × List LN), x.1.1 ≤ n → x.1.2 < 2 ^ 31 → (x.1.2 = 0 → x.2.length ≤ 40 ∧ ∀ t, t ∈ x.2 → lnOK (Kn K) t) → (pTp T K k x).1.2 < 2 ^ 31 ∧ ((pTp T K k x).1.2 = 0 → (pTp T K k x).2.length ≤ 40 ∧ ∀ t, t ∈ (pTp T K k x).2 → lnOK (Kn K) t)
  | 0, x, _, h2, h => ⟨h2, h⟩
  | k + 1, x, h1, h2, h => by
    by_cases q : lnB T x.1 = true
    · have hl' := of_decide_eq_true q
      have e : pTp T K (k + 1) x = pTp T K k (pTl T K x) := if_pos q
      rw [e]
      obtain ⟨p1, p2, p3⟩ := pTl_p (K := K) ht (ht.1.lt h1 hl'.2) hl'.1 (h hl'.1)
      exact pTp_ok ht k (pTl T K x) p1 p2 fun z => (p3 z).2
    · rw [pTp_stop q]; exact ⟨h2, h⟩
theorem pTrip_ok {T : List Nat} (hl : T.length ≤ 1000) (hx : ∀ x, x ∈ T → x = 10 ∨ 32 ≤ x ∧ x ≤ 126) : (pTrip T K).1.2 < 2 ^ 31 ∧ ((pTrip T K).1.2 = 0 → (pTrip T K).2.length ≤ 40 ∧ ∀ t, t ∈ (pTrip T K).2 → lnOK (Kn K) t) := by
  obtain ⟨n, hn⟩ := tend_ex hl
  exact pTp_ok ⟨hn, hx⟩ 1001 ((0, 0), []) (Nat.zero_le _) (by show (0 : Nat) < 2 ^ 31; omega) fun _ => ⟨Nat.zero_le _, fun t ht => by cases ht⟩
end
/-- lines that are being told, in the reference -/
def DLN (L : List LN) (h : HS) : Prop := ∀ k, k < L.length → ia h 86 (125 + 3 * k) = nI (lna L k).1 ∧ ia h 86 (126 + 3 * k) = nI (lna L k).2.1 ∧ ia h 86 (127 + 3 * k) = nI (lna L k).2.2
def MRT (T : List Nat) (n : Nat) (K : HK) (h0 : HS) (s : RF) (h : HS) : Prop := MRS T n s.1 s.2 h ∧ s.1 ≤ n ∧ s.2 < 2 ^ 31 ∧ (∃ th tp sz at' ft cd un ld g, h0 77 = mob th tp sz at' ft cd un ld g ∧ h 77 = mob th tp sz (nI s.1) (nI s.2) cd un ld g) ∧ Fy [77, 86] h0 h ∧ IA 0 250 h 86 ∧ (∀ j, j < 125 → ia h 86 j = ia h0 86 j) ∧ HM K h ∧ NOK (Ks K) (Kn K)
def tb6 : SX := sSeq (sASt 0 narI (rGet 12 14 (rLoc 0)) (iB gT2 (· + ·) (iLoc 3) (iK 2)) (iCond (cZ zeq (iLoc 2)) (iCallV 12 mX12_takeTold (aR (rLoc 0) (aI (iK 0) (aI (iCallV 12 mX12_huts (aR (rLoc 0) aNil)) (aI (iB gT2 jshl (iK 1) (iALd (rGet 12 14 (rLoc 0)) (iB gT2 (· + ·) (iLoc 3) (iK 1)))) aNil))))) (iK 0))) (sInc 1 1)
def tb5 : SX := sSeq (sASt 0 narI (rGet 12 14 (rLoc 0)) (iB gT2 (· + ·) (iLoc 3) (iK 1)) (iCallV 12 mX12_takeTold (aR (rLoc 0) (aI (iK 0) (aI (iCallV 12 mX12_huts (aR (rLoc 0) aNil)) (aI (iK 0) aNil)))))) tb6
def tb4 : SX := sSeq (sSetI 3 (iB gT2 (· + ·) (iK 125) (iB gT2 (· * ·) (iK 3) (iLoc 1)))) (sSeq (sASt 0 narI (rGet 12 14 (rLoc 0)) (iLoc 3) (iLoc 2)) tb5)
def tb3 : SX := sSeq (sUpd 12 7 gT2 (· + ·) (rLoc 0) (iK 1)) tb4
def tb2 : SX := (sIf (cZ zlt (iLoc 2)) (sCallV 12 mX12_wrong (aR (rLoc 0) (aI (iK 1) aNil))) (sIf (cB req (iLoc 1) (iK 40)) (sCallV 12 mX12_wrong (aR (rLoc 0) (aI (iK 5) aNil))) tb3))
def tb0 : SX := sSeq (sSetI 2 (iCallV 12 mX12_wordHere (aR (rLoc 0) (aI (iK 5) (aI (iK 3) aNil))))) (sSeq tb2 (sCallV 12 mX12_takeSign (aR (rLoc 0) (aI (iK 59) aNil))))
theorem trip1_eq : lX12_trip_1 = (sLoop (cAnd (cZ zeq (iGet 12 8 (rLoc 0))) (cZ zne (iALd (rGet 12 4 (rLoc 0)) (iGet 12 7 (rLoc 0))))) tb0 (sForget 2)) := rfl
section
variable {T : List Nat} {n : Nat} {K : HK} {h0 h h' : HS} {s : RF} {L : List LN} {R : Option Value → HS → Prop} {N B C : LE → HS → Prop}
theorem MRT.r (hq : MRT T n K h0 s h) : ocls (h 77) 12 = True := hq.1.r
theorem MRT.ho (hq : MRT T n K h0 s h) : MO h := by
  obtain ⟨_, _, _, ⟨th, tp, sz, at', ft, cd, un, ld, g, _, e⟩, _⟩ := hq
  exact ⟨_, _, _, _, _, _, _, _, _, e⟩
theorem MRT.mv (hq : MRT T n K h0 s h) {i f : Nat} (v : MV i f h h') (hi : i ≤ n) (hf : f < 2 ^ 31) : MRT T n K h0 (i, f) h' := by
  obtain ⟨a, b, c, ⟨th, tp, sz, at', ft, cd, un, ld, g, e1, e2⟩, f1, f2, f3, f4, f5⟩ := hq
  have hm := a.mv v
  obtain ⟨⟨th', tp', sz', at'', ft', cd', un', ld', g', r1, r2⟩, vf⟩ := v
  have q := e2.symm.trans r1
  simp only [mob, Sum.inr.injEq, Prod.mk.injEq, List.cons.injEq, Value.int.injEq, Value.long.injEq, true_and, and_true] at q
  obtain ⟨rfl, rfl, rfl, _, _, rfl, rfl, rfl, rfl⟩ := q
  have e86 : h' 86 = h 86 := vf 86 (by decide)
  exact ⟨hm, hi, hf, ⟨_, _, _, _, _, _, _, _, _, e1, r2⟩, f1.tr (vf.mono (by simp)), IA_fr e86 f2, by rw [ia_fr e86]; exact f3, HM_fr f4 fun c c1 c2 => vf c (by simp; omega), f5⟩
theorem MRT.put (hq : MRT T n K h0 s h) {j : Nat} {x : Int32} (hj : 125 ≤ j) (e86 : h' 86 = .inl (0, 250, .inl (upd (ia h 86) j x))) (eo : ∀ c, c ≠ 86 → h' c = h c) : MRT T n K h0 s h' := by
  obtain ⟨⟨t1, ⟨w1, w2⟩, o⟩, b, c, ⟨th, tp, sz, at', ft, cd, un, ld, g, e1, e2⟩, f1, f2, f3, f4, f5⟩ := hq
  obtain ⟨th', tp', sz', cd', un', ld', g', o⟩ := o
  refine ⟨⟨TKS_fr t1 fun c c1 c2 => eo c (by omega), ⟨LA_fr (eo 82 (by omega)) w1, by rw [la_fr (eo 82 (by omega))]; exact w2⟩, _, _, _, _, _, _, _, (eo 77 (by omega)).trans o⟩, b, c, ⟨_, _, _, _, _, _, _, _, _, e1, (eo 77 (by omega)).trans e2⟩, fun c hc => ?_, by rw [IA, ia_at e86]; exact e86, fun i hi => ?_, HM_fr f4 fun c c1 c2 => eo c (by omega), f5⟩
  · simp only [List.mem_cons, List.not_mem_nil, or_false, not_or] at hc
    rw [eo c hc.2]; exact f1 c (by simp [hc])
  · rw [ia_at e86, upd_at, if_neg (by omega)]; exact f3 i hi
theorem MRT.nm (hq : MRT T n K h0 s h) : NMR 0 (Kn K) (Ks K) h := by
  obtain ⟨_, _, _, _, _, _, _, hm, hN⟩ := hq
  have hn := hm.1.1
  refine ⟨hm.2.2.2.1, fun k hk => ?_, hN, by omega, by omega⟩
  rw [Nat.zero_add]; exact hm.2.2.2.2.2.2.2.2.2.2.2 k hk
theorem t_put (X : HS → Prop) {y : Nat} {x : Int32} (i86 : IA 0 250 h 86) (hy : y < 250) (kk : ∀ h', h' 86 = .inl (0, 250, .inl (upd (ia h 86) y x)) → (∀ c, c ≠ 86 → h' c = h c) → X h') : sI (h 86) 0 (nI y) x (fun e => X (va_up h 86 e)) := by
  rw [i86, sI_s]
  refine ⟨vp_in_nI hy (by omega), ?_⟩
  rw [nI_clamp (by omega)]
  exact kk _ (va_up_s _ _ _) fun z hz => va_up_o hz
end
