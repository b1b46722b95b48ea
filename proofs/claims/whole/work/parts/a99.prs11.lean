set_option maxRecDepth 20000
set_option maxHeartbeats 4000000
set_option linter.all false
/-! hills told: as such -/
def addH (D : HK) (w : List Nat) (k l : Nat) : HK := (Kn D + 1, fun i => if i = Kn D then k else Kk D i, Kt D, Kl D ++ [l], fun i => if i = Kn D then w else Ks D i, Kw D)
def addP (D : HK) (a b t : Nat) : HK := (Kn D, Kk D, fun i j => if (i = a ∧ j = b) ∨ (i = b ∧ j = a) then t else Kt D i j, Kl D, Ks D, Kw D)
def setW (D : HK) (w : List Nat) : HK := (Kn D, Kk D, Kt D, Kl D, Ks D, w)
def D0 : HK := (0, fun _ => 0, fun _ _ => 0, [], fun _ => [], [])
def DOK (D : HK) : Prop := KWF D ∧ NOK (Ks D) (Kn D) ∧ ∀ i j, (Kn D ≤ i ∨ Kn D ≤ j) → Kt D i j = 0
theorem D0_ok : DOK D0 := by
  refine ⟨⟨by decide, fun i hi => absurd hi (Nat.not_lt_zero i), fun i j hi => absurd hi (Nat.not_lt_zero i), fun i hi => absurd hi (Nat.not_lt_zero i), fun i j hi => absurd hi (Nat.not_lt_zero i), ⟨rfl, by decide⟩, Or.inl rfl, fun t ht => absurd ht (by intro z; cases z), by decide, rfl⟩, ⟨fun i hi => absurd hi (Nat.not_lt_zero i), fun i j hi => absurd hi (Nat.not_lt_zero i)⟩, fun i j _ => rfl⟩
theorem lg_app {L : List Nat} {l i : Nat} : lg (L ++ [l]) i = if i = L.length then l else lg L i := by
  by_cases q : i < L.length
  · rw [if_neg (by omega)]
    unfold lg
    simp [List.getElem?_append_left q]
  · by_cases q2 : i = L.length
    · rw [if_pos q2, q2]; unfold lg; simp
    · rw [if_neg q2, lg_ge (L := L) (by omega), lg_ge (by rw [List.length_append]; simp only [List.length_cons, List.length_nil]; omega)]
theorem addH_ok {D : HK} (h : DOK D) (h5 : Kn D < 5) {w : List Nat} {k l : Nat} (hk : k < 4) (hl : l + (Kl D).sum ≤ 12) (h3 : k = 3 → l ≤ 3) (h8 : w.length ≤ 8) (hw : ∀ x, x ∈ w → Ltr x) (hne : ∀ j, j < Kn D → Ks D j ≠ w) : DOK (addH D w k l) := by
  obtain ⟨⟨a1, a2, a3, a4, a5, ⟨a6, a6'⟩, a7, a8, a9, a10⟩, ⟨b1, b2⟩, c⟩ := h
  refine ⟨⟨by show Kn D + 1 ≤ 5; omega, fun i hi => ?_, fun i j hi hj => ?_, fun i hi => ?_, fun i j hi hj ht => ?_, ⟨?_, ?_⟩, a7, a8, a9, ?_⟩, ⟨fun i hi => ?_, fun i j hi hj e => ?_⟩, fun i j hij => ?_⟩
  · have hi : i < Kn D + 1 := hi
    show (if i = Kn D then k else Kk D i) < 4
    split
    · exact hk
    · exact a2 i (by omega)
  · show Kt D i j = Kt D j i
    by_cases q : i < Kn D ∧ j < Kn D
    · exact a3 i j q.1 q.2
    · rw [c i j (by omega), c j i (by omega)]
  · show Kt D i i = 0
    by_cases q : i < Kn D
    · exact a4 i q
    · exact c i i (by omega)
  · have ht : Kt D i j ≠ 0 := ht
    show 2 ≤ Kt D i j ∧ Kt D i j ≤ 4
    by_cases q : i < Kn D ∧ j < Kn D
    · exact a5 i j q.1 q.2 ht
    · exact absurd (c i j (by omega)) ht
  · show (Kl D ++ [l]).length = Kn D + 1
    rw [List.length_append, a6]; rfl
  · show (Kl D ++ [l]).sum ≤ 12
    rw [List.sum_append]; simp only [List.sum_cons, List.sum_nil]; omega
  · simp only [Kway, List.all_eq_true, List.mem_range, Bool.not_eq_true', Bool.and_eq_false_iff, decide_eq_false_iff_not] at a10 ⊢
    intro i hi
    have hi : i < Kn D + 1 := hi
    show ¬ (if i = Kn D then k else Kk D i) = 3 ∨ ¬ 3 < lg (Kl D ++ [l]) i
    rw [lg_app, a6]
    by_cases q : i = Kn D
    · rw [if_pos q, if_pos q]; by_cases z : k = 3
      · exact Or.inr (by have := h3 z; omega)
      · exact Or.inl z
    · rw [if_neg q, if_neg q]; exact a10 i (by omega)
  · have hi : i < Kn D + 1 := hi
    show (if i = Kn D then w else Ks D i).length ≤ 8 ∧ ∀ x, x ∈ (if i = Kn D then w else Ks D i) → Ltr x
    by_cases q : i = Kn D
    · rw [if_pos q]; exact ⟨h8, hw⟩
    · rw [if_neg q]; exact b1 i (by omega)
  · have hi : i < Kn D + 1 := hi
    have hj : j < Kn D + 1 := hj
    have e : (if i = Kn D then w else Ks D i) = (if j = Kn D then w else Ks D j) := e
    by_cases q : i = Kn D
    · by_cases q2 : j = Kn D
      · rw [q, q2]
      · rw [if_pos q, if_neg q2] at e; exact absurd e.symm (hne j (by omega))
    · by_cases q2 : j = Kn D
      · rw [if_neg q, if_pos q2] at e; exact absurd e (hne i (by omega))
      · rw [if_neg q, if_neg q2] at e; exact b2 i j (by omega) (by omega) e
  · have hij : Kn D + 1 ≤ i ∨ Kn D + 1 ≤ j := hij
    exact c i j (by omega)
theorem Kway_cg {D E : HK} {L : List Nat} (h1 : Kn E = Kn D) (h2 : Kk E = Kk D) : Kway E L = Kway D L := by unfold Kway; rw [h1, h2]
theorem addP_ok {D : HK} (h : DOK D) {a b t : Nat} (ha : a < Kn D) (hb : b < Kn D) (hab : b ≠ a) (ht : 2 ≤ t ∧ t ≤ 4) : DOK (addP D a b t) := by
  obtain ⟨⟨a1, a2, a3, a4, a5, a6, a7, a8, a9, a10⟩, b1, c⟩ := h
  refine ⟨⟨a1, a2, fun i j hi hj => ?_, fun i hi => ?_, fun i j hi hj hn => ?_, a6, a7, a8, a9, (Kway_cg (D := D) rfl rfl).trans a10⟩, b1, fun i j hij => ?_⟩
  · show (if (i = a ∧ j = b) ∨ (i = b ∧ j = a) then t else Kt D i j) = (if (j = a ∧ i = b) ∨ (j = b ∧ i = a) then t else Kt D j i)
    by_cases q : (i = a ∧ j = b) ∨ (i = b ∧ j = a)
    · rw [if_pos q, if_pos (by omega)]
    · rw [if_neg q, if_neg (by omega)]; exact a3 i j hi hj
  · show (if (i = a ∧ i = b) ∨ (i = b ∧ i = a) then t else Kt D i i) = 0
    rw [if_neg (by omega)]; exact a4 i hi
  · have hn : (if (i = a ∧ j = b) ∨ (i = b ∧ j = a) then t else Kt D i j) ≠ 0 := hn
    show 2 ≤ (if (i = a ∧ j = b) ∨ (i = b ∧ j = a) then t else Kt D i j) ∧ (if (i = a ∧ j = b) ∨ (i = b ∧ j = a) then t else Kt D i j) ≤ 4
    by_cases q : (i = a ∧ j = b) ∨ (i = b ∧ j = a)
    · rw [if_pos q]; exact ht
    · rw [if_neg q] at hn ⊢; exact a5 i j hi hj hn
  · have hij : Kn D ≤ i ∨ Kn D ≤ j := hij
    show (if (i = a ∧ j = b) ∨ (i = b ∧ j = a) then t else Kt D i j) = 0
    rw [if_neg (by omega)]; exact c i j hij
theorem setW_ok {D : HK} (h : DOK D) {w : List Nat} (h1 : lwOK w 0) (h2 : ∀ t, t ∈ w → tokOK t) (h3 : w.length ≤ 1000) : DOK (setW D w) := by
  obtain ⟨⟨a1, a2, a3, a4, a5, a6, a7, a8, a9, a10⟩, b1, c⟩ := h
  exact ⟨⟨a1, a2, a3, a4, a5, a6, Or.inr h1, h2, h3, (Kway_cg (D := D) rfl rfl).trans a10⟩, b1, c⟩
section
variable (T : List Nat)
def hl1 (s : RF) (D : HK) : RF := oNw T (Ks D) (Kn D) (s.1 + 1, s.2)
def hl2 (s : RF) (D : HK) : RF × Nat := oO T 8 4 (hl1 T s D)
def hlm (D : HK) (k : Nat) : Nat := if k = 3 ∧ 3 < 12 - (Kl D).sum then 3 else 12 - (Kl D).sum
def hl4 (s : RF) (D : HK) : RF × Nat := oV T 0 (hlm D (hl2 T s D).2) (oW T 1 (hl2 T s D).1)
def pHut (s : RF) (D : HK) : RF × HK := if Kn D = 5 then ((s.1, pwr T s.1 s.2 5), D) else (oS T 59 (hl4 T s D).1, addH D (tok T (s.1 + 1)).2.1 (hl2 T s D).2 (hl4 T s D).2)
def pt1 (s : RF) (D : HK) : RF × Nat := oT T (Ks D) (Kn D) (fun _ => false) (s.1 + 1, s.2)
def pt2 (s : RF) (D : HK) : RF × Nat := oT T (Ks D) (Kn D) (fun v => decide (v = (pt1 T s D).2 ∨ Kt D (pt1 T s D).2 v ≠ 0)) (pt1 T s D).1
def pt3 (s : RF) (D : HK) : RF × Nat := oV T 2 4 (oW T 3 (pt2 T s D).1)
def pPath (s : RF) (D : HK) : RF × HK := (oS T 59 (pt3 T s D).1, addP D (pt1 T s D).2 (pt2 T s D).2 (pt3 T s D).2)
def pbq (s : RF) : RQ := qwh T (qpt T 7 0) (s.1 + 1, s.2, [])
def pBars (s : RF) (D : HK) : RF × HK := if Kw D ≠ [] then ((s.1, pwr T s.1 s.2 3), D) else (oS T 59 ((pbq T s).1, (pbq T s).2.1), setW D (pbq T s).2.2)
def pLine (x : RF × HK) : RF × HK := if bWd T x.1.1 x.1.2 0 = true then pHut T x.1 x.2 else if bWd T x.1.1 x.1.2 2 = true then pPath T x.1 x.2 else if bWd T x.1.1 x.1.2 4 = true then pBars T x.1 x.2 else ((x.1.1, pwr T x.1.1 x.1.2 1), x.2)
def lnB (s : RF) : Bool := decide (s.2 = 0 ∧ (tok T s.1).1 ≠ 0)
def pLp : Nat → RF × HK → RF × HK
  | 0, x => x
  | k + 1, x => if lnB T x.1 = true then pLp k (pLine T x) else x
def pHills : RF × HK := pLp T 1001 ((0, 0), D0)
end
theorem pLp_stop {T : List Nat} {x : RF × HK} (h : ¬ lnB T x.1 = true) : ∀ k, pLp T k x = x
  | 0 => rfl
  | k + 1 => if_neg h
section
variable {T : List Nat} {n : Nat}
/-- from a token gone over on -/
theorem STP.z {s r : RF} (h : STP n s r) (h1 : s.1 ≤ n) (h2 : s.2 < 2 ^ 31) (h0 : r.2 = 0) : s.2 = 0 ∧ s.1 < r.1 := by
  obtain ⟨a1, a2, a3, a4, a5⟩ := h h1 h2
  refine ⟨Classical.byContradiction fun z => ?_, by have := a5 h0; omega⟩
  rw [a4 z] at h0; exact z h0
theorem hlm_p {D : HK} (h : DOK D) {k l : Nat} (hl : l ≤ hlm D k) : l + (Kl D).sum ≤ 12 ∧ (k = 3 → l ≤ 3) := by
  have h12 := h.1.2.2.2.2.2.1.2
  unfold hlm at hl
  split at hl <;> constructor <;> (try intro z) <;> omega
theorem pHut_p (ht : TOK T n) {s : RF} {D : HK} (hD : DOK D) (hs : s.1 < n) (hf : s.2 = 0) : (pHut T s D).1.1 ≤ n ∧ (pHut T s D).1.2 < 2 ^ 31 ∧ ((pHut T s D).1.2 = 0 → s.1 < (pHut T s D).1.1 ∧ DOK (pHut T s D).2) := by
  have hn := ht.1
  unfold pHut
  by_cases q : Kn D = 5
  · rw [if_pos q]
    have hp := pwr_p (i := s.1) (f := s.2) (w := 5) hn (by omega) (by omega)
    exact ⟨by dsimp only; omega, hp.1, fun z => absurd z hp.2.1⟩
  · rw [if_neg q]
    have p1 := oN_p (nm := Ks D) (k := Kn D) hn (s.1 + 1, s.2)
    obtain ⟨a1, a2, a3, _⟩ := p1 hs (by show s.2 < 2 ^ 31; omega)
    have p2 := oO_p hn 8 4 (hl1 T s D)
    obtain ⟨b1, b2, b3, _⟩ := p2 a1 a2
    have p3 := oW_p hn 1 (hl2 T s D).1
    obtain ⟨c1, c2, c3, _⟩ := p3 b1 b2
    have p4 := oV_p hn 0 (hlm D (hl2 T s D).2) (oW T 1 (hl2 T s D).1)
    obtain ⟨d1, d2, d3, _⟩ := p4 c1 c2
    have p5 := oS_p hn 59 (hl4 T s D).1
    obtain ⟨e1, e2, e3, _⟩ := p5 d1 d2
    refine ⟨e1, e2, fun z => ?_⟩
    obtain ⟨z4, l5⟩ := p5.z d1 d2 z
    obtain ⟨z3, l4⟩ := p4.z c1 c2 z4
    obtain ⟨z2, l3⟩ := p3.z b1 b2 z3
    obtain ⟨z1, l2⟩ := p2.z a1 a2 z2
    obtain ⟨v1, v2, v3⟩ := oN_v (k := Kn D) (by have := hD.1.1; omega) z1
    obtain ⟨w1, w2, w3⟩ := tok_w v1
    have hv := oV_v z4 hn.2.2.2
    have hm := hlm_p hD hv.2
    have a3 : s.1 + 1 ≤ (hl1 T s D).1 := a3
    have l2 : (hl1 T s D).1 < (hl2 T s D).1.1 := l2
    have l4 : (oW T 1 (hl2 T s D).1).1 < (hl4 T s D).1.1 := l4
    have l3 : (hl2 T s D).1.1 < (oW T 1 (hl2 T s D).1).1 := l3
    have l5 : (hl4 T s D).1.1 < (oS T 59 (hl4 T s D).1).1 := l5
    exact ⟨by dsimp only; omega, addH_ok hD (by have := hD.1.1; omega) (oO_v (by omega)) hm.1 hm.2 w1 w3 v3⟩
theorem pPath_p (ht : TOK T n) {s : RF} {D : HK} (hD : DOK D) (hs : s.1 < n) (hf : s.2 = 0) : (pPath T s D).1.1 ≤ n ∧ (pPath T s D).1.2 < 2 ^ 31 ∧ ((pPath T s D).1.2 = 0 → s.1 < (pPath T s D).1.1 ∧ DOK (pPath T s D).2) := by
  have hn := ht.1
  unfold pPath
  have p1 := oT_p (nm := Ks D) (k := Kn D) (bt := fun _ => false) hn (s.1 + 1, s.2)
  obtain ⟨a1, a2, a3, _⟩ := p1 hs (by show s.2 < 2 ^ 31; omega)
  have p2 := oT_p (nm := Ks D) (k := Kn D) (bt := fun v => decide (v = (pt1 T s D).2 ∨ Kt D (pt1 T s D).2 v ≠ 0)) hn (pt1 T s D).1
  obtain ⟨b1, b2, b3, _⟩ := p2 a1 a2
  have p3 := oW_p hn 3 (pt2 T s D).1
  obtain ⟨c1, c2, c3, _⟩ := p3 b1 b2
  have p4 := oV_p hn 2 4 (oW T 3 (pt2 T s D).1)
  obtain ⟨d1, d2, d3, _⟩ := p4 c1 c2
  have p5 := oS_p hn 59 (pt3 T s D).1
  obtain ⟨e1, e2, e3, _⟩ := p5 d1 d2
  refine ⟨e1, e2, fun z => ?_⟩
  obtain ⟨z4, l5⟩ := p5.z d1 d2 z
  obtain ⟨z3, l4⟩ := p4.z c1 c2 z4
  obtain ⟨z2, l3⟩ := p3.z b1 b2 z3
  obtain ⟨z1, l2⟩ := p2.z a1 a2 z2
  obtain ⟨v1, _⟩ := oT_v z1
  obtain ⟨u1, u2⟩ := oT_v z2
  have u2 := of_decide_eq_false u2
  have hv := oV_v z4 hn.2.2.2
  have a3 : s.1 + 1 ≤ (pt1 T s D).1.1 := a3
  have l2 : (pt1 T s D).1.1 < (pt2 T s D).1.1 := l2
  have l3 : (pt2 T s D).1.1 < (oW T 3 (pt2 T s D).1).1 := l3
  have l4 : (oW T 3 (pt2 T s D).1).1 < (pt3 T s D).1.1 := l4
  have l5 : (pt3 T s D).1.1 < (oS T 59 (pt3 T s D).1).1 := l5
  exact ⟨by dsimp only; omega, addP_ok hD v1 u1 (fun y => u2 (Or.inl y)) hv⟩
theorem pbq_p (ht : TOK T n) {s : RF} (hs : s.1 < n) (hf : s.2 = 0) : (pbq T s).1 ≤ n ∧ (pbq T s).2.1 < 2 ^ 31 ∧ s.1 < (pbq T s).1 ∧ (pbq T s).2.2.length + (s.1 + 1) ≤ (pbq T s).1 := by
  obtain ⟨a1, a2, a3, a4, a5⟩ := GPq.wh ht.1 (fun s => GPq.pt ht.1 7 0 s) (s.1 + 1, s.2, []) hs (by show s.2 < 2 ^ 31; omega)
  exact ⟨a1, a2, a3, a4⟩
theorem pBars_p (ht : TOK T n) {s : RF} {D : HK} (hD : DOK D) (hs : s.1 < n) (hf : s.2 = 0) : (pBars T s D).1.1 ≤ n ∧ (pBars T s D).1.2 < 2 ^ 31 ∧ ((pBars T s D).1.2 = 0 → s.1 < (pBars T s D).1.1 ∧ DOK (pBars T s D).2) := by
  have hn := ht.1
  unfold pBars
  by_cases q : Kw D ≠ []
  · rw [if_pos q]
    have hp := pwr_p (i := s.1) (f := s.2) (w := 3) hn (by omega) (by omega)
    exact ⟨by dsimp only; omega, hp.1, fun z => absurd z hp.2.1⟩
  · rw [if_neg q]
    obtain ⟨a1, a2, a3, a4⟩ := pbq_p ht hs hf
    have p5 := oS_p hn 59 ((pbq T s).1, (pbq T s).2.1)
    obtain ⟨e1, e2, e3, _⟩ := p5 a1 a2
    refine ⟨e1, e2, fun z => ?_⟩
    obtain ⟨z4, l5⟩ := p5.z a1 a2 z
    have hl := law_ok (T := T) (k := 7) (by omega) (i := s.1 + 1) (by have : (pbq T s).2.1 = 0 := z4; unfold pbq at this; rwa [hf] at this)
    have l5 : (pbq T s).1 < (oS T 59 ((pbq T s).1, (pbq T s).2.1)).1 := l5
    have h1000 := hn.2.2.1
    have eq : pbq T s = qwh T (qpt T 7 0) (s.1 + 1, 0, []) := by unfold pbq; rw [hf]
    rw [← eq] at hl
    exact ⟨by dsimp only; omega, setW_ok hD hl.1 hl.2.1 (by omega)⟩
theorem pLine_p (ht : TOK T n) {x : RF × HK} (hD : DOK x.2) (hs : x.1.1 < n) (hf : x.1.2 = 0) : (pLine T x).1.1 ≤ n ∧ (pLine T x).1.2 < 2 ^ 31 ∧ ((pLine T x).1.2 = 0 → x.1.1 < (pLine T x).1.1 ∧ DOK (pLine T x).2) := by
  unfold pLine
  split
  · exact pHut_p ht hD hs hf
  · split
    · exact pPath_p ht hD hs hf
    · split
      · exact pBars_p ht hD hs hf
      · have hp := pwr_p (i := x.1.1) (f := x.1.2) (w := 1) ht.1 (by omega) (by omega)
        exact ⟨by dsimp only; omega, hp.1, fun z => absurd z hp.2.1⟩
end
