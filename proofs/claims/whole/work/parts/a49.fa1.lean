set_option maxRecDepth 20000
set_option maxHeartbeats 4000000
set_option linter.all false
/-! the class: all that it is -/
def DL (b : Nat) (h : HS) : Prop := ∃ sz : Nat, sz ≤ 1000 ∧ h b = .inr (1, [.ref (b + 1), .ref (b + 2), .ref (b + 3), .ref (b + 4), .ref (b + 5), .int (nI sz)]) ∧
  IA 0 1000 h (b + 1) ∧ IA 0 32 h (b + 2) ∧ IA 0 4 h (b + 3) ∧ LA 138 h (b + 4) ∧ LA 138 h (b + 5) ∧ (sz = 0 → ∀ s, s < 8788 → Mkb h (b + 4) s = false ∧ Mkb h (b + 5) s = false)
/-- hills that are no longer, or not yet, the ones that are so -/
def DR (a : Nat) (h : HS) : Prop := (∃ x y z : Int32, h a = .inr (0, [.ref (a + 1), .ref (a + 12), .ref (a + 2), .int x, .int y, .ref (a + 8), .ref (a + 9), .ref (a + 10), .ref (a + 11), .ref (a + 13), .ref (a + 14), .ref (a + 15), .ref (a + 16), .ref (a + 17), .ref (a + 18), .ref (a + 19), .int z])) ∧
  IA 0 5 h (a + 1) ∧ IA 0 20 h (a + 12) ∧ LA 5 h (a + 8) ∧ IA 0 5 h (a + 9) ∧ IA 0 25 h (a + 10) ∧ IA 0 25 h (a + 11) ∧ IA 0 20 h (a + 13) ∧ IA 0 20 h (a + 14) ∧ IA 0 20 h (a + 15) ∧ IA 0 20 h (a + 16) ∧ IA 0 20 h (a + 17) ∧ IA 0 20 h (a + 18) ∧ IA 0 5 h (a + 19) ∧ DL (a + 2) h
theorem HL.dr {a : Nat} {K : HK} {h : HS} (hh : HL a K h) : DR a h := by
  obtain ⟨⟨hK, h0, h1, h2, h9, h10, h11, h12, h13, h14, h15, h16, h17, h18, _⟩, ⟨⟨l0, l1, l2, l3, l4, l5, _⟩, m0, _⟩, h19⟩ := hh
  exact ⟨⟨_, _, _, h0⟩, h1, h2, h9, h10, h11, h12, h13, h14, h15, h16, h17, h18, h19, (Kw K).length, hK.2.2.2.2.2.2.2.2.1, l0, l1, l2, l3, l4, l5, fun q => m0 (List.length_eq_zero_iff.mp q)⟩
/-- the tape, its reader -/
def RD (T : List Nat) (h : HS) : Prop := h 1 = .inr (7, [.ref 2, .int (nI T.length)]) ∧ IA 2 1000 h 2 ∧ (∀ i, i < T.length → ia h 2 i = nI (T.getD i 0)) ∧ (∃ f : Int32, h 3 = .inr (4, [.ref 1, .ref 4, .int f])) ∧ ∃ (bh pl kd nm : Int32) (wd : Int64), h 4 = .inr (8, [.ref 1, .int bh, .int pl, .int kd, .int nm, .long wd])
def SKT (q : Nat) (h : HS) : Prop := (∃ n x y z : Int32, h q = .inr (9, [.ref (q + 1), .ref (q + 2), .ref (q + 3), .int n, .int x, .int y, .int z])) ∧ IA 0 40 h (q + 1) ∧ IA 0 40 h (q + 2) ∧ IA 0 40 h (q + 3)
def PRI (a : Nat) (K : HK) (h : HS) : Prop := ∃ kn, PR0 a kn h ∧ (kn = 0 ∨ kn = 1 ∧ PTp K (fun _ => True) h)
def WKI (a : Nat) (K : HK) (h : HS) : Prop := ∃ sz st kn, WO a sz st kn h ∧ W0 sz h ∧ (kn = 0 ∨ kn = 1 ∧ ∃ L0 O, st = nI (pk L0) ∧ sz = O.length ∧ WV K L0 O h)
def CI (a p : Nat) (s : ST8) (h : HS) : Prop := (a = 20 ∨ a = 40) ∧ (p = 60 ∨ p = 64) ∧
  h 0 = .inr (11, [.ref 1, .ref 3, .ref 5, .ref 11, .ref 68, .ref 71, .ref 75, .ref a, .ref (60 - a), .ref p, .ref (124 - p)]) ∧
  LY h ∧ SI s.2.1 s.2.2.1 s.2.2.2.1 s.2.2.2.2.1 s.2.2.2.2.2.1 h ∧ TP p s.2.2.2.2.2.2.2 h ∧ RD s.2.2.2.2.2.2.1 h ∧ DR (60 - a) h ∧ SKT (124 - p) h ∧ HL a s.1 h ∧ SV a h ∧ PRI a s.1 h ∧ WKI a s.1 h
def Fc (h h' : HS) : Prop := ∀ c, 77 ≤ c → h' c = h c
theorem Fc.rf {h : HS} : Fc h h := fun _ _ => rfl
theorem Fc.tr {h h1 h2 : HS} (e1 : Fc h h1) (e2 : Fc h1 h2) : Fc h h2 := fun c hc => (e2 c hc).trans (e1 c hc)
theorem Mkb_f2 {h h' : HS} {c s : Nat} (e : h' c = h c) : Mkb h' c s = Mkb h c s := Mkb_fr e s
theorem DL_fr {b : Nat} {h h' : HS} (hd : DL b h) (e : ∀ c, b ≤ c → c ≤ b + 5 → h' c = h c) : DL b h' := by
  obtain ⟨sz, a0, a1, a2, a3, a4, a5, a6, a7⟩ := hd
  refine ⟨sz, a0, (e b (by omega) (by omega)).trans a1, IA_fr (e _ (by omega) (by omega)) a2, IA_fr (e _ (by omega) (by omega)) a3, IA_fr (e _ (by omega) (by omega)) a4, LA_fr (e _ (by omega) (by omega)) a5, LA_fr (e _ (by omega) (by omega)) a6, fun q s hs => ?_⟩
  rw [Mkb_fr (e (b + 4) (by omega) (by omega)), Mkb_fr (e (b + 5) (by omega) (by omega))]; exact a7 q s hs
theorem DR_fr {a : Nat} {h h' : HS} (hd : DR a h) (e : ∀ c, a ≤ c → c < a + 20 → h' c = h c) : DR a h' := by
  obtain ⟨⟨x, y, z, a0⟩, a1, a2, a3, a4, a5, a6, a7, a8, a9, b1, b2, b3, b4, b5⟩ := hd
  exact ⟨⟨x, y, z, (e a (by omega) (by omega)).trans a0⟩, IA_fr (e _ (by omega) (by omega)) a1, IA_fr (e _ (by omega) (by omega)) a2, LA_fr (e _ (by omega) (by omega)) a3, IA_fr (e _ (by omega) (by omega)) a4, IA_fr (e _ (by omega) (by omega)) a5, IA_fr (e _ (by omega) (by omega)) a6, IA_fr (e _ (by omega) (by omega)) a7, IA_fr (e _ (by omega) (by omega)) a8, IA_fr (e _ (by omega) (by omega)) a9, IA_fr (e _ (by omega) (by omega)) b1, IA_fr (e _ (by omega) (by omega)) b2, IA_fr (e _ (by omega) (by omega)) b3, IA_fr (e _ (by omega) (by omega)) b4, DL_fr b5 fun c c1 c2 => e c (by omega) (by omega)⟩
theorem RD_fr {T : List Nat} {h h' : HS} (hd : RD T h) (e : ∀ c, 1 ≤ c → c ≤ 4 → h' c = h c) : RD T h' := by
  obtain ⟨a1, a2, a3, ⟨f, a4⟩, ⟨b1, b2, b3, b4, b5, a5⟩⟩ := hd
  exact ⟨(e 1 (by omega) (by omega)).trans a1, IA_fr (e 2 (by omega) (by omega)) a2, by rw [ia_fr (e 2 (by omega) (by omega))]; exact a3, ⟨f, (e 3 (by omega) (by omega)).trans a4⟩, ⟨b1, b2, b3, b4, b5, (e 4 (by omega) (by omega)).trans a5⟩⟩
theorem SKT_fr {q : Nat} {h h' : HS} (hd : SKT q h) (e : ∀ c, q ≤ c → c ≤ q + 3 → h' c = h c) : SKT q h' := by
  obtain ⟨⟨n, x, y, z, a0⟩, a1, a2, a3⟩ := hd
  exact ⟨⟨n, x, y, z, (e q (by omega) (by omega)).trans a0⟩, IA_fr (e _ (by omega) (by omega)) a1, IA_fr (e _ (by omega) (by omega)) a2, IA_fr (e _ (by omega) (by omega)) a3⟩
theorem TP_fr {p : Nat} {T : List LN} {h h' : HS} (t : TP p T h) (e : ∀ c, p ≤ c → c ≤ p + 3 → h' c = h c) : TP p T h' := by
  obtain ⟨x, y, z, f⟩ := t.f
  exact (TPf_fr f e).tp
theorem SV_fr {a : Nat} {h h' : HS} (hs : SV a h) (e : h' 75 = h 75) (e2 : h' 76 = h 76) : SV a h' := ⟨e.trans hs.1, IA_fr e2 hs.2⟩
theorem PRI_fr {a : Nat} {K : HK} {h h' : HS} (hp : PRI a K h) (e0 : h' 68 = h 68) (e1 : h' 69 = h 69) (e2 : h' 70 = h 70) : PRI a K h' := by
  obtain ⟨kn, h0, h1⟩ := hp
  exact ⟨kn, PR0_fr h0 e0 e1 e2, h1.imp id fun q => ⟨q.1, PTp_fr q.2 e1 e2⟩⟩
theorem W0_fr {sz : Nat} {h h' : HS} (hw : W0 sz h) (e1 : h' 72 = h 72) (e2 : h' 73 = h 73) : W0 sz h' := by
  unfold W0; rw [ia_fr e1, ia_fr e2]; exact hw
theorem WV_fr {K : HK} {L : List Nat} {O : List (List Nat)} {h h' : HS} (hw : WV K L O h) (e1 : h' 72 = h 72) (e2 : h' 73 = h 73) : WV K L O h' := by
  unfold WV; rw [ia_fr e1, ia_fr e2]; exact hw
theorem WKI_fr {a : Nat} {K : HK} {h h' : HS} (hw : WKI a K h) (e : ∀ c, 71 ≤ c → c ≤ 74 → h' c = h c) : WKI a K h' := by
  obtain ⟨sz, st, kn, h0, h1, h2⟩ := hw
  exact ⟨sz, st, kn, WO_fr h0 e, W0_fr h1 (e 72 (by omega) (by omega)) (e 73 (by omega) (by omega)), h2.imp id fun ⟨q, L0, O, q1, q2, q3⟩ => ⟨q, L0, O, q1, q2, WV_fr q3 (e 72 (by omega) (by omega)) (e 73 (by omega) (by omega))⟩⟩
theorem WV_W0 {K : HK} {L : List Nat} {O : List (List Nat)} {h : HS} (hn : Kn K ≤ 5) (hw : WV K L O h) : W0 O.length h := by
  obtain ⟨hL, hWay, hOS, hm, ha, ⟨I, hI, hWI⟩, hz⟩ := hw
  have hlt : ∀ x, x ∈ O → cnum x < 6188 := fun x hx => cnum_lt ((hm x).mp hx).1 hn
  refine ⟨OS_len hOS hlt, fun t ht => ⟨_, hlt _ (oa_mem ht), ha t ht⟩, fun k hk hne => ?_⟩
  by_cases q : ∃ x, LWF (Kn K) x ∧ k = cnum x
  · obtain ⟨x, hx, rfl⟩ := q
    rw [hI x hx]
    by_cases q2 : I x = 0
    · rw [q2]; rfl
    · have hr := (hWI.1 x hx q2).1
      have hx2 := (hm x).mpr ⟨hx, _, hr⟩
      obtain ⟨u, hu, e⟩ := List.mem_iff_getElem.mp hx2
      refine absurd ?_ (hne u hu)
      rw [ha u hu]
      congr 2
      simp [hu, e]
  · exact hz k hk fun x hx e => q ⟨x, hx, e⟩
section
variable {a p : Nat} {s : ST8} {h h' : HS} {R : Option Value → HS → Prop}
theorem CI.a1 (hi : CI a p s h) : 20 ≤ a := by rcases hi.1 with q | q <;> omega
theorem CI.a2 (hi : CI a p s h) : a ≤ 40 := by rcases hi.1 with q | q <;> omega
theorem CI.ly (hi : CI a p s h) : LY h := hi.2.2.2.1
theorem CI.si (hi : CI a p s h) : SI s.2.1 s.2.2.1 s.2.2.2.1 s.2.2.2.2.1 s.2.2.2.2.2.1 h := hi.2.2.2.2.1
theorem CI.tp (hi : CI a p s h) : TP p s.2.2.2.2.2.2.2 h := hi.2.2.2.2.2.1
theorem CI.hl (hi : CI a p s h) : HL a s.1 h := hi.2.2.2.2.2.2.2.2.2.1
theorem CI.sv (hi : CI a p s h) : SV a h := hi.2.2.2.2.2.2.2.2.2.2.1
theorem CI.pr (hi : CI a p s h) : PRI a s.1 h := hi.2.2.2.2.2.2.2.2.2.2.2.1
theorem CI.wk (hi : CI a p s h) : WKI a s.1 h := hi.2.2.2.2.2.2.2.2.2.2.2.2
theorem CI.K (hi : CI a p s h) : KWF s.1 := hi.hl.1.1
theorem CI.n5 (hi : CI a p s h) : Kn s.1 ≤ 5 := hi.K.1
/-- a change of the working cells alone -/
theorem CI.fx (hi : CI a p s h) (hh : HL a s.1 h') (hs : SV a h') (hp : PRI a s.1 h') (hw : WKI a s.1 h') (f : Fx a (fun c => 68 ≤ c ∧ c ≤ 76) h h') : CI a p s h' := by
  obtain ⟨h1, h2, h3, h4, h5, h6, h7, h8, h9, _, _, _, _⟩ := hi
  have fa : ∀ c, (c < 20 ∨ 60 ≤ c ∧ c < 68 ∨ 60 - a ≤ c ∧ c < 60 - a + 20) → h' c = h c := fun c q => f c (by omega) (by omega) (by omega) (by omega) (by omega)
  exact ⟨h1, h2, (fa 0 (by omega)).trans h3, LY_fr h4 fun c c1 c2 => fa c (by omega), SI_fr h5 fun c c1 c2 => fa c (by omega), TP_fr h6 fun c c1 c2 => fa c (by omega), RD_fr h7 fun c c1 c2 => fa c (by omega), DR_fr h8 fun c c1 c2 => fa c (by omega), SKT_fr h9 fun c c1 c2 => fa c (by omega), hh, hs, hp, hw⟩
theorem Fx.c {S : Nat → Prop} (f : Fx a S h h') (ha : a ≤ 40) (hS : ∀ c, S c → c < 77) : Fc h h' := fun c hc => f c (fun q => by have := hS c q; omega) (by omega) (by omega) (by omega) (by omega)
/-- the law's working cells alone -/
theorem CI.lf (hi : CI a p s h) (hh : HL a s.1 h') (f : LFr (a + 2) h h') : CI a p s h' := by
  have f2 : Fx a (fun c => 68 ≤ c ∧ c ≤ 76) h h' := Fx.of f
  have h1 := hi.a1
  have h2 := hi.a2
  have fa : ∀ c, 68 ≤ c → h' c = h c := fun c q => f c (by omega) (by omega) (by omega) (by omega)
  exact hi.fx hh (SV_fr hi.sv (fa 75 (by omega)) (fa 76 (by omega))) (PRI_fr hi.pr (fa 68 (by omega)) (fa 69 (by omega)) (fa 70 (by omega))) (WKI_fr hi.wk fun c c1 c2 => fa c (by omega)) f2
theorem LFr.c (f : LFr (a + 2) h h') (ha : a ≤ 40) : Fc h h' := fun c hc => f c (by omega) (by omega) (by omega) (by omega)
theorem CI.o1 (hi : CI a p s h) : (ocls (h 5) 2 = True) ∧ (ocls (h 11) 5 = True) ∧ (ocls (h 68) 3 = True) ∧ (ocls (h 71) 10 = True) ∧ (ocls (h 75) 6 = True) ∧ (ocls (h a) 0 = True) ∧ (ocls (h p) 9 = True) ∧ (ocls (h 1) 7 = True) ∧ (ocls (h 3) 4 = True) := by
  obtain ⟨kn, pp, _⟩ := hi.pr
  obtain ⟨sz, st, kn2, ww, _⟩ := hi.wk
  obtain ⟨nw, _, hs, _⟩ := hi.si
  obtain ⟨_, ⟨x, y, z, ht⟩, _⟩ := hi.tp
  obtain ⟨r1, _, _, ⟨f, r3⟩, _⟩ := hi.2.2.2.2.2.2.1
  exact ⟨eq_true ⟨_, hi.ly.1⟩, eq_true ⟨_, hs⟩, eq_true ⟨_, pp.1⟩, eq_true ⟨_, ww.1⟩, eq_true ⟨_, hi.sv.1⟩, eq_true ⟨_, hi.hl.1.2.1⟩, eq_true ⟨_, ht⟩, eq_true ⟨_, r1⟩, eq_true ⟨_, r3⟩⟩
theorem c_prep (hi : CI a p s h) (kk : ∀ h', CI a p s h' → PE a s.1 h' → Fc h h' → R none h') : mX3_prepare [.ref 68] h R := by
  obtain ⟨kn, pp, hkn⟩ := hi.pr
  have h1 := hi.a1
  have h2 := hi.a2
  refine s_prepare hi.a1 hi.a2 hi.ly hi.hl pp hkn fun h' hh hp ht hf => ?_
  have fa : ∀ c, 71 ≤ c → h' c = h c := fun c q => hf c (by unfold PS; omega) (by omega) (by omega) (by omega) (by omega)
  have f2 : Fx a (fun c => 68 ≤ c ∧ c ≤ 76) h h' := hf.mono fun c q => by unfold PS at q; omega
  have hi' := hi.fx hh (SV_fr hi.sv (fa 75 (by omega)) (fa 76 (by omega))) ⟨1, hp, Or.inr ⟨rfl, ht⟩⟩ (WKI_fr hi.wk fun c c1 c2 => fa c (by omega)) f2
  exact kk h' hi' ⟨h1, h2, hi'.ly, hh, hp, ht⟩ (f2.c h2 fun c q => by omega)
theorem c_start (hi : CI a p s h) {L : List Nat} (hL : LW s.1 L) (kk : ∀ h' O, CI a p s h' → WE a s.1 L O h' → Fc h h' → R none h') : mX10_startAt [.ref 71, .int (nI (pk L))] h R := by
  obtain ⟨sz, st, kn, ww, w0, hkn⟩ := hi.wk
  have h1 := hi.a1
  have h2 := hi.a2
  refine s_startAt hi.a1 hi.a2 hi.ly hi.hl ww w0 hL.1 hL.2 hkn fun h' O hh hw hf => ?_
  have f2 : Fx a (fun c => 68 ≤ c ∧ c ≤ 76) h h' := hf.mono fun c q => by omega
  have fa : ∀ c, 68 ≤ c → c ≠ 71 → c ≠ 72 → c ≠ 73 → h' c = h c := fun c q q1 q2 q3 => hf c (by omega) (by omega) (by omega) (by omega) (by omega)
  have hi' := hi.fx hh (SV_fr hi.sv (fa 75 (by omega) (by omega) (by omega) (by omega)) (fa 76 (by omega) (by omega) (by omega) (by omega))) (PRI_fr hi.pr (fa 68 (by omega) (by omega) (by omega) (by omega)) (fa 69 (by omega) (by omega) (by omega) (by omega)) (fa 70 (by omega) (by omega) (by omega) (by omega))) ⟨_, _, 1, hw.1, WV_W0 hi.n5 hw.2, Or.inr ⟨rfl, L, O, rfl, rfl, hw.2⟩⟩ f2
  exact kk h' O hi' ⟨h1, h2, hi'.ly, hh, hw⟩ (f2.c h2 fun c q => by omega)
/-- the tally of a walk alone -/
theorem CI.we (hi : CI a p s h) {L : List Nat} {O : List (List Nat)} (hw : WE a s.1 L O h') (f : Fx a (fun c => c = 74) h h') : CI a p s h' := by
  have h1 := hi.a1
  have h2 := hi.a2
  have fa : ∀ c, 68 ≤ c → c ≠ 74 → h' c = h c := fun c q q1 => f c (by omega) (by omega) (by omega) (by omega) (by omega)
  exact hi.fx hw.2.2.2.1 (SV_fr hi.sv (fa 75 (by omega) (by omega)) (fa 76 (by omega) (by omega))) (PRI_fr hi.pr (fa 68 (by omega) (by omega)) (fa 69 (by omega) (by omega)) (fa 70 (by omega) (by omega))) ⟨_, _, 1, hw.2.2.2.2.1, WV_W0 hi.n5 hw.2.2.2.2.2, Or.inr ⟨rfl, L, O, rfl, rfl, hw.2.2.2.2.2⟩⟩ (f.mono fun c q => by omega)
theorem c_most (hi : CI a p s h) (hok : OK8 s) {x : Int32} (kk : ∀ h', CI a p s h' → Fc h h' → R (some (.int (if isH s.1 x then nI (dmax s.1 (fun c => lg c x.toNatClampNeg) s.2.1) else mo))) h') : mX11_most [.ref 0, .int x] h R := by
  obtain ⟨o5, o11, o68, o71, o75, oa, op, oo1, oo3⟩ := hi.o1
  have g0 := hi.2.2.1
  obtain ⟨nw, _, g11, _⟩ := hi.si
  simp only [mX11_most, cI_s, cL0_s, cR_s, vI_s, vL_s, vR_s, u_iLoc, u_lLoc, u_rLoc, u_iK, u_lK, u_iBg, u_lBg, u_lBI, u_gT, u_gTL, u_gNZ, u_gNZL, u_iNeg, u_iOfL, u_lOfI, u_iByte, fI_s, u_iGet, fL_s, u_lGet, fR_s, u_rGet, eI_s, eL_s, u_iALd, u_bALd, u_zALd, u_lALd, u_iLen, u_iResLen, u_lRes, u_cB, u_cZ, u_cL, u_cAnd, u_cOr, u_cNot, u_cK, u_iCond, u_lCond, u_iBool, u_aNil, u_aI, u_aL, u_aR, rI_s, rL_s, rN_s, u_iCallV, u_lCallV, u_iCallS, u_lCallS, u_sCallV, u_sCallS, u_sSkip, u_sBreak, u_sCont, u_sSeq, u_sIf, u_sForget, u_sSetI, u_sSetL, u_sSetR, u_sInc, u_sRetV, u_sRetI, u_sRetL, u_sRetZB, u_sRetZC, u_sRetZV, u_sRetZS, u_sRetZL, u_sSw, u_sSwitch, pI_s, pL_s, pR_s, u_sPutI, u_sPutZ, u_sPutL, u_sPutR, u_sUpd, sI_s, sL_s, u_sAStN, u_sAStL, u_sAUpd, u_sAUpdL, u_body, u_env0, u_eAn, u_eAint, u_eAref, u_eAlong, kl_i, kl_r, kl_l, kl_n, kl_nn, u_set1_0, u_set2_0, u_s1_1, u_s2_1, u_s1_2, u_s2_2, u_s1_3, u_s2_3, u_s1_4, u_s2_4, u_s1_5, u_s2_5, u_s1_6, u_s2_6, u_s1_7, u_s2_7, u_s1_8, u_s2_8, u_s1_9, u_s2_9, u_s1_10, u_s2_10, u_s1_11, u_s2_11, u_s1_12, u_s2_12, u_s1_13, u_s2_13, u_s1_14, u_s2_14, ab0, ab1, u_sAStB, u_sAStZ, u_rcv, ocls_s, u_sCase, iteSX, u_rnd, loop_do, eN_s, u_iB, u_lB, sRetZ1, sRetZ0, va_up_at, Nat.add_left_cancel_iff, req_t, req_f, zeq_t, zeq_f, leq_t, leq_f, rne_t, rne_f, zne_t, zne_f, lne_t, lne_f, rlt_t, rlt_f, zlt_t, zlt_f, llt_t, llt_f, rge_t, rge_f, zge_t, zge_f, lge_t, lge_f, rgt_t, rgt_f, zgt_t, zgt_f, lgt_t, lgt_f, rle_t, rle_f, zle_t, zle_f, lle_t, lle_f, Bool.not_eq_true', Bool.not_true, Bool.not_false, Bool.true_eq_false, Bool.false_eq_true, List.getElem?_cons_zero, List.getElem?_cons_succ, List.getElem?_nil, List.set_cons_zero, List.set_cons_succ, List.cons_append, List.nil_append, List.replicate_succ, List.replicate_zero, List.length_cons, List.length_nil, List.length_append, List.length_replicate, List.take_succ_cons, List.take_zero, reduceIte, reduceCtorEq, Nat.reduceEqDiff, Nat.reduceAdd, Nat.reduceSub, Nat.reduceMul, Nat.reduceLeDiff, Nat.reduceLT, and_true, true_and, if_true, if_false, Nat.zero_add, Nat.add_zero, List.append_nil, not_true_eq_false, not_false_eq_true, and_false, false_and, or_true, true_or, or_false, false_or, ne_eq, Classical.not_not, g0, oa]
  by_cases hx : isH s.1 x
  · rw [if_pos hx] at kk
    obtain ⟨i, hi', rfl⟩ := isH_ex hi.K hx
    have hn := hi.n5
    rw [nI_clamp (by omega)] at kk
    simp (disch := omega) only [s_isHutT hi.hl.1 hx, cI_s, cL0_s, cR_s, vI_s, vL_s, vR_s, u_iLoc, u_lLoc, u_rLoc, u_iK, u_lK, u_iBg, u_lBg, u_lBI, u_gT, u_gTL, u_gNZ, u_gNZL, u_iNeg, u_iOfL, u_lOfI, u_iByte, fI_s, u_iGet, fL_s, u_lGet, fR_s, u_rGet, eI_s, eL_s, u_iALd, u_bALd, u_zALd, u_lALd, u_iLen, u_iResLen, u_lRes, u_cB, u_cZ, u_cL, u_cAnd, u_cOr, u_cNot, u_cK, u_iCond, u_lCond, u_iBool, u_aNil, u_aI, u_aL, u_aR, rI_s, rL_s, rN_s, u_iCallV, u_lCallV, u_iCallS, u_lCallS, u_sCallV, u_sCallS, u_sSkip, u_sBreak, u_sCont, u_sSeq, u_sIf, u_sForget, u_sSetI, u_sSetL, u_sSetR, u_sInc, u_sRetV, u_sRetI, u_sRetL, u_sRetZB, u_sRetZC, u_sRetZV, u_sRetZS, u_sRetZL, u_sSw, u_sSwitch, pI_s, pL_s, pR_s, u_sPutI, u_sPutZ, u_sPutL, u_sPutR, u_sUpd, sI_s, sL_s, u_sAStN, u_sAStL, u_sAUpd, u_sAUpdL, u_body, u_env0, u_eAn, u_eAint, u_eAref, u_eAlong, kl_i, kl_r, kl_l, kl_n, kl_nn, u_set1_0, u_set2_0, u_s1_1, u_s2_1, u_s1_2, u_s2_2, u_s1_3, u_s2_3, u_s1_4, u_s2_4, u_s1_5, u_s2_5, u_s1_6, u_s2_6, u_s1_7, u_s2_7, u_s1_8, u_s2_8, u_s1_9, u_s2_9, u_s1_10, u_s2_10, u_s1_11, u_s2_11, u_s1_12, u_s2_12, u_s1_13, u_s2_13, u_s1_14, u_s2_14, ab0, ab1, u_sAStB, u_sAStZ, u_rcv, ocls_s, u_sCase, iteSX, u_rnd, loop_do, eN_s, u_iB, u_lB, sRetZ1, sRetZ0, va_up_at, Nat.add_left_cancel_iff, req_t, req_f, zeq_t, zeq_f, leq_t, leq_f, rne_t, rne_f, zne_t, zne_f, lne_t, lne_f, rlt_t, rlt_f, zlt_t, zlt_f, llt_t, llt_f, rge_t, rge_f, zge_t, zge_f, lge_t, lge_f, rgt_t, rgt_f, zgt_t, zgt_f, lgt_t, lgt_f, rle_t, rle_f, zle_t, zle_f, lle_t, lle_f, Bool.not_eq_true', Bool.not_true, Bool.not_false, Bool.true_eq_false, Bool.false_eq_true, List.getElem?_cons_zero, List.getElem?_cons_succ, List.getElem?_nil, List.set_cons_zero, List.set_cons_succ, List.cons_append, List.nil_append, List.replicate_succ, List.replicate_zero, List.length_cons, List.length_nil, List.length_append, List.length_replicate, List.take_succ_cons, List.take_zero, reduceIte, reduceCtorEq, Nat.reduceEqDiff, Nat.reduceAdd, Nat.reduceSub, Nat.reduceMul, Nat.reduceLeDiff, Nat.reduceLT, and_true, true_and, if_true, if_false, Nat.zero_add, Nat.add_zero, List.append_nil, not_true_eq_false, not_false_eq_true, and_false, false_and, or_true, true_or, or_false, false_or, ne_eq, Classical.not_not, nI_lit, nI_add, pk_mul, nI_eq, nI_leI, nI_ltI, nI_clamp, nI_nn, nI_neg, vp_inT, pk_sub, jshrN, jshlN, nI_and, nI_or, nI_addmo, nI_moE, nI_mtE, nI_mo, nI_mt, mo_nI, mo_lt, lt_mo, mo_le, le_mo, true_or, or_true, or_false, false_or, or_self, Nat.zero_le, Nat.not_lt_zero, not_true_eq_false, not_false_eq_true, dec_T, dec_F, false_and, and_false, and_self, Bool.not_true, Bool.not_false, List.getElem?_cons_zero, List.getElem?_cons_succ, List.getElem?_nil, List.set_cons_zero, List.set_cons_succ, List.cons_append, List.nil_append, List.replicate, List.length_cons, List.length_nil, List.length_append, List.length_replicate, List.take, reduceIte, reduceCtorEq, Nat.reduceEqDiff, Nat.reduceAdd, Nat.reduceSub, Nat.reduceMul, Nat.reduceLeDiff, and_true, true_and, if_true, if_false, Bool.false_eq_true, Nat.zero_add, Nat.add_zero, List.append_nil, Option.some.injEq, g0, o71, o11, g11]
    refine c_start hi hok.1.1 fun h2 O hi2 hw f2 => ?_
    simp only [cI_s, cL0_s, cR_s, vI_s, vL_s, vR_s, u_iLoc, u_lLoc, u_rLoc, u_iK, u_lK, u_iBg, u_lBg, u_lBI, u_gT, u_gTL, u_gNZ, u_gNZL, u_iNeg, u_iOfL, u_lOfI, u_iByte, fI_s, u_iGet, fL_s, u_lGet, fR_s, u_rGet, eI_s, eL_s, u_iALd, u_bALd, u_zALd, u_lALd, u_iLen, u_iResLen, u_lRes, u_cB, u_cZ, u_cL, u_cAnd, u_cOr, u_cNot, u_cK, u_iCond, u_lCond, u_iBool, u_aNil, u_aI, u_aL, u_aR, rI_s, rL_s, rN_s, u_iCallV, u_lCallV, u_iCallS, u_lCallS, u_sCallV, u_sCallS, u_sSkip, u_sBreak, u_sCont, u_sSeq, u_sIf, u_sForget, u_sSetI, u_sSetL, u_sSetR, u_sInc, u_sRetV, u_sRetI, u_sRetL, u_sRetZB, u_sRetZC, u_sRetZV, u_sRetZS, u_sRetZL, u_sSw, u_sSwitch, pI_s, pL_s, pR_s, u_sPutI, u_sPutZ, u_sPutL, u_sPutR, u_sUpd, sI_s, sL_s, u_sAStN, u_sAStL, u_sAUpd, u_sAUpdL, u_body, u_env0, u_eAn, u_eAint, u_eAref, u_eAlong, kl_i, kl_r, kl_l, kl_n, kl_nn, u_set1_0, u_set2_0, u_s1_1, u_s2_1, u_s1_2, u_s2_2, u_s1_3, u_s2_3, u_s1_4, u_s2_4, u_s1_5, u_s2_5, u_s1_6, u_s2_6, u_s1_7, u_s2_7, u_s1_8, u_s2_8, u_s1_9, u_s2_9, u_s1_10, u_s2_10, u_s1_11, u_s2_11, u_s1_12, u_s2_12, u_s1_13, u_s2_13, u_s1_14, u_s2_14, ab0, ab1, u_sAStB, u_sAStZ, u_rcv, ocls_s, u_sCase, iteSX, u_rnd, loop_do, eN_s, u_iB, u_lB, sRetZ1, sRetZ0, va_up_at, Nat.add_left_cancel_iff, req_t, req_f, zeq_t, zeq_f, leq_t, leq_f, rne_t, rne_f, zne_t, zne_f, lne_t, lne_f, rlt_t, rlt_f, zlt_t, zlt_f, llt_t, llt_f, rge_t, rge_f, zge_t, zge_f, lge_t, lge_f, rgt_t, rgt_f, zgt_t, zgt_f, lgt_t, lgt_f, rle_t, rle_f, zle_t, zle_f, lle_t, lle_f, Bool.not_eq_true', Bool.not_true, Bool.not_false, Bool.true_eq_false, Bool.false_eq_true, List.getElem?_cons_zero, List.getElem?_cons_succ, List.getElem?_nil, List.set_cons_zero, List.set_cons_succ, List.cons_append, List.nil_append, List.replicate_succ, List.replicate_zero, List.length_cons, List.length_nil, List.length_append, List.length_replicate, List.take_succ_cons, List.take_zero, reduceIte, reduceCtorEq, Nat.reduceEqDiff, Nat.reduceAdd, Nat.reduceSub, Nat.reduceMul, Nat.reduceLeDiff, Nat.reduceLT, and_true, true_and, if_true, if_false, Nat.zero_add, Nat.add_zero, List.append_nil, not_true_eq_false, not_false_eq_true, and_false, false_and, or_true, true_or, or_false, false_or, ne_eq, Classical.not_not, hi2.2.2.1, hi2.o1.2.2.2.1, s_mostLoads hw hi']
    exact kk h2 hi2 f2
  · rw [if_neg hx] at kk
    simp (disch := omega) only [s_isHutF hi.hl.1 hx, cI_s, cL0_s, cR_s, vI_s, vL_s, vR_s, u_iLoc, u_lLoc, u_rLoc, u_iK, u_lK, u_iBg, u_lBg, u_lBI, u_gT, u_gTL, u_gNZ, u_gNZL, u_iNeg, u_iOfL, u_lOfI, u_iByte, fI_s, u_iGet, fL_s, u_lGet, fR_s, u_rGet, eI_s, eL_s, u_iALd, u_bALd, u_zALd, u_lALd, u_iLen, u_iResLen, u_lRes, u_cB, u_cZ, u_cL, u_cAnd, u_cOr, u_cNot, u_cK, u_iCond, u_lCond, u_iBool, u_aNil, u_aI, u_aL, u_aR, rI_s, rL_s, rN_s, u_iCallV, u_lCallV, u_iCallS, u_lCallS, u_sCallV, u_sCallS, u_sSkip, u_sBreak, u_sCont, u_sSeq, u_sIf, u_sForget, u_sSetI, u_sSetL, u_sSetR, u_sInc, u_sRetV, u_sRetI, u_sRetL, u_sRetZB, u_sRetZC, u_sRetZV, u_sRetZS, u_sRetZL, u_sSw, u_sSwitch, pI_s, pL_s, pR_s, u_sPutI, u_sPutZ, u_sPutL, u_sPutR, u_sUpd, sI_s, sL_s, u_sAStN, u_sAStL, u_sAUpd, u_sAUpdL, u_body, u_env0, u_eAn, u_eAint, u_eAref, u_eAlong, kl_i, kl_r, kl_l, kl_n, kl_nn, u_set1_0, u_set2_0, u_s1_1, u_s2_1, u_s1_2, u_s2_2, u_s1_3, u_s2_3, u_s1_4, u_s2_4, u_s1_5, u_s2_5, u_s1_6, u_s2_6, u_s1_7, u_s2_7, u_s1_8, u_s2_8, u_s1_9, u_s2_9, u_s1_10, u_s2_10, u_s1_11, u_s2_11, u_s1_12, u_s2_12, u_s1_13, u_s2_13, u_s1_14, u_s2_14, ab0, ab1, u_sAStB, u_sAStZ, u_rcv, ocls_s, u_sCase, iteSX, u_rnd, loop_do, eN_s, u_iB, u_lB, sRetZ1, sRetZ0, va_up_at, Nat.add_left_cancel_iff, req_t, req_f, zeq_t, zeq_f, leq_t, leq_f, rne_t, rne_f, zne_t, zne_f, lne_t, lne_f, rlt_t, rlt_f, zlt_t, zlt_f, llt_t, llt_f, rge_t, rge_f, zge_t, zge_f, lge_t, lge_f, rgt_t, rgt_f, zgt_t, zgt_f, lgt_t, lgt_f, rle_t, rle_f, zle_t, zle_f, lle_t, lle_f, Bool.not_eq_true', Bool.not_true, Bool.not_false, Bool.true_eq_false, Bool.false_eq_true, List.getElem?_cons_zero, List.getElem?_cons_succ, List.getElem?_nil, List.set_cons_zero, List.set_cons_succ, List.cons_append, List.nil_append, List.replicate_succ, List.replicate_zero, List.length_cons, List.length_nil, List.length_append, List.length_replicate, List.take_succ_cons, List.take_zero, reduceIte, reduceCtorEq, Nat.reduceEqDiff, Nat.reduceAdd, Nat.reduceSub, Nat.reduceMul, Nat.reduceLeDiff, Nat.reduceLT, and_true, true_and, if_true, if_false, Nat.zero_add, Nat.add_zero, List.append_nil, not_true_eq_false, not_false_eq_true, and_false, false_and, or_true, true_or, or_false, false_or, ne_eq, Classical.not_not, nI_lit, nI_add, pk_mul, nI_eq, nI_leI, nI_ltI, nI_clamp, nI_nn, nI_neg, vp_inT, pk_sub, jshrN, jshlN, nI_and, nI_or, nI_addmo, nI_moE, nI_mtE, nI_mo, nI_mt, mo_nI, mo_lt, lt_mo, mo_le, le_mo, true_or, or_true, or_false, false_or, or_self, Nat.zero_le, Nat.not_lt_zero, not_true_eq_false, not_false_eq_true, dec_T, dec_F, false_and, and_false, and_self, Bool.not_true, Bool.not_false, List.getElem?_cons_zero, List.getElem?_cons_succ, List.getElem?_nil, List.set_cons_zero, List.set_cons_succ, List.cons_append, List.nil_append, List.replicate, List.length_cons, List.length_nil, List.length_append, List.length_replicate, List.take, reduceIte, reduceCtorEq, Nat.reduceEqDiff, Nat.reduceAdd, Nat.reduceSub, Nat.reduceMul, Nat.reduceLeDiff, and_true, true_and, if_true, if_false, Bool.false_eq_true, Nat.zero_add, Nat.add_zero, List.append_nil, Option.some.injEq]
    exact kk h hi Fc.rf
end
