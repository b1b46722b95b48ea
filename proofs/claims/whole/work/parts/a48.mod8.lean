set_option maxRecDepth 20000
set_option maxHeartbeats 4000000
set_option linter.all false
/-! the reference: all that it is, and its plain reads -/
def blk (b : Nat) (L : List Nat) (c : Int32) (h : HS) : Prop := (∀ i, i < 5 → ia h 89 (b + i) = nI (lg L i)) ∧ ia h 89 (b + 5) = c
def sbl (b : Nat) (S : List SN) (h : HS) : Prop := ia h 89 (b + 6) = nI S.length ∧ ∀ k, k < S.length → ia h 89 (b + (7 + 3 * k)) = nI (sna S k).1 ∧ ia h 89 (b + (8 + 3 * k)) = nI (sna S k).2.1 ∧ ia h 89 (b + (9 + 3 * k)) = nI (if (sna S k).2.2 = true then 1 else 0)
def MST (L : List Nat) (c : Int32) (U : List UN) (S : List SN) (M : MKS) (h : HS) : Prop := IA 0 651 h 89 ∧ IA 3 4 h 90 ∧ blk 0 L c h ∧ sbl 0 S h ∧
  (∀ k, k < U.length → blk (31 * (5 + (U.length - 1 - k))) (una U k).1 (una U k).2 h) ∧
  ∀ m, m < 4 → (M m = none → ia h 90 m = nI 0) ∧ ∀ L' c' S', M m = some (L', c', S') → ia h 90 m = nI 1 ∧ blk (31 * (1 + m)) L' c' h ∧ sbl (31 * (1 + m)) S' h
/-- the words, as the reference counts them -/
def wdv (j : Nat) : Nat := [11749, 23251263, 812565, 37549136, 103360, 5698469, 16490, 6902, 30596128, 12853, 36629165, 36269373, 19741, 1891, 573, 412740, 37895960, 30910767, 1825].getD j 0
def MTP (T : List Nat) (h : HS) : Prop := IA 0 1000 h 78 ∧ ∀ i, i < T.length → ia h 78 i = nI (T.getD i 0)
def MLN (ln : List LN) (h : HS) : Prop := IA 0 250 h 86 ∧ ia h 86 0 = nI ln.length ∧ ∀ i, i < ln.length → ia h 86 (1 + 3 * i) = nI (lna ln i).1 ∧ ia h 86 (2 + 3 * i) = nI (lna ln i).2.1 ∧ ia h 86 (3 + 3 * i) = nI (lna ln i).2.2
def MXX (h : HS) : Prop := IA 0 1002 h 79 ∧ IA 0 1002 h 80 ∧ LA 1002 h 81 ∧ LA 19 h 82 ∧ (∀ j, j < 19 → la h 82 j = lN (wdv j)) ∧ IA 0 5 h 93 ∧ IA 0 5 h 94 ∧ IA 0 65 h 95
/-- all that the object is, but its cells: hills, loads, carried, what was, what is seen, marks, the tape, the trip -/
abbrev ST8 : Type := HK × List Nat × Int32 × List UN × List SN × MKS × List Nat × List LN
def MI (s : ST8) (h : HS) : Prop := MC (nI s.2.2.2.2.2.2.1.length) (nI s.2.2.2.1.length) s.1 h ∧ MST s.2.1 s.2.2.1 s.2.2.2.1 s.2.2.2.2.1 s.2.2.2.2.2.1 h ∧ MTP s.2.2.2.2.2.2.1 h ∧ MLN s.2.2.2.2.2.2.2 h ∧ MXX h
/-- what is so of every such object -/
def OK8 (s : ST8) : Prop := AS s.1 s.2.1 s.2.2.2.1 s.2.2.2.2.1 s.2.2.2.2.2.1 ∧ s.2.2.2.2.2.2.1.length ≤ 1000 ∧ (∀ x, x ∈ s.2.2.2.2.2.2.1 → x = 10 ∨ 32 ≤ x ∧ x ≤ 126) ∧ s.2.2.2.2.2.2.2.length ≤ 40 ∧ (∀ t, t ∈ s.2.2.2.2.2.2.2 → lnOK (Kn s.1) t)
def Fm (h h' : HS) : Prop := ∀ c, c < 77 ∨ 95 < c → h' c = h c
theorem Fm.rf {h : HS} : Fm h h := fun _ _ => rfl
theorem Fm.tr {h h1 h2 : HS} (e1 : Fm h h1) (e2 : Fm h1 h2) : Fm h h2 := fun c hc => (e2 c hc).trans (e1 c hc)
theorem Fy.m {l : List Nat} {h h' : HS} (f : Fy l h h') (hl : ∀ c, c ∈ l → 77 ≤ c ∧ c ≤ 95) : Fm h h' := fun c hc => f c fun q => by have := hl c q; omega
theorem blk_fr {b : Nat} {L : List Nat} {c : Int32} {h h' : HS} (hb : blk b L c h) (e : h' 89 = h 89) : blk b L c h' := by unfold blk; rw [ia_fr e]; exact hb
theorem sbl_fr {b : Nat} {S : List SN} {h h' : HS} (hb : sbl b S h) (e : h' 89 = h 89) : sbl b S h' := by unfold sbl; rw [ia_fr e]; exact hb
theorem MST_fr {L : List Nat} {c : Int32} {U : List UN} {S : List SN} {M : MKS} {h h' : HS} (hs : MST L c U S M h) (e : h' 89 = h 89) (e2 : h' 90 = h 90) : MST L c U S M h' := by
  obtain ⟨a1, a2, a3, a4, a5, a6⟩ := hs
  refine ⟨IA_fr e a1, IA_fr e2 a2, blk_fr a3 e, sbl_fr a4 e, fun k hk => blk_fr (a5 k hk) e, fun m hm => ?_⟩
  rw [ia_fr e2]
  exact ⟨(a6 m hm).1, fun L' c' S' q => ⟨((a6 m hm).2 L' c' S' q).1, blk_fr ((a6 m hm).2 L' c' S' q).2.1 e, sbl_fr ((a6 m hm).2 L' c' S' q).2.2 e⟩⟩
theorem MTP_fr {T : List Nat} {h h' : HS} (ht : MTP T h) (e : h' 78 = h 78) : MTP T h' := ⟨IA_fr e ht.1, by rw [ia_fr e]; exact ht.2⟩
theorem MLN_fr {l : List LN} {h h' : HS} (ht : MLN l h) (e : h' 86 = h 86) : MLN l h' := ⟨IA_fr e ht.1, by rw [ia_fr e]; exact ht.2⟩
theorem MXX_fr {h h' : HS} (ht : MXX h) (e : ∀ c, (79 ≤ c ∧ c ≤ 82) ∨ (93 ≤ c ∧ c ≤ 95) → h' c = h c) : MXX h' := by
  obtain ⟨a1, a2, a3, a4, a5, a6, a7, a8⟩ := ht
  exact ⟨IA_fr (e 79 (by omega)) a1, IA_fr (e 80 (by omega)) a2, LA_fr (e 81 (by omega)) a3, LA_fr (e 82 (by omega)) a4, by rw [la_fr (e 82 (by omega))]; exact a5, IA_fr (e 93 (by omega)) a6, IA_fr (e 94 (by omega)) a7, IA_fr (e 95 (by omega)) a8⟩
section
variable {s : ST8} {h h' : HS} {R : Option Value → HS → Prop}
theorem MI.mc (hi : MI s h) (hc : MC (nI s.2.2.2.2.2.2.1.length) (nI s.2.2.2.1.length) s.1 h') (f : Fy [77, 87, 88, 91, 92] h h') : MI s h' :=
  ⟨hc, MST_fr hi.2.1 (f 89 (by decide)) (f 90 (by decide)), MTP_fr hi.2.2.1 (f 78 (by decide)), MLN_fr hi.2.2.2.1 (f 86 (by decide)), MXX_fr hi.2.2.2.2 fun c q => f c (by simp; omega)⟩
/-- no cell of the reference has changed -/
theorem MI_fr (hi : MI s h) (e : ∀ c, 77 ≤ c → c ≤ 95 → h' c = h c) : MI s h' := by
  obtain ⟨⟨⟨th, sz, at', ft, cd, ld, g, ho, hl1, hl2⟩, hm, hw, hl⟩, a2, a3, a4, a5⟩ := hi
  refine ⟨⟨⟨th, sz, at', ft, cd, ld, g, (e 77 (by omega) (by omega)).trans ho, LA_fr (e 92 (by omega) (by omega)) hl1, ?_⟩, HM_fr hm fun c q1 q2 => e c (by omega) (by omega), ⟨IA_fr (e 87 (by omega) (by omega)) hw.1, IA_fr (e 88 (by omega) (by omega)) hw.2⟩, IA_fr (e 91 (by omega) (by omega)) hl⟩, MST_fr a2 (e 89 (by omega) (by omega)) (e 90 (by omega) (by omega)), MTP_fr a3 (e 78 (by omega) (by omega)), MLN_fr a4 (e 86 (by omega) (by omega)), MXX_fr a5 fun c q => e c (by omega) (by omega)⟩
  rcases hl2 with q | ⟨s, x, a, b, c, d, f⟩
  · exact Or.inl q
  · exact Or.inr ⟨s, x, a, b, c, d, TB_fr f (e 92 (by omega) (by omega))⟩
theorem MI.lnw (hi : MI s h) : LNW s.2.1 h := ⟨hi.2.1.1, fun i hi' => by have := hi.2.1.2.2.1.1 i hi'; rwa [Nat.zero_add] at this⟩
/-- what a call of the reference begins with -/
theorem pub {n : Nat} {f : SX} {vs : List Value} (hv : (envA (.ref 77 :: vs)).length ≤ n) (hi : MI s h)
    (kk : ∀ h1, MI s h1 → Fm h h1 → f (env0 n (.ref 77 :: vs)) h1 (fun _ _ => False) (fun _ _ => False) (fun _ _ => False) R) : bodyOf n (sSeq (sPutI 12 0 .int (rLoc 0) (iK 0)) f) (.ref 77 :: vs) h R := by
  obtain ⟨⟨⟨th, sz, at', ft, cd, ld, g, ho, hl⟩, hm, hw, hl91⟩, hr⟩ := id hi
  rw [u_body]
  refine ⟨hv, ?_⟩
  have e0 : (env0 n (.ref 77 :: vs))[0]? = some (some (.ref 77)) := rfl
  rw [u_sSeq, u_sPutI, u_rLoc, e0, cR_s, u_iK, ho, mob, pI_s]
  refine ⟨by simp, ?_⟩
  generalize hG : va_up h 77 _ = g0
  have e77 : g0 77 = mob 0 (nI s.2.2.2.2.2.2.1.length) sz at' ft cd (nI s.2.2.2.1.length) ld g := by rw [← hG, va_up_s]; rfl
  have eo : ∀ c, c ≠ 77 → g0 c = h c := fun c q => by rw [← hG, va_up_o q]
  clear hG
  refine kk g0 (hi.mc ⟨⟨0, sz, at', ft, cd, ld, g, e77, LA_fr (eo 92 (by omega)) hl.1, ?_⟩, HM_fr hm fun c q1 q2 => eo c (by omega), ⟨IA_fr (eo 87 (by omega)) hw.1, IA_fr (eo 88 (by omega)) hw.2⟩, IA_fr (eo 91 (by omega)) hl91⟩ fun c hc => eo c fun q => hc (by simp [q])) fun c hc => eo c (by omega)
  rcases hl.2 with q | ⟨s, x, a, b, c, d, f⟩
  · exact Or.inl q
  · exact Or.inr ⟨s, x, a, b, c, d, TB_fr f (eo 92 (by omega))⟩
end
section
variable {tp un : Int32} {K : HK} {h : HS} {R : Option Value → HS → Prop}
theorem m_isHutT (hc : MC tp un K h) {x : Int32} (hx : isH K x) : mX12_isHut [.ref 77, .int x] h R = R (some (.int (nI 1))) h := by
  rw [m_isHut hc.ho hc.hm, if_pos hx]
theorem m_isHutF (hc : MC tp un K h) {x : Int32} (hx : ¬ isH K x) : mX12_isHut [.ref 77, .int x] h R = R (some (.int (nI 0))) h := by
  rw [m_isHut hc.ho hc.hm, if_neg hx]
theorem isH_ex {K : HK} (hK : KWF K) {x : Int32} (hx : isH K x) : ∃ i, i < Kn K ∧ x = nI i := by
  have hn := hK.1
  obtain ⟨j, hj, rfl⟩ := nI_of (Int32.not_lt.mpr hx.1)
  exact ⟨j, (nI_ltI (by omega) (by omega)).mp hx.2, rfl⟩
theorem isH_n {K : HK} (hK : KWF K) {i : Nat} (hi : i < Kn K) : isH K (nI i) := by
  have hn := hK.1
  exact ⟨nI_pos' (by omega), (nI_ltI (by omega) (by omega)).mpr hi⟩
end
