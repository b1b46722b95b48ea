set_option maxRecDepth 20000
set_option maxHeartbeats 4000000
set_option linter.all false
/-! PassHuts.rests: a contract that returns or throws -/
def thrB : List Cond := [.declares (Bundle.init0 "java/lang/RuntimeException"), .declares (Bundle.init0 "java/lang/Exception"), .declares (Bundle.init0 Bundle.tN), .castable "java/util/NoSuchElementException" "java/util/NoSuchElementException"]
theorem thr_in0 : ∀ w ∈ (vx_at0 RX11 303 "java/util/NoSuchElementException" ["java/lang/RuntimeException", "java/lang/Exception"]).filter goodWord, w ∈ lw_tbl := by decide +kernel
theorem thr_in : ∀ w ∈ (vx_at0 RX11 303 "java/util/NoSuchElementException" ["java/lang/RuntimeException", "java/lang/Exception"]).filter goodWord, w ∈ WD := fun w h => List.mem_filter.mpr ⟨thr_in0 w h, (List.mem_filter.mp h).2⟩
theorem thr_no : ∀ w ∈ (vx_at0 RX11 303 "java/util/NoSuchElementException" ["java/lang/RuntimeException", "java/lang/Exception"]).filter (fun w => !goodWord w), w ∈ thrB := by decide +kernel
theorem thr_ot : ∀ w ∈ Cond.classLink RX11 301 "java/util/NoSuchElementException" :: Cond.initialized "java/util/NoSuchElementException" :: vx_at0 RX11 303 "java/util/NoSuchElementException" ["java/lang/RuntimeException", "java/lang/Exception"], vx_ot w = true := by decide +kernel
theorem thr_w : ∀ w ∈ [Cond.classLink RX11 301 "java/util/NoSuchElementException", Cond.initialized "java/util/NoSuchElementException", Cond.classLink RL 13 "java/util/NoSuchElementException"], w ∈ WD := WD_in (by decide +kernel)
theorem thr_tb : ∀ w ∈ thrB, w ∈ lw_tbl := by decide +kernel
theorem thr_bt : ∀ w ∈ thrB, w.onTables = true := by decide +kernel
/-- the two statics that a throw reads -/
def THR (g : GT) (U : State) (H : Heap) : Prop := vx_Zq Bundle.tN "UNASSIGNED_STACK" Bundle.steD (jB g) U H ∧ vx_Zq Bundle.tN "SUPPRESSED_SENTINEL" Bundle.listD (jB g) U H
def THW (U : State) : Prop := ∀ w ∈ thrB, va_Nw w U
theorem THW.warm {s U : State} (hW : s.WarmedH U.vm) (h : THW s) : THW U := by
  intro w hw
  have h1 := h w hw
  simp only [thrB, List.mem_cons, List.not_mem_nil, or_false] at hw
  rcases hw with rfl | rfl | rfl | rfl
  · exact va_Nw.warmD hW h1
  · exact va_Nw.warmD hW h1
  · exact va_Nw.warmD hW h1
  · exact va_Nw.warmC hW h1
theorem THW.same {u U : State} (hvm : u.vm = U.vm) (h : THW u) : THW U := fun w hw => va_Nw.same (thr_bt w hw) hvm (h w hw)
theorem THR.kept {g : GT} {u U : State} {H H1 : Heap} (hvm : u.vm.Alike U.vm) (h : THR g u H) (hq : ∀ a : Nat, a < H.size → ¬ jA g a → H1[a]? = H[a]?) : THR g U H1 := by
  have hq' : ∀ a : Nat, a < H.size → ¬ jB g a → H1[a]? = H[a]? := fun a q1 q2 => hq a q1 (fun z => q2 z.1)
  exact ⟨(h.1.moved hvm).kept hq', (h.2.moved hvm).kept hq'⟩
def Pcr (g : GT) (as : List Value) (h : HS) : Array Value → State → Prop := va_Pc (as.map (cv g)) (fun U => va_P g.2.2.2.2.1 jcl (wsOf g h) U.heap ∧ va_K g.2.2.2.2.1 jcl (jtys g) U ∧ RES g U U.heap ∧ THR g U U.heap ∧ THW U)
theorem Pcr_blind {g : GT} {as : List Value} {h : HS} : FrameBlind (Pcr g as h) := fun a U fr mk q => by
  obtain ⟨q0, q1, q2, q3, q4, q5⟩ := q
  exact ⟨q0, q1, va_K.moved (u := U) (U := U.calling fr mk a) (Vm.Alike.refl U.vm) q2, RES.kept (u := U) (U := U.calling fr mk a) (Vm.Alike.refl U.vm) q3 (Nat.le_refl _) (fun _ _ _ => rfl), THR.kept (u := U) (U := U.calling fr mk a) (Vm.Alike.refl U.vm) q4 (fun _ _ _ => rfl), THW.same (u := U) (U := U.calling fr mk a) rfl q5⟩
def Wk (g : GT) (h : HS) (t : State) : Prop := va_P g.2.2.2.2.1 jcl (wsOf g h) t.heap
/-- it gives this -/
def rsR (l c w q r : Int32) : Prop := rsok l c w q ∧ ((∃ k, k < 4 ∧ rsh l c w q k ∧ r = nI k) ∨ ((∀ k, k < 4 → ¬ rsh l c w q k) ∧ q = mo ∧ r = nI (rsc l c w 4)))
/-- it throws -/
def rsX (l c w q : Int32) : Prop := ¬ rsok l c w q ∨ ((∀ k, k < 4 → ¬ rsh l c w q k) ∧ ¬ q = mo)
theorem k_rests (g : GT) (hl : g.1.stackTraces = false) (h : HS) (hJ : Jk g h) (l c w q : Int32) : vx_Met g.1 yX11_rests (.code yX11_rests cX11_rests 7 (some .int) :: WD) (rmn 6 1 6) (Pcr g [.ref 0, .int l, .int c, .int w, .int q] h)
    (va_Qi (fun r (_ : Unit) => rsR l c w q r) (fun _ t => Wk g h t) (jA g))
    (vx_X (fun _ : Unit => rsX l c w q) (fun E _ t => E = "java/util/NoSuchElementException" ∧ Wk g h t) (jA g)) 1 6 (jA g) := by
  refine vx_ofW (cc := cX11_rests) (maxL := 7) (ret := some .int) rfl rfl ?_
  intro p e s m args below meth c1 s₁ B hml hnot hv
  obtain ⟨rfl, hP, hK, hres, hthr, hthw⟩ := hv
  have hx := B.exec
  have hb := B.bytes
  have hr := B.returns
  have hts := atoms_spec (ws := .code yX11_rests cX11_rests 7 (some .int) :: WD) B.pre
  have hown : s.vm.findClass RX11 = some m.cls := findClass_of_methodNamed B.named
  have hlocks := B.notSynchronized
  have htw : ∀ u ∈ WD, u.before (([.ref 0, .int l, .int c, .int w, .int q] : List Value).map (cv g)).toArray s = true := fun w hw => hts w (List.mem_cons_of_mem _ hw)
  rw [lg_entry_eq]
  have hC : CT g tX11_rests p (rmn 6 1 6) s m (([.ref 0, .int l, .int c, .int w, .int q] : List Value).map (cv g)).toArray c1 0 0 := ⟨hx, hb, hml, hown, htw, hK, Nat.le_refl _, Nat.le_refl _, hres, Nat.zero_le _, Nat.zero_le _⟩
  have hat : ∀ u ∈ vx_at0 RX11 303 "java/util/NoSuchElementException" ["java/lang/RuntimeException", "java/lang/Exception"], u.before (([.ref 0, .int l, .int c, .int w, .int q] : List Value).map (cv g)).toArray s = true :=
    vx_hat (B := thrB) (fun w hw => htw w (thr_in w hw)) thr_no (fun w hw => va_Nw.use (thr_bt w hw) (hthw w hw))
  have thr : ∀ (pc : Nat) (H' : Heap) (locs' : List Loc) (ls' : Array Slot), ls'.size = 7 → RH g s H' locs' h → rsX l c w q → decode cX11_rests pc = .ok (.new 301, 3) → decode cX11_rests (pc + 3) = .ok (.dup, 1) → decode cX11_rests (pc + 4) = .ok (.invokespecial 303, 3) → decode cX11_rests (pc + 7) = .ok (.athrow, 1) →
      W p g.1 e (rmn 6 1 6) s m (([.ref 0, .int l, .int c, .int w, .int q] : List Value).map (cv g)).toArray below meth c1 H' locs' 0 0 (vx_MQ below (va_Qi (fun r (_ : Unit) => rsR l c w q r) (fun _ t => Wk g h t) (jA g)) (vx_X (fun _ : Unit => rsX l c w q) (fun E _ t => E = "java/util/NoSuchElementException" ∧ Wk g h t) (jA g)) (([.ref 0, .int l, .int c, .int w, .int q] : List Value).map (cv g)).toArray s 1 6 (jA g)) (F0 m pc ls' []) := by
    intro pc H' locs' ls' hsz hH' hX d0 d3 d4 d7
    refine vx_throw0 (own := RX11) (cls := "java/util/NoSuchElementException") (names := ["java/lang/RuntimeException", "java/lang/Exception"]) hx hb hl hown (by decide +kernel) (by decide +kernel) (htw _ (thr_w _ List.mem_cons_self)) (htw _ (thr_w _ (List.mem_cons_of_mem _ List.mem_cons_self))) hat thr_ot (hthr.1.narrow (fun _ z => z.1)) (hthr.2.narrow (fun _ z => z.1)) hH'.2.1 (hsz.trans hml.symm) d0 d3 d4 d7 (fun x hx => (hnot x hx).elim) (Nat.le_of_ble_eq_true rfl) (Nat.le_of_ble_eq_true rfl) (Nat.le_of_ble_eq_true rfl) (Nat.le_of_ble_eq_true rfl) hlocks ?_ hH'.2.1.2.2 (Nat.le_of_ble_eq_true rfl) (Nat.le_of_ble_eq_true rfl)
    intro t hvm hz hk
    exact ⟨(), hX, ⟨rfl, hH'.1.kept (fun k x hx => hk x.1 (hH'.1 k x hx).lt)⟩, Nat.le_trans hH'.2.1.1 hz, fun q h1 h2 => (hk q (Nat.lt_of_lt_of_le h1 hH'.2.1.1)).trans (hH'.2.1.2.1 q h1 h2)⟩
  have ret : ∀ (v : Option Value) (H' : Heap) (locs' : List Loc) (h' : HS) (pc' : Nat) (ls' : Array Slot), RH g s H' locs' h' → (h = h' ∧ ∃ r, v = some (.int r) ∧ rsR l c w q r) → isRet tX11_rests pc' v →
      W p g.1 e (rmn 6 1 6) s m (([.ref 0, .int l, .int c, .int w, .int q] : List Value).map (cv g)).toArray below meth c1 H' locs' 0 0 (vx_MQ below (va_Qi (fun r (_ : Unit) => rsR l c w q r) (fun _ t => Wk g h t) (jA g)) (vx_X (fun _ : Unit => rsX l c w q) (fun E _ t => E = "java/util/NoSuchElementException" ∧ Wk g h t) (jA g)) (([.ref 0, .int l, .int c, .int w, .int q] : List Value).map (cv g)).toArray s 1 6 (jA g)) (F0 m pc' ls' (v.map (cv g)).toList) := by
    rintro v H' locs' _ pc' ls' hH' ⟨rfl, r, rfl, hR⟩ hret
    refine vx_ret ?_
    refine W.widen (k := 1) (n := 6) (Nat.zero_le _) (Nat.zero_le _) ?_
    exact W.zret (ty := .int) hx hb hr rfl (fun t ht hW => ⟨⟨r, (), rfl, hR, by show va_P _ _ _ _; rw [ht]; exact hH'.1⟩, hH'.2.1.F ht⟩) hH'.2.1.2.2 hret.1
  refine oR_1 g p e (rmn 6 1 6) s m _ below meth c1 0 0 _ hC (fun v h' => h = h' ∧ ∃ r, v = some (.int r) ∧ rsR l c w q r) ret s.heap [] _ (env0 7 [.ref 0, .int l, .int c, .int w, .int q]) h
    (fun env h' => rsok l c w q ∧ env = [some (.ref 0), some (.int l), some (.int c), some (.int w), some (.int q), none, none] ∧ h = h') (fun _ h' => rsX l c w q ∧ h = h') (fun _ _ => False) (LR_entry (Nat.le_of_ble_eq_true rfl)) ⟨hP, va_S.rf, hJ⟩ ?_ ?_ ?_ (fun _ _ _ _ _ _ _ z => z.elim)
  · show lR_1 [some (.ref 0), some (.int l), some (.int c), some (.int w), some (.int q), none, none] h _ _ _ _
    by_cases hk : rsok l c w q
    · rw [eR1_t hk]; exact ⟨hk, rfl, rfl⟩
    · rw [eR1_f hk]; exact ⟨Or.inl hk, rfl⟩
  · rintro H1 l1 ls1 _ _ hL1 hH1 ⟨hk, rfl, rfl⟩
    refine oR_2 g p e (rmn 6 1 6) s m _ below meth c1 0 0 _ hC _ ret H1 l1 ls1 _ _ (fun env h' => (∀ k, k < 4 → ¬ rsh l c w q k) ∧ env = [some (.ref 0), some (.int l), some (.int c), some (.int w), some (.int q), some (.int (nI (rsc l c w 4))), none] ∧ h = h') (fun _ _ => False) (fun _ _ => False) hL1 hH1 ?_ ?_ (fun _ _ _ _ _ _ _ z => z.elim) (fun _ _ _ _ _ _ _ z => z.elim)
    · exact eR2 (fun k hk4 hh => ⟨rfl, _, rfl, hk, Or.inl ⟨k, hk4, hh, rfl⟩⟩) (fun hn => ⟨hn, rfl, rfl⟩)
    · rintro H2 l2 ls2 _ _ hL2 hH2 ⟨hn, rfl, rfl⟩
      by_cases hq : q = mo
      · refine oR_3 g p e (rmn 6 1 6) s m _ below meth c1 0 0 _ hC _ ret H2 l2 ls2 _ _ (fun env h' => env = [some (.ref 0), some (.int l), some (.int c), some (.int w), some (.int q), some (.int (nI (rsc l c w 4))), none] ∧ h = h') (fun _ _ => False) (fun _ _ => False) hL2 hH2 ?_ ?_ (fun _ _ _ _ _ _ _ z => z.elim) (fun _ _ _ _ _ _ _ z => z.elim)
        · rw [eR3_t hq]; exact ⟨rfl, rfl⟩
        · rintro H3 l3 ls3 _ _ hL3 hH3 ⟨rfl, rfl⟩
          refine oR_4 g p e (rmn 6 1 6) s m _ below meth c1 0 0 _ hC _ ret H3 l3 ls3 _ _ (fun _ _ => False) (fun _ _ => False) (fun _ _ => False) hL3 hH3 ?_ (fun _ _ _ _ _ _ _ z => z.elim) (fun _ _ _ _ _ _ _ z => z.elim) (fun _ _ _ _ _ _ _ z => z.elim)
          rw [eR4]
          exact ⟨rfl, _, rfl, hk, Or.inr ⟨hn, hq, rfl⟩⟩
      · refine oR_3 g p e (rmn 6 1 6) s m _ below meth c1 0 0 _ hC _ ret H2 l2 ls2 _ _ (fun _ _ => False) (fun _ h' => h = h') (fun _ _ => False) hL2 hH2 ?_ (fun _ _ _ _ _ _ _ z => z.elim) ?_ (fun _ _ _ _ _ _ _ z => z.elim)
        · rw [eR3_f hq]
        · rintro H3 l3 ls3 env3 _ hL3 hH3 rfl
          exact thr 83 H3 l3 ls3 hL3.1 hH3 (Or.inr ⟨hn, hq⟩) dX11_rests_83 dX11_rests_86 dX11_rests_87 dX11_rests_90
  · rintro H1 l1 ls1 env1 _ hL1 hH1 ⟨hX, rfl⟩
    exact thr 27 H1 l1 ls1 hL1.1 hH1 hX dX11_rests_27 dX11_rests_30 dX11_rests_31 dX11_rests_34
