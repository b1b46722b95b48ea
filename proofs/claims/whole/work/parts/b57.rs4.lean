set_option maxRecDepth 20000
set_option maxHeartbeats 4000000
set_option linter.all false
/-! the law's own static rests: 0 and what came, or 1 where it was thrown -/
theorem ykX11_rests : yok yX11_rests 4 := by unfold yok; decide +kernel
theorem rs_w : ∀ w ∈ [Cond.methodLink RL 7 yX11_rests, Cond.instanceMethod yX11_rests, Cond.selects yX11_rests.cls yX11_rests yX11_rests, Cond.initialized yX11_rests.cls, Cond.code yX11_rests cX11_rests 7 (some .int)], w ∈ WD := WD_in (by decide +kernel)
theorem vkL_rests : vok RL 7 yX11_rests cX11_rests 7 (some .int) := by
  refine vok_of (rs_w _ ?_) (rs_w _ ?_) (rs_w _ ?_) (rs_w _ ?_) (rs_w _ ?_)
  · exact List.mem_of_getElem? (i := 0) rfl
  · exact List.mem_of_getElem? (i := 1) rfl
  · exact List.mem_of_getElem? (i := 2) rfl
  · exact List.mem_of_getElem? (i := 3) rfl
  · exact List.mem_of_getElem? (i := 4) rfl
def rsP (h : HS) (f : Nat → Int64) (l c w q r : Int32) (h' : HS) : Prop := (r = nI 0 ∧ ∃ v, rsR l c w q v ∧ h' = va_up h 96 (.inl (1, 1, .inr (.inl (vp_updL f 0 v.toInt64))))) ∨ (r = nI 1 ∧ rsX l c w q ∧ h' = h)
theorem k_lrests (g : GT) (hl : g.1.stackTraces = false) (h : HS) (hJ : Jk g h) (f : Nat → Int64) (h96 : h 96 = .inl (1, 1, .inr (.inl f))) (h0 : ocls (h 0) 11) (l c w q : Int32) :
    vx_Met g.1 yL_rests (.codeWith yL_rests cL_rests 7 (some .int) [(0, 14, 17, 13)] :: WD) (rmn 7 1 6) (Pcr g [.ref 0, .int l, .int c, .int w, .int q, .ref 96] h)
    (va_Qi (fun r (h' : HS) => rsP h f l c w q r h') (fun h' t => Wk g h' t ∧ Jk g h') (jA g)) (vx_X (fun _ : Unit => False) (fun _ _ _ => True) (jA g)) 1 6 (jA g) := by
  refine vx_ofWH (cc := cL_rests) (maxL := 7) (ret := some .int) (hh := [(0, 14, 17, 13)]) rfl rfl ?_
  intro p e s m args below meth c1 s₁ B hml hv
  obtain ⟨rfl, hP, hK, hres, hthr, hthw⟩ := hv
  have hx := B.exec
  have hb := B.bytes
  have hr := B.returns
  have hts := atoms_spec (ws := .codeWith yL_rests cL_rests 7 (some .int) [(0, 14, 17, 13)] :: WD) B.pre
  have tbl := vx_table (x := yL_rests) B (hts _ List.mem_cons_self)
  have hown : s.vm.findClass RL = some m.cls := findClass_of_methodNamed B.named
  have hlocks := B.notSynchronized
  have htw : ∀ u ∈ WD, u.before (([.ref 0, .int l, .int c, .int w, .int q, .ref 96] : List Value).map (cv g)).toArray s = true := fun w hw => hts w (List.mem_cons_of_mem _ hw)
  rw [lg_entry_eq]
  have hL : LR g 7 _ (env0 7 [.ref 0, .int l, .int c, .int w, .int q, .ref 96]) := LR_entry (g := g) (as := [.ref 0, .int l, .int c, .int w, .int q, .ref 96]) (nL := 7) (Nat.le_of_ble_eq_true rfl)
  generalize (lg_sl (([.ref 0, .int l, .int c, .int w, .int q, .ref 96] : List Value).map (cv g)) ++ List.replicate (7 - (lg_sl (([.ref 0, .int l, .int c, .int w, .int q, .ref 96] : List Value).map (cv g))).length) Slot.unset).toArray = ls at hL ⊢
  obtain ⟨fs, ho⟩ := h0
  have hlt : 0 < g.2.2.2.1 := Jk_lt hJ (o := 0) (by rw [ho]; intro z; cases z)
  have hg := wsOf_get (g := g) (h := h) hlt
  rw [ho] at hg
  have hlt96 : 96 < g.2.2.2.1 := Jk_lt hJ (o := 96) (by rw [h96]; intro z; cases z)
  have hg96 := wsOf_get (g := g) (h := h) hlt96
  rw [h96] at hg96
  refine lv_aload hx hb dL_rests_0 (LR_get hL (i := 5) (v := .ref 96) rfl) ?_
  refine lv_iconst (v := nI 0) hx hb dL_rests_2 (by decide) ?_
  refine lv_aload_n hx hb dL_rests_3 rfl (LR_get hL (i := 0) (v := .ref 0) rfl) ?_
  refine lv_iload_n hx hb dL_rests_4 rfl (LR_get hL (i := 1) (v := .int l) rfl) ?_
  refine lv_iload_n hx hb dL_rests_5 rfl (LR_get hL (i := 2) (v := .int c) rfl) ?_
  refine lv_iload_n hx hb dL_rests_6 rfl (LR_get hL (i := 3) (v := .int w) rfl) ?_
  refine lv_iload hx hb dL_rests_7 (LR_get hL (i := 4) (v := .int q) rfl) ?_
  refine vx_calli (vx_runV (As := [.int l, .int c, .int w, .int q]) (b := g.2.2.1 + 0) (C := RX11) (rest := [.int (nI 0), .ref (g.2.2.1 + 96)]) ⟨hx, hb, hml, hown, htw⟩ (k_rests g hl h hJ l c w q) (cwV 4 htw (goodIn_WD vkL_rests) rfl rfl rfl ⟨rfl, ykX11_rests.2⟩ ⟨Nat.le_of_ble_eq_true rfl, Nat.le_of_ble_eq_true rfl⟩) ⟨Pcr_blind, va_recv hK hP (ci := 11) rfl hg, fun U hU hW => ⟨rfl, by rw [hU]; exact hP, va_K.moved hW.alike hK, ?_, ?_, THW.warm hW hthw⟩⟩ rfl rfl hL.1 rfl (lv_room (Nat.le_of_ble_eq_true rfl)) dL_rests_9 ⟨Nat.le_of_ble_eq_true rfl, Nat.le_of_ble_eq_true rfl⟩) (A0 := jA g) (va_S.rf) (fun _ _ z => z) (fun _ z => z) (fun _ _ z => z) ?_ ?_
  · rw [hU]; exact RES.kept hW.alike hres (Nat.le_refl _) (fun _ _ _ => rfl)
  · rw [hU]; exact THR.kept hW.alike hthr (fun _ _ _ => rfl)
  · rintro E ce q9 _ t H1 locs1 ht hal hX ⟨rfl, hW1⟩ hz hk hS1 hce hcv hcl
    refine vx_catch (own := RL) (name := "java/util/NoSuchElementException") hown [] ⟨0, 14, 17, 13⟩ [] (tbl.trans rfl) (fun z hz => nomatch hz) (by decide) (by decide) (htw _ (thr_w _ (List.mem_of_getElem? (i := 2) rfl))) (va_Nw.use (thr_bt _ (List.mem_of_getElem? (i := 3) rfl)) (hthw _ (List.mem_of_getElem? (i := 3) rfl))) hce hcv hcl ?_
    refine lv_astore hx hb dL_rests_17 hL (by decide) rfl (fun ls' hL' => ?_)
    refine lv_iconst (v := nI 1) hx hb dL_rests_19 (by decide) ?_
    refine vx_ret ?_
    refine W.widen (k := 1) (n := 6) (Nat.le_of_ble_eq_true rfl) (Nat.le_of_ble_eq_true rfl) ?_
    exact W.zret (ty := .int) hx hb hr rfl (fun t' ht' hW' => ⟨⟨nI 1, h, rfl, Or.inr ⟨rfl, hX, rfl⟩, ⟨by show va_P _ _ _ _; rw [ht', ← ht]; exact hW1, hJ⟩⟩, hS1.F ht'⟩) hS1.2.2 dL_rests_20
  · rintro r _ t H1 locs1 ht hal hR hW1 hz hk hS1
    refine lv_i2l hx hb dL_rests_12 rfl ?_
    have hP1 : va_P g.2.2.2.2.1 jcl (wsOf g h) H1 := by rw [← ht]; exact hW1
    refine va_last hx hb hK hP1 (wsOf_D g h) hS1 96 1 hg96 rfl (vp_in_nI (by decide) (by decide)) dL_rests_13 (fun H4 l4 hP4 _ hS4 => ?_)
    rw [nI_clamp (by decide)] at hP4
    have hP5 : va_P g.2.2.2.2.1 jcl (wsOf g (va_up h 96 (.inl (1, 1, .inr (.inl (vp_updL f 0 r.toInt64)))))) H4 := by
      rw [← wsOf_set _ hlt96]; exact hP4
    refine lv_goto (tgt := 21) hx hb dL_rests_14 (by decide) ?_
    refine lv_iconst (v := nI 0) hx hb dL_rests_21 (by decide) ?_
    refine vx_ret ?_
    refine W.widen (k := 1) (n := 6) (Nat.le_of_ble_eq_true rfl) (Nat.le_of_ble_eq_true rfl) ?_
    exact W.zret (ty := .int) hx hb hr rfl (fun t' ht' hW' => ⟨⟨nI 0, va_up h 96 (.inl (1, 1, .inr (.inl (vp_updL f 0 r.toInt64)))), rfl, Or.inl ⟨rfl, r, hR, rfl⟩, ⟨by show va_P _ _ _ _; rw [ht']; exact hP5, Jk_up hJ hlt96⟩⟩, hS4.F ht'⟩) hS4.2.2 dL_rests_22
