set_option maxRecDepth 20000
set_option maxHeartbeats 4000000
set_option linter.all false
/-! the law, from its entry to its loop -/
theorem dvtyX11 : ∀ j, j < 11 → defaultValue (tyX11 j) = vp_V [.null, .null, .null, .null, .null, .null, .null, .null, .null, .null, .null] j := by
  intro j hj
  rcases (show j = 0 ∨ j = 1 ∨ j = 2 ∨ j = 3 ∨ j = 4 ∨ j = 5 ∨ j = 6 ∨ j = 7 ∨ j = 8 ∨ j = 9 ∨ j = 10 by omega) with rfl | rfl | rfl | rfl | rfl | rfl | rfl | rfl | rfl | rfl | rfl
  all_goals rfl
theorem dvtyX12 : ∀ j, j < 27 → defaultValue (tyX12 j) = vp_V [.int 0, .null, .int 0, .int 0, .null, .null, .null, .int 0, .int 0, .null, .null, .null, .int 0, .null, .null, .null, .null, .null, .int 0, .null, .null, .null, .int 0, .null, .null, .null, .long 0] j := by
  intro j hj
  rcases (show j = 0 ∨ j = 1 ∨ j = 2 ∨ j = 3 ∨ j = 4 ∨ j = 5 ∨ j = 6 ∨ j = 7 ∨ j = 8 ∨ j = 9 ∨ j = 10 ∨ j = 11 ∨ j = 12 ∨ j = 13 ∨ j = 14 ∨ j = 15 ∨ j = 16 ∨ j = 17 ∨ j = 18 ∨ j = 19 ∨ j = 20 ∨ j = 21 ∨ j = 22 ∨ j = 23 ∨ j = 24 ∨ j = 25 ∨ j = 26 by omega) with rfl | rfl | rfl | rfl | rfl | rfl | rfl | rfl | rfl | rfl | rfl | rfl | rfl | rfl | rfl | rfl | rfl | rfl | rfl | rfl | rfl | rfl | rfl | rfl | rfl | rfl | rfl
  all_goals rfl
theorem st_w : ∀ w ∈ [Cond.classLink RL 8 RX11, Cond.instantiable RX11 11, Cond.initialized RX11, Cond.classLink RL 16 RX12, Cond.instantiable RX12 27, Cond.initialized RX12, Cond.methodLink RL 15 yX11_init, Cond.instanceMethod yX11_init, Cond.code yX11_init cX11_init 1 none, Cond.methodLink RL 18 yX12_init, Cond.instanceMethod yX12_init, Cond.code yX12_init cX12_init 1 none, Cond.arrayClass .long], w ∈ WD := WD_in (by decide +kernel)
theorem st_k {k : Nat} {w : Cond} (h : [Cond.classLink RL 8 RX11, Cond.instantiable RX11 11, Cond.initialized RX11, Cond.classLink RL 16 RX12, Cond.instantiable RX12 27, Cond.initialized RX12, Cond.methodLink RL 15 yX11_init, Cond.instanceMethod yX11_init, Cond.code yX11_init cX11_init 1 none, Cond.methodLink RL 18 yX12_init, Cond.instanceMethod yX12_init, Cond.code yX12_init cX12_init 1 none, Cond.arrayClass .long][k]? = some w) : w ∈ WD := st_w w (List.mem_of_getElem? h)
theorem st_i11 : iok RL 15 yX11_init cX11_init 1 := ⟨Or.inl (st_k (k := 6) rfl), st_k (k := 7) rfl, st_k (k := 2) rfl, st_k (k := 8) rfl⟩
theorem st_i12 : iok RL 18 yX12_init cX12_init 1 := ⟨Or.inl (st_k (k := 9) rfl), st_k (k := 10) rfl, st_k (k := 5) rfl, st_k (k := 11) rfl⟩
theorem st_y11 : (yX11_init).cls ≠ "java/lang/invoke/MethodHandle" ∧ (yX11_init).cls ≠ "java/lang/invoke/VarHandle" ∧ (parseMethodDescriptor (yX11_init).desc).map (fun d => d.parameters.length) = some 0 := by decide +kernel
theorem st_y12 : (yX12_init).cls ≠ "java/lang/invoke/MethodHandle" ∧ (yX12_init).cls ≠ "java/lang/invoke/VarHandle" ∧ (parseMethodDescriptor (yX12_init).desc).map (fun d => d.parameters.length) = some 0 := by decide +kernel
theorem PC_len {b : List va_E} (hb : PC b) : b.length = 77 := by
  obtain ⟨c0, c1, c2, c3, c4, c5, f1, f2, rfl, -⟩ := hb
  rfl
theorem st_LV {b : List va_E} (hb : PC b) {h1 h2 : HS} (hm : MI z0 h1) (h77 : ∀ c, c < 77 → h1 c = hl b c) (e : h2 = va_up h1 96 (.inl (1, 1, .inr (.inl (fun _ => 0))))) : LV h2 := by
  have eo : ∀ c, c ≠ 96 → h2 c = h1 c := fun c q => by rw [e]; exact va_up_o q
  have e6 : h2 96 = .inl (1, 1, .inr (.inl (fun _ => 0))) := by rw [e]; exact va_up_s _ _ _
  exact ⟨z0, 20, 60, CI_0 hb (fun k hk => (eo k (by omega)).trans (h77 k hk)), MI_fr hm fun c q1 q2 => eo c (by omega), OK8_0, NOK_0, _, e6⟩
section ARM9
variable {g : GT} {p : Program} {e : Env} {R : Room} {s : State} {m : MethodId} {args : Array Value} {below : List Frame} {meth : Method} {c : Code} {Q : State → Prop} {ls : Array Slot}
theorem law_from (hCC : ∀ cells slots, cells ≤ R.cells → slots ≤ R.slots → CT g tL_law p R s m args c cells slots) (hNe : NEST s) (hn0 : g.2.2.1 = s.heap.size) (hst : g.1.stackTraces = false) (hthr : THR g s s.heap) (hthw : THW s) (hb : g.2.2.2.2.2.2.1 ≤ 3584) (hR1 : 70000 ≤ R.cells) (hR2 : 700000 ≤ R.slots) (hL : LR g 7 ls [some (.retAddr 0), none, none, none, none, none, none])
    (kx : ∀ (cells slots : Nat) (H : Heap) (locs : List Loc) (ls : Array Slot), va_S (jA (gN g 97)) s.heap H locs → cells ≤ R.cells → slots ≤ R.slots → W p g.1 e R s m args below meth c H locs cells slots Q (F0 m 1788 ls [])) : W p g.1 e R s m args below meth c s.heap [] 0 0 Q (F0 m 0 ls []) := by
  have hH0 : RH (gN g 0) s s.heap [] (hl []) := ⟨fun k q h => by simp [wsOf, gN] at h, va_S.rf, fun i _ => rfl⟩
  have hC0 := hCC 0 0 (Nat.zero_le _) (Nat.zero_le _)
  refine new_obj (g := g) (M := tL_law) (ci := 11) (index := 8) (NN := 11) (C := RX11) (T := TX11) (tt := tyX11) (fs := [.null, .null, .null, .null, .null, .null, .null, .null, .null, .null, .null]) (N := 0) hC0 (Nat.le_of_eq hn0) (by omega) hH0 rfl wsX11_in tyX11_ok (st_k (k := 0) rfl) (st_k (k := 1) rfl) (st_k (k := 2) rfl) dvtyX11 rfl (by omega) (by omega) dL_law_0 (fun H1 hH1 => ?_)
  have e1 : va_up (hl []) 0 (.inr (11, [.null, .null, .null, .null, .null, .null, .null, .null, .null, .null, .null])) = hl [.inr (11, [.null, .null, .null, .null, .null, .null, .null, .null, .null, .null, .null])] := hl_app [] _
  rw [e1] at hH1
  refine lv_dup hC0.1 hC0.2.1 dL_law_3 rfl ?_
  refine run_i (g := g) (M := tL_law) (N := 1) (n := 0) (vs := []) (a := 0) (rest := [.ref (g.2.2.1 + 0)]) (Rp := fun h' => ∃ b, PC b ∧ h' = hl b) (hCC (0 + 1) (0 + 11) (by omega) (by omega)) hNe (Nat.le_of_eq hn0) (by omega) (kkX11_init g) st_y11 rfl st_i11 (by decide) (by decide) hL.1 hH1 (Nat.le_of_ble_eq_true rfl) rfl (i_X11 _ (fun b hb => ⟨b, hb, rfl⟩)) (by omega) (by omega) dL_law_4 ?_
  rintro H2 l2 _ hH2 ⟨b, hb1, rfl⟩
  have hlen := PC_len hb1
  refine lv_astore_n hC0.1 hC0.2.1 dL_law_7 rfl hL (by decide) rfl (fun ls1 hl1 => ?_)
  have hL1 : LR g 7 ls1 [some (.retAddr 0), some (.ref 0), none, none, none, none, none] := LR_set1 (v := .ref 0) hl1
  refine new_obj (g := g) (M := tL_law) (ci := 12) (index := 16) (NN := 27) (C := RX12) (T := TX12) (tt := tyX12) (fs := [.int 0, .null, .int 0, .int 0, .null, .null, .null, .int 0, .int 0, .null, .null, .null, .int 0, .null, .null, .null, .null, .null, .int 0, .null, .null, .null, .int 0, .null, .null, .null, .long 0]) (N := 77) (hCC _ _ (by omega) (by omega)) (Nat.le_of_eq hn0) (by omega) hH2 rfl wsX12_in tyX12_ok (st_k (k := 3) rfl) (st_k (k := 4) rfl) (st_k (k := 5) rfl) dvtyX12 rfl (by omega) (by omega) dL_law_8 (fun H3 hH3 => ?_)
  have e2 : va_up (hl b) 77 (.inr (12, [.int 0, .null, .int 0, .int 0, .null, .null, .null, .int 0, .int 0, .null, .null, .null, .int 0, .null, .null, .null, .null, .null, .int 0, .null, .null, .null, .int 0, .null, .null, .null, .long 0])) = hl (b ++ [.inr (12, [.int 0, .null, .int 0, .int 0, .null, .null, .null, .int 0, .int 0, .null, .null, .null, .int 0, .null, .null, .null, .null, .null, .int 0, .null, .null, .null, .int 0, .null, .null, .null, .long 0])]) := by rw [← hl_app, hlen]
  rw [e2] at hH3
  refine lv_dup hC0.1 hC0.2.1 dL_law_11 rfl ?_
  refine run_i (g := g) (M := tL_law) (N := 78) (n := 0) (vs := []) (a := 77) (rest := [.ref (g.2.2.1 + 77)]) (Rp := fun h' => MI z0 h' ∧ ∀ c, c < 77 → h' c = hl b c) (hCC _ _ (by omega) (by omega)) hNe (Nat.le_of_eq hn0) (by omega) (kkX12_init g) st_y12 rfl st_i12 (by decide) (by decide) hL1.1 hH3 (Nat.le_of_ble_eq_true rfl) rfl ?_ (by omega) (by omega) dL_law_12 ?_
  · have := i_X12 hlen (fun h' => MI z0 h' ∧ ∀ c, c < 77 → h' c = hl b c) (fun h' k1 k2 => ⟨k1, k2⟩)
    rw [hlen] at this
    exact this
  rintro H4 l4 h4 hH4 ⟨hm4, h77⟩
  refine lv_astore_n hC0.1 hC0.2.1 dL_law_15 rfl hL1 (by decide) rfl (fun ls2 hl2 => ?_)
  have hL2 : LR g 7 ls2 [some (.retAddr 0), some (.ref 0), some (.ref 77), none, none, none, none] := LR_set1 (v := .ref 77) hl2
  refine lv_iconst (v := 1) hC0.1 hC0.2.1 dL_law_16 (by decide) ?_
  refine new_arrL (g := g) (M := tL_law) (N := 96) (n := 1) (L := 1) (hCC _ _ (by omega) (by omega)) (Nat.le_of_eq hn0) (by omega) hH4 (st_k (k := 12) rfl) (by decide) (by decide) (by decide) (by omega) (by omega) dL_law_17 (fun H5 hH5 => ?_)
  refine lv_astore_n hC0.1 hC0.2.1 dL_law_19 rfl hL2 (by decide) rfl (fun ls3 hl3 => ?_)
  have hL3 : LR g 7 ls3 [some (.retAddr 0), some (.ref 0), some (.ref 77), some (.ref 96), none, none, none] := LR_set1 (v := .ref 96) hl3
  refine lv_iconst (v := nI 0) hC0.1 hC0.2.1 dL_law_20 (by decide) ?_
  refine lv_istore hC0.1 hC0.2.1 dL_law_21 hL3 (by decide) rfl (fun ls4 hl4 => ?_)
  have hL4 : LR g 7 ls4 (lE 0) := LR_set1 (v := .int (nI 0)) hl4
  exact law_loop (g := gN g 97) (fun cells slots h1 h2 => CT_gN (hCC cells slots h1 h2)) hst hthr hthw hb kx 512 0 _ _ H5 l4 ls4 _ (by show g.2.2.2.2.2.2.1 < _; omega) (by omega) (by omega) (by omega) (LR_gN.mpr hL4) hH5 (st_LV hb1 hm4 h77 rfl)
end ARM9
