set_option maxRecDepth 20000
set_option maxHeartbeats 4000000
set_option linter.all false
/-! the law's switch, its loop -/
def tgs : List Nat := [252, 399, 412, 425, 462, 499, 536, 573, 598, 623, 636, 661, 686, 711, 748, 773, 798, 811, 848, 873, 886, 899, 912, 949, 974, 999, 1036, 1073, 1086, 1111, 1148, 1161, 1198, 1223, 1260, 1285, 1310, 1323, 1372, 1397, 1422, 1435, 1500, 1513, 1526, 1563, 1655, 1704, 1757]
theorem tb_in : ∀ n, n < 49 → (#[212, 359, 372, 385, 422, 459, 496, 533, 558, 583, 596, 621, 646, 671, 708, 733, 758, 771, 808, 833, 846, 859, 872, 909, 934, 959, 996, 1033, 1046, 1071, 1108, 1121, 1158, 1183, 1220, 1245, 1270, 1283, 1332, 1357, 1382, 1395, 1460, 1473, 1486, 1523, 1615, 1664, 1717] : Array Int)[n]? = some (((tgs.getD n 1782 : Nat) : Int) - 40) := by decide +kernel
theorem tb_mem : ∀ n, n < 49 → tgs.getD n 1782 ∈ tgs := by decide +kernel
section ARM8
variable {g : GT} {p : Program} {e : Env} {R : Room} {s : State} {m : MethodId} {args : Array Value} {below : List Frame} {meth : Method} {c : Code} {Q : State → Prop} {cells slots : Nat} {H : Heap} {locs : List Loc} {ls : Array Slot} {h : HS} {i : Nat}
theorem arm_go {pc0 : Nat} {f : SX} (o : Sok g tL_law pc0 0 1782 0 f) (hC : CT g tL_law p R s m args c cells slots) (hL : LR g 7 ls (lE i)) (hH : RH g s H locs h) (w : f (lE i) h (fun _ _ => False) (fun env h' => env = lE i ∧ LV h') (fun _ _ => False) (fun _ _ => False))
    (kk : ∀ (H' : Heap) (locs' : List Loc) (ls' : Array Slot) (h' : HS), LR g 7 ls' (lE i) → RH g s H' locs' h' → LV h' → W p g.1 e R s m args below meth c H' locs' (cells + 1) (slots + 6) Q (F0 m 1782 ls' [])) : W p g.1 e R s m args below meth c H locs cells slots Q (F0 m pc0 ls []) := by
  refine o p e R s m args below meth c cells slots Q hC (fun _ _ => False) (fun _ _ _ _ _ _ _ z => z.elim) H locs ls _ h _ _ _ hL hH w (fun _ _ _ _ _ _ _ z => z.elim) ?_ (fun _ _ _ _ _ _ _ z => z.elim)
  rintro H2 l2 ls2 _ h2 hL2 hH2 ⟨rfl, hv2⟩
  exact W.widen (k := cells + 1) (n := slots + 6) (Nat.le_succ _) (Nat.le_add_right _ _) (kk H2 l2 ls2 h2 hL2 hH2 hv2)
theorem law_arms (hC : CT g tL_law p R s m args c cells slots) (hl : g.1.stackTraces = false) (hthr : THR g s s.heap) (hthw : THW s) (hb : g.2.2.2.2.2.2.1 ≤ 3584) (hcells : cells + 1 ≤ R.cells) (hslots : slots + 6 ≤ R.slots) (hL : LR g 7 ls (lE i)) (hH : RH g s H locs h) (hv : LV h) (hi : i + 7 ≤ g.2.2.2.2.2.2.1) (kk : ∀ (H' : Heap) (locs' : List Loc) (ls' : Array Slot) (h' : HS), LR g 7 ls' (lE i) → RH g s H' locs' h' → LV h' → W p g.1 e R s m args below meth c H' locs' (cells + 1) (slots + 6) Q (F0 m 1782 ls' [])) : ∀ pc, pc ∈ tgs → W p g.1 e R s m args below meth c H locs cells slots Q (F0 m pc ls []) := by
  intro pc hpc
  simp only [tgs, List.mem_cons, List.not_mem_nil, or_false] at hpc
  rcases hpc with rfl | rfl | rfl | rfl | rfl | rfl | rfl | rfl | rfl | rfl | rfl | rfl | rfl | rfl | rfl | rfl | rfl | rfl | rfl | rfl | rfl | rfl | rfl | rfl | rfl | rfl | rfl | rfl | rfl | rfl | rfl | rfl | rfl | rfl | rfl | rfl | rfl | rfl | rfl | rfl | rfl | rfl | rfl | rfl | rfl | rfl | rfl | rfl | rfl
  · exact W_feed hC hL hH hb hi hv fun H2 l2 h2 hH2 hv2 => W.widen (k := cells + 1) (n := slots + 6) (Nat.le_succ _) (Nat.le_add_right _ _) (kk H2 l2 ls h2 hL hH2 hv2)
  · exact arm_go (oL_1 g) hC hL hH (w_1 hv hi hb fun _ hv' => ⟨rfl, hv'⟩) kk
  · exact arm_go (oL_2 g) hC hL hH (w_2 hv hi hb fun _ hv' => ⟨rfl, hv'⟩) kk
  · exact arm_go (oL_3 g) hC hL hH (w_3 hv hi hb fun _ hv' => ⟨rfl, hv'⟩) kk
  · exact arm_go (oL_4 g) hC hL hH (w_4 hv hi hb fun _ hv' => ⟨rfl, hv'⟩) kk
  · exact arm_go (oL_5 g) hC hL hH (w_5 hv hi hb fun _ hv' => ⟨rfl, hv'⟩) kk
  · exact arm_go (oL_6 g) hC hL hH (w_6 hv hi hb fun _ hv' => ⟨rfl, hv'⟩) kk
  · exact arm_go (oL_7 g) hC hL hH (w_7 hv hi hb fun _ hv' => ⟨rfl, hv'⟩) kk
  · exact arm_go (oL_8 g) hC hL hH (w_8 hv hi hb fun _ hv' => ⟨rfl, hv'⟩) kk
  · exact arm_go (oL_9 g) hC hL hH (w_9 hv hi hb fun _ hv' => ⟨rfl, hv'⟩) kk
  · exact arm_go (oL_10 g) hC hL hH (w_10 hv hi hb fun _ hv' => ⟨rfl, hv'⟩) kk
  · exact arm_go (oL_11 g) hC hL hH (w_11 hv hi hb fun _ hv' => ⟨rfl, hv'⟩) kk
  · exact arm_go (oL_12 g) hC hL hH (w_12 hv hi hb fun _ hv' => ⟨rfl, hv'⟩) kk
  · exact arm_go (oL_13 g) hC hL hH (w_13 hv hi hb fun _ hv' => ⟨rfl, hv'⟩) kk
  · exact arm_go (oL_14 g) hC hL hH (w_14 hv hi hb fun _ hv' => ⟨rfl, hv'⟩) kk
  · exact arm_go (oL_15 g) hC hL hH (w_15 hv hi hb fun _ hv' => ⟨rfl, hv'⟩) kk
  · exact arm_go (oL_16 g) hC hL hH (w_16 hv hi hb fun _ hv' => ⟨rfl, hv'⟩) kk
  · exact arm_go (oL_17 g) hC hL hH (w_17 hv hi hb fun _ hv' => ⟨rfl, hv'⟩) kk
  · exact arm_go (oL_18 g) hC hL hH (w_18 hv hi hb fun _ hv' => ⟨rfl, hv'⟩) kk
  · exact arm_go (oL_19 g) hC hL hH (w_19 hv hi hb fun _ hv' => ⟨rfl, hv'⟩) kk
  · exact arm_go (oL_20 g) hC hL hH (w_20 hv hi hb fun _ hv' => ⟨rfl, hv'⟩) kk
  · exact arm_go (oL_21 g) hC hL hH (w_21 hv hi hb fun _ hv' => ⟨rfl, hv'⟩) kk
  · exact arm_go (oL_22 g) hC hL hH (w_22 hv hi hb fun _ hv' => ⟨rfl, hv'⟩) kk
  · exact arm_go (oL_23 g) hC hL hH (w_23 hv hi hb fun _ hv' => ⟨rfl, hv'⟩) kk
  · exact arm_go (oL_24 g) hC hL hH (w_24 hv hi hb fun _ hv' => ⟨rfl, hv'⟩) kk
  · exact arm_go (oL_25 g) hC hL hH (w_25 hv hi hb fun _ hv' => ⟨rfl, hv'⟩) kk
  · exact arm_go (oL_26 g) hC hL hH (w_26 hv hi hb fun _ hv' => ⟨rfl, hv'⟩) kk
  · exact arm_go (oL_27 g) hC hL hH (w_27 hv hi hb fun _ hv' => ⟨rfl, hv'⟩) kk
  · exact arm_go (oL_28 g) hC hL hH (w_28 hv hi hb fun _ hv' => ⟨rfl, hv'⟩) kk
  · exact arm_go (oL_29 g) hC hL hH (w_29 hv hi hb fun _ hv' => ⟨rfl, hv'⟩) kk
  · exact arm_go (oL_30 g) hC hL hH (w_30 hv hi hb fun _ hv' => ⟨rfl, hv'⟩) kk
  · exact arm_go (oL_31 g) hC hL hH (w_31 hv hi hb fun _ hv' => ⟨rfl, hv'⟩) kk
  · exact arm_go (oL_32 g) hC hL hH (w_32 hv hi hb fun _ hv' => ⟨rfl, hv'⟩) kk
  · exact arm_go (oL_33 g) hC hL hH (w_33 hv hi hb fun _ hv' => ⟨rfl, hv'⟩) kk
  · exact arm_go (oL_34 g) hC hL hH (w_34 hv hi hb fun _ hv' => ⟨rfl, hv'⟩) kk
  · exact arm_go (oL_35 g) hC hL hH (w_35 hv hi hb fun _ hv' => ⟨rfl, hv'⟩) kk
  · exact arm_go (oL_36 g) hC hL hH (w_36 hv hi hb fun _ hv' => ⟨rfl, hv'⟩) kk
  · exact arm_go (oL_37 g) hC hL hH (w_37 hv hi hb fun _ hv' => ⟨rfl, hv'⟩) kk
  · exact arm_go (oL_38 g) hC hL hH (w_38 hv hi hb fun _ hv' => ⟨rfl, hv'⟩) kk
  · exact arm_go (oL_39 g) hC hL hH (w_39 hv hi hb fun _ hv' => ⟨rfl, hv'⟩) kk
  · exact arm_go (oL_40 g) hC hL hH (w_40 hv hi hb fun _ hv' => ⟨rfl, hv'⟩) kk
  · exact arm_go (oL_41 g) hC hL hH (w_41 hv hi hb fun _ hv' => ⟨rfl, hv'⟩) kk
  · exact arm_go (oL_42 g) hC hL hH (w_42 hv hi hb fun _ hv' => ⟨rfl, hv'⟩) kk
  · exact arm_go (oL_43 g) hC hL hH (w_43 hv hi hb fun _ hv' => ⟨rfl, hv'⟩) kk
  · exact arm_go (oL_44 g) hC hL hH (w_44 hv hi hb fun _ hv' => ⟨rfl, hv'⟩) kk
  · exact W_rests hC hl hthr hthw hL hH hb hi hv hcells hslots kk
  · exact arm_go (oL_46 g) hC hL hH (w_46 hv hi hb fun _ hv' => ⟨rfl, hv'⟩) kk
  · exact arm_go (oL_47 g) hC hL hH (w_47 hv hi hb fun _ hv' => ⟨rfl, hv'⟩) kk
  · exact arm_go (oL_48 g) hC hL hH (w_48 hv hi hb fun _ hv' => ⟨rfl, hv'⟩) kk
theorem law_sw (hC : CT g tL_law p R s m args c cells slots) (hl : g.1.stackTraces = false) (hthr : THR g s s.heap) (hthw : THW s) (hb : g.2.2.2.2.2.2.1 ≤ 3584) (hcells : cells + 1 ≤ R.cells) (hslots : slots + 6 ≤ R.slots) (hL : LR g 7 ls (lE i)) (hH : RH g s H locs h) (hv : LV h) (hi : i + 7 ≤ g.2.2.2.2.2.2.1) (kk : ∀ (H' : Heap) (locs' : List Loc) (ls' : Array Slot) (h' : HS), LR g 7 ls' (lE i) → RH g s H' locs' h' → LV h' → W p g.1 e R s m args below meth c H' locs' (cells + 1) (slots + 6) Q (F0 m 1782 ls' [])) {x : Int32} : W p g.1 e R s m args below meth c H locs cells slots Q (F0 m 40 ls [.int x]) := by
  by_cases hx : 0 ≤ x.toInt ∧ x.toInt < 49
  · have hn : (x.toInt - 0).toNat < 49 := by omega
    exact lv_tableIn (tgt := tgs.getD (x.toInt - 0).toNat 1782) hC.1 hC.2.1 dL_law_40 (by omega) (by omega) (tb_in _ hn) (by omega) (law_arms hC hl hthr hthw hb hcells hslots hL hH hv hi kk _ (tb_mem _ hn))
  · exact lv_tableOut hC.1 hC.2.1 dL_law_40 (by omega) (tgt := 1782) (by decide) (W.widen (k := cells + 1) (n := slots + 6) (Nat.le_succ _) (Nat.le_add_right _ _) (kk H locs ls h hL hH hv))
theorem hd_neg : ∀ L, L < 7 → (nI L - nI 7).toInt < 0 := by decide +kernel
theorem hd_cmp {i L : Nat} (hi : i ≤ 4000) (hL : L ≤ 3584) : rle (nI i) (nI L - nI 7) = decide (i + 7 ≤ L) := by
  show decide (nI i ≤ nI L - nI 7) = decide (i + 7 ≤ L)
  rw [decide_eq_decide]
  by_cases h7 : 7 ≤ L
  · obtain ⟨k, rfl⟩ : ∃ k, L = k + 7 := ⟨L - 7, by omega⟩
    rw [← nI_add k 7, Int32.add_sub_cancel, nI_leI (by omega) (by omega)]
    omega
  · have h1 := hd_neg L (by omega)
    constructor
    · intro z
      rw [Int32.le_iff_toInt_le, nI_toInt (by omega)] at z
      omega
    · intro z
      omega
theorem law_step (hC : CT g tL_law p R s m args c cells slots) (hl : g.1.stackTraces = false) (hthr : THR g s s.heap) (hthw : THW s) (hb : g.2.2.2.2.2.2.1 ≤ 3584) (hcells : cells + 1 ≤ R.cells) (hslots : slots + 6 ≤ R.slots) (hL : LR g 7 ls (lE i)) (hH : RH g s H locs h) (hv : LV h) (hi4 : i ≤ 4000) (kx : ¬ i + 7 ≤ g.2.2.2.2.2.2.1 → W p g.1 e R s m args below meth c H locs cells slots Q (F0 m 1788 ls [])) (kk : i + 7 ≤ g.2.2.2.2.2.2.1 → (∀ (H' : Heap) (locs' : List Loc) (ls' : Array Slot) (h' : HS), LR g 7 ls' (lE i) → RH g s H' locs' h' → LV h' → W p g.1 e R s m args below meth c H' locs' (cells + 1) (slots + 6) Q (F0 m 1782 ls' []))) : W p g.1 e R s m args below meth c H locs cells slots Q (F0 m 23 ls []) := by
  obtain ⟨-, hx, hbl, hb0⟩ := hC.2.2.2.2.2.2.2.2.1
  refine lv_iload hC.1 hC.2.1 dL_law_23 (LR_get hL (i := 4) (v := .int (nI i)) rfl) ?_
  refine lv_aload_n hC.1 hC.2.1 dL_law_25 rfl (LR_get hL (i := 0) (v := .retAddr 0) rfl) ?_
  refine va_slen hC.1 hC.2.1 hx hbl (fun z => absurd z.1 (Nat.not_le.mpr hb0)) hH.2.1 dL_law_26 ?_
  refine lv_bipush (v := nI 7) hC.1 hC.2.1 dL_law_27 (by decide) ?_
  refine lv_isub hC.1 hC.2.1 dL_law_29 ?_
  refine (JI.leF (g := g) (M := tL_law) (tgt := 1788) dL_law_30 (by decide)) p e R s m args below meth c cells slots Q hC H locs ls [] (nI i) (nI g.2.2.2.2.2.2.1 - nI 7) ?_
  rw [hd_cmp hi4 hb]
  by_cases hi : i + 7 ≤ g.2.2.2.2.2.2.1
  · rw [if_pos (decide_eq_true hi)]
    refine lv_aload_n hC.1 hC.2.1 dL_law_33 rfl (LR_get hL (i := 0) (v := .retAddr 0) rfl) ?_
    refine lv_iload hC.1 hC.2.1 dL_law_34 (LR_get hL (i := 4) (v := .int (nI i)) rfl) ?_
    refine va_sld hC.1 hC.2.1 hx hbl (fun z => absurd z.1 (Nat.not_le.mpr hb0)) hH.2.1 (vp_in_nI (by omega) (by omega)) dL_law_36 ?_
    refine lv_bipush (v := nI 63) hC.1 hC.2.1 dL_law_37 (by decide) ?_
    refine lv_iand hC.1 hC.2.1 dL_law_39 ?_
    exact law_sw hC hl hthr hthw hb hcells hslots hL hH hv hi (kk hi)
  · rw [if_neg (fun z => hi (of_decide_eq_true z))]
    exact kx hi
theorem law_next (hC : CT g tL_law p R s m args c cells slots) (hL : LR g 7 ls (lE i)) (hH : RH g s H locs h) (kk : ∀ (H' : Heap) (locs' : List Loc) (ls' : Array Slot), LR g 7 ls' (lE (i + 7)) → RH g s H' locs' h → W p g.1 e R s m args below meth c H' locs' cells slots Q (F0 m 23 ls' [])) : W p g.1 e R s m args below meth c H locs cells slots Q (F0 m 1782 ls []) := by
  refine (Sok.iinc (g := g) (M := tL_law) (pc := 1782) (pcB := 0) (pcC := 0) (i := 4) (n := 7) (v := nI 7) dL_law_1782 (by decide) (by decide)) p e R s m args below meth c cells slots Q hC (fun _ _ => False) (fun _ _ _ _ _ _ _ z => z.elim) H locs ls (lE i) h (fun env h' => env = lE (i + 7) ∧ h' = h) (fun _ _ => False) (fun _ _ => False) hL hH ?_ ?_ (fun _ _ _ _ _ _ _ z => z.elim) (fun _ _ _ _ _ _ _ z => z.elim)
  · have e7 : nI i + nI 7 = nI (i + 7) := nI_add i 7
    show ([some (.retAddr 0), some (.ref 0), some (.ref 77), some (.ref 96), some (.int (nI i + nI 7)), none, none] : LE) = lE (i + 7) ∧ h = h
    rw [e7]
    exact ⟨rfl, rfl⟩
  · rintro H1 l1 ls1 _ _ hL1 hH1 ⟨rfl, rfl⟩
    exact lv_goto (tgt := 23) hC.1 hC.2.1 dL_law_1785 (by decide) (kk H1 l1 ls1 hL1 hH1)
theorem law_loop (hCC : ∀ cells slots, cells ≤ R.cells → slots ≤ R.slots → CT g tL_law p R s m args c cells slots) (hl : g.1.stackTraces = false) (hthr : THR g s s.heap) (hthw : THW s) (hb : g.2.2.2.2.2.2.1 ≤ 3584)
    (kx : ∀ (cells slots : Nat) (H : Heap) (locs : List Loc) (ls : Array Slot), va_S (jA g) s.heap H locs → cells ≤ R.cells → slots ≤ R.slots → W p g.1 e R s m args below meth c H locs cells slots Q (F0 m 1788 ls [])) :
    ∀ (n i cells slots : Nat) (H : Heap) (locs : List Loc) (ls : Array Slot) (h : HS), g.2.2.2.2.2.2.1 < i + 7 * (n + 1) → i ≤ 4000 → cells + n + 1 ≤ R.cells → slots + 6 * (n + 1) ≤ R.slots → LR g 7 ls (lE i) → RH g s H locs h → LV h → W p g.1 e R s m args below meth c H locs cells slots Q (F0 m 23 ls []) := by
  intro n
  induction n with
  | zero =>
    intro i cells slots H locs ls h h1 h2 h3 h4 hL hH hv
    exact law_step (hCC cells slots (by omega) (by omega)) hl hthr hthw hb (by omega) (by omega) hL hH hv h2 (fun _ => kx cells slots H locs ls hH.2.1 (by omega) (by omega)) (fun z => absurd z (by omega))
  | succ n ih =>
    intro i cells slots H locs ls h h1 h2 h3 h4 hL hH hv
    refine law_step (hCC cells slots (by omega) (by omega)) hl hthr hthw hb (by omega) (by omega) hL hH hv h2 (fun _ => kx cells slots H locs ls hH.2.1 (by omega) (by omega)) (fun hi H1 l1 ls1 h1' hL1 hH1 hv1 => ?_)
    exact law_next (hCC (cells + 1) (slots + 6) (by omega) (by omega)) hL1 hH1 (fun H2 l2 ls2 hL2 hH2 => ih (i + 7) (cells + 1) (slots + 6) H2 l2 ls2 h1' (by omega) (by omega) (by omega) (by omega) hL2 hH2 hv1)
end ARM8
