set_option maxRecDepth 20000
set_option maxHeartbeats 4000000
set_option linter.all false
/-! what the Statement gives of the start -/
theorem t_eqi {args : Array Value} {s : State} {t : Term} {z : Int32} (h : (Cond.eq t (.int z)).before args s = true) : t.eval args s none [] s = some (.int z) := by
  cases hv : t.eval args s none [] s with
  | none => simp [Cond.before, Cond.holds, Cond.value, hv] at h
  | some w =>
    have hz : (Term.int z).eval args s none [] s = some (.int z) := rfl
    simp only [Cond.before, Cond.holds, Cond.value, hv, hz] at h
    cases w <;> simp_all
theorem t_eql {args : Array Value} {s : State} {t : Term} {z : Int64} (h : (Cond.eq t (.long z)).before args s = true) : t.eval args s none [] s = some (.long z) := by
  cases hv : t.eval args s none [] s with
  | none => simp [Cond.before, Cond.holds, Cond.value, hv] at h
  | some w =>
    have hz : (Term.long z).eval args s none [] s = some (.long z) := rfl
    simp only [Cond.before, Cond.holds, Cond.value, hv, hz] at h
    cases w <;> simp_all
section FIN1
variable {g : GT} {s : State} {b : Nat}
theorem s_RES (hn0 : g.2.2.1 = s.heap.size) (hts : ∀ w ∈ lw_tbl, w.before #[Value.ref b] s = true) (hgv : (Jvm.Cond.and given_1 narrow_1).before #[Value.ref b] s = true) (hX : va_X g.2.2.2.2.2.1 g.2.2.2.2.2.2.1 g.2.2.2.2.2.2.2 s s.heap) (hbl : g.2.2.2.2.2.1 < s.heap.size) : RES g s s.heap := by
  have hs := flat_of_before _ hgv
  have hA : ∀ a : Nat, a < s.heap.size → ¬ jB g a := fun a h1 h2 => by
    have h3 : g.2.2.1 ≤ a := h2
    omega
  have harr : (Cond.arrayOf (Term.static "PassHuts$Tokens" "RESERVED" "[J") .long).before #[Value.ref b] s = true := hs _ (by decide +kernel)
  have hlen : (Term.length (Term.static "PassHuts$Tokens" "RESERVED" "[J")).eval #[Value.ref b] s none [] s = some (.int (Int32.ofNat 15)) := t_eqi (hs (Cond.eq (.length (Term.static "PassHuts$Tokens" "RESERVED" "[J")) (.int 15)) (by decide +kernel))
  have hel : ∀ j : Nat, j < 15 → (Term.elem (Term.static "PassHuts$Tokens" "RESERVED" "[J") (.int (Int32.ofNat j))).eval #[Value.ref b] s none [] s = some (.long (resv j)) := by
    intro j hj
    rcases (show j = 0 ∨ j = 1 ∨ j = 2 ∨ j = 3 ∨ j = 4 ∨ j = 5 ∨ j = 6 ∨ j = 7 ∨ j = 8 ∨ j = 9 ∨ j = 10 ∨ j = 11 ∨ j = 12 ∨ j = 13 ∨ j = 14 by omega) with rfl | rfl | rfl | rfl | rfl | rfl | rfl | rfl | rfl | rfl | rfl | rfl | rfl | rfl | rfl
    · exact t_eql (hs (Cond.eq (.elem (Term.static "PassHuts$Tokens" "RESERVED" "[J") (.int 0)) (.long 6845812)) (by decide +kernel))
    · exact t_eql (hs (Cond.eq (.elem (Term.static "PassHuts$Tokens" "RESERVED" "[J") (.int 1)) (.long 465725121651)) (by decide +kernel))
    · exact t_eql (hs (Cond.eq (.elem (Term.static "PassHuts$Tokens" "RESERVED" "[J") (.int 2)) (.long 1885434984)) (by decide +kernel))
    · exact t_eql (hs (Cond.eq (.elem (Term.static "PassHuts$Tokens" "RESERVED" "[J") (.int 3)) (.long 499850634611)) (by decide +kernel))
    · exact t_eql (hs (Cond.eq (.elem (Term.static "PassHuts$Tokens" "RESERVED" "[J") (.int 4)) (.long 1650553459)) (by decide +kernel))
    · exact t_eql (hs (Cond.eq (.elem (Term.static "PassHuts$Tokens" "RESERVED" "[J") (.int 5)) (.long 426836652665)) (by decide +kernel))
    · exact t_eql (hs (Cond.eq (.elem (Term.static "PassHuts$Tokens" "RESERVED" "[J") (.int 6)) (.long 7102841)) (by decide +kernel))
    · exact t_eql (hs (Cond.eq (.elem (Term.static "PassHuts$Tokens" "RESERVED" "[J") (.int 7)) (.long 6644084)) (by decide +kernel))
    · exact t_eql (hs (Cond.eq (.elem (Term.static "PassHuts$Tokens" "RESERVED" "[J") (.int 8)) (.long 482854660462)) (by decide +kernel))
    · exact t_eql (hs (Cond.eq (.elem (Term.static "PassHuts$Tokens" "RESERVED" "[J") (.int 9)) (.long 6909550)) (by decide +kernel))
    · exact t_eql (hs (Cond.eq (.elem (Term.static "PassHuts$Tokens" "RESERVED" "[J") (.int 10)) (.long 495874041200)) (by decide +kernel))
    · exact t_eql (hs (Cond.eq (.elem (Term.static "PassHuts$Tokens" "RESERVED" "[J") (.int 11)) (.long 495756340332)) (by decide +kernel))
    · exact t_eql (hs (Cond.eq (.elem (Term.static "PassHuts$Tokens" "RESERVED" "[J") (.int 12)) (.long 7237492)) (by decide +kernel))
    · exact t_eql (hs (Cond.eq (.elem (Term.static "PassHuts$Tokens" "RESERVED" "[J") (.int 13)) (.long 6385252)) (by decide +kernel))
    · exact t_eql (hs (Cond.eq (.elem (Term.static "PassHuts$Tokens" "RESERVED" "[J") (.int 14)) (.long 28530)) (by decide +kernel))
  obtain ⟨t0, ht, hT⟩ := va_Tof (N := 15) (f := fun j => .long (resv j)) (by decide) harr hlen hel hA
  exact ⟨⟨t0, va_Zof (hts (.laysStatic "PassHuts$Tokens" "RESERVED" "[J") (by decide +kernel)) (hts (.initialized "PassHuts$Tokens") (by decide +kernel)) ht hA, hT⟩, hX, hbl, by rw [hn0]; exact hbl⟩
theorem s_THR (hn0 : g.2.2.1 = s.heap.size) (hts : ∀ w ∈ lw_tbl, w.before #[Value.ref b] s = true) (hgv : (Jvm.Cond.and given_1 narrow_1).before #[Value.ref b] s = true) : THR g s s.heap := by
  have hs := flat_of_before _ hgv
  have hA : ∀ a : Nat, a < s.heap.size → ¬ jB g a := fun a h1 h2 => by
    have h3 : g.2.2.1 ≤ a := h2
    omega
  exact ⟨vx_Zqof (hts (.laysStatic Bundle.tN "UNASSIGNED_STACK" Bundle.steD) (by decide +kernel)) (hts (.initialized Bundle.tN) (by decide +kernel)) (hs (.isRef (.static Bundle.tN "UNASSIGNED_STACK" Bundle.steD)) (by decide +kernel)) hA,
    vx_Zqof (hts (.laysStatic Bundle.tN "SUPPRESSED_SENTINEL" Bundle.listD) (by decide +kernel)) (hts (.initialized Bundle.tN) (by decide +kernel)) (hs (.isRef (.static Bundle.tN "SUPPRESSED_SENTINEL" Bundle.listD)) (by decide +kernel)) hA⟩
theorem s_THW (hts : ∀ w ∈ lw_tbl, w.before #[Value.ref b] s = true) : THW s := fun w hw => va_Nw.of (thr_bt w hw) (hts w (thr_tb w hw))
theorem nest_tb : ∀ w ∈ nestW, w ∈ lw_tbl ∧ w.onTables = true := by decide +kernel
theorem s_NEST (hts : ∀ w ∈ lw_tbl, w.before #[Value.ref b] s = true) : NEST s := fun w hw => va_Nw.of (nest_tb w hw).2 (hts w (nest_tb w hw).1)
theorem s_K (hts : ∀ w ∈ lw_tbl, w.before #[Value.ref b] s = true) : ∃ (ac : Nat → ClassId) (D : va_G), va_K D jcl [(ac 0, .int), (ac 1, .long), (ac 2, .byte), (ac 3, .boolean)] s := by
  obtain ⟨c0, i0, k0⟩ := u_known (C := RX0) (T := TX0) (N := 17) (n := 17) hts (fun w h => WD_sub (wsX0_in w h)) (hts (.instantiable RX0 17) (by decide +kernel))
  obtain ⟨c1, i1, k1⟩ := u_known (C := RX1) (T := TX1) (N := 6) (n := 6) hts (fun w h => WD_sub (wsX1_in w h)) (hts (.instantiable RX1 6) (by decide +kernel))
  obtain ⟨c2, i2, k2⟩ := u_known (C := RX2) (T := TX2) (N := 5) (n := 5) hts (fun w h => WD_sub (wsX2_in w h)) (hts (.instantiable RX2 5) (by decide +kernel))
  obtain ⟨c3, i3, k3⟩ := u_known (C := RX3) (T := TX3) (N := 5) (n := 5) hts (fun w h => WD_sub (wsX3_in w h)) (hts (.instantiable RX3 5) (by decide +kernel))
  obtain ⟨c4, i4, k4⟩ := u_known (C := RX4) (T := TX4) (N := 3) (n := 3) hts (fun w h => WD_sub (wsX4_in w h)) (hts (.instantiable RX4 3) (by decide +kernel))
  obtain ⟨c5, i5, k5⟩ := u_known (C := RX5) (T := TX5) (N := 13) (n := 13) hts (fun w h => WD_sub (wsX5_in w h)) (hts (.instantiable RX5 13) (by decide +kernel))
  obtain ⟨c6, i6, k6⟩ := u_known (C := RX6) (T := TX6) (N := 4) (n := 4) hts (fun w h => WD_sub (wsX6_in w h)) (hts (.instantiable RX6 4) (by decide +kernel))
  obtain ⟨c7, i7, k7⟩ := u_known (C := RX7) (T := TX7) (N := 2) (n := 2) hts (fun w h => WD_sub (wsX7_in w h)) (hts (.instantiable RX7 2) (by decide +kernel))
  obtain ⟨c8, i8, k8⟩ := u_known (C := RX8) (T := TX8) (N := 6) (n := 6) hts (fun w h => WD_sub (wsX8_in w h)) (hts (.instantiable RX8 6) (by decide +kernel))
  obtain ⟨c9, i9, k9⟩ := u_known (C := RX9) (T := TX9) (N := 7) (n := 7) hts (fun w h => WD_sub (wsX9_in w h)) (hts (.instantiable RX9 7) (by decide +kernel))
  obtain ⟨c10, i10, k10⟩ := u_known (C := RX10) (T := TX10) (N := 8) (n := 8) hts (fun w h => WD_sub (wsX10_in w h)) (hts (.instantiable RX10 8) (by decide +kernel))
  obtain ⟨c11, i11, k11⟩ := u_known (C := RX11) (T := TX11) (N := 11) (n := 11) hts (fun w h => WD_sub (wsX11_in w h)) (hts (.instantiable RX11 11) (by decide +kernel))
  obtain ⟨c12, i12, k12⟩ := u_known (C := RX12) (T := TX12) (N := 27) (n := 27) hts (fun w h => WD_sub (wsX12_in w h)) (hts (.instantiable RX12 27) (by decide +kernel))
  have a0 : ∃ cA : ClassId, ArrOfT s cA .int ∧ va_RA s cA .int := by
    obtain ⟨cA, kA, comp, h1, h2, h3⟩ := Cond.arrayClass_spec (hts (.arrayClass .int) (by decide +kernel))
    exact ⟨cA, fun n z => ⟨fun k h => (by cases h), kA, h2, comp, h3⟩, h1⟩
  have a1 : ∃ cA : ClassId, ArrOfT s cA .long ∧ va_RA s cA .long := by
    obtain ⟨cA, kA, comp, h1, h2, h3⟩ := Cond.arrayClass_spec (hts (.arrayClass .long) (by decide +kernel))
    exact ⟨cA, fun n z => ⟨fun k h => (by cases h), kA, h2, comp, h3⟩, h1⟩
  have a2 : ∃ cA : ClassId, ArrOfT s cA .byte ∧ va_RA s cA .byte := by
    obtain ⟨cA, kA, comp, h1, h2, h3⟩ := Cond.arrayClass_spec (hts (.arrayClass .byte) (by decide +kernel))
    exact ⟨cA, fun n z => ⟨fun k h => (by cases h), kA, h2, comp, h3⟩, h1⟩
  have a3 : ∃ cA : ClassId, ArrOfT s cA .boolean ∧ va_RA s cA .boolean := by
    obtain ⟨cA, kA, comp, h1, h2, h3⟩ := Cond.arrayClass_spec (hts (.arrayClass .boolean) (by decide +kernel))
    exact ⟨cA, fun n z => ⟨fun k h => (by cases h), kA, h2, comp, h3⟩, h1⟩
  obtain ⟨x0, y0⟩ := a0
  obtain ⟨x1, y1⟩ := a1
  obtain ⟨x2, y2⟩ := a2
  obtain ⟨x3, y3⟩ := a3
  refine ⟨fun k => match k with
    | 0 => x0
    | 1 => x1
    | 2 => x2
    | _ => x3, (fun k => match k with
    | 0 => c0
    | 1 => c1
    | 2 => c2
    | 3 => c3
    | 4 => c4
    | 5 => c5
    | 6 => c6
    | 7 => c7
    | 8 => c8
    | 9 => c9
    | 10 => c10
    | 11 => c11
    | _ => c12, fun k => match k with
    | 0 => i0
    | 1 => i1
    | 2 => i2
    | 3 => i3
    | 4 => i4
    | 5 => i5
    | 6 => i6
    | 7 => i7
    | 8 => i8
    | 9 => i9
    | 10 => i10
    | 11 => i11
    | _ => i12), ?_, ?_⟩
  · intro k q hq
    match k, hq with
    | 0, hq =>
      have h9 : some (RX0, TX0, 17) = some q := hq
      cases h9
      exact k0
    | 1, hq =>
      have h9 : some (RX1, TX1, 6) = some q := hq
      cases h9
      exact k1
    | 2, hq =>
      have h9 : some (RX2, TX2, 5) = some q := hq
      cases h9
      exact k2
    | 3, hq =>
      have h9 : some (RX3, TX3, 5) = some q := hq
      cases h9
      exact k3
    | 4, hq =>
      have h9 : some (RX4, TX4, 3) = some q := hq
      cases h9
      exact k4
    | 5, hq =>
      have h9 : some (RX5, TX5, 13) = some q := hq
      cases h9
      exact k5
    | 6, hq =>
      have h9 : some (RX6, TX6, 4) = some q := hq
      cases h9
      exact k6
    | 7, hq =>
      have h9 : some (RX7, TX7, 2) = some q := hq
      cases h9
      exact k7
    | 8, hq =>
      have h9 : some (RX8, TX8, 6) = some q := hq
      cases h9
      exact k8
    | 9, hq =>
      have h9 : some (RX9, TX9, 7) = some q := hq
      cases h9
      exact k9
    | 10, hq =>
      have h9 : some (RX10, TX10, 8) = some q := hq
      cases h9
      exact k10
    | 11, hq =>
      have h9 : some (RX11, TX11, 11) = some q := hq
      cases h9
      exact k11
    | 12, hq =>
      have h9 : some (RX12, TX12, 27) = some q := hq
      cases h9
      exact k12
    | k + 13, hq => simp [jcl] at hq
  · intro k q hq
    match k, hq with
    | 0, hq =>
      cases hq
      exact y0
    | 1, hq =>
      cases hq
      exact y1
    | 2, hq =>
      cases hq
      exact y2
    | 3, hq =>
      cases hq
      exact y3
    | k + 4, hq => simp at hq
end FIN1
