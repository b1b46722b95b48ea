set_option maxRecDepth 20000
set_option maxHeartbeats 4000000
set_option linter.all false
/-! what is so stays so -/
theorem isH_nn {K : HK} (hK : KWF K) {x : Int32} (hx : isH K x) : nn x < Kn K := by
  have hn := hK.1
  obtain ⟨i, hi, rfl⟩ := isH_ex hK hx
  rwa [nn_nI (by omega)]
theorem OK_turn {s : ST8} (hok : OK8 s) {L : List Nat} {c : Int32} (hL : LW s.1 L) : OK8 (n_turn s L c) := by
  obtain ⟨⟨a1, a2, a3, a4, a5, a6⟩, b1, b2, b3, b4⟩ := hok
  refine ⟨⟨hL, by show (List.take 16 _).length ≤ 16; rw [List.length_take]; omega, fun u hu => ?_, a4, a5, a6⟩, b1, b2, b3, b4⟩
  have := List.mem_of_mem_take hu
  rcases List.mem_cons.mp this with rfl | h
  · exact a1
  · exact a3 u h
theorem OK_carry {s : ST8} (hK : KWF s.1) (hok : OK8 s) (x y : Int32) : OK8 (n_carry s x y) := by
  unfold n_carry
  by_cases h : isC s x y
  · rw [if_pos h]
    obtain ⟨hx, hy, hc⟩ := h
    have hp : (nn x, nn y) ∈ wl s.1 := mem_wl.mpr ⟨isH_nn hK hx, isH_nn hK hy, (Kc_iff.mp hc).1⟩
    exact OK_turn hok ⟨(Km_LWF hK hok.1.1.1 hp hc).1, Km_way hK hok.1.1.1 hp hc hok.1.1.2⟩
  · rw [if_neg h]; exact hok
theorem OK_lay {s : ST8} (hK : KWF s.1) (hok : OK8 s) (x : Int32) : OK8 (n_lay s x) := by
  unfold n_lay
  by_cases h : isL s x
  · rw [if_pos h]
    have hi := isH_nn hK h.1
    exact OK_turn hok ⟨Lp_LWF hok.1.1.1 hi (by have := h.2; omega), Lp_way hok.1.1.1 hok.1.1.2 hi fun z => h.2 (Or.inl z)⟩
  · rw [if_neg h]; exact hok
theorem OK_eat {s : ST8} (hK : KWF s.1) (hok : OK8 s) (x : Int32) : OK8 (n_eat s x) := by
  unfold n_eat
  by_cases h : isE s x
  · rw [if_pos h]
    have hi := isH_nn hK h.1
    exact OK_turn hok ⟨Lm_LWF hok.1.1.1 hi, Lm_way hok.1.1.2⟩
  · rw [if_neg h]; exact hok
theorem OK_undo {s : ST8} (hok : OK8 s) : OK8 (n_undo s) := by
  obtain ⟨K, L, c, U, S, M, T, l⟩ := s
  obtain ⟨⟨a1, a2, a3, a4, a5, a6⟩, b1, b2, b3, b4⟩ := hok
  cases U with
  | nil => exact ⟨⟨a1, a2, a3, a4, a5, a6⟩, b1, b2, b3, b4⟩
  | cons u U =>
    have a2 : U.length + 1 ≤ 16 := a2
    exact ⟨⟨a3 u (by simp), by show U.length ≤ 16; omega, fun v hv => a3 v (List.mem_cons_of_mem u hv), a4, a5, a6⟩, b1, b2, b3, b4⟩
theorem OK_see {s : ST8} (hK : KWF s.1) (hok : OK8 s) (x l : Int32) (m : Bool) : OK8 (n_see s x l m) := by
  unfold n_see
  by_cases h : isN s x l
  · rw [if_pos h]
    obtain ⟨⟨a1, a2, a3, a4, a5, a6⟩, b1, b2, b3, b4⟩ := hok
    refine ⟨⟨a1, a2, a3, by
      show (s.2.2.2.2.1 ++ [(nn x, nn l, m)]).length ≤ 8
      rw [List.length_append]
      have := h.2.2
      simp only [List.length_cons, List.length_nil]; omega, fun t ht => ?_, a6⟩, b1, b2, b3, b4⟩
    rcases List.mem_append.mp ht with ht | ht
    · exact a5 t ht
    · rw [List.mem_singleton.mp ht]
      have hl := h.2.1
      obtain ⟨k, hk, rfl⟩ := nI_of (x := l) (fun z => by
        have h1 := Int32.le_iff_toInt_le.mp hl.1
        have h2 := Int32.lt_iff_toInt_lt.mp z
        have e1 : (1 : Int32).toInt = 1 := by decide
        have e2 : (0 : Int32).toInt = 0 := by decide
        omega)
      have h1 : 1 ≤ k := (nI_leI (a := 1) (by omega) (by omega)).mp hl.1
      have h2 : k ≤ 12 := (nI_leI (b := 12) (by omega) (by omega)).mp hl.2
      refine ⟨isH_nn hK h.1, ?_⟩
      show 1 ≤ nn (nI k) ∧ nn (nI k) ≤ 12
      rw [nn_nI hk]; exact ⟨h1, h2⟩
  · rw [if_neg h]; exact hok
theorem OK_mark {s : ST8} (hok : OK8 s) (x : Int32) (b : Bool) : OK8 (n_mark s x b) := by
  unfold n_mark
  by_cases h : isM x
  · rw [if_pos h]
    cases b with
    | true =>
      rw [if_pos rfl]
      cases e : s.2.2.2.2.2.1 (nn x) with
      | none => exact hok
      | some t =>
        obtain ⟨L, c, S⟩ := t
        obtain ⟨⟨a1, a2, a3, a4, a5, a6⟩, b1, b2, b3, b4⟩ := hok
        obtain ⟨q1, q2, q3⟩ := a6 _ _ _ _ e
        exact ⟨⟨q1, by show 0 ≤ 16; omega, fun u hu => (by cases hu), q2, q3, a6⟩, b1, b2, b3, b4⟩
    | false =>
      rw [if_neg Bool.false_ne_true]
      obtain ⟨⟨a1, a2, a3, a4, a5, a6⟩, b1, b2, b3, b4⟩ := hok
      refine ⟨⟨a1, a2, a3, a4, a5, fun m L' c' S' q => ?_⟩, b1, b2, b3, b4⟩
      dsimp only at q
      by_cases z : m = nn x
      · rw [if_pos z] at q; cases q; exact ⟨a1, a4, a5⟩
      · rw [if_neg z] at q; exact a6 m L' c' S' q
  · rw [if_neg h]; exact hok
