set_option maxRecDepth 20000
set_option maxHeartbeats 4000000
set_option linter.all false
/-! the first state, in the class -/
def z0 : ST8 := (D0, [], nI 0, [], [], fun _ => none, [], [])
theorem IAz {h : HS} {c t L : Nat} (e : h c = zI t L) : IA t L h c ∧ ∀ i, ia h c i = nI 0 := by
  have e2 : h c = .inl (t, L, .inl (fun _ => 0)) := e
  refine ⟨?_, fun i => ?_⟩
  · rw [IA, e2]; simp only [ia, e2]
  · simp only [ia, e2]; rfl
theorem LAz {h : HS} {c L : Nat} (e : h c = zL L) : LA L h c ∧ ∀ i, la h c i = lN 0 := by
  have e2 : h c = .inl (1, L, .inr (.inl (fun _ => 0))) := e
  refine ⟨?_, fun i => ?_⟩
  · rw [LA, e2]; simp only [la, e2]
  · simp only [la, e2]; rfl
theorem wl_D0 : (wl D0).length = 0 := by decide
theorem DD_hB {a : Nat} {f : Nat → Int32} {h : HS} (e : ∀ k, k < 20 → h (a + k) = (hB a f).getD k junk) (hf : ∀ k, k < 25 → f k = mo) : DD a D0 h := by
  have e12 : h (a + 11) = .inl (0, 25, .inl f) := e 11 (by decide)
  have L7 : LA 138 h (a + 6) ∧ _ := LAz (e 6 (by decide))
  have L8 : LA 138 h (a + 7) ∧ _ := LAz (e 7 (by decide))
  refine ⟨e 0 (by decide), (IAz (e 1 (by decide))).1, (IAz (e 12 (by decide))).1, (LAz (e 8 (by decide))).1, (IAz (e 9 (by decide))).1, (IAz (e 10 (by decide))).1, ?_, (IAz (e 13 (by decide))).1, (IAz (e 14 (by decide))).1, (IAz (e 15 (by decide))).1, (IAz (e 16 (by decide))).1, (IAz (e 17 (by decide))).1, (IAz (e 18 (by decide))).1, (IAz (e 19 (by decide))).1, e 2 (by decide), (IAz (e 3 (by decide))).1, (IAz (e 4 (by decide))).1, (IAz (e 5 (by decide))).1, L7.1, L8.1, fun t ht => absurd ht (Nat.not_lt_zero t), fun s hs => ⟨Mkb_0 (fun k _ => L7.2 k) hs, Mkb_0 (fun k _ => L8.2 k) hs⟩, fun i hi => absurd hi (Nat.not_lt_zero i), fun i hi => absurd hi (Nat.not_lt_zero i), fun i hi => absurd hi (Nat.not_lt_zero i), fun i j _ _ => (IAz (e 10 (by decide))).2 _, fun j hj => ?_⟩
  · rw [IA, e12]; simp only [ia, e12]
  · simp only [ia, e12]; exact hf j hj
theorem HL_0 {a : Nat} {h : HS} (hd : DD a D0 h) : HL a D0 h := by
  obtain ⟨h0, a1, a2, a3, a4, a5, a6, a7, a8, a9, b1, b2, b3, b4, l0, l1, l2, l3, l4, l5, c1, c2, v1, v2, v3, v4, v5⟩ := hd
  refine ⟨⟨D0_ok.1, ?_, a1, a2, a3, a4, a5, a6, a7, a8, a9, b1, b2, b3, fun i hi => absurd hi (Nat.not_lt_zero i), fun i hi => absurd hi (Nat.not_lt_zero i), fun i hi => absurd hi (Nat.not_lt_zero i), fun i j hi => absurd hi (Nat.not_lt_zero i), fun i j hi => absurd hi (Nat.not_lt_zero i), fun w hw => absurd hw (by rw [wl_D0]; exact Nat.not_lt_zero w)⟩, ⟨⟨l0, l1, l2, l3, l4, l5, fun i hi => absurd hi (Nat.not_lt_zero i)⟩, fun _ s hs => c2 s hs, fun s hs z => ?_, fun s hs z => ?_⟩, b4⟩
  · rw [wl_D0]; exact h0
  · rw [(c2 s hs).1] at z; cases z
  · rw [(c2 s hs).2] at z; cases z
theorem CI_0 {b : List va_E} (hb : PC b) {h : HS} (e : ∀ k, k < 77 → h k = b.getD k junk) : CI 20 60 z0 h := by
  obtain ⟨c0, c1, c2, c3, c4, c5, f1, f2, rfl, hy, hf1, hf2⟩ := hb
  have q : ∀ k, Nat.ble (k + 1) 77 = true → h k = (CL c0 c1 c2 c3 c4 c5 f1 f2).getD k junk := fun k hk => e k (Nat.le_of_ble_eq_true hk)
  have d1 : DD 20 D0 h := DD_hB (f := f1) (fun k hk => by
    rw [q _ (by rw [Nat.ble_eq]; omega)]
    have : k = 0 ∨ k = 1 ∨ k = 2 ∨ k = 3 ∨ k = 4 ∨ k = 5 ∨ k = 6 ∨ k = 7 ∨ k = 8 ∨ k = 9 ∨ k = 10 ∨ k = 11 ∨ k = 12 ∨ k = 13 ∨ k = 14 ∨ k = 15 ∨ k = 16 ∨ k = 17 ∨ k = 18 ∨ k = 19 := by omega
    rcases this with rfl | rfl | rfl | rfl | rfl | rfl | rfl | rfl | rfl | rfl | rfl | rfl | rfl | rfl | rfl | rfl | rfl | rfl | rfl | rfl <;> rfl) hf1
  have d2 : DD 40 D0 h := DD_hB (f := f2) (fun k hk => by
    rw [q _ (by rw [Nat.ble_eq]; omega)]
    have : k = 0 ∨ k = 1 ∨ k = 2 ∨ k = 3 ∨ k = 4 ∨ k = 5 ∨ k = 6 ∨ k = 7 ∨ k = 8 ∨ k = 9 ∨ k = 10 ∨ k = 11 ∨ k = 12 ∨ k = 13 ∨ k = 14 ∨ k = 15 ∨ k = 16 ∨ k = 17 ∨ k = 18 ∨ k = 19 := by omega
    rcases this with rfl | rfl | rfl | rfl | rfl | rfl | rfl | rfl | rfl | rfl | rfl | rfl | rfl | rfl | rfl | rfl | rfl | rfl | rfl | rfl <;> rfl) hf2
  refine ⟨Or.inl rfl, Or.inl rfl, q 0 rfl, hy h (q 5 rfl) (q 6 rfl) (q 7 rfl) (q 8 rfl) (q 9 rfl) (q 10 rfl), ?_, ?_, ?_, (HL_0 d2).dr, ?_, HL_0 d1, ?_, ?_, ?_⟩
  · have i15 : IA 3 4 h 15 ∧ _ := IAz (q 15 rfl)
    exact ⟨0, by decide, q 11 rfl, (IAz (q 12 rfl)).1, (IAz (q 13 rfl)).1, (IAz (q 14 rfl)).1, i15.1, (IAz (q 16 rfl)).1, (IAz (q 17 rfl)).1, (IAz (q 18 rfl)).1, (IAz (q 19 rfl)).1, fun k hk => absurd hk (Nat.not_lt_zero k), fun k hk => absurd hk (Nat.not_lt_zero k), fun m _ => ⟨fun _ => i15.2 m, fun L' c' S' z => by cases z⟩⟩
  · exact ⟨by decide, ⟨0, 0, 0, q 60 rfl⟩, (IAz (q 61 rfl)).1, (IAz (q 62 rfl)).1, (IAz (q 63 rfl)).1, fun i hi => absurd hi (Nat.not_lt_zero i)⟩
  · exact ⟨q 1 rfl, (IAz (q 2 rfl)).1, fun i hi => absurd hi (Nat.not_lt_zero i), ⟨0, q 3 rfl⟩, ⟨0, 0, 0, 0, 0, q 4 rfl⟩⟩
  · exact ⟨⟨0, 0, 0, 0, q 64 rfl⟩, (IAz (q 65 rfl)).1, (IAz (q 66 rfl)).1, (IAz (q 67 rfl)).1⟩
  · exact ⟨q 75 rfl, (IAz (q 76 rfl)).1⟩
  · exact ⟨0, ⟨q 68 rfl, (LAz (q 69 rfl)).1, (IAz (q 70 rfl)).1⟩, Or.inl rfl⟩
  · exact ⟨0, 0, 0, ⟨q 71 rfl, (IAz (q 72 rfl)).1, (IAz (q 73 rfl)).1, (IAz (q 74 rfl)).1⟩, ⟨by decide, fun t ht => absurd ht (Nat.not_lt_zero t), fun k _ _ => (IAz (q 72 rfl)).2 k⟩, Or.inl rfl⟩
