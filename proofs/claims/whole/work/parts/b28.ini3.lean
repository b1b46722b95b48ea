set_option maxRecDepth 20000
set_option maxHeartbeats 4000000
set_option linter.all false
/-! a hills is made -/
theorem hl_k (l b : List va_E) (k : Nat) : hl (l ++ b) (l.length + k) = b.getD k junk := by
  unfold hl
  rw [List.getD_eq_getElem?_getD, List.getD_eq_getElem?_getD, List.getElem?_append_right (by omega), Nat.add_sub_cancel_left]
theorem hl_up {h' : HS} {l b : List va_E} {k : Nat} {y : va_E} (hk : k < b.length) (h1 : ∀ x, x ≠ l.length + k → h' x = hl (l ++ b) x) (h2 : h' (l.length + k) = y) : h' = hl (l ++ b.set k y) := by
  have e : l ++ b.set k y = (l ++ b).set (l.length + k) y := by
    rw [List.set_append_right _ _ (by omega), Nat.add_sub_cancel_left]
  rw [e, ← hl_set y (by rw [List.length_append]; omega)]
  funext x
  unfold va_up
  by_cases q : x = l.length + k
  · rw [if_pos q, q]; exact h2
  · rw [if_neg q]; exact h1 x q
def hB (q : Nat) (f : Nat → Int32) : List va_E := .inr (0, [.ref (q + 1), .ref (q + 12), .ref (q + 2), .int 0, .int 0, .ref (q + 8), .ref (q + 9), .ref (q + 10), .ref (q + 11), .ref (q + 13), .ref (q + 14), .ref (q + 15), .ref (q + 16), .ref (q + 17), .ref (q + 18), .ref (q + 19), .int 0]) :: [zI 0 5, .inr (1, [.ref (q + 3), .ref (q + 4), .ref (q + 5), .ref (q + 6), .ref (q + 7), .int 0]), zI 0 1000, zI 0 32, zI 0 4, zL 138, zL 138, zL 5, zI 0 5, zI 0 25, .inl (0, 25, .inl f), zI 0 20, zI 0 20, zI 0 20, zI 0 20, zI 0 20, zI 0 20, zI 0 20, zI 0 5]
theorem hB_set {q : Nat} {f f' : Nat → Int32} : (hB q f).set 11 (.inl (0, 25, .inl f')) = hB q f' := rfl
theorem nFill {l : List va_E} {f0 : Nat → Int32} {n : NS} {K : NS → LE → HS → Prop} (k : ∀ f, (∀ k, k < 25 → f k = mo) → K n [some (.ref l.length)] (hl (l ++ hB l.length f))) : nStmt (sCallV 0 mX0_fillNone (aR (rLoc 0) aNil)) n [some (.ref l.length)] (hl (l ++ hB l.length f0)) K := by
  have e0 : hl (l ++ hB l.length f0) l.length = _ := hl_at l _ _
  have e12 : hl (l ++ hB l.length f0) (l.length + 11) = .inl (0, 25, .inl f0) := hl_k l _ 11
  show rcv 0 [.ref l.length] (hl (l ++ hB l.length f0)) ∧ mX0_fillNone [.ref l.length] (hl (l ++ hB l.length f0)) (fun r h2 => r = none ∧ K n [some (.ref l.length)] h2)
  refine ⟨⟨_, e0⟩, ?_⟩
  refine s_fillNone (m := 0) (w := 0) (c := 0) e0 ?_ ?_
  · rw [IA, e12]; simp only [ia, e12]
  · intro h' i1 i2 i3
    refine ⟨rfl, ?_⟩
    have e : h' = hl (l ++ (hB l.length f0).set 11 (.inl (0, 25, .inl (ia h' (l.length + 11))))) := hl_up (Nat.le_of_ble_eq_true rfl) i3 i1
    rw [hB_set] at e
    rw [e]
    exact k _ i2
theorem i_X0 {l : List va_E} : IC nX0_init l (.inr (0, [.null, .null, .null, .int 0, .int 0, .null, .null, .null, .null, .null, .null, .null, .null, .null, .null, .null, .int 0])) [] (fun b => ∃ f, (∀ k, k < 25 → f k = mo) ∧ b = hB l.length f) := by
  intro R' k
  refine ⟨Nat.le_refl 1, ?_⟩
  refine nSeq_i (nSuper_i rfl ?_)
  refine nSeq_i (nArr_b 0 rfl rfl (by omega) (by omega) rfl ?_)
  refine nSeq_i (nObj_b 1 _ (vs := []) rfl rfl rfl (by omega) (by omega) rfl (fun K' z => z) i_X1 ?_)
  intro b hb
  have hb2 : b = [.inr (1, [.ref (l.length + 3), .ref (l.length + 4), .ref (l.length + 5), .ref (l.length + 6), .ref (l.length + 7), .int 0]), zI 0 1000, zI 0 32, zI 0 4, zL 138, zL 138] := by rw [hb]; simp
  rw [hb2]
  refine nSeq_i (nArr_b 7 rfl rfl (by omega) (by omega) rfl ?_)
  refine nSeq_i (nArr_b 8 rfl rfl (by omega) (by omega) rfl ?_)
  refine nSeq_i (nArr_b 9 rfl rfl (by omega) (by omega) rfl ?_)
  refine nSeq_i (nArr_b 10 rfl rfl (by omega) (by omega) rfl ?_)
  refine nSeq_i (nArr_b 11 rfl rfl (by omega) (by omega) rfl ?_)
  refine nSeq_i (nArr_b 12 rfl rfl (by omega) (by omega) rfl ?_)
  refine nSeq_i (nArr_b 13 rfl rfl (by omega) (by omega) rfl ?_)
  refine nSeq_i (nArr_b 14 rfl rfl (by omega) (by omega) rfl ?_)
  refine nSeq_i (nArr_b 15 rfl rfl (by omega) (by omega) rfl ?_)
  refine nSeq_i (nArr_b 16 rfl rfl (by omega) (by omega) rfl ?_)
  refine nSeq_i (nArr_b 17 rfl rfl (by omega) (by omega) rfl ?_)
  refine nSeq_i (nArr_b 18 rfl rfl (by omega) (by omega) rfl ?_)
  refine nFill (f0 := fun _ => 0) ?_
  intro f hf
  exact ⟨rfl, Nat.le_of_ble_eq_true rfl, k _ ⟨f, hf, rfl⟩⟩
