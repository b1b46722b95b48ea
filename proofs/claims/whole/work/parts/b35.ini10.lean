set_option maxRecDepth 20000
set_option maxHeartbeats 4000000
set_option linter.all false
/-! all that is made -/
theorem getD6 {b : List va_E} (h : b.length = 6) : ∃ c0 c1 c2 c3 c4 c5, b = [c0, c1, c2, c3, c4, c5] := by
  match b, h with
  | [c0, c1, c2, c3, c4, c5], _ => exact ⟨c0, c1, c2, c3, c4, c5, rfl⟩
def PY (b : List va_E) : Prop := ∃ c0 c1 c2 c3 c4 c5, b = [c0, c1, c2, c3, c4, c5] ∧ ∀ h : HS, h 5 = c0 → h 6 = c1 → h 7 = c2 → h 8 = c3 → h 9 = c4 → h 10 = c5 → LY h
theorem i_X2 {l : List va_E} (hl5 : l.length = 5) : IC nX2_init l (.inr (2, [.null, .null, .null, .null, .null])) [] PY := by
  intro R' k
  refine ⟨Nat.le_of_ble_eq_true rfl, ?_⟩
  refine nSeq_i (nSuper_i rfl ?_)
  refine nSeq_i (nArr_b 0 rfl rfl (by omega) (by omega) rfl ?_)
  refine nSeq_i (nArr_b 1 rfl rfl (by omega) (by omega) rfl ?_)
  refine nSeq_i (nArr_b 2 rfl rfl (by omega) (by omega) rfl ?_)
  refine nSeq_i (nArr_b 3 rfl rfl (by omega) (by omega) rfl ?_)
  refine nSeq_i (nArr_b 4 rfl rfl (by omega) (by omega) rfl ?_)
  have hk := hl_k l
  show nStmt _ _ [some (.ref l.length), none, none, none, none] (hl (l ++ [.inr (2, [.ref (l.length + 1), .ref (l.length + 2), .ref (l.length + 3), .ref (l.length + 4), .ref (l.length + 5)]), zI 0 6188, zI 0 3328, zI 0 3328, zI 0 13, zI 0 78])) _
  rw [hl5] at hk ⊢
  have c6 := hk [.inr (2, [.ref (5 + 1), .ref (5 + 2), .ref (5 + 3), .ref (5 + 4), .ref (5 + 5)]), zI 0 6188, zI 0 3328, zI 0 3328, zI 0 13, zI 0 78]
  refine lys_all ⟨c6 0, ?_, ?_, ?_, ?_, ?_⟩ fun env h' hy hf => ?_
  · rw [IA, c6 1]; simp only [ia, c6 1]; rfl
  · rw [IA, c6 2]; simp only [ia, c6 2]; rfl
  · rw [IA, c6 3]; simp only [ia, c6 3]; rfl
  · rw [IA, c6 4]; simp only [ia, c6 4]; rfl
  · rw [IA, c6 5]; simp only [ia, c6 5]; rfl
  · refine ⟨rfl, Nat.le_of_ble_eq_true rfl, ?_⟩
    have e : h' = hl (l ++ [h' 5, h' 6, h' 7, h' 8, h' 9, h' 10]) := by
      refine hl_of (fun i hi => ?_) (fun q hq => ?_) (fun i hi => ?_)
      · rw [hf i (by omega)]
        unfold hl
        rw [List.getD_eq_getElem?_getD, List.getD_eq_getElem?_getD, List.getElem?_append_left hi]
      · rw [hl5]
        have : q = 0 ∨ q = 1 ∨ q = 2 ∨ q = 3 ∨ q = 4 ∨ q = 5 := by simp at hq; omega
        rcases this with rfl | rfl | rfl | rfl | rfl | rfl <;> rfl
      · simp at hi
        rw [hf i (by omega), hl_j (by simp; omega)]
    rw [e]
    exact k _ ⟨_, _, _, _, _, _, rfl, fun g e0 e1 e2 e3 e4 e5 => LY_fr hy fun c c1 c2 => by
      have : c = 5 ∨ c = 6 ∨ c = 7 ∨ c = 8 ∨ c = 9 ∨ c = 10 := by omega
      rcases this with rfl | rfl | rfl | rfl | rfl | rfl
      · exact e0
      · exact e1
      · exact e2
      · exact e3
      · exact e4
      · exact e5⟩
