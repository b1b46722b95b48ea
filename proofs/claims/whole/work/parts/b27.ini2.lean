set_option maxRecDepth 20000
set_option maxHeartbeats 4000000
set_option linter.all false
/-! the small constructors -/
theorem i_X8 {l : List va_E} {t : Nat} : IC nX8_init l (.inr (8, [.null, .int 0, .int 0, .int 0, .int 0, .long 0])) [.ref t] (fun b => b = [.inr (8, [.ref t, .int 0, .int 0, .int 0, .int 0, .long 0])]) := by
  intro R' k
  refine ⟨Nat.le_refl 2, ?_⟩
  refine nSeq_i (nSuper_i rfl ?_)
  refine nPutR_b rfl rfl rfl ?_
  exact ⟨rfl, Nat.le_of_ble_eq_true rfl, k _ rfl⟩
theorem i_X4 {l : List va_E} {t : Nat} : IC nX4_init l (.inr (4, [.null, .null, .int 0])) [.ref t] (fun b => b = [.inr (4, [.ref t, .ref (l.length + 1), .int 0]), .inr (8, [.ref t, .int 0, .int 0, .int 0, .int 0, .long 0])]) := by
  intro R' k
  refine ⟨Nat.le_refl 2, ?_⟩
  refine nSeq_i (nSuper_i rfl (nSeq_i (nPutR_b rfl rfl rfl ?_)))
  refine nObj_b 0 _ (vs := [.ref t]) rfl rfl rfl (by omega) (by omega) rfl (fun K' z => z) i_X8 ?_
  intro b hb
  refine ⟨rfl, Nat.le_of_ble_eq_true rfl, k _ ?_⟩
  rw [hb]
  rfl
theorem i_X5 {l : List va_E} : IC nX5_init l (.inr (5, [.null, .null, .null, .null, .null, .null, .null, .null, .int 0, .int 0, .int 0, .int 0, .int 0])) [] (fun b => b = [.inr (5, [.ref (l.length + 1), .ref (l.length + 2), .ref (l.length + 3), .ref (l.length + 4), .ref (l.length + 5), .ref (l.length + 6), .ref (l.length + 7), .ref (l.length + 8), .int 0, .int 0, .int 0, .int 0, .int 0]), zI 0 16, zI 0 16, zI 0 8, zI 3 4, zI 0 4, zI 0 4, zI 0 4, zI 0 32]) := by
  intro R' k
  refine ⟨Nat.le_refl 1, ?_⟩
  refine nSeq_i (nSuper_i rfl ?_)
  refine nSeq_i (nArr_b 0 rfl rfl (by omega) (by omega) rfl ?_)
  refine nSeq_i (nArr_b 1 rfl rfl (by omega) (by omega) rfl ?_)
  refine nSeq_i (nArr_b 2 rfl rfl (by omega) (by omega) rfl ?_)
  refine nSeq_i (nArr_b 3 rfl rfl (by omega) (by omega) rfl ?_)
  refine nSeq_i (nArr_b 4 rfl rfl (by omega) (by omega) rfl ?_)
  refine nSeq_i (nArr_b 5 rfl rfl (by omega) (by omega) rfl ?_)
  refine nSeq_i (nArr_b 6 rfl rfl (by omega) (by omega) rfl ?_)
  refine nArr_b 7 rfl rfl (by omega) (by omega) rfl ?_
  exact ⟨rfl, Nat.le_of_ble_eq_true rfl, k _ rfl⟩
theorem i_X1 {l : List va_E} : IC nX1_init l (.inr (1, [.null, .null, .null, .null, .null, .int 0])) [] (fun b => b = [.inr (1, [.ref (l.length + 1), .ref (l.length + 2), .ref (l.length + 3), .ref (l.length + 4), .ref (l.length + 5), .int 0]), zI 0 1000, zI 0 32, zI 0 4, zL 138, zL 138]) := by
  intro R' k
  refine ⟨Nat.le_refl 1, ?_⟩
  refine nSeq_i (nSuper_i rfl ?_)
  refine nSeq_i (nArr_b 0 rfl rfl (by omega) (by omega) rfl ?_)
  refine nSeq_i (nArr_b 1 rfl rfl (by omega) (by omega) rfl ?_)
  refine nSeq_i (nArr_b 2 rfl rfl (by omega) (by omega) rfl ?_)
  refine nSeq_i (nArr_b 3 rfl rfl (by omega) (by omega) rfl ?_)
  refine nArr_b 4 rfl rfl (by omega) (by omega) rfl ?_
  exact ⟨rfl, Nat.le_of_ble_eq_true rfl, k _ rfl⟩
theorem i_X9 {l : List va_E} : IC nX9_init l (.inr (9, [.null, .null, .null, .int 0, .int 0, .int 0, .int 0])) [] (fun b => b = [.inr (9, [.ref (l.length + 1), .ref (l.length + 2), .ref (l.length + 3), .int 0, .int 0, .int 0, .int 0]), zI 0 40, zI 0 40, zI 0 40]) := by
  intro R' k
  refine ⟨Nat.le_refl 1, ?_⟩
  refine nSeq_i (nSuper_i rfl ?_)
  refine nSeq_i (nArr_b 0 rfl rfl (by omega) (by omega) rfl ?_)
  refine nSeq_i (nArr_b 1 rfl rfl (by omega) (by omega) rfl ?_)
  refine nArr_b 2 rfl rfl (by omega) (by omega) rfl ?_
  exact ⟨rfl, Nat.le_of_ble_eq_true rfl, k _ rfl⟩
theorem i_X3 {l : List va_E} {y a : Nat} : IC nX3_init l (.inr (3, [.null, .null, .null, .null, .int 0])) [.ref y, .ref a] (fun b => b = [.inr (3, [.ref y, .ref (l.length + 1), .ref (l.length + 2), .ref a, .int 0]), zL 6188, zI 0 6188]) := by
  intro R' k
  refine ⟨Nat.le_refl 3, ?_⟩
  refine nSeq_i (nSuper_i rfl ?_)
  refine nSeq_i (nArr_b 0 rfl rfl (by omega) (by omega) rfl ?_)
  refine nSeq_i (nArr_b 1 rfl rfl (by omega) (by omega) rfl ?_)
  refine nSeq_i (nPutR_b rfl rfl rfl ?_)
  refine nPutR_b rfl rfl rfl ?_
  exact ⟨rfl, Nat.le_of_ble_eq_true rfl, k _ rfl⟩
theorem i_X10 {l : List va_E} {y a : Nat} : IC nX10_init l (.inr (10, [.null, .null, .null, .null, .null, .int 0, .int 0, .int 0])) [.ref y, .ref a] (fun b => b = [.inr (10, [.ref y, .ref (l.length + 1), .ref (l.length + 2), .ref (l.length + 3), .ref a, .int 0, .int 0, .int 0]), zI 0 6188, zI 0 6188, zI 0 6188]) := by
  intro R' k
  refine ⟨Nat.le_refl 3, ?_⟩
  refine nSeq_i (nSuper_i rfl ?_)
  refine nSeq_i (nArr_b 0 rfl rfl (by omega) (by omega) rfl ?_)
  refine nSeq_i (nArr_b 1 rfl rfl (by omega) (by omega) rfl ?_)
  refine nSeq_i (nArr_b 2 rfl rfl (by omega) (by omega) rfl ?_)
  refine nSeq_i (nPutR_b rfl rfl rfl ?_)
  refine nPutR_b rfl rfl rfl ?_
  exact ⟨rfl, Nat.le_of_ble_eq_true rfl, k _ rfl⟩
theorem i_X6 {l : List va_E} {y w a : Nat} : IC nX6_init l (.inr (6, [.null, .null, .null, .null])) [.ref y, .ref w, .ref a] (fun b => b = [.inr (6, [.ref y, .ref w, .ref (l.length + 1), .ref a]), zI 0 65]) := by
  intro R' k
  refine ⟨Nat.le_refl 4, ?_⟩
  refine nSeq_i (nSuper_i rfl ?_)
  refine nSeq_i (nArr_b 0 rfl rfl (by omega) (by omega) rfl ?_)
  refine nSeq_i (nPutR_b rfl rfl rfl ?_)
  refine nSeq_i (nPutR_b rfl rfl rfl ?_)
  refine nPutR_b rfl rfl rfl ?_
  exact ⟨rfl, Nat.le_of_ble_eq_true rfl, k _ rfl⟩
