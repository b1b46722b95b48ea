set_option maxRecDepth 20000
set_option maxHeartbeats 4000000
set_option linter.all false
theorem i_X12 {l : List va_E} (hl7 : l.length = 77) (R' : HS → Prop) (k : ∀ h', MI z0 h' → (∀ c, c < 77 → h' c = hl l c) → R' h') : nX12_init (l.length + 1) [.ref l.length] (hl (l ++ [.inr (12, [.int 0, .null, .int 0, .int 0, .null, .null, .null, .int 0, .int 0, .null, .null, .null, .int 0, .null, .null, .null, .null, .null, .int 0, .null, .null, .null, .int 0, .null, .null, .null, .long 0])])) R' := by
  refine ⟨Nat.le_refl 1, ?_⟩
  refine nSeq_i (nSuper_i rfl ?_)
  refine nSeq_i (nArr_b 0 rfl rfl (by omega) (by omega) rfl ?_)
  refine nSeq_i (nArr_b 1 rfl rfl (by omega) (by omega) rfl ?_)
  refine nSeq_i (nArr_b 2 rfl rfl (by omega) (by omega) rfl ?_)
  refine nSeq_i (nArr_b 3 rfl rfl (by omega) (by omega) rfl ?_)
  refine nSeq_i (nLit_b 4 rfl rfl (by omega) (by omega) rfl ?_)
  refine nSeq_i (nArr_b 5 rfl rfl (by omega) (by omega) rfl ?_)
  refine nSeq_i (nArr_b 6 rfl rfl (by omega) (by omega) rfl ?_)
  refine nSeq_i (nArr_b 7 rfl rfl (by omega) (by omega) rfl ?_)
  refine nSeq_i (nArr_b 8 rfl rfl (by omega) (by omega) rfl ?_)
  refine nSeq_i (nArr_b 9 rfl rfl (by omega) (by omega) rfl ?_)
  refine nSeq_i (nArr_b 10 rfl rfl (by omega) (by omega) rfl ?_)
  refine nSeq_i (nArr_b 11 rfl rfl (by omega) (by omega) rfl ?_)
  refine nSeq_i (nArr_b 12 rfl rfl (by omega) (by omega) rfl ?_)
  refine nSeq_i (nArr_b 13 rfl rfl (by omega) (by omega) rfl ?_)
  refine nSeq_i (nArr_b 14 rfl rfl (by omega) (by omega) rfl ?_)
  refine nSeq_i (nArr_b 15 rfl rfl (by omega) (by omega) rfl ?_)
  refine nSeq_i (nArr_b 16 rfl rfl (by omega) (by omega) rfl ?_)
  refine nSeq_i (nArr_b 17 rfl rfl (by omega) (by omega) rfl ?_)
  have hk := hl_k l (ML l.length)
  show nStmt _ _ [some (.ref l.length)] (hl (l ++ ML l.length)) _
  rw [hl7] at hk ⊢
  have q : ∀ c, Nat.ble 77 c = true → hl (l ++ ML 77) c = (ML 77).getD (c - 77) junk := fun c hc => by
    have h2 : 77 ≤ c := Nat.le_of_ble_eq_true hc
    have h3 := hk (c - 77)
    rwa [show 77 + (c - 77) = c by omega] at h3
  have ql : ∀ c, c < 77 → hl (l ++ ML 77) c = hl l c := fun c hc => by
    unfold hl
    rw [List.getD_eq_getElem?_getD, List.getD_eq_getElem?_getD, List.getElem?_append_left (by omega)]
  exact i12_e q ql fun h' a b => ⟨rfl, Nat.le_of_ble_eq_true rfl, k h' a b⟩
