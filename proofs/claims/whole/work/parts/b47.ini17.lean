set_option maxRecDepth 20000
set_option maxHeartbeats 4000000
set_option linter.all false
/-! the first state keeps the rules -/
theorem OK8_0 : OK8 z0 :=
  ⟨⟨⟨⟨rfl, by decide⟩, by decide⟩, by decide, fun u hu => absurd hu List.not_mem_nil, by decide, fun s hs => absurd hs List.not_mem_nil, fun m L' c' S' z => by cases z⟩, by decide, fun x hx => absurd hx List.not_mem_nil, by decide, fun t ht => absurd ht List.not_mem_nil⟩
theorem NOK_0 : NOK (Ks z0.1) (Kn z0.1) := D0_ok.2.1
