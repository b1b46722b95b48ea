set_option maxRecDepth 20000
set_option maxHeartbeats 4000000
set_option linter.all false
/-! every arm keeps the rule of the law -/
def LV (h : HS) : Prop := ∃ (s : ST8) (a p : Nat), CI a p s h ∧ MI s h ∧ OK8 s ∧ NOK (Ks s.1) (Kn s.1) ∧ ∃ f, h 96 = .inl (1, 1, .inr (.inl f))
theorem n1_carry (s : ST8) (x y : Int32) : (n_carry s x y).1 = s.1 := by unfold n_carry; split <;> rfl
theorem n1_lay (s : ST8) (x : Int32) : (n_lay s x).1 = s.1 := by unfold n_lay; split <;> rfl
theorem n1_eat (s : ST8) (x : Int32) : (n_eat s x).1 = s.1 := by unfold n_eat; split <;> rfl
theorem n1_undo (s : ST8) : (n_undo s).1 = s.1 := by unfold n_undo; split <;> rfl
theorem n1_see (s : ST8) (x y : Int32) (b : Bool) : (n_see s x y b).1 = s.1 := by unfold n_see; split <;> rfl
theorem n1_mark (s : ST8) (x : Int32) (b : Bool) : (n_mark s x b).1 = s.1 := by
  unfold n_mark
  split
  · split
    · split <;> rfl
    · rfl
  · rfl
theorem hills_OK {s : ST8} (hok : OK8 s) : OK8 (n_hills s) := OK_hills hok fun z => ((pHills_dok hok.2.1 hok.2.2.1).2 z).1
theorem hills_NOK {s : ST8} (hok : OK8 s) (hN : NOK (Ks s.1) (Kn s.1)) : NOK (Ks (n_hills s).1) (Kn (n_hills s).1) := by
  unfold n_hills
  by_cases z : (pHills s.2.2.2.2.2.2.1).1.2 = 0
  · rw [if_pos z]; exact ((pHills_dok hok.2.1 hok.2.2.1).2 z).2.1
  · rw [if_neg z]; exact hN
section ARM6
variable {h : HS} {N B C : LE → HS → Prop} {R : Option Value → HS → Prop} {L i : Nat} {xs : Nat → Int32}
theorem w_1 (hv : LV h) (hi : i + 7 ≤ L) (hL : L ≤ 3584) (kk : ∀ h', LV h' → B (lE i) h') : lL_1 L xs (lE i) h N B C R := by
  obtain ⟨s, a, p, hc, hm, hok, hN, f, hf⟩ := hv
  exact g_hills hc hm hok fun h' a' h1 h2 h4 => kk h' ⟨_, a', p, h1, h2, hills_OK hok, hills_NOK hok hN, f, h4.trans hf⟩
theorem w_2 (hv : LV h) (hi : i + 7 ≤ L) (hL : L ≤ 3584) (kk : ∀ h', LV h' → B (lE i) h') : lL_2 L xs (lE i) h N B C R := by
  obtain ⟨s, a, p, hc, hm, hok, hN, f, hf⟩ := hv
  exact g_trip hc hm hok hN fun h' p' h1 h2 h3 h4 => kk h' ⟨_, a, p', h1, h2, h3, hN, f, h4.trans hf⟩
theorem w_3 (hv : LV h) (hi : i + 7 ≤ L) (hL : L ≤ 3584) (kk : ∀ h', LV h' → B (lE i) h') : lL_3 L xs (lE i) h N B C R := by
  obtain ⟨s, a, p, hc, hm, hok, hN, f, hf⟩ := hv
  exact g_hut hc hm hok hi hL fun h' h1 h2 h4 => kk h' ⟨s, a, p, h1, h2, hok, hN, f, h4.trans hf⟩
theorem w_4 (hv : LV h) (hi : i + 7 ≤ L) (hL : L ≤ 3584) (kk : ∀ h', LV h' → B (lE i) h') : lL_4 L xs (lE i) h N B C R := by
  obtain ⟨s, a, p, hc, hm, hok, hN, f, hf⟩ := hv
  exact g_price hc hm hok hi hL fun h' h1 h2 h4 => kk h' ⟨s, a, p, h1, h2, hok, hN, f, h4.trans hf⟩
theorem w_5 (hv : LV h) (hi : i + 7 ≤ L) (hL : L ≤ 3584) (kk : ∀ h', LV h' → B (lE i) h') : lL_5 L xs (lE i) h N B C R := by
  obtain ⟨s, a, p, hc, hm, hok, hN, f, hf⟩ := hv
  exact g_can hc hm hok hi hL fun h' h1 h2 h4 => kk h' ⟨s, a, p, h1, h2, hok, hN, f, h4.trans hf⟩
theorem w_6 (hv : LV h) (hi : i + 7 ≤ L) (hL : L ≤ 3584) (kk : ∀ h', LV h' → B (lE i) h') : lL_6 L xs (lE i) h N B C R := by
  obtain ⟨s, a, p, hc, hm, hok, hN, f, hf⟩ := hv
  exact g_carry hc hm hok hi hL fun h' h1 h2 h3 h4 => kk h' ⟨_, a, p, h1, h2, h3, by rw [n1_carry]; exact hN, f, h4.trans hf⟩
theorem w_7 (hv : LV h) (hi : i + 7 ≤ L) (hL : L ≤ 3584) (kk : ∀ h', LV h' → B (lE i) h') : lL_7 L xs (lE i) h N B C R := by
  obtain ⟨s, a, p, hc, hm, hok, hN, f, hf⟩ := hv
  exact g_lay hc hm hok hi hL fun h' h1 h2 h3 h4 => kk h' ⟨_, a, p, h1, h2, h3, by rw [n1_lay]; exact hN, f, h4.trans hf⟩
theorem w_8 (hv : LV h) (hi : i + 7 ≤ L) (hL : L ≤ 3584) (kk : ∀ h', LV h' → B (lE i) h') : lL_8 L xs (lE i) h N B C R := by
  obtain ⟨s, a, p, hc, hm, hok, hN, f, hf⟩ := hv
  exact g_eat hc hm hok hi hL fun h' h1 h2 h3 h4 => kk h' ⟨_, a, p, h1, h2, h3, by rw [n1_eat]; exact hN, f, h4.trans hf⟩
theorem w_9 (hv : LV h) (hi : i + 7 ≤ L) (hL : L ≤ 3584) (kk : ∀ h', LV h' → B (lE i) h') : lL_9 L xs (lE i) h N B C R := by
  obtain ⟨s, a, p, hc, hm, hok, hN, f, hf⟩ := hv
  exact g_undo hc hm hok hi hL fun h' h1 h2 h3 h4 => kk h' ⟨_, a, p, h1, h2, h3, by rw [n1_undo]; exact hN, f, h4.trans hf⟩
theorem w_10 (hv : LV h) (hi : i + 7 ≤ L) (hL : L ≤ 3584) (kk : ∀ h', LV h' → B (lE i) h') : lL_10 L xs (lE i) h N B C R := by
  obtain ⟨s, a, p, hc, hm, hok, hN, f, hf⟩ := hv
  exact g_judged hc hm hok hi hL fun h' h1 h2 h4 => kk h' ⟨s, a, p, h1, h2, hok, hN, f, h4.trans hf⟩
theorem w_11 (hv : LV h) (hi : i + 7 ≤ L) (hL : L ≤ 3584) (kk : ∀ h', LV h' → B (lE i) h') : lL_11 L xs (lE i) h N B C R := by
  obtain ⟨s, a, p, hc, hm, hok, hN, f, hf⟩ := hv
  exact g_most hc hm hok hi hL fun h' h1 h2 h4 => kk h' ⟨s, a, p, h1, h2, hok, hN, f, h4.trans hf⟩
theorem w_12 (hv : LV h) (hi : i + 7 ≤ L) (hL : L ≤ 3584) (kk : ∀ h', LV h' → B (lE i) h') : lL_12 L xs (lE i) h N B C R := by
  obtain ⟨s, a, p, hc, hm, hok, hN, f, hf⟩ := hv
  exact g_least hc hm hok hi hL fun h' h1 h2 h4 => kk h' ⟨s, a, p, h1, h2, hok, hN, f, h4.trans hf⟩
theorem w_13 (hv : LV h) (hi : i + 7 ≤ L) (hL : L ≤ 3584) (kk : ∀ h', LV h' → B (lE i) h') : lL_13 L xs (lE i) h N B C R := by
  obtain ⟨s, a, p, hc, hm, hok, hN, f, hf⟩ := hv
  exact g_row hc hm hok hi hL fun h' h1 h2 h4 => kk h' ⟨s, a, p, h1, h2, hok, hN, f, h4.trans hf⟩
theorem w_14 (hv : LV h) (hi : i + 7 ≤ L) (hL : L ≤ 3584) (kk : ∀ h', LV h' → B (lE i) h') : lL_14 L xs (lE i) h N B C R := by
  obtain ⟨s, a, p, hc, hm, hok, hN, f, hf⟩ := hv
  exact g_ways hc hm hok hi hL fun h' h1 h2 h4 => kk h' ⟨s, a, p, h1, h2, hok, hN, f, h4.trans hf⟩
theorem w_15 (hv : LV h) (hi : i + 7 ≤ L) (hL : L ≤ 3584) (kk : ∀ h', LV h' → B (lE i) h') : lL_15 L xs (lE i) h N B C R := by
  obtain ⟨s, a, p, hc, hm, hok, hN, f, hf⟩ := hv
  exact g_over hc hm hok hi hL fun h' h1 h2 h4 => kk h' ⟨s, a, p, h1, h2, hok, hN, f, h4.trans hf⟩
theorem w_16 (hv : LV h) (hi : i + 7 ≤ L) (hL : L ≤ 3584) (kk : ∀ h', LV h' → B (lE i) h') : lL_16 L xs (lE i) h N B C R := by
  obtain ⟨s, a, p, hc, hm, hok, hN, f, hf⟩ := hv
  exact g_cover hc hm hok hi hL fun h' h1 h2 h4 => kk h' ⟨s, a, p, h1, h2, hok, hN, f, h4.trans hf⟩
theorem w_17 (hv : LV h) (hi : i + 7 ≤ L) (hL : L ≤ 3584) (kk : ∀ h', LV h' → B (lE i) h') : lL_17 L xs (lE i) h N B C R := by
  obtain ⟨s, a, p, hc, hm, hok, hN, f, hf⟩ := hv
  exact g_both hc hm hok hi hL fun h' h1 h2 h4 => kk h' ⟨s, a, p, h1, h2, hok, hN, f, h4.trans hf⟩
theorem w_18 (hv : LV h) (hi : i + 7 ≤ L) (hL : L ≤ 3584) (kk : ∀ h', LV h' → B (lE i) h') : lL_18 L xs (lE i) h N B C R := by
  obtain ⟨s, a, p, hc, hm, hok, hN, f, hf⟩ := hv
  exact g_shrink hc hm hok hi hL fun h' h1 h2 h4 => kk h' ⟨s, a, p, h1, h2, hok, hN, f, h4.trans hf⟩
theorem w_19 (hv : LV h) (hi : i + 7 ≤ L) (hL : L ≤ 3584) (kk : ∀ h', LV h' → B (lE i) h') : lL_19 L xs (lE i) h N B C R := by
  obtain ⟨s, a, p, hc, hm, hok, hN, f, hf⟩ := hv
  exact g_stuck hc hm hok hi hL fun h' h1 h2 h4 => kk h' ⟨s, a, p, h1, h2, hok, hN, f, h4.trans hf⟩
theorem w_20 (hv : LV h) (hi : i + 7 ≤ L) (hL : L ≤ 3584) (kk : ∀ h', LV h' → B (lE i) h') : lL_20 L xs (lE i) h N B C R := by
  obtain ⟨s, a, p, hc, hm, hok, hN, f, hf⟩ := hv
  exact g_longest hc hm hok hi hL fun h' h1 h2 h4 => kk h' ⟨s, a, p, h1, h2, hok, hN, f, h4.trans hf⟩
theorem w_21 (hv : LV h) (hi : i + 7 ≤ L) (hL : L ≤ 3584) (kk : ∀ h', LV h' → B (lE i) h') : lL_21 L xs (lE i) h N B C R := by
  obtain ⟨s, a, p, hc, hm, hok, hN, f, hf⟩ := hv
  exact g_ends hc hm hok hi hL fun h' h1 h2 h4 => kk h' ⟨s, a, p, h1, h2, hok, hN, f, h4.trans hf⟩
theorem w_22 (hv : LV h) (hi : i + 7 ≤ L) (hL : L ≤ 3584) (kk : ∀ h', LV h' → B (lE i) h') : lL_22 L xs (lE i) h N B C R := by
  obtain ⟨s, a, p, hc, hm, hok, hN, f, hf⟩ := hv
  exact g_alone hc hm hok hi hL fun h' h1 h2 h4 => kk h' ⟨s, a, p, h1, h2, hok, hN, f, h4.trans hf⟩
theorem w_23 (hv : LV h) (hi : i + 7 ≤ L) (hL : L ≤ 3584) (kk : ∀ h', LV h' → B (lE i) h') : lL_23 L xs (lE i) h N B C R := by
  obtain ⟨s, a, p, hc, hm, hok, hN, f, hf⟩ := hv
  exact g_needed hc hm hok hi hL fun h' h1 h2 h4 => kk h' ⟨s, a, p, h1, h2, hok, hN, f, h4.trans hf⟩
theorem w_24 (hv : LV h) (hi : i + 7 ≤ L) (hL : L ≤ 3584) (kk : ∀ h', LV h' → B (lE i) h') : lL_24 L xs (lE i) h N B C R := by
  obtain ⟨s, a, p, hc, hm, hok, hN, f, hf⟩ := hv
  exact g_brings hc hm hok hi hL fun h' h1 h2 h4 => kk h' ⟨s, a, p, h1, h2, hok, hN, f, h4.trans hf⟩
theorem w_25 (hv : LV h) (hi : i + 7 ≤ L) (hL : L ≤ 3584) (kk : ∀ h', LV h' → B (lE i) h') : lL_25 L xs (lE i) h N B C R := by
  obtain ⟨s, a, p, hc, hm, hok, hN, f, hf⟩ := hv
  exact g_lack hc hm hok hi hL fun h' h1 h2 h4 => kk h' ⟨s, a, p, h1, h2, hok, hN, f, h4.trans hf⟩
theorem w_26 (hv : LV h) (hi : i + 7 ≤ L) (hL : L ≤ 3584) (kk : ∀ h', LV h' → B (lE i) h') : lL_26 L xs (lE i) h N B C R := by
  obtain ⟨s, a, p, hc, hm, hok, hN, f, hf⟩ := hv
  exact g_guard hc hm hok hi hL fun h' h1 h2 h4 => kk h' ⟨s, a, p, h1, h2, hok, hN, f, h4.trans hf⟩
theorem w_27 (hv : LV h) (hi : i + 7 ≤ L) (hL : L ≤ 3584) (kk : ∀ h', LV h' → B (lE i) h') : lL_27 L xs (lE i) h N B C R := by
  obtain ⟨s, a, p, hc, hm, hok, hN, f, hf⟩ := hv
  exact g_before hc hm hok hi hL fun h' h1 h2 h4 => kk h' ⟨s, a, p, h1, h2, hok, hN, f, h4.trans hf⟩
theorem w_28 (hv : LV h) (hi : i + 7 ≤ L) (hL : L ≤ 3584) (kk : ∀ h', LV h' → B (lE i) h') : lL_28 L xs (lE i) h N B C R := by
  obtain ⟨s, a, p, hc, hm, hok, hN, f, hf⟩ := hv
  exact g_reach hc hm hok hi hL fun h' h1 h2 h4 => kk h' ⟨s, a, p, h1, h2, hok, hN, f, h4.trans hf⟩
theorem w_29 (hv : LV h) (hi : i + 7 ≤ L) (hL : L ≤ 3584) (kk : ∀ h', LV h' → B (lE i) h') : lL_29 L xs (lE i) h N B C R := by
  obtain ⟨s, a, p, hc, hm, hok, hN, f, hf⟩ := hv
  exact g_far hc hm hok hi hL fun h' h1 h2 h4 => kk h' ⟨s, a, p, h1, h2, hok, hN, f, h4.trans hf⟩
theorem w_30 (hv : LV h) (hi : i + 7 ≤ L) (hL : L ≤ 3584) (kk : ∀ h', LV h' → B (lE i) h') : lL_30 L xs (lE i) h N B C R := by
  obtain ⟨s, a, p, hc, hm, hok, hN, f, hf⟩ := hv
  exact g_rich hc hm hok hi hL fun h' h1 h2 h4 => kk h' ⟨s, a, p, h1, h2, hok, hN, f, h4.trans hf⟩
theorem w_31 (hv : LV h) (hi : i + 7 ≤ L) (hL : L ≤ 3584) (kk : ∀ h', LV h' → B (lE i) h') : lL_31 L xs (lE i) h N B C R := by
  obtain ⟨s, a, p, hc, hm, hok, hN, f, hf⟩ := hv
  exact g_cheap hc hm hok hi hL fun h' h1 h2 h4 => kk h' ⟨s, a, p, h1, h2, hok, hN, f, h4.trans hf⟩
theorem w_32 (hv : LV h) (hi : i + 7 ≤ L) (hL : L ≤ 3584) (kk : ∀ h', LV h' → B (lE i) h') : lL_32 L xs (lE i) h N B C R := by
  obtain ⟨s, a, p, hc, hm, hok, hN, f, hf⟩ := hv
  exact g_layings hc hm hok hi hL fun h' h1 h2 h4 => kk h' ⟨s, a, p, h1, h2, hok, hN, f, h4.trans hf⟩
theorem w_33 (hv : LV h) (hi : i + 7 ≤ L) (hL : L ≤ 3584) (kk : ∀ h', LV h' → B (lE i) h') : lL_33 L xs (lE i) h N B C R := by
  obtain ⟨s, a, p, hc, hm, hok, hN, f, hf⟩ := hv
  exact g_comes hc hm hok hi hL fun h' h1 h2 h4 => kk h' ⟨s, a, p, h1, h2, hok, hN, f, h4.trans hf⟩
theorem w_34 (hv : LV h) (hi : i + 7 ≤ L) (hL : L ≤ 3584) (kk : ∀ h', LV h' → B (lE i) h') : lL_34 L xs (lE i) h N B C R := by
  obtain ⟨s, a, p, hc, hm, hok, hN, f, hf⟩ := hv
  exact g_eden hc hm hok hi hL fun h' h1 h2 h4 => kk h' ⟨s, a, p, h1, h2, hok, hN, f, h4.trans hf⟩
theorem w_35 (hv : LV h) (hi : i + 7 ≤ L) (hL : L ≤ 3584) (kk : ∀ h', LV h' → B (lE i) h') : lL_35 L xs (lE i) h N B C R := by
  obtain ⟨s, a, p, hc, hm, hok, hN, f, hf⟩ := hv
  exact g_sure hc hm hok hi hL fun h' h1 h2 h4 => kk h' ⟨s, a, p, h1, h2, hok, hN, f, h4.trans hf⟩
theorem w_36 (hv : LV h) (hi : i + 7 ≤ L) (hL : L ≤ 3584) (kk : ∀ h', LV h' → B (lE i) h') : lL_36 L xs (lE i) h N B C R := by
  obtain ⟨s, a, p, hc, hm, hok, hN, f, hf⟩ := hv
  exact g_always hc hm hok hi hL fun h' h1 h2 h4 => kk h' ⟨s, a, p, h1, h2, hok, hN, f, h4.trans hf⟩
theorem w_37 (hv : LV h) (hi : i + 7 ≤ L) (hL : L ≤ 3584) (kk : ∀ h', LV h' → B (lE i) h') : lL_37 L xs (lE i) h N B C R := by
  obtain ⟨s, a, p, hc, hm, hok, hN, f, hf⟩ := hv
  exact g_worst hc hm hok hi hL fun h' h1 h2 h4 => kk h' ⟨s, a, p, h1, h2, hok, hN, f, h4.trans hf⟩
theorem w_38 (hv : LV h) (hi : i + 7 ≤ L) (hL : L ≤ 3584) (kk : ∀ h', LV h' → B (lE i) h') : lL_38 L xs (lE i) h N B C R := by
  obtain ⟨s, a, p, hc, hm, hok, hN, f, hf⟩ := hv
  exact g_best hc hm hok hi hL fun h' h1 h2 h4 => kk h' ⟨s, a, p, h1, h2, hok, hN, f, h4.trans hf⟩
theorem w_39 (hv : LV h) (hi : i + 7 ≤ L) (hL : L ≤ 3584) (kk : ∀ h', LV h' → B (lE i) h') : lL_39 L xs (lE i) h N B C R := by
  obtain ⟨s, a, p, hc, hm, hok, hN, f, hf⟩ := hv
  exact g_wins hc hm hok hi hL fun h' h1 h2 h4 => kk h' ⟨s, a, p, h1, h2, hok, hN, f, h4.trans hf⟩
theorem w_40 (hv : LV h) (hi : i + 7 ≤ L) (hL : L ≤ 3584) (kk : ∀ h', LV h' → B (lE i) h') : lL_40 L xs (lE i) h N B C R := by
  obtain ⟨s, a, p, hc, hm, hok, hN, f, hf⟩ := hv
  exact g_his hc hm hok hi hL fun h' h1 h2 h4 => kk h' ⟨s, a, p, h1, h2, hok, hN, f, h4.trans hf⟩
theorem w_41 (hv : LV h) (hi : i + 7 ≤ L) (hL : L ≤ 3584) (kk : ∀ h', LV h' → B (lE i) h') : lL_41 L xs (lE i) h N B C R := by
  obtain ⟨s, a, p, hc, hm, hok, hN, f, hf⟩ := hv
  exact g_see hc hm hok hi hL fun h' b h1 h2 h3 h4 => kk h' ⟨_, a, p, h1, h2, h3, by rw [n1_see]; exact hN, f, h4.trans hf⟩
theorem w_42 (hv : LV h) (hi : i + 7 ≤ L) (hL : L ≤ 3584) (kk : ∀ h', LV h' → B (lE i) h') : lL_42 L xs (lE i) h N B C R := by
  obtain ⟨s, a, p, hc, hm, hok, hN, f, hf⟩ := hv
  exact g_fit hc hm hok hi hL fun h' h1 h2 h4 => kk h' ⟨s, a, p, h1, h2, hok, hN, f, h4.trans hf⟩
theorem w_43 (hv : LV h) (hi : i + 7 ≤ L) (hL : L ≤ 3584) (kk : ∀ h', LV h' → B (lE i) h') : lL_43 L xs (lE i) h N B C R := by
  obtain ⟨s, a, p, hc, hm, hok, hN, f, hf⟩ := hv
  exact g_look hc hm hok hi hL fun h' h1 h2 h4 => kk h' ⟨s, a, p, h1, h2, hok, hN, f, h4.trans hf⟩
theorem w_44 (hv : LV h) (hi : i + 7 ≤ L) (hL : L ≤ 3584) (kk : ∀ h', LV h' → B (lE i) h') : lL_44 L xs (lE i) h N B C R := by
  obtain ⟨s, a, p, hc, hm, hok, hN, f, hf⟩ := hv
  exact g_chance hc hm hok hi hL fun h' h1 h2 h4 => kk h' ⟨s, a, p, h1, h2, hok, hN, f, h4.trans hf⟩
theorem w_46 (hv : LV h) (hi : i + 7 ≤ L) (hL : L ≤ 3584) (kk : ∀ h', LV h' → B (lE i) h') : lL_46 L xs (lE i) h N B C R := by
  obtain ⟨s, a, p, hc, hm, hok, hN, f, hf⟩ := hv
  exact g_seasons hc hm hok hi hL fun h' h1 h2 h4 => kk h' ⟨s, a, p, h1, h2, hok, hN, f, h4.trans hf⟩
theorem w_47 (hv : LV h) (hi : i + 7 ≤ L) (hL : L ≤ 3584) (kk : ∀ h', LV h' → B (lE i) h') : lL_47 L xs (lE i) h N B C R := by
  obtain ⟨s, a, p, hc, hm, hok, hN, f, hf⟩ := hv
  exact g_mark hc hm hok hi hL fun h' b h1 h2 h3 h4 => kk h' ⟨_, a, p, h1, h2, h3, by rw [n1_mark]; exact hN, f, h4.trans hf⟩
theorem w_48 (hv : LV h) (hi : i + 7 ≤ L) (hL : L ≤ 3584) (kk : ∀ h', LV h' → B (lE i) h') : lL_48 L xs (lE i) h N B C R := by
  obtain ⟨s, a, p, hc, hm, hok, hN, f, hf⟩ := hv
  exact g_count hc hm hok hi hL fun h' h1 h2 h4 => kk h' ⟨s, a, p, h1, h2, hok, hN, f, h4.trans hf⟩
end ARM6
