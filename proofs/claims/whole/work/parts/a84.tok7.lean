set_option maxRecDepth 20000
set_option maxHeartbeats 4000000
set_option linter.all false
/-! words: the two ways to count them tell the same words apart -/
def lvl37 (b : Nat) (d : Nat → Nat) (w : List Nat) : Nat := w.foldl (fun n c => b * n + d c) 0
theorem lvl_c (b : Nat) (d : Nat → Nat) (w : List Nat) (c : Nat) : lvl37 b d (w ++ [c]) = b * lvl37 b d w + d c := by unfold lvl37; rw [List.foldl_append]; rfl
theorem snoc_or (w : List Nat) : w = [] ∨ ∃ u c, w = u ++ [c] := by
  rcases List.eq_nil_or_concat w with h | ⟨u, c, h⟩
  · exact Or.inl h
  · exact Or.inr ⟨u, c, by rw [h]; simp⟩
theorem base_inj {b : Nat} {d : Nat → Nat} {P : Nat → Prop} (hd : ∀ c, P c → 1 ≤ d c ∧ d c < b) (hi : ∀ c e, P c → P e → d c = d e → c = e) : ∀ n (w u : List Nat), w.length ≤ n → (∀ x, x ∈ w → P x) → (∀ x, x ∈ u → P x) → lvl37 b d w = lvl37 b d u → w = u
  | 0, w, u, hn, hw, hu, e => by
    have : w = [] := List.length_eq_zero_iff.mp (by omega)
    subst this
    rcases snoc_or u with rfl | ⟨u', c, rfl⟩
    · rfl
    · rw [lvl_c] at e
      have := hd c (hu c (by simp))
      have e0 : lvl37 b d [] = 0 := rfl
      omega
  | n + 1, w, u, hn, hw, hu, e => by
    rcases snoc_or w with rfl | ⟨w', c, rfl⟩
    · rcases snoc_or u with rfl | ⟨u', c, rfl⟩
      · rfl
      · rw [lvl_c] at e
        have := hd c (hu c (by simp))
        have e0 : lvl37 b d [] = 0 := rfl
        omega
    · have hc := hd c (hw c (by simp))
      rcases snoc_or u with rfl | ⟨u', c', rfl⟩
      · rw [lvl_c] at e
        have e0 : lvl37 b d [] = 0 := rfl
        omega
      · have hc' := hd c' (hu c' (by simp))
        rw [lvl_c, lvl_c] at e
        have h1 : (b * lvl37 b d w' + d c) % b = (b * lvl37 b d u' + d c') % b := by rw [e]
        rw [Nat.mul_add_mod, Nat.mul_add_mod, Nat.mod_eq_of_lt hc.2, Nat.mod_eq_of_lt hc'.2] at h1
        have h2 := hi c c' (hw c (by simp)) (hu c' (by simp)) h1
        rw [h1] at e
        have h3 : lvl37 b d w' = lvl37 b d u' := Nat.eq_of_mul_eq_mul_left (show 0 < b by omega) (by omega)
        have hl : w'.length ≤ n := by rw [List.length_append] at hn; simp at hn; omega
        rw [base_inj hd hi n w' u' hl (fun x hx => hw x (by simp [hx])) (fun x hx => hu x (by simp [hx])) h3, h2]
def Ltr (c : Nat) : Prop := 97 ≤ c ∧ c ≤ 122
theorem r37_inj {w u : List Nat} (hw : ∀ x, x ∈ w → Ltr x) (hu : ∀ x, x ∈ u → Ltr x) (e : r37 w = r37 u) : w = u :=
  base_inj (b := 37) (d := fun c => c - 96) (P := Ltr) (fun c h => by unfold Ltr at h; omega) (fun c e h1 h2 h => by unfold Ltr at h1 h2; omega) w.length w u (Nat.le_refl _) hw hu e
theorem cwd_lvl (w : List Nat) : cwd w = lvl37 256 (fun c => c) w := by unfold cwd lvl37; congr 1; funext n c; rw [Nat.mul_comm]
theorem cwd_inj {w u : List Nat} (hw : ∀ x, x ∈ w → Ltr x) (hu : ∀ x, x ∈ u → Ltr x) (e : cwd w = cwd u) : w = u := by
  rw [cwd_lvl, cwd_lvl] at e
  exact base_inj (b := 256) (d := fun c => c) (P := Ltr) (fun c h => by unfold Ltr at h; omega) (fun c e h1 h2 h => h) w.length w u (Nat.le_refl _) hw hu e
theorem cwd_lt : ∀ (n : Nat) (w : List Nat), w.length = n + 1 → (∀ x, x ∈ w → Ltr x) → cwd w < 123 * 256 ^ n
  | 0, w, hn, hw => by
    rcases snoc_or w with rfl | ⟨u, c, rfl⟩
    · simp at hn
    · have : u = [] := by simpa using hn
      subst this
      have hc := hw c (by simp)
      unfold Ltr at hc
      show 0 * 256 + c < _
      omega
  | n + 1, w, hn, hw => by
    rcases snoc_or w with rfl | ⟨u, c, rfl⟩
    · simp at hn
    · have ih := cwd_lt n u (by rw [List.length_append] at hn; simp at hn; omega) fun x hx => hw x (by simp [hx])
      have hc := hw c (by simp)
      unfold Ltr at hc
      rw [cwd_s, Nat.pow_succ]
      omega
theorem cwd_63 {w : List Nat} (h8 : w.length ≤ 8) (hw : ∀ x, x ∈ w → Ltr x) : cwd w < 2 ^ 63 := by
  rcases Nat.eq_zero_or_pos w.length with h | h
  · rw [List.length_eq_zero_iff.mp h]; decide
  · obtain ⟨n, hn⟩ : ∃ n, w.length = n + 1 := ⟨w.length - 1, by omega⟩
    have h1 := cwd_lt n w hn hw
    have h2 : 256 ^ n ≤ 256 ^ 7 := Nat.pow_le_pow_right (by omega) (by omega)
    have h3 : 123 * 256 ^ 7 < 2 ^ 63 := by decide
    omega
/-- the words of the language, and behind them those of the law -/
def WDS : List (List Nat) := [[104, 117, 116], [108, 111, 97, 100, 115], [112, 97, 116, 104], [116, 97, 107, 101, 115], [98, 97, 114, 115], [99, 97, 114, 114, 121], [108, 97, 121], [101, 97, 116], [112, 108, 97, 105, 110], [105, 110, 110], [115, 116, 101, 101, 112], [115, 109, 97, 108, 108], [110, 111, 116], [97, 110, 100], [111, 114], [104, 101, 114, 101], [116, 104, 101, 114, 101], [112, 114, 105, 99, 101], [97, 108, 108]]
def wda (j : Nat) : List Nat := WDS.getD j []
theorem wda_L : ∀ j, j < 19 → (∀ x, x ∈ wda j → Ltr x) := by
  unfold Ltr; decide
theorem wda_r : ∀ j, j < 19 → r37 (wda j) = wdv j := by decide
theorem wda_c : ∀ j, j < 15 → resv j = lN (cwd (wda j)) := by decide
theorem wda_8 : ∀ j, j < 19 → (wda j).length ≤ 8 := by decide
theorem wda_ne : ∀ i, i < 19 → ∀ j, j < 19 → wda i = wda j → i = j := by decide
/-- which word it is; 19: none of these -/
def wixF (w : List Nat) : Nat → Nat → Nat
  | 0, _ => 19
  | f + 1, j => if w = wda j then j else wixF w f (j + 1)
def wix (w : List Nat) : Nat := wixF w 19 0
theorem wixF_p (w : List Nat) : ∀ f j, j + f = 19 → (wixF w f j = 19 ∧ ∀ i, j ≤ i → i < 19 → w ≠ wda i) ∨ (j ≤ wixF w f j ∧ wixF w f j < 19 ∧ w = wda (wixF w f j))
  | 0, j, h => Or.inl ⟨rfl, fun i h1 h2 => by omega⟩
  | f + 1, j, h => by
    unfold wixF
    by_cases q : w = wda j
    · rw [if_pos q]; exact Or.inr ⟨Nat.le_refl _, by omega, q⟩
    · rw [if_neg q]
      rcases wixF_p w f (j + 1) (by omega) with ⟨a, b⟩ | ⟨a, b, c⟩
      · refine Or.inl ⟨a, fun i h1 h2 => ?_⟩
        by_cases z : i = j
        · rw [z]; exact q
        · exact b i (by omega) h2
      · exact Or.inr ⟨by omega, b, c⟩
theorem wix_iff {w : List Nat} {j : Nat} (hj : j < 19) : wix w = j ↔ w = wda j := by
  unfold wix
  rcases wixF_p w 19 0 rfl with ⟨a, b⟩ | ⟨a, b, c⟩
  · rw [a]
    exact ⟨fun h => by omega, fun h => absurd h (b j (Nat.zero_le _) hj)⟩
  · constructor
    · intro h; rw [← h]; exact c
    · intro h; exact wda_ne _ b _ hj (c.symm.trans h)
theorem wix_le (w : List Nat) : wix w ≤ 19 := by
  unfold wix
  rcases wixF_p w 19 0 rfl with ⟨a, b⟩ | ⟨a, b, c⟩ <;> omega
/-- the reference's test of a word -/
theorem wix_r {w : List Nat} (hw : ∀ x, x ∈ w → Ltr x) {j : Nat} (hj : j < 19) : r37 w = wdv j ↔ wix w = j := by
  rw [wix_iff hj, ← wda_r j hj]
  exact ⟨fun h => r37_inj hw (wda_L j hj) h, fun h => by rw [h]⟩
/-- the class's number of a word -/
theorem kwF_p {w : List Nat} (h8 : w.length ≤ 8) (hw : ∀ x, x ∈ w → Ltr x) : ∀ f j, j + f = 15 → kwF (lN (cwd w)) f j = if j ≤ wix w ∧ wix w < 15 then 128 + wix w else 3
  | 0, j, h => by
    unfold kwF; rw [if_neg (by omega)]
  | f + 1, j, h => by
    have e : (resv j = lN (cwd w)) ↔ wix w = j := by
      rw [wda_c j (by omega), pk_lEQ (cwd_63 (wda_8 j (by omega)) (wda_L j (by omega))) (cwd_63 h8 hw), wix_iff (by omega)]
      exact ⟨fun h => (cwd_inj (wda_L j (by omega)) hw h).symm, fun h => by rw [h]⟩
    have ih := kwF_p h8 hw f (j + 1) (by omega)
    unfold kwF
    by_cases q : wix w = j
    · rw [if_pos (e.mpr q), if_pos (by omega), q]
    · rw [if_neg (fun z => q (e.mp z)), ih]
      by_cases z : j ≤ wix w ∧ wix w < 15
      · rw [if_pos z, if_pos (by omega)]
      · rw [if_neg z, if_neg (by omega)]
theorem kw_p {w : List Nat} (h8 : w.length ≤ 8) (hw : ∀ x, x ∈ w → Ltr x) : kw (lN (cwd w)) = if wix w < 15 then 128 + wix w else 3 := by
  unfold kw
  rw [kwF_p h8 hw 15 0 rfl]
  by_cases q : wix w < 15
  · rw [if_pos q, if_pos ⟨Nat.zero_le _, q⟩]
  · rw [if_neg q, if_neg (fun z => q z.2)]
/-- what a word token is -/
theorem tok_w {T : List Nat} {i : Nat} (h : (tok T i).1 = 1) : (tok T i).2.1.length ≤ 8 ∧ 1 ≤ (tok T i).2.1.length ∧ ∀ x, x ∈ (tok T i).2.1 → Ltr x := by
  unfold tok tkt at h ⊢
  generalize hp : tkp T (tpos T i) = p at *
  by_cases q : p < T.length
  · rw [if_pos q] at h ⊢
    by_cases c1 : isLt (T.getD p 0) = true
    · rw [if_pos c1] at h ⊢
      by_cases c2 : 8 < (wrd isLt T p).length
      · rw [if_pos c2] at h; cases h
      · rw [if_neg c2]
        refine ⟨by dsimp only; omega, by dsimp only; rw [wrd_t q c1, List.length_cons]; omega, fun x hx => ?_⟩
        have h3 := wrd_all x hx
        unfold isLt at h3
        rw [decide_eq_true_iff] at h3
        exact h3
    · rw [if_neg c1] at h
      split at h
      · split at h <;> cases h
      · split at h <;> cases h
  · rw [if_neg q] at h; cases h
