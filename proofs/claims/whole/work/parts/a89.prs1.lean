set_option maxRecDepth 20000
set_option maxHeartbeats 4000000
set_option linter.all false
/-! the parser as such: what is read, up to which token, with which fault -/
/-- the next token, the fault -/
abbrev RF : Type := Nat × Nat
/-- the name's number among the first n; 9: none -/
def nix (nm : Nat → List Nat) (w : List Nat) : Nat → Nat
  | 0 => 9
  | k + 1 => if nm k = w then k else nix nm w k
theorem nix_p (nm : Nat → List Nat) (w : List Nat) : ∀ n, (nix nm w n = 9 ∧ ∀ k, k < n → nm k ≠ w) ∨ (nix nm w n < n ∧ nm (nix nm w n) = w)
  | 0 => Or.inl ⟨rfl, fun k hk => absurd hk (Nat.not_lt_zero k)⟩
  | n + 1 => by
    unfold nix
    by_cases q : nm n = w
    · rw [if_pos q]; exact Or.inr ⟨Nat.lt_succ_self n, q⟩
    · rw [if_neg q]
      rcases nix_p nm w n with ⟨a, b⟩ | ⟨a, b⟩
      · refine Or.inl ⟨a, fun k hk => ?_⟩
        by_cases z : k = n
        · rw [z]; exact q
        · exact b k (by omega)
      · exact Or.inr ⟨by omega, b⟩
theorem nix_le {nm : Nat → List Nat} {w : List Nat} {n : Nat} (hn : n ≤ 5) : nix nm w n ≤ 9 := by
  rcases nix_p nm w n with h | h <;> omega
def oS (T : List Nat) (c : Nat) (s : RF) : RF := if bSn T s.1 s.2 c = true then (s.1 + 1, s.2) else (s.1, pwr T s.1 s.2 1)
def oW (T : List Nat) (j : Nat) (s : RF) : RF := if bWd T s.1 s.2 j = true then (s.1 + 1, s.2) else (s.1, pwr T s.1 s.2 1)
def oV (T : List Nat) (lo hi : Nat) (s : RF) : RF × Nat :=
  if s.2 ≠ 0 then (s, 0) else if (tok T s.1).1 ≠ 2 then ((s.1, pwr T s.1 s.2 1), 0) else if lo ≤ (tok T s.1).2.2 ∧ (tok T s.1).2.2 ≤ hi then ((s.1 + 1, 0), (tok T s.1).2.2) else ((s.1, pwr T s.1 s.2 4), 0)
def oO (T : List Nat) (a m : Nat) (s : RF) : RF × Nat :=
  if s.2 ≠ 0 then (s, 0) else if (tok T s.1).1 = 1 ∧ a ≤ wix (tok T s.1).2.1 ∧ wix (tok T s.1).2.1 < a + m then ((s.1 + 1, 0), wix (tok T s.1).2.1 - a) else ((s.1, pwr T s.1 s.2 1), 0)
def oT (T : List Nat) (nm : Nat → List Nat) (n : Nat) (bt : Nat → Bool) (s : RF) : RF × Nat :=
  if s.2 ≠ 0 then (s, 0) else if bNm T s.1 s.2 = false then ((s.1, pwr T s.1 s.2 1), 0) else
  if nix nm (tok T s.1).2.1 n = 9 then ((s.1, pwr T s.1 s.2 2), 0) else
  if bt (nix nm (tok T s.1).2.1 n) = true then ((s.1, pwr T s.1 s.2 3), 0) else ((s.1 + 1, 0), nix nm (tok T s.1).2.1 n)
def oNw (T : List Nat) (nm : Nat → List Nat) (n : Nat) (s : RF) : RF :=
  if s.2 ≠ 0 then s else if bNm T s.1 s.2 = false then (s.1, pwr T s.1 s.2 1) else
  if nix nm (tok T s.1).2.1 n = 9 then (s.1 + 1, 0) else (s.1, pwr T s.1 s.2 3)
/-- the end is token n -/
def NE (T : List Nat) (n : Nat) : Prop := (∀ i, i < n → (tok T i).1 ≠ 0) ∧ (tok T n).1 = 0 ∧ n ≤ 1000 ∧ T.length ≤ 1000
/-- one step of the parser -/
def STP (n : Nat) (s r : RF) : Prop := s.1 ≤ n → s.2 < 2 ^ 31 → r.1 ≤ n ∧ r.2 < 2 ^ 31 ∧ s.1 ≤ r.1 ∧ (s.2 ≠ 0 → r = s) ∧ (r.2 = 0 → r.1 = s.1 + 1)
theorem NE.lt {T : List Nat} {n i : Nat} (hn : NE T n) (hi : i ≤ n) (h : (tok T i).1 ≠ 0) : i < n := by
  rcases Nat.lt_or_ge i n with q | q
  · exact q
  · have : i = n := by omega
    rw [this] at h; exact absurd hn.2.1 h
theorem pwr_p {T : List Nat} {n i f w : Nat} (hn : NE T n) (hf : f < 2 ^ 31) (hw : 1 ≤ w ∧ w ≤ 15) : pwr T i f w < 2 ^ 31 ∧ pwr T i f w ≠ 0 ∧ (f ≠ 0 → pwr T i f w = f) := by
  have h1 := tpl_le T i
  have h2 := hn.2.2.2
  unfold pwr
  by_cases q : f = 0
  · rw [if_pos q]; exact ⟨by omega, by omega, fun z => absurd q z⟩
  · rw [if_neg q]; exact ⟨hf, q, fun _ => rfl⟩
theorem STP.wr {T : List Nat} {n w : Nat} {s : RF} (hn : NE T n) (hw : 1 ≤ w ∧ w ≤ 15) : STP n s (s.1, pwr T s.1 s.2 w) := fun h1 h2 => by
  obtain ⟨a, b, c⟩ := pwr_p (i := s.1) hn h2 hw
  exact ⟨h1, a, Nat.le_refl _, fun z => by rw [c z], fun z => absurd z b⟩
theorem STP.go {T : List Nat} {n : Nat} {s : RF} (hn : NE T n) (h0 : s.2 = 0) (h : (tok T s.1).1 ≠ 0) : STP n s (s.1 + 1, 0) := fun h1 h2 =>
  ⟨hn.lt h1 h, by omega, Nat.le_succ _, fun z => absurd h0 z, fun _ => rfl⟩
theorem STP.st {n : Nat} {s : RF} (h0 : s.2 ≠ 0) : STP n s s := fun h1 h2 => ⟨h1, h2, Nat.le_refl _, fun _ => rfl, fun z => absurd z h0⟩
theorem oS_p {T : List Nat} {n : Nat} (hn : NE T n) (c : Nat) (s : RF) : STP n s (oS T c s) := by
  unfold oS
  by_cases q : bSn T s.1 s.2 c = true
  · rw [if_pos q]
    have h := of_decide_eq_true q
    rw [h.1]
    exact STP.go hn h.1 (by omega)
  · rw [if_neg q]; exact STP.wr hn (by omega)
theorem oW_p {T : List Nat} {n : Nat} (hn : NE T n) (c : Nat) (s : RF) : STP n s (oW T c s) := by
  unfold oW
  by_cases q : bWd T s.1 s.2 c = true
  · rw [if_pos q]
    have h := of_decide_eq_true q
    rw [h.1]
    exact STP.go hn h.1 (by omega)
  · rw [if_neg q]; exact STP.wr hn (by omega)
theorem oV_p {T : List Nat} {n : Nat} (hn : NE T n) (lo hi : Nat) (s : RF) : STP n s (oV T lo hi s).1 := by
  unfold oV
  by_cases q : s.2 ≠ 0
  · rw [if_pos q]; exact STP.st q
  · rw [if_neg q]
    have h0 : s.2 = 0 := Classical.not_not.mp q
    by_cases q2 : (tok T s.1).1 ≠ 2
    · rw [if_pos q2]; exact STP.wr hn (by omega)
    · rw [if_neg q2]
      split
      · exact STP.go hn h0 (by omega)
      · exact STP.wr hn (by omega)
theorem oV_v {T : List Nat} {lo hi : Nat} {s : RF} (h : (oV T lo hi s).1.2 = 0) (hs : T.length ≤ 1000) : lo ≤ (oV T lo hi s).2 ∧ (oV T lo hi s).2 ≤ hi := by
  have hp : ∀ w, 1 ≤ w → s.2 = 0 → pwr T s.1 s.2 w ≠ 0 := fun w hw z => by unfold pwr; rw [if_pos z]; omega
  unfold oV at h ⊢
  by_cases q : s.2 ≠ 0
  · rw [if_pos q] at h; exact absurd h q
  · rw [if_neg q] at h ⊢
    have h0 : s.2 = 0 := Classical.not_not.mp q
    by_cases q2 : (tok T s.1).1 ≠ 2
    · rw [if_pos q2] at h; exact absurd h (hp 1 (by omega) h0)
    · rw [if_neg q2] at h ⊢
      by_cases q3 : lo ≤ (tok T s.1).2.2 ∧ (tok T s.1).2.2 ≤ hi
      · rw [if_pos q3]; exact q3
      · rw [if_neg q3] at h; exact absurd h (hp 4 (by omega) h0)
theorem oO_p {T : List Nat} {n : Nat} (hn : NE T n) (a m : Nat) (s : RF) : STP n s (oO T a m s).1 := by
  unfold oO
  by_cases q : s.2 ≠ 0
  · rw [if_pos q]; exact STP.st q
  · rw [if_neg q]
    split
    · next q2 => exact STP.go hn (Classical.not_not.mp q) (by omega)
    · exact STP.wr hn (by omega)
theorem oO_v {T : List Nat} {a m : Nat} {s : RF} (hm : 0 < m) : (oO T a m s).2 < m := by
  unfold oO
  split
  · exact hm
  · split
    · dsimp only; omega
    · exact hm
theorem bNm_1 {T : List Nat} {i f : Nat} (h : bNm T i f = true) : f = 0 ∧ (tok T i).1 = 1 ∧ 15 ≤ wix (tok T i).2.1 := of_decide_eq_true h
theorem oT_p {T : List Nat} {nm : Nat → List Nat} {k : Nat} {bt : Nat → Bool} {n : Nat} (hn : NE T n) (s : RF) : STP n s (oT T nm k bt s).1 := by
  unfold oT
  by_cases q : s.2 ≠ 0
  · rw [if_pos q]; exact STP.st q
  · rw [if_neg q]
    by_cases q2 : bNm T s.1 s.2 = false
    · rw [if_pos q2]; exact STP.wr hn (by omega)
    · rw [if_neg q2]
      have h1 := bNm_1 ((Bool.not_eq_false _).mp q2)
      split
      · exact STP.wr hn (by omega)
      · split
        · exact STP.wr hn (by omega)
        · exact STP.go hn h1.1 (by omega)
theorem oT_v {T : List Nat} {nm : Nat → List Nat} {k : Nat} {bt : Nat → Bool} {s : RF} (h : (oT T nm k bt s).1.2 = 0) : (oT T nm k bt s).2 < k ∧ bt (oT T nm k bt s).2 = false := by
  have hp : ∀ w, 1 ≤ w → s.2 = 0 → pwr T s.1 s.2 w ≠ 0 := fun w hw z => by unfold pwr; rw [if_pos z]; omega
  unfold oT at h ⊢
  by_cases q : s.2 ≠ 0
  · rw [if_pos q] at h; exact absurd h q
  · rw [if_neg q] at h ⊢
    have h0 : s.2 = 0 := Classical.not_not.mp q
    by_cases q2 : bNm T s.1 s.2 = false
    · rw [if_pos q2] at h; exact absurd h (hp 1 (by omega) h0)
    · rw [if_neg q2] at h ⊢
      by_cases q3 : nix nm (tok T s.1).2.1 k = 9
      · rw [if_pos q3] at h; exact absurd h (hp 2 (by omega) h0)
      · rw [if_neg q3] at h ⊢
        by_cases q4 : bt (nix nm (tok T s.1).2.1 k) = true
        · rw [if_pos q4] at h; exact absurd h (hp 3 (by omega) h0)
        · rw [if_neg q4]
          rcases nix_p nm (tok T s.1).2.1 k with z | z
          · exact absurd z.1 q3
          · exact ⟨z.1, (Bool.not_eq_true _).mp q4⟩
theorem oT_0 {T : List Nat} {nm : Nat → List Nat} {k : Nat} {bt : Nat → Bool} {s : RF} (h : (oT T nm k bt s).1.2 ≠ 0) : (oT T nm k bt s).2 = 0 := by
  unfold oT at h ⊢
  split
  · rfl
  · split
    · rfl
    · split
      · rfl
      · split
        · rfl
        · next q1 q2 q3 q4 => rw [if_neg q1, if_neg q2, if_neg q3, if_neg q4] at h; exact absurd rfl h
theorem oN_p {T : List Nat} {nm : Nat → List Nat} {k : Nat} {n : Nat} (hn : NE T n) (s : RF) : STP n s (oNw T nm k s) := by
  unfold oNw
  by_cases q : s.2 ≠ 0
  · rw [if_pos q]; exact STP.st q
  · rw [if_neg q]
    by_cases q2 : bNm T s.1 s.2 = false
    · rw [if_pos q2]; exact STP.wr hn (by omega)
    · rw [if_neg q2]
      have h1 := bNm_1 ((Bool.not_eq_false _).mp q2)
      split
      · exact STP.go hn h1.1 (by omega)
      · exact STP.wr hn (by omega)
/-- what a new name is -/
theorem oN_v {T : List Nat} {nm : Nat → List Nat} {k : Nat} {s : RF} (hk : k ≤ 5) (h : (oNw T nm k s).2 = 0) : (tok T s.1).1 = 1 ∧ 15 ≤ wix (tok T s.1).2.1 ∧ ∀ j, j < k → nm j ≠ (tok T s.1).2.1 := by
  have hp : ∀ w, 1 ≤ w → s.2 = 0 → pwr T s.1 s.2 w ≠ 0 := fun w hw z => by unfold pwr; rw [if_pos z]; omega
  unfold oNw at h
  by_cases q : s.2 ≠ 0
  · rw [if_pos q] at h; exact absurd h q
  · rw [if_neg q] at h
    have h0 : s.2 = 0 := Classical.not_not.mp q
    by_cases q2 : bNm T s.1 s.2 = false
    · rw [if_pos q2] at h; exact absurd h (hp 1 (by omega) h0)
    · rw [if_neg q2] at h
      have h1 := bNm_1 ((Bool.not_eq_false _).mp q2)
      by_cases q3 : nix nm (tok T s.1).2.1 k = 9
      · rcases nix_p nm (tok T s.1).2.1 k with z | z
        · exact ⟨h1.2.1, h1.2.2, z.2⟩
        · exact absurd z.1 (by omega)
      · rw [if_neg q3] at h; exact absurd h (hp 3 (by omega) h0)
