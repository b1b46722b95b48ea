set_option maxRecDepth 20000
set_option maxHeartbeats 4000000
set_option linter.all false
/-! The base of the pure part: loops, numbers. -/
theorem sLoop_rule {c : CX} {s u : SX} {N B C : LE → HS → Prop} {R : Option Value → HS → Prop} (P : Nat → LE → HS → Prop) (hs : ∀ (k : Nat) (env : LE) (h : HS) (X : LE → HS → Prop), (∀ (k' : Nat) (e : LE) (h' : HS), k' < k → P k' e h' → X e h') → P k env h → c env h (fun b h1 => if b = true then s env h1 (fun e2 h2 => u e2 h2 X (fun _ _ => False) (fun _ _ => False) R) N (fun e2 h2 => u e2 h2 X (fun _ _ => False) (fun _ _ => False) R) R else N env h1)) :
    ∀ (k : Nat) (env : LE) (h : HS), P k env h → sLoop c s u env h N B C R := by
  have key : ∀ (n k : Nat) (env : LE) (h : HS), k < n → P k env h → loopN c s u n env h N R := by
    intro n
    induction n with
    | zero => exact fun k env h hk => absurd hk (Nat.not_lt_zero k)
    | succ n ih =>
      intro k env h hk hP
      exact hs k env h (fun e h' => loopN c s u n e h' N R) (fun k' e h' hk' hP' => ih k' e h' (by omega) hP') hP
  exact fun k env h hP => ⟨k + 1, key (k + 1) k env h (Nat.lt_succ_self k) hP⟩
/-- one round of a loop, with what comes after it -/
def rnd (c : CX) (s u : SX) (N : LE → HS → Prop) (R : Option Value → HS → Prop) (X : LE → HS → Prop) (env : LE) (h : HS) : Prop :=
  c env h (fun b h1 => if b = true then s env h1 (fun e2 h2 => u e2 h2 X (fun _ _ => False) (fun _ _ => False) R) N (fun e2 h2 => u e2 h2 X (fun _ _ => False) (fun _ _ => False) R) R else N env h1)
/-- a loop that counts: environments are known, the heap has J -/
theorem loopE {c : CX} {s u : SX} {N B C : LE → HS → Prop} {R : Option Value → HS → Prop} (E : Nat → LE) (J : Nat → HS → Prop) (b : Nat)
    (hs : ∀ (i : Nat) (h : HS) (X : LE → HS → Prop), i < b → J i h → (∀ h', J (i + 1) h' → X (E (i + 1)) h') → rnd c s u N R X (E i) h)
    (he : ∀ (h : HS) (X : LE → HS → Prop), J b h → rnd c s u N R X (E b) h) (i : Nat) (h : HS) (hi : i ≤ b) (hJ : J i h) : sLoop c s u (E i) h N B C R := by
  refine sLoop_rule (fun k env h => ∃ i, i ≤ b ∧ k = b - i ∧ env = E i ∧ J i h) ?_ (b - i) _ _ ⟨i, hi, rfl, rfl, hJ⟩
  rintro k env h X hX ⟨i, hi, hk, rfl, hJ⟩
  by_cases h1 : i < b
  · exact hs i h X h1 hJ fun h' hJ' => hX (b - (i + 1)) _ _ (by omega) ⟨i + 1, h1, rfl, rfl, hJ'⟩
  · obtain rfl : i = b := by omega
    exact he h X hJ
/-- a loop whose rounds are known altogether -/
theorem loop_eq {c : CX} {s u : SX} {N B C : LE → HS → Prop} {R : Option Value → HS → Prop} (E : Nat → LE) (H : Nat → HS) (b : Nat) (Y : Prop)
    (hs : ∀ (i : Nat) (X : LE → HS → Prop), i < b → rnd c s u N R X (E i) (H i) = X (E (i + 1)) (H (i + 1)))
    (he : ∀ (X : LE → HS → Prop), rnd c s u N R X (E b) (H b) = Y) (i : Nat) (hi : i ≤ b) : sLoop c s u (E i) (H i) N B C R = Y := by
  have key : ∀ n i, i ≤ b → loopN c s u n (E i) (H i) N R = (if b < n + i then Y else False) := by
    intro n
    induction n with
    | zero => intro i hi; rw [if_neg (by omega)]; rfl
    | succ n ih =>
      intro i hi
      show rnd c s u N R (fun e h => loopN c s u n e h N R) (E i) (H i) = _
      by_cases h1 : i < b
      · rw [hs i _ h1, ih (i + 1) h1]; simp only [Nat.add_assoc, Nat.add_comm 1 i]
      · obtain rfl : i = b := by omega
        rw [he, if_pos (by omega)]
  refine propext ⟨fun ⟨n, hn⟩ => ?_, fun hy => ⟨b + 1, ?_⟩⟩
  · rw [key n i hi] at hn; split at hn
    · exact hn
    · exact hn.elim
  · show loopN c s u (b + 1) (E i) (H i) N R
    rw [key (b + 1) i hi, if_pos (by omega)]; exact hy
def mo : Int32 := -1
def mt : Int32 := -2
theorem nI_moE : (-nI 1 : Int32) = mo := rfl
theorem nI_mtE : (-nI 2 : Int32) = mt := rfl
theorem nI_mo {a : Nat} (h : a < 2 ^ 31) : (nI a = mo) = False := by
  apply propext; refine ⟨fun e => ?_, False.elim⟩
  have := congrArg Int32.toInt e
  rw [nI_toInt h] at this
  have h2 : mo.toInt = -1 := by decide
  omega
theorem nI_mt {a : Nat} (h : a < 2 ^ 31) : (nI a = mt) = False := by
  apply propext; refine ⟨fun e => ?_, False.elim⟩
  have := congrArg Int32.toInt e
  rw [nI_toInt h] at this
  have h2 : mt.toInt = -2 := by decide
  omega
theorem mo_nI {a : Nat} (h : a < 2 ^ 31) : (mo = nI a) = False := (propext eq_comm).trans (nI_mo h)
theorem mo_lt {a : Nat} (h : a < 2 ^ 31) : (mo < nI a) = True := eq_true (by
  rw [Int32.lt_iff_toInt_lt, nI_toInt h, show mo.toInt = -1 by decide]; omega)
theorem lt_mo {a : Nat} (h : a < 2 ^ 31) : (nI a < mo) = False := eq_false (by
  rw [Int32.lt_iff_toInt_lt, nI_toInt h, show mo.toInt = -1 by decide]; omega)
theorem mo_le {a : Nat} (h : a < 2 ^ 31) : (mo ≤ nI a) = True := eq_true (by
  rw [Int32.le_iff_toInt_le, nI_toInt h, show mo.toInt = -1 by decide]; omega)
theorem le_mo {a : Nat} (h : a < 2 ^ 31) : (nI a ≤ mo) = False := eq_false (by
  rw [Int32.le_iff_toInt_le, nI_toInt h, show mo.toInt = -1 by decide]; omega)
theorem nI_neg {a : Nat} (h : a < 2 ^ 31) : (nI a < 0) = False := eq_false (nI_pos h)
theorem nI_nn {a : Nat} (h : a < 2 ^ 31) : (0 ≤ nI a) = True := eq_true (nI_pos' h)
theorem jshrN {a s : Nat} (h : a < 2 ^ 31) (hs : s < 32) : jshr (nI a) (nI s) = nI (a >>> s) := by
  have e : ((nI s &&& 31).toBitVec.smod 32).toNat = s := by
    have : ∀ s, s < 32 → ((nI s &&& 31).toBitVec.smod 32).toNat = s := by decide +kernel
    exact this s hs
  rw [jshr, pk_shrN h _ s e, Nat.shiftRight_eq_div_pow]
theorem jshlN {a s : Nat} (hs : s < 32) (h : a * 2 ^ s < 2 ^ 32) : jshl (nI a) (nI s) = nI (a <<< s) := by
  have e : ((nI s &&& 31).toBitVec.smod 32).toNat = s := by
    have : ∀ s, s < 32 → ((nI s &&& 31).toBitVec.smod 32).toNat = s := by decide +kernel
    exact this s hs
  rw [jshl, pk_shlN _ s e h, Nat.shiftLeft_eq]
theorem nI_bv (a : Nat) : (nI a).toBitVec = BitVec.ofNat 32 a := rfl
theorem nI_and (a b : Nat) : nI a &&& nI b = nI (a &&& b) := by
  apply Int32.toBitVec_inj.mp
  rw [Int32.toBitVec_and, nI_bv, nI_bv, nI_bv]
  apply BitVec.eq_of_toNat_eq
  simp [Nat.and_mod_two_pow]
theorem nI_or (a b : Nat) : nI a ||| nI b = nI (a ||| b) := by
  apply Int32.toBitVec_inj.mp
  rw [Int32.toBitVec_or, nI_bv, nI_bv, nI_bv]
  apply BitVec.eq_of_toNat_eq
  simp [Nat.or_mod_two_pow]
theorem nI_lit (n : Nat) : (OfNat.ofNat n : Int32) = nI n := rfl
theorem va_up_at {α : Type} (f : Nat → α) (k : Nat) (v : α) (j : Nat) : va_up f k v j = if j = k then v else f j := rfl
theorem upd_at (f : Nat → Int32) (k : Nat) (v : Int32) (j : Nat) : upd f k v j = if j = k then v else f j := rfl
theorem updL_at (f : Nat → Int64) (k : Nat) (v : Int64) (j : Nat) : vp_updL f k v j = if j = k then v else f j := rfl
theorem narB_nI {n : Nat} (h : n < 128) : narB (nI n).toInt8.toInt32 = nI n := by
  have : ∀ n, n < 128 → narB (nI n).toInt8.toInt32 = nI n := by decide +kernel
  exact this n h
theorem vp_inT {n N : Nat} (h : n < N) (hN : N < 2 ^ 31) : vp_in (nI n) N = True := eq_true (vp_in_nI h hN)
theorem nI_s1 (n : Nat) : nI (n + 1) = nI n + nI 1 := (nI_add n 1).symm
theorem sRetZB (c : CX) (env : LE) (h : HS) (N B C : LE → HS → Prop) (R : Option Value → HS → Prop) : sRetZ (iCond c (iK 1) (iK 0)) env h N B C R = c env h (fun x h1 => if x = true then R (some (.int 1)) h1 else R (some (.int 0)) h1) := by
  show c env h (fun x h1 => if x = true then ((1 : Int32) = 0 ∨ (1 : Int32) = 1) ∧ R (some (.int 1)) h1 else ((0 : Int32) = 0 ∨ (0 : Int32) = 1) ∧ R (some (.int 0)) h1) = _
  simp only [or_true, true_or, true_and]
theorem sRetZ1 (env : LE) (h : HS) (N B C : LE → HS → Prop) (R : Option Value → HS → Prop) : sRetZ (iK 1) env h N B C R = R (some (.int 1)) h := by
  show (((1 : Int32) = 0 ∨ (1 : Int32) = 1) ∧ R (some (.int 1)) h) = _
  simp only [or_true, true_and]
theorem sRetZ0 (env : LE) (h : HS) (N B C : LE → HS → Prop) (R : Option Value → HS → Prop) : sRetZ (iK 0) env h N B C R = R (some (.int 0)) h := by
  show (((0 : Int32) = 0 ∨ (0 : Int32) = 1) ∧ R (some (.int 0)) h) = _
  simp only [true_or, true_and]
theorem dec_T (i : Decidable True) : @decide True i = true := by cases i with
  | isTrue h => rfl
  | isFalse h => exact absurd trivial h
theorem dec_F (i : Decidable False) : @decide False i = false := by cases i with
  | isTrue h => exact h.elim
  | isFalse h => rfl
theorem nI_addmo {a : Nat} (h : 1 ≤ a) : nI a + mo = nI (a - 1) := by
  obtain ⟨b, rfl⟩ : ∃ b, a = b + 1 := ⟨a - 1, by omega⟩
  rw [← nI_add b 1, Nat.add_sub_cancel, Int32.add_assoc, show nI 1 + mo = 0 by decide, Int32.add_zero]
/-- a loop whose rounds are known, which may end in any of them -/
theorem loop_ex {c : CX} {s u : SX} {N B C : LE → HS → Prop} {R : Option Value → HS → Prop} (E : Nat → LE) (H : Nat → HS) (b : Nat) (Y : Nat → Prop)
    (hs : ∀ (i : Nat) (X : LE → HS → Prop), i < b → (rnd c s u N R X (E i) (H i) = X (E (i + 1)) (H (i + 1)) ∧ Y i = Y (i + 1)) ∨ rnd c s u N R X (E i) (H i) = Y i)
    (he : ∀ (X : LE → HS → Prop), rnd c s u N R X (E b) (H b) = Y b) (i : Nat) (hi : i ≤ b) : sLoop c s u (E i) (H i) N B C R = Y i := by
  have k1 : ∀ n i, i ≤ b → loopN c s u n (E i) (H i) N R → Y i := by
    intro n
    induction n with
    | zero => intro i hi h; exact h.elim
    | succ n ih =>
      intro i hi h
      have h : rnd c s u N R (fun e h => loopN c s u n e h N R) (E i) (H i) := h
      by_cases h1 : i < b
      · rcases hs i (fun e h => loopN c s u n e h N R) h1 with ⟨e1, e2⟩ | e1
        · rw [e1] at h; rw [e2]; exact ih (i + 1) h1 h
        · rwa [e1] at h
      · obtain rfl : i = b := by omega
        rwa [he] at h
  have k2 : ∀ d i, i + d = b → Y i → loopN c s u (d + 1) (E i) (H i) N R := by
    intro d
    induction d with
    | zero =>
      intro i hi hy
      obtain rfl : i = b := by omega
      show rnd c s u N R (fun e h => loopN c s u 0 e h N R) (E i) (H i)
      rw [he]; exact hy
    | succ d ih =>
      intro i hi hy
      show rnd c s u N R (fun e h => loopN c s u (d + 1) e h N R) (E i) (H i)
      rcases hs i (fun e h => loopN c s u (d + 1) e h N R) (by omega) with ⟨e1, e2⟩ | e1
      · rw [e1]; rw [e2] at hy; exact ih (i + 1) (by omega) hy
      · rw [e1]; exact hy
  exact propext ⟨fun ⟨n, h⟩ => k1 n i hi h, fun hy => ⟨b - i + 1, k2 (b - i) i (by omega) hy⟩⟩
