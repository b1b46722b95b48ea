/-! The base of the pure part: loops, views of the cells, numbers. -/
set_option maxRecDepth 20000
theorem sLoop_rule {c : CX} {s u : SX} {N B C : LE → HS → Prop} {R : Option Value → HS → Prop} (P : Nat → LE → HS → Prop) (hs : ∀ (k : Nat) (env : LE) (h : HS) (X : LE → HS → Prop), (∀ (k' : Nat) (e : LE) (h' : HS), k' < k → P k' e h' → X e h') → P k env h → c env h (fun b h1 => if b = true then s env h1 (fun e2 h2 => u e2 h2 X (fun _ _ => False) (fun _ _ => False) R) N (fun e2 h2 => u e2 h2 X (fun _ _ => False) (fun _ _ => False) R) R else N env h1)) :
    ∀ (k : Nat) (env : LE) (h : HS), P k env h → sLoop c s u env h N B C R := by
  have key : ∀ (n k : Nat) (env : LE) (h : HS), k < n → P k env h → loopN c s u n env h N R := by
    intro n
    induction n with
    | zero => exact fun k env h hk => absurd hk (Nat.not_lt_zero k)
    | succ n ih =>
      intro k env h hk hP
      exact hs k env h (fun e h' => loopN c s u n e h' N R) (fun k' e h' hk' hP' => ih k' e h' (by omega) hP') hP
  exact fun k env h hP => ⟨k + 1, key (k + 1) k env h (Nat.lt_succ_self k) hP⟩
/-- test: a leaf -/
theorem s_shiftOf {h : HS} {a : Nat} {hut n : Int32} {fs : List Value} {R : Option Value → HS → Prop} (ha : h a = .inr (0, fs)) (hn : fs[3]? = some (.int n)) (kk : R (some (.int (4 * (n - 1 - hut)))) h) : mX0_shiftOf [.ref a, .int hut] h R := by
  simp [mX0_shiftOf, bodyOf, env0, envA, Value.category, sRetI, iB, iK, iLoc, rLoc, iGet, ha, hn, gT2, kk]
theorem s_loadsIn {h : HS} {a : Nat} {lying hut n : Int32} {fs : List Value} {R : Option Value → HS → Prop} (ha : h a = .inr (0, fs)) (hn : fs[3]? = some (.int n)) (kk : R (some (.int (jshr lying (4 * (n - 1 - hut)) &&& 15))) h) : mX0_loadsIn [.ref a, .int lying, .int hut] h R := by
  simp [mX0_loadsIn, bodyOf, env0, envA, Value.category, sRetI, iB, iK, iLoc, rLoc, iGet, gT2, iCallV, aR, aI, aNil, rcv, ha]
  exact s_shiftOf ha hn kk
