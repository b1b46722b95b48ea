set_option maxRecDepth 20000
set_option maxHeartbeats 4000000
set_option linter.all false
/-! the law's words read: as such -/
/-- the next token, the fault, the law so far -/
abbrev RQ : Type := Nat × Nat × List Nat
def qwr (T : List Nat) (w : Nat) (s : RQ) : RQ := (s.1, pwr T s.1 s.2.1 w, s.2.2)
def qnx (s : RQ) : RQ := (s.1 + 1, s.2.1, s.2.2)
def qem (c : Nat) (s : RQ) : RQ := (s.1, s.2.1, s.2.2 ++ [c])
def qsg (T : List Nat) (c : Nat) (s : RQ) : RQ := if bSn T s.1 s.2.1 c = true then qnx s else qwr T 1 s
def qlp (b : RQ → Bool) (g : RQ → RQ) : Nat → RQ → RQ
  | 0, s => s
  | k + 1, s => if b s = true then qlp b g k (g s) else s
def prB (T : List Nat) (s : RQ) : Bool := bSn T s.1 s.2.1 42
def smB (T : List Nat) (s : RQ) : Bool := bSn T s.1 s.2.1 43 || bSn T s.1 s.2.1 45
def tsB (T : List Nat) (s : RQ) : Bool := bSn T s.1 s.2.1 60 || bSn T s.1 s.2.1 61
def whB (T : List Nat) (s : RQ) : Bool := bWd T s.1 s.2.1 13 || bWd T s.1 s.2.1 14
def prG (P : RQ → RQ) (s : RQ) : RQ := qem 6 (P (qnx s))
def qpr (T : List Nat) (P : RQ → RQ) (s : RQ) : RQ := qlp (prB T) (prG P) 1001 (P s)
def smG (T : List Nat) (P : RQ → RQ) (s : RQ) : RQ := qem (if bSn T s.1 s.2.1 43 = true then 4 else 5) (qpr T P (qnx s))
def qsm (T : List Nat) (P : RQ → RQ) (s : RQ) : RQ := qlp (smB T) (smG T P) 1001 (qpr T P s)
def tsG (T : List Nat) (P : RQ → RQ) (s : RQ) : RQ := qem (if bSn T s.1 s.2.1 60 = true then 7 else 8) (qsm T P (qnx s))
def qts (T : List Nat) (P : RQ → RQ) (s : RQ) : RQ := if tsB T (qsm T P s) = true then tsG T P (qsm T P s) else qsm T P s
def whG (T : List Nat) (P : RQ → RQ) (s : RQ) : RQ := qem (if bWd T s.1 s.2.1 13 = true then 9 else 10) (qts T P (qnx s))
def qwh (T : List Nat) (P : RQ → RQ) (s : RQ) : RQ := qlp (whB T) (whG T P) 1001 (qts T P s)
/-- a part can begin here -/
def isP (T : List Nat) (i : Nat) : Bool := decide ((tok T i).1 = 2 ∨ ((tok T i).1 = 3 ∧ (tok T i).2.2 = 40) ∨ ((tok T i).1 = 1 ∧ 12 ≤ wix (tok T i).2.1 ∧ wix (tok T i).2.1 ≠ 13 ∧ wix (tok T i).2.1 ≠ 14 ∧ wix (tok T i).2.1 < 19))
def pcd (T : List Nat) (i : Nat) : Nat := if (tok T i).1 = 2 then 1 + 16 * (tok T i).2.2 else 2 + 16 * (wix (tok T i).2.1 - 15)
def qp1 (T : List Nat) (P : RQ → RQ) (d : Nat) (s : RQ) : RQ :=
  if s.2.1 ≠ 0 then s else if isP T s.1 = false then qwr T 1 s else if d = 5 then qwr T 5 s else
  if bWd T s.1 s.2.1 12 = true then qem 3 (P (qnx s)) else if bSn T s.1 s.2.1 40 = true then qsg T 41 (qwh T P (qnx s)) else qnx (qem (pcd T s.1) s)
def qpt (T : List Nat) : Nat → Nat → RQ → RQ
  | 0, _, s => s
  | k + 1, d, s => qp1 T (qpt T k (d + 1)) d s
/-- a step of the law's parser: forward, no more words than tokens -/
def GPq (n : Nat) (s r : RQ) : Prop := s.1 ≤ n → s.2.1 < 2 ^ 31 → r.1 ≤ n ∧ r.2.1 < 2 ^ 31 ∧ s.1 ≤ r.1 ∧ r.2.2.length + s.1 ≤ r.1 + s.2.2.length ∧ (s.2.1 ≠ 0 → r.2.1 = s.2.1)
theorem GPq.rf {n : Nat} {s : RQ} : GPq n s s := fun h1 h2 => ⟨h1, h2, Nat.le_refl _, by omega, fun _ => rfl⟩
theorem GPq.tr {n : Nat} {s r t : RQ} (a : GPq n s r) (b : GPq n r t) : GPq n s t := fun h1 h2 => by
  obtain ⟨a1, a2, a3, a4, a5⟩ := a h1 h2
  obtain ⟨b1, b2, b3, b4, b5⟩ := b a1 a2
  exact ⟨b1, b2, by omega, by omega, fun z => by rw [b5 (by rw [a5 z]; exact z), a5 z]⟩
theorem GPq.wr {T : List Nat} {n w : Nat} {s : RQ} (hn : NE T n) (hw : 1 ≤ w ∧ w ≤ 15) : GPq n s (qwr T w s) := fun h1 h2 => by
  obtain ⟨a, b, c⟩ := pwr_p (i := s.1) hn h2 hw
  exact ⟨h1, a, Nat.le_refl _, by show s.2.2.length + s.1 ≤ s.1 + s.2.2.length; omega, c⟩
/-- a token gone over, then P, then a word -/
theorem GPq.em {n c : Nat} {P : RQ → RQ} {s : RQ} (hs : s.1 < n) (hP : ∀ s, GPq n s (P s)) : GPq n s (qem c (P (qnx s))) := fun h1 h2 => by
  obtain ⟨a1, a2, a3, a4, a5⟩ := hP (qnx s) (by show s.1 + 1 ≤ n; omega) h2
  have a3 : s.1 + 1 ≤ (P (qnx s)).1 := a3
  have a4 : (P (qnx s)).2.2.length + (s.1 + 1) ≤ (P (qnx s)).1 + s.2.2.length := a4
  refine ⟨a1, a2, by show s.1 ≤ (P (qnx s)).1; omega, ?_, a5⟩
  show ((P (qnx s)).2.2 ++ [c]).length + s.1 ≤ (P (qnx s)).1 + s.2.2.length
  rw [List.length_append]; simp only [List.length_cons, List.length_nil]; omega
theorem GPq.nx {n : Nat} {s : RQ} (hs : s.1 < n) : GPq n s (qnx s) := fun h1 h2 => ⟨hs, h2, Nat.le_succ _, by show s.2.2.length + s.1 ≤ s.1 + 1 + s.2.2.length; omega, fun _ => rfl⟩
theorem bSn_lt {T : List Nat} {n i f c : Nat} (hn : NE T n) (hi : i ≤ n) (h : bSn T i f c = true) : i < n := hn.lt hi (by have := of_decide_eq_true h; omega)
theorem bWd_lt {T : List Nat} {n i f c : Nat} (hn : NE T n) (hi : i ≤ n) (h : bWd T i f c = true) : i < n := hn.lt hi (by have := of_decide_eq_true h; omega)
theorem GPq.sg {T : List Nat} {n c : Nat} {s : RQ} (hn : NE T n) : GPq n s (qsg T c s) := by
  unfold qsg
  by_cases q : bSn T s.1 s.2.1 c = true
  · rw [if_pos q]; exact fun h1 h2 => GPq.nx (bSn_lt hn h1 q) h1 h2
  · rw [if_neg q]; exact GPq.wr hn (by omega)
theorem GPq.lp {n : Nat} {b : RQ → Bool} {g : RQ → RQ} (hg : ∀ s, s.1 ≤ n → b s = true → GPq n s (g s)) : ∀ k s, GPq n s (qlp b g k s)
  | 0, s => GPq.rf
  | k + 1, s => fun h1 h2 => by
    unfold qlp
    by_cases q : b s = true
    · rw [if_pos q]
      exact GPq.tr (hg s h1 q) (GPq.lp hg k (g s)) h1 h2
    · rw [if_neg q]; exact GPq.rf h1 h2
theorem prB_lt {T : List Nat} {n : Nat} {s : RQ} (hn : NE T n) (hi : s.1 ≤ n) (h : prB T s = true) : s.1 < n := bSn_lt hn hi h
theorem smB_lt {T : List Nat} {n : Nat} {s : RQ} (hn : NE T n) (hi : s.1 ≤ n) (h : smB T s = true) : s.1 < n := by
  rcases (Bool.or_eq_true _ _).mp h with q | q <;> exact bSn_lt hn hi q
theorem tsB_lt {T : List Nat} {n : Nat} {s : RQ} (hn : NE T n) (hi : s.1 ≤ n) (h : tsB T s = true) : s.1 < n := by
  rcases (Bool.or_eq_true _ _).mp h with q | q <;> exact bSn_lt hn hi q
theorem whB_lt {T : List Nat} {n : Nat} {s : RQ} (hn : NE T n) (hi : s.1 ≤ n) (h : whB T s = true) : s.1 < n := by
  rcases (Bool.or_eq_true _ _).mp h with q | q <;> exact bWd_lt hn hi q
section
variable {T : List Nat} {n : Nat} {P : RQ → RQ}
theorem GPq.pr (hn : NE T n) (hP : ∀ s, GPq n s (P s)) (s : RQ) : GPq n s (qpr T P s) :=
  (hP s).tr (GPq.lp (fun _ h1 q => GPq.em (prB_lt hn h1 q) hP) 1001 (P s))
theorem GPq.sm (hn : NE T n) (hP : ∀ s, GPq n s (P s)) (s : RQ) : GPq n s (qsm T P s) :=
  (GPq.pr hn hP s).tr (GPq.lp (fun _ h1 q => GPq.em (smB_lt hn h1 q) (GPq.pr hn hP)) 1001 (qpr T P s))
theorem GPq.ts (hn : NE T n) (hP : ∀ s, GPq n s (P s)) (s : RQ) : GPq n s (qts T P s) := by
  unfold qts
  refine fun h1 h2 => ?_
  by_cases q : tsB T (qsm T P s) = true
  · rw [if_pos q]
    have h := GPq.sm hn hP s h1 h2
    exact (GPq.sm hn hP s).tr (GPq.em (tsB_lt hn h.1 q) (GPq.sm hn hP)) h1 h2
  · rw [if_neg q]; exact GPq.sm hn hP s h1 h2
theorem GPq.wh (hn : NE T n) (hP : ∀ s, GPq n s (P s)) (s : RQ) : GPq n s (qwh T P s) :=
  (GPq.ts hn hP s).tr (GPq.lp (fun _ h1 q => GPq.em (whB_lt hn h1 q) (GPq.ts hn hP)) 1001 (qts T P s))
theorem isP_ne {i : Nat} (h : isP T i = true) : (tok T i).1 ≠ 0 := by
  have := of_decide_eq_true h; omega
theorem GPq.p1 (hn : NE T n) (hP : ∀ s, GPq n s (P s)) (d : Nat) (s : RQ) : GPq n s (qp1 T P d s) := by
  unfold qp1
  by_cases q0 : s.2.1 ≠ 0
  · rw [if_pos q0]; exact GPq.rf
  · rw [if_neg q0]
    by_cases q1 : isP T s.1 = false
    · rw [if_pos q1]; exact GPq.wr hn (by omega)
    · rw [if_neg q1]
      have hne := isP_ne ((Bool.not_eq_false _).mp q1)
      by_cases q2 : d = 5
      · rw [if_pos q2]; exact GPq.wr hn (by omega)
      · rw [if_neg q2]
        by_cases q3 : bWd T s.1 s.2.1 12 = true
        · rw [if_pos q3]; exact fun h1 h2 => GPq.em (hn.lt h1 hne) hP h1 h2
        · rw [if_neg q3]
          by_cases q4 : bSn T s.1 s.2.1 40 = true
          · rw [if_pos q4]; exact fun h1 h2 => ((GPq.nx (hn.lt h1 hne)).tr ((GPq.wh hn hP _).tr (GPq.sg hn))) h1 h2
          · rw [if_neg q4]
            refine fun h1 h2 => ⟨hn.lt h1 hne, h2, Nat.le_succ _, ?_, fun z => absurd z q0⟩
            show (s.2.2 ++ [pcd T s.1]).length + s.1 ≤ s.1 + 1 + s.2.2.length
            rw [List.length_append]; simp only [List.length_cons, List.length_nil]; omega
theorem GPq.pt (hn : NE T n) : ∀ k d s, GPq n s (qpt T k d s)
  | 0, _, _ => GPq.rf
  | k + 1, d, s => GPq.p1 hn (fun s => GPq.pt hn k (d + 1) s) d s
end
/-- these words bring the pile from one height to another -/
def lwT (w : List Nat) (a b : Nat) : Prop := ∀ r, lwOK r b → lwOK (w ++ r) a
theorem lwT.nil {a : Nat} : lwT [] a a := fun _ h => h
theorem lwT.tr {u v : List Nat} {a b c : Nat} (h1 : lwT u a b) (h2 : lwT v b c) : lwT (u ++ v) a c := fun r h => by
  rw [List.append_assoc]; exact h1 _ (h2 r h)
theorem lwT.push {t a : Nat} (ht : t % 16 = 1 ∨ t % 16 = 2) (ha : a < 29) : lwT [t] a (a + 1) := fun r h => by
  show lwOK (t :: r) a
  unfold lwOK; rw [if_pos ht]; exact ⟨ha, h⟩
theorem lwT.not {a : Nat} (ha : 1 ≤ a) : lwT [3] a a := fun r h => by
  show lwOK (3 :: r) a
  unfold lwOK; rw [if_neg (by omega), if_pos (by omega)]; exact ⟨ha, h⟩
theorem lwT.bin {t a : Nat} (ht : 4 ≤ t ∧ t ≤ 10) (ha : 1 ≤ a) : lwT [t] (a + 1) a := fun r h => by
  show lwOK (t :: r) (a + 1)
  unfold lwOK; rw [if_neg (by omega), if_neg (by omega)]; exact ⟨by omega, by rwa [Nat.add_sub_cancel]⟩
/-- what is read without a fault is one value more on the pile -/
def LWG (a : Nat) (s r : RQ) : Prop := r.2.1 = 0 → s.2.1 = 0 ∧ ∃ u, r.2.2 = s.2.2 ++ u ∧ lwT u a (a + 1) ∧ ∀ t, t ∈ u → tokOK t
theorem tokOK_b {t : Nat} (h : 3 ≤ t ∧ t ≤ 10) : tokOK t := Or.inr (Or.inr (by omega))
theorem LWG.em {a c : Nat} {P : RQ → RQ} {s0 s : RQ} (ha : LWG a s0 s) (hP : ∀ s, LWG (a + 1) s (P s)) (hc : 4 ≤ c ∧ c ≤ 10) : LWG a s0 (qem c (P (qnx s))) := fun h => by
  obtain ⟨b0, v, b1, b2, b3⟩ := hP (qnx s) h
  obtain ⟨a0, u, a1, a2, a3⟩ := ha b0
  refine ⟨a0, u ++ (v ++ [c]), ?_, a2.tr (b2.tr (lwT.bin hc (by omega))), fun t ht => ?_⟩
  · show (P (qnx s)).2.2 ++ [c] = _
    rw [b1]; show s.2.2 ++ v ++ [c] = _
    rw [a1]; simp only [List.append_assoc]
  · rcases List.mem_append.mp ht with z | z
    · exact a3 t z
    · rcases List.mem_append.mp z with z | z
      · exact b3 t z
      · rw [List.mem_singleton.mp z]; exact tokOK_b (by omega)
theorem LWG.lp {a : Nat} {b : RQ → Bool} {g : RQ → RQ} (hg : ∀ s0 s, LWG a s0 s → LWG a s0 (g s)) (s0 : RQ) : ∀ k s, LWG a s0 s → LWG a s0 (qlp b g k s)
  | 0, s, h => h
  | k + 1, s, h => by
    unfold qlp
    by_cases q : b s = true
    · rw [if_pos q]; exact LWG.lp hg s0 k (g s) (hg s0 s h)
    · rw [if_neg q]; exact h
section
variable {T : List Nat} {P : RQ → RQ} {a : Nat}
theorem ifc {c d e : Nat} {p : Prop} [Decidable p] (h : 4 ≤ c ∧ c ≤ 10) (h2 : 4 ≤ d ∧ d ≤ 10) (he : e = if p then c else d) : 4 ≤ e ∧ e ≤ 10 := by
  rw [he]; split
  · exact h
  · exact h2
theorem LWG.pr (hP : ∀ b, a ≤ b → b ≤ a + 1 → ∀ s, LWG b s (P s)) (s : RQ) : LWG a s (qpr T P s) :=
  LWG.lp (fun _ _ h => LWG.em h (hP (a + 1) (by omega) (by omega)) (by omega)) s 1001 _ (hP a (by omega) (by omega) s)
theorem LWG.sm (hP : ∀ b, a ≤ b → b ≤ a + 2 → ∀ s, LWG b s (P s)) (s : RQ) : LWG a s (qsm T P s) :=
  LWG.lp (fun _ _ h => LWG.em h (LWG.pr fun b h1 h2 => hP b (by omega) (by omega)) (ifc (c := 4) (d := 5) (by omega) (by omega) rfl)) s 1001 _ (LWG.pr (fun b h1 h2 => hP b (by omega) (by omega)) s)
theorem LWG.ts (hP : ∀ b, a ≤ b → b ≤ a + 3 → ∀ s, LWG b s (P s)) (s : RQ) : LWG a s (qts T P s) := by
  unfold qts
  have h := LWG.sm (T := T) (P := P) (a := a) (fun b h1 h2 => hP b (by omega) (by omega)) s
  split
  · exact LWG.em h (LWG.sm fun b h1 h2 => hP b (by omega) (by omega)) (ifc (c := 7) (d := 8) (by omega) (by omega) rfl)
  · exact h
theorem LWG.wh (hP : ∀ b, a ≤ b → b ≤ a + 4 → ∀ s, LWG b s (P s)) (s : RQ) : LWG a s (qwh T P s) :=
  LWG.lp (fun _ _ h => LWG.em h (LWG.ts fun b h1 h2 => hP b (by omega) (by omega)) (ifc (c := 9) (d := 10) (by omega) (by omega) rfl)) s 1001 _ (LWG.ts (fun b h1 h2 => hP b (by omega) (by omega)) s)
theorem pcd_ok {i : Nat} (h : isP T i = true) (h2 : ¬ ((tok T i).1 = 1 ∧ wix (tok T i).2.1 = 12)) (h3 : ¬ ((tok T i).1 = 3 ∧ (tok T i).2.2 = 40)) : tokOK (pcd T i) ∧ (pcd T i % 16 = 1 ∨ pcd T i % 16 = 2) := by
  have h1 := of_decide_eq_true h
  have h9 := fun z => tok_n (T := T) (i := i) z
  unfold pcd tokOK
  by_cases q : (tok T i).1 = 2
  · have := h9 q
    rw [if_pos q]; omega
  · rw [if_neg q]; omega
theorem pwr_n {i f w : Nat} (hw : 1 ≤ w) : pwr T i f w ≠ 0 := by
  unfold pwr; split
  · omega
  · next q => exact q
theorem LWG.p1 {d : Nat} (hd : d ≤ 5) (ha : a ≤ 4 * d + 4) (hP : d < 5 → ∀ b, b ≤ 4 * (d + 1) + 4 → ∀ s, LWG b s (P s)) (s : RQ) : LWG a s (qp1 T P d s) := by
  unfold qp1
  by_cases q0 : s.2.1 ≠ 0
  · rw [if_pos q0]; exact fun h => absurd h q0
  · have h0 : s.2.1 = 0 := Classical.not_not.mp q0
    rw [if_neg q0]
    by_cases q1 : isP T s.1 = false
    · rw [if_pos q1]; exact fun h => absurd h (pwr_n (by omega))
    · rw [if_neg q1]
      have hi := (Bool.not_eq_false _).mp q1
      by_cases q2 : d = 5
      · rw [if_pos q2]; exact fun h => absurd h (pwr_n (by omega))
      · rw [if_neg q2]
        have hP' := hP (by omega)
        by_cases q3 : bWd T s.1 s.2.1 12 = true
        · rw [if_pos q3]
          intro h
          obtain ⟨b0, v, b1, b2, b3⟩ := hP' a (by omega) (qnx s) h
          refine ⟨h0, v ++ [3], ?_, b2.tr (lwT.not (by omega)), fun t ht => ?_⟩
          · show (P (qnx s)).2.2 ++ [3] = _
            rw [b1]; simp only [List.append_assoc]; rfl
          · rcases List.mem_append.mp ht with z | z
            · exact b3 t z
            · rw [List.mem_singleton.mp z]; exact tokOK_b (by omega)
        · rw [if_neg q3]
          by_cases q4 : bSn T s.1 s.2.1 40 = true
          · rw [if_pos q4]
            intro h
            have hw := LWG.wh (T := T) (P := P) (a := a) (fun b h1 h2 => hP' b (by omega)) (qnx s)
            unfold qsg at h ⊢
            by_cases q5 : bSn T (qwh T P (qnx s)).1 (qwh T P (qnx s)).2.1 41 = true
            · rw [if_pos q5] at h ⊢
              obtain ⟨c0, v, c1, c2, c3⟩ := hw h
              exact ⟨h0, v, c1, c2, c3⟩
            · rw [if_neg q5] at h
              exact absurd h (pwr_n (by omega))
          · rw [if_neg q4]
            have hk := pcd_ok hi (fun z => q3 (decide_eq_true ⟨h0, z.1, z.2⟩)) (fun z => q4 (decide_eq_true ⟨h0, z.1, z.2⟩))
            refine fun h => ⟨h0, [pcd T s.1], rfl, lwT.push hk.2 (by omega), fun t ht => ?_⟩
            rw [List.mem_singleton.mp ht]; exact hk.1
theorem LWG.pt : ∀ k d, 6 ≤ k + d → d ≤ 5 → ∀ b, b ≤ 4 * d + 4 → ∀ s, LWG b s (qpt T k d s)
  | 0, d, h, h2, b, hb, s => absurd h (by omega)
  | k + 1, d, h, h2, b, hb, s => LWG.p1 h2 hb (fun h3 b hb s => LWG.pt k (d + 1) (by omega) (by omega) b hb s) s
end
/-- a law that is read without a fault -/
theorem law_ok {T : List Nat} {k : Nat} (hk : 6 ≤ k) {i : Nat} (h : (qwh T (qpt T k 0) (i, 0, [])).2.1 = 0) : lwOK (qwh T (qpt T k 0) (i, 0, [])).2.2 0 ∧ (∀ t, t ∈ (qwh T (qpt T k 0) (i, 0, [])).2.2 → tokOK t) ∧ (qwh T (qpt T k 0) (i, 0, [])).2.2 ≠ [] := by
  obtain ⟨_, u, h1, h2, h3⟩ := LWG.wh (T := T) (P := qpt T k 0) (a := 0) (fun b _ hb s => LWG.pt k 0 (by omega) (by omega) b (by omega) s) (i, 0, []) h
  rw [h1]
  have := h2 [] rfl
  rw [List.append_nil] at this
  refine ⟨this, h3, fun z => ?_⟩
  have z : u = [] := z
  subst z
  exact absurd this (by unfold lwOK; omega)
