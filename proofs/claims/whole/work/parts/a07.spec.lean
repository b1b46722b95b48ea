set_option maxRecDepth 20000
set_option maxHeartbeats 4000000
set_option linter.all false
/-! what the document speaks of: huts, paths, the law, carryings -/
abbrev HK : Type := Nat × (Nat → Nat) × (Nat → Nat → Nat) × List Nat × (Nat → List Nat) × List Nat
def Kn (K : HK) : Nat := K.1
def Kk (K : HK) : Nat → Nat := K.2.1
def Kt (K : HK) : Nat → Nat → Nat := K.2.2.1
def Kl (K : HK) : List Nat := K.2.2.2.1
def Ks (K : HK) : Nat → List Nat := K.2.2.2.2.1
def Kw (K : HK) : List Nat := K.2.2.2.2.2
/-- what is taken up from i to j -/
def Kp (K : HK) (i j : Nat) : Nat :=
  if Kt K i j = 0 then 0 else
  let p := if Kk K i = 1 ∧ 2 < Kt K i j then Kt K i j - 1 else Kt K i j
  if Kk K j = 2 then p + 1 else p
def lwJ (c : Nat) (a b : Int32) : Int32 := match c with
  | 4 => a + b
  | 5 => a - b
  | 6 => a * b
  | 7 => if a < b then 1 else 0
  | 8 => if a = b then 1 else 0
  | 9 => if a ≠ 0 ∧ b ≠ 0 then 1 else 0
  | _ => if a ≠ 0 ∨ b ≠ 0 then 1 else 0
/-- one step of the law: the top of the pile first -/
def lwS (F : Nat → Int32) (stk : List Int32) (t : Nat) : List Int32 :=
  if t % 16 = 1 then nI (t / 16) :: stk else if t % 16 = 2 then F (t / 16) :: stk else
  if t % 16 = 3 then (match stk with | x :: r => (if x = 0 then 1 else 0) :: r | [] => []) else
  (match stk with | y :: x :: r => lwJ (t % 16) x y :: r | s => s)
def lwF (here there price all : Nat) (k : Nat) : Int32 := match k with
  | 0 => nI here
  | 1 => nI there
  | 2 => nI price
  | _ => nI all
def lwV (F : Nat → Int32) (w : List Nat) : Int32 := (w.foldl (lwS F) []).headD 0
/-- how high the pile stands: every step has what it takes, 29 at most -/
def lwOK : List Nat → Nat → Prop
  | [], h => h = 1
  | t :: r, h => if t % 16 = 1 ∨ t % 16 = 2 then h < 29 ∧ lwOK r (h + 1) else if t % 16 = 3 then 1 ≤ h ∧ lwOK r h else 2 ≤ h ∧ lwOK r (h - 1)
def tokOK (t : Nat) : Prop := (t % 16 = 1 ∧ t / 16 ≤ 9999) ∨ (t % 16 = 2 ∧ t / 16 < 4) ∨ (3 ≤ t % 16 ∧ t % 16 ≤ 10 ∧ t / 16 = 0)
def Kb (K : HK) (here there price all : Nat) : Bool := !(Kw K).isEmpty && !decide (lwV (lwF here there price all) (Kw K) = 0)
/-- whether one can carry -/
def Kc (K : HK) (L : List Nat) (i j : Nat) : Bool := decide (Kt K i j ≠ 0) && decide (Kp K i j ≤ lg L i) && !(decide (Kk K j = 3) && decide (3 ≤ lg L j)) && !Kb K (lg L i) (lg L j) (Kp K i j) L.sum
def Km (K : HK) (L : List Nat) (i j : Nat) : List Nat := (L.set i (lg L i - Kp K i j)).set j (lg L j + 1)
def prs (n : Nat) : List (Nat × Nat) := (List.range n).flatMap fun i => (List.range n).map fun j => (i, j)
def wl (K : HK) : List (Nat × Nat) := (prs (Kn K)).filter fun p => decide (Kt K p.1 p.2 ≠ 0)
def nx (K : HK) (L : List Nat) : List (List Nat) := ((wl K).filter fun p => Kc K L p.1 p.2).map fun p => Km K L p.1 p.2
/-- no small hut has more than three -/
def Kway (K : HK) (L : List Nat) : Bool := (List.range (Kn K)).all fun i => !(decide (Kk K i = 3) && decide (3 < lg L i))
/-- hills as they can be told -/
def KWF (K : HK) : Prop := Kn K ≤ 5 ∧ (∀ i, i < Kn K → Kk K i < 4) ∧ (∀ i j, i < Kn K → j < Kn K → Kt K i j = Kt K j i) ∧ (∀ i, i < Kn K → Kt K i i = 0) ∧
  (∀ i j, i < Kn K → j < Kn K → Kt K i j ≠ 0 → 2 ≤ Kt K i j ∧ Kt K i j ≤ 4) ∧ LWF (Kn K) (Kl K) ∧ (Kw K = [] ∨ lwOK (Kw K) 0) ∧ (∀ t ∈ Kw K, tokOK t) ∧ (Kw K).length ≤ 1000 ∧ Kway K (Kl K) = true
theorem Kp_rng {K : HK} (hK : KWF K) {i j : Nat} (hi : i < Kn K) (hj : j < Kn K) (ht : Kt K i j ≠ 0) : 2 ≤ Kp K i j ∧ Kp K i j ≤ 5 := by
  have h := hK.2.2.2.2.1 i j hi hj ht
  simp only [Kp, if_neg ht]
  split <;> split <;> omega
theorem Kp_le {K : HK} (hK : KWF K) {i j : Nat} (hi : i < Kn K) (hj : j < Kn K) : Kp K i j ≤ 5 := by
  by_cases ht : Kt K i j = 0
  · simp [Kp, ht]
  · exact (Kp_rng hK hi hj ht).2
theorem Kp_0 {K : HK} (hK : KWF K) {i j : Nat} (hi : i < Kn K) (hj : j < Kn K) : Kp K i j = 0 ↔ Kt K i j = 0 := by
  constructor
  · intro h
    apply Decidable.byContradiction; intro ht
    have := Kp_rng hK hi hj ht; omega
  · intro h; simp [Kp, h]
theorem mem_prs {n : Nat} {p : Nat × Nat} : p ∈ prs n ↔ p.1 < n ∧ p.2 < n := by
  obtain ⟨i, j⟩ := p
  simp [prs]
theorem mem_wl {K : HK} {p : Nat × Nat} : p ∈ wl K ↔ p.1 < Kn K ∧ p.2 < Kn K ∧ Kt K p.1 p.2 ≠ 0 := by
  simp [wl, mem_prs, and_assoc]
theorem wl_ne {K : HK} (hK : KWF K) {p : Nat × Nat} (h : p ∈ wl K) : p.1 ≠ p.2 := by
  obtain ⟨h1, h2, h3⟩ := mem_wl.mp h
  intro e
  rw [← e] at h3
  exact h3 (hK.2.2.2.1 _ h1)
theorem wl_len {K : HK} (hK : KWF K) : (wl K).length ≤ 20 := by
  have hn := hK.1
  have h1 : ∀ p ∈ prs (Kn K), decide (Kt K p.1 p.2 ≠ 0) = true → decide (p.1 ≠ p.2) = true := by
    intro p hp ht
    have := wl_ne hK (p := p) (by simp [wl, hp]; simpa using ht)
    simpa using this
  have h2 : (wl K).length ≤ ((prs (Kn K)).filter fun p => decide (p.1 ≠ p.2)).length := by
    rw [wl, ← List.countP_eq_length_filter, ← List.countP_eq_length_filter]
    exact List.countP_mono_left h1
  have h3 : ∀ n, n ≤ 5 → ((prs n).filter fun p => decide (p.1 ≠ p.2)).length ≤ 20 := by decide +kernel
  exact Nat.le_trans h2 (h3 _ hn)
theorem Kc_iff {K : HK} {L : List Nat} {i j : Nat} : Kc K L i j = true ↔ Kt K i j ≠ 0 ∧ Kp K i j ≤ lg L i ∧ ¬ (Kk K j = 3 ∧ 3 ≤ lg L j) ∧ Kb K (lg L i) (lg L j) (Kp K i j) L.sum = false := by
  simp [Kc, and_assoc]
  intro _ _ _; omega
theorem Km_len {K : HK} {L : List Nat} {i j : Nat} : (Km K L i j).length = L.length := by simp [Km]
theorem Km_lg {K : HK} {L : List Nat} {i j k : Nat} (hi : i < L.length) (hj : j < L.length) (hij : i ≠ j) : lg (Km K L i j) k = if j = k then lg L j + 1 else if i = k then lg L i - Kp K i j else lg L k := by
  simp [Km, lg_set, hi, hj]
theorem Km_sum {K : HK} {L : List Nat} {i j : Nat} (hi : i < L.length) (hj : j < L.length) (hij : i ≠ j) (h : Kp K i j ≤ lg L i) : (Km K L i j).sum + Kp K i j = L.sum + 1 := by
  have e1 := sum_set (L.set i (lg L i - Kp K i j)) j (lg L j + 1) (by simpa using hj)
  have e2 := sum_set L i (lg L i - Kp K i j) hi
  rw [lg_set, if_neg (fun q => hij q.1)] at e1
  simp only [Km]; omega
theorem Km_pk {K : HK} {L : List Nat} {i j : Nat} (hi : i < L.length) (hj : j < L.length) (hij : i ≠ j) (h : Kp K i j ≤ lg L i) : pk (Km K L i j) + Kp K i j * 16 ^ (L.length - 1 - i) = pk L + 16 ^ (L.length - 1 - j) := by
  have e1 := pk_set (L.set i (lg L i - Kp K i j)) j (lg L j + 1) (by simpa using hj)
  have e2 := pk_set L i (lg L i - Kp K i j) hi
  rw [lg_set, if_neg (fun q => hij q.1), List.length_set, Nat.add_mul] at e1
  obtain ⟨d, hd⟩ : ∃ d, lg L i = Kp K i j + d := ⟨lg L i - Kp K i j, by omega⟩
  rw [hd, show Kp K i j + d - Kp K i j = d by omega, Nat.add_mul] at e2
  rw [hd, show Kp K i j + d - Kp K i j = d by omega] at e1
  simp only [Km]
  rw [hd, show Kp K i j + d - Kp K i j = d by omega]; omega
theorem Km_LWF {K : HK} (hK : KWF K) {L : List Nat} (hL : LWF (Kn K) L) {p : Nat × Nat} (hp : p ∈ wl K) (hc : Kc K L p.1 p.2 = true) : LWF (Kn K) (Km K L p.1 p.2) ∧ (Km K L p.1 p.2).sum < L.sum := by
  obtain ⟨h1, h2, h3⟩ := mem_wl.mp hp
  have hr := Kp_rng hK h1 h2 h3
  have hs := Km_sum (K := K) (L := L) (i := p.1) (j := p.2) (by rw [hL.1]; exact h1) (by rw [hL.1]; exact h2) (wl_ne hK hp) (Kc_iff.mp hc).2.1
  have := hL.2
  exact ⟨⟨by rw [Km_len, hL.1], by omega⟩, by omega⟩
theorem mem_nx {K : HK} {L M : List Nat} : M ∈ nx K L ↔ ∃ p, p ∈ wl K ∧ Kc K L p.1 p.2 = true ∧ M = Km K L p.1 p.2 := by
  simp only [nx, List.mem_map, List.mem_filter]
  constructor
  · rintro ⟨p, ⟨h1, h2⟩, rfl⟩; exact ⟨p, h1, h2, rfl⟩
  · rintro ⟨p, h1, h2, rfl⟩; exact ⟨p, ⟨h1, h2⟩, rfl⟩
theorem nx_LWF {K : HK} (hK : KWF K) {L M : List Nat} (hL : LWF (Kn K) L) (h : M ∈ nx K L) : LWF (Kn K) M ∧ M.sum < L.sum := by
  obtain ⟨p, h1, h2, rfl⟩ := mem_nx.mp h
  exact Km_LWF hK hL h1 h2
theorem Km_way {K : HK} (hK : KWF K) {L : List Nat} (hL : LWF (Kn K) L) {p : Nat × Nat} (hp : p ∈ wl K) (hc : Kc K L p.1 p.2 = true) (hw : Kway K L = true) : Kway K (Km K L p.1 p.2) = true := by
  obtain ⟨h1, h2, h3⟩ := mem_wl.mp hp
  have hc' := Kc_iff.mp hc
  simp only [Kway, List.all_eq_true, List.mem_range, Bool.not_eq_true', Bool.and_eq_false_iff, decide_eq_false_iff_not] at hw ⊢
  intro i hi
  have hwi := hw i hi
  rw [Km_lg (by rw [hL.1]; exact h1) (by rw [hL.1]; exact h2) (wl_ne hK hp)]
  split
  · next e => subst e; by_cases h5 : Kk K p.2 = 3
              · exact Or.inr (by have := hc'.2.2.1; omega)
              · exact Or.inl h5
  · split
    · next e => subst e; omega
    · exact hwi
theorem nx_way {K : HK} (hK : KWF K) {L M : List Nat} (hL : LWF (Kn K) L) (h : M ∈ nx K L) (hw : Kway K L = true) : Kway K M = true := by
  obtain ⟨p, h1, h2, rfl⟩ := mem_nx.mp h
  exact Km_way hK hL h1 h2 hw
