set_option maxRecDepth 20000
set_option maxHeartbeats 4000000
set_option linter.all false
/-! what lies ahead -/
theorem Dn_nx {K : HK} (hK : KWF K) : Dn (nx K) (LWF (Kn K)) := ⟨fun _ h => h.2, fun _ ha _ hb => nx_LWF hK ha hb⟩
def nwr (L : List Nat) : Nat → Nat
  | 0 => 0
  | m + 1 => if 0 < lg L m then nwr L m ||| 1 <<< (12 * m) else nwr L m
theorem nwr_bit (L : List Nat) : ∀ (n t : Nat), (nwr L n).testBit t = true ↔ ∃ i, i < n ∧ 0 < lg L i ∧ t = 12 * i
  | 0, t => by simp [nwr]
  | n + 1, t => by
    have ih := nwr_bit L n t
    have h1 : ∀ k, (1 <<< (12 * n)).testBit k = true ↔ k = 12 * n := by
      intro k
      rw [Nat.one_shiftLeft, Nat.testBit_two_pow, decide_eq_true_iff]; exact eq_comm
    unfold nwr
    split
    · next q =>
      rw [Nat.testBit_or, Bool.or_eq_true, ih, h1]
      constructor
      · rintro (⟨i, a, b, c⟩ | c)
        · exact ⟨i, by omega, b, c⟩
        · exact ⟨n, by omega, q, c⟩
      · rintro ⟨i, a, b, c⟩
        by_cases z : i = n
        · subst z; exact Or.inr c
        · exact Or.inl ⟨i, by omega, b, c⟩
    · next q =>
      rw [ih]
      constructor
      · rintro ⟨i, a, b, c⟩; exact ⟨i, by omega, b, c⟩
      · rintro ⟨i, a, b, c⟩
        by_cases z : i = n
        · subst z; exact absurd b q
        · exact ⟨i, by omega, b, c⟩
def jsh (v n : Nat) : Nat := v ||| n <<< 1
/-- behind how many carryings a load can lie in which hut: twelve bits a hut -/
def cmg (K : HK) (L : List Nat) : Nat := dp (nx K) (fun L => nwr L (Kn K)) (fun _ => false) jsh L
/-- the fewest carryings, and one; 0: none -/
def few (K : HK) (i : Nat) (L : List Nat) : Nat := dp (nx K) (fun a => if decide (0 < lg a i) = true then 1 else 0) (fun a => decide (0 < lg a i)) jmin1 L
theorem dp_sh {nxt : List Nat → List (List Nat)} {V : List Nat → Prop} (hV : Dn nxt V) {g : List Nat → Nat} : ∀ a, V a → ∀ t, ((dp nxt g (fun _ => false) jsh a).testBit t = true ↔ ∃ d c, Rr nxt d a c ∧ d ≤ t ∧ (g c).testBit (t - d) = true) := by
  refine hV.ind fun a ha ih => ?_
  intro t
  rw [dp_eq hV ha, if_neg (by simp)]
  generalize hF : dp nxt g (fun _ => false) jsh = F at ih ⊢
  have key : ∀ (l : List (List Nat)) (v : Nat), (l.foldl (fun v c => jsh v (F c)) v).testBit t = true ↔ v.testBit t = true ∨ ∃ b, b ∈ l ∧ 1 ≤ t ∧ (F b).testBit (t - 1) = true := by
    intro l
    induction l with
    | nil => simp
    | cons x l ihl =>
      intro v
      rw [List.foldl_cons, ihl, jsh, Nat.testBit_or, Nat.testBit_shiftLeft]
      simp only [Bool.or_eq_true, Bool.and_eq_true, decide_eq_true_iff, List.mem_cons]
      constructor
      · rintro ((h | h) | ⟨b, hb, h⟩)
        · exact Or.inl h
        · exact Or.inr ⟨x, Or.inl rfl, h⟩
        · exact Or.inr ⟨b, Or.inr hb, h⟩
      · rintro (h | ⟨b, rfl | hb, h⟩)
        · exact Or.inl (Or.inl h)
        · exact Or.inl (Or.inr h)
        · exact Or.inr ⟨b, hb, h⟩
  rw [key]
  constructor
  · rintro (h | ⟨b, hb, h1, h⟩)
    · exact ⟨0, a, rfl, by omega, h⟩
    · obtain ⟨d, c, h2, h3, h4⟩ := (ih b hb (t - 1)).mp h
      exact ⟨d + 1, c, ⟨b, hb, h2⟩, by omega, by rwa [show t - (d + 1) = t - 1 - d by omega]⟩
  · rintro ⟨d, c, h1, h2, h3⟩
    cases d with
    | zero => cases h1; exact Or.inl h3
    | succ d =>
      obtain ⟨b, hb, h⟩ := h1
      exact Or.inr ⟨b, hb, by omega, (ih b hb (t - 1)).mpr ⟨d, c, h, by omega, by rwa [show t - 1 - d = t - (d + 1) by omega]⟩⟩
theorem Rr_d {K : HK} (hK : KWF K) {L c : List Nat} (hL : LWF (Kn K) L) {d i : Nat} (h : Rr (nx K) d L c) (hi : 0 < lg c i) : d ≤ 11 ∧ LWF (Kn K) c := by
  have h1 := Rr_V (Dn_nx hK) hL h
  have h2 := lg_le_sum c i
  have h3 := hL.2
  exact ⟨by omega, h1.1⟩
theorem cmg_bit {K : HK} (hK : KWF K) {L : List Nat} (hL : LWF (Kn K) L) (t : Nat) : (cmg K L).testBit t = true ↔ ∃ d c i, Rr (nx K) d L c ∧ i < Kn K ∧ 0 < lg c i ∧ d ≤ 11 ∧ t = 12 * i + d := by
  unfold cmg
  rw [dp_sh (Dn_nx hK) L hL]
  constructor
  · rintro ⟨d, c, h1, h2, h3⟩
    obtain ⟨i, a, b, e⟩ := (nwr_bit c _ _).mp h3
    exact ⟨d, c, i, h1, a, b, (Rr_d hK hL h1 b).1, by omega⟩
  · rintro ⟨d, c, i, h1, h2, h3, h4, h5⟩
    exact ⟨d, c, h1, by omega, (nwr_bit c _ _).mpr ⟨i, h2, h3, by omega⟩⟩
theorem cmg_lt {K : HK} (hK : KWF K) {L : List Nat} (hL : LWF (Kn K) L) : cmg K L < 2 ^ 60 := by
  apply Nat.lt_pow_two_of_testBit
  intro t ht
  cases e : (cmg K L).testBit t with
  | false => rfl
  | true =>
    obtain ⟨d, c, i, _, h2, _, h4, h5⟩ := (cmg_bit hK hL t).mp e
    have := hK.1; omega
theorem cmg_lane {K : HK} (hK : KWF K) {L : List Nat} (hL : LWF (Kn K) L) {i j : Nat} (hi : i < Kn K) (hj : j < 12) : (cmg K L).testBit (12 * i + j) = true ↔ ∃ c, Rr (nx K) j L c ∧ 0 < lg c i := by
  rw [cmg_bit hK hL]
  constructor
  · rintro ⟨d, c, i', h1, h2, h3, h4, h5⟩
    obtain ⟨rfl, rfl⟩ : i = i' ∧ j = d := by omega
    exact ⟨c, h1, h3⟩
  · rintro ⟨c, h1, h2⟩
    exact ⟨j, c, i, h1, hi, h2, by omega, rfl⟩
theorem few_p {K : HK} (hK : KWF K) {L : List Nat} (hL : LWF (Kn K) L) (i : Nat) : (∀ d c, Rr (nx K) d L c → 0 < lg c i → 0 < few K i L ∧ few K i L ≤ d + 1) ∧ (0 < few K i L → ∃ c, Rr (nx K) (few K i L - 1) L c ∧ 0 < lg c i) := by
  have := dp_min (g := fun a => decide (0 < lg a i)) (Dn_nx hK) L hL
  exact ⟨fun d c h hc => this.1 d c h (decide_eq_true hc), fun h => by
    obtain ⟨c, h1, h2⟩ := this.2 h
    exact ⟨c, h1, of_decide_eq_true h2⟩⟩
theorem few_le {K : HK} (hK : KWF K) {L : List Nat} (hL : LWF (Kn K) L) (i : Nat) : few K i L ≤ 12 := by
  rcases Nat.eq_zero_or_pos (few K i L) with h | h
  · omega
  · obtain ⟨c, h1, h2⟩ := (few_p hK hL i).2 h
    have := (Rr_d hK hL h1 h2).1; omega
/-- a row's carryings of the best pulling -/
def jpl (v n : Nat) : Nat := if v = 0 then n + 1 else if n % 2 = 0 then (if (v - 1) % 2 = 0 then (if n < v - 1 then n + 1 else v) else n + 1) else (if (v - 1) % 2 = 0 then v else if v - 1 < n then n + 1 else v)
def plf (K : HK) (L : List Nat) : Nat := dp (nx K) (fun _ => 0) (fun _ => false) jpl L
theorem plf_le {K : HK} (hK : KWF K) : ∀ L, LWF (Kn K) L → plf K L ≤ L.sum := by
  refine (Dn_nx hK).ind fun a ha ih => ?_
  have e : plf K a = (nx K a).foldl (fun v c => jpl v (plf K c)) 0 := by
    show dp (nx K) (fun _ => 0) (fun _ => false) jpl a = _
    rw [dp_eq (Dn_nx hK) ha, if_neg (by simp)]; rfl
  rw [e]
  refine fl_invm (f := fun v c => jpl v (plf K c)) (nx K a) (fun _ v => v ≤ a.sum) ?_ 0 (by omega)
  intro m v x hx hv
  have h1 := ih x hx
  have h2 := ((Dn_nx hK).2 a ha x hx).2
  have hv : v ≤ a.sum := hv
  show jpl v (plf K x) ≤ a.sum
  generalize plf K x = n at h1
  unfold jpl
  by_cases c1 : v = 0
  · rw [if_pos c1]; omega
  rw [if_neg c1]
  by_cases c2 : n % 2 = 0 <;> by_cases c3 : (v - 1) % 2 = 0 <;> by_cases c4 : n < v - 1 <;> by_cases c5 : v - 1 < n <;> simp only [c2, c3, c4, c5, if_true, if_false] <;> omega
/-- what one comes to by the first w ways -/
def nxw (K : HK) (L : List Nat) (w : Nat) : List (List Nat) := (((wl K).take w).filter fun p => Kc K L p.1 p.2).map fun p => Km K L p.1 p.2
theorem nxw_all (K : HK) (L : List Nat) : nxw K L (wl K).length = nx K L := by unfold nxw nx; rw [List.take_length]
theorem nxw_s {K : HK} {L : List Nat} {w : Nat} (hw : w < (wl K).length) : nxw K L (w + 1) = if Kc K L ((wl K).getD w (0, 0)).1 ((wl K).getD w (0, 0)).2 = true then nxw K L w ++ [Km K L ((wl K).getD w (0, 0)).1 ((wl K).getD w (0, 0)).2] else nxw K L w := by
  unfold nxw
  rw [List.take_add_one, List.filter_append, List.map_append]
  have : (wl K)[w]? = some ((wl K).getD w (0, 0)) := by simp [hw]
  rw [this]
  generalize (wl K).getD w (0, 0) = p
  by_cases c : Kc K L p.1 p.2 = true
  · rw [if_pos c]; simp [c]
  · rw [if_neg c]; simp [c]
theorem or_sh (F : List Nat → Nat) : ∀ (l : List (List Nat)) (v b : Nat), (l.foldl (fun v c => v ||| F c) v) <<< 1 ||| b = l.foldl (fun v c => jsh v (F c)) (v <<< 1 ||| b)
  | [], v, b => rfl
  | x :: l, v, b => by
    rw [List.foldl_cons, List.foldl_cons, or_sh F l]
    congr 1
    rw [jsh, Nat.shiftLeft_or_distrib, Nat.or_assoc, Nat.or_assoc, Nat.or_comm b]
theorem cmg_eq {K : HK} (hK : KWF K) {L : List Nat} (hL : LWF (Kn K) L) : ((nx K L).foldl (fun v c => v ||| cmg K c) 0) <<< 1 ||| nwr L (Kn K) = cmg K L := by
  rw [or_sh, Nat.zero_shiftLeft, Nat.zero_or]
  show _ = dp (nx K) (fun L => nwr L (Kn K)) (fun _ => false) jsh L
  rw [dp_eq (Dn_nx hK) hL, if_neg (by simp)]; rfl
theorem plf_eq {K : HK} (hK : KWF K) {L : List Nat} (hL : LWF (Kn K) L) : (nx K L).foldl (fun v c => jpl v (plf K c)) 0 = plf K L := by
  show _ = dp (nx K) (fun _ => 0) (fun _ => false) jpl L
  rw [dp_eq (Dn_nx hK) hL, if_neg (by simp)]; rfl
