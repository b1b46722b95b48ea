set_option maxRecDepth 20000
set_option maxHeartbeats 4000000
set_option linter.all false
/-! the reference: what a way to lie is worth -/
theorem fm_len {α : Type} (f : Nat → List α) (m : Nat) (hf : ∀ i, (f i).length = m) : ∀ n, ((List.range n).flatMap f).length = m * n
  | 0 => by simp
  | n + 1 => by rw [List.range_succ, List.flatMap_append, List.length_append, fm_len f m hf n]; simp [hf, Nat.mul_succ]
theorem fm_at {α : Type} (f : Nat → List α) (m : Nat) (hf : ∀ i, (f i).length = m) : ∀ n i j, i < n → j < m → ((List.range n).flatMap f)[m * i + j]? = (f i)[j]?
  | 0, i, j, hi, _ => by omega
  | n + 1, i, j, hi, hj => by
    rw [List.range_succ, List.flatMap_append]
    have hl := fm_len f m hf n
    rcases Nat.lt_succ_iff_lt_or_eq.mp hi with h | h
    · have h2 : m * i + m ≤ m * n := by rw [← Nat.mul_succ]; exact Nat.mul_le_mul_left _ h
      rw [List.getElem?_append_left (by omega), fm_at f m hf n i j h hj]
    · subst h
      rw [List.getElem?_append_right (by omega), hl, Nat.add_sub_cancel_left]
      simp
theorem prs_len (n : Nat) : (prs n).length = n * n := fm_len _ n (fun i => by simp) n
theorem prs_at {n i j : Nat} (hi : i < n) (hj : j < n) : (prs n)[n * i + j]? = some (i, j) := by
  have := fm_at (fun i => (List.range n).map fun j => (i, j)) n (fun i => by simp) n i j hi hj
  rw [prs, this]; simp [hj]
/-- what one comes to by the first t pairs -/
def pfx (K : HK) (L : List Nat) (t : Nat) : List (List Nat) := (((prs (Kn K)).take t).filter fun p => Kc K L p.1 p.2).map fun p => Km K L p.1 p.2
theorem pfx_s {K : HK} {L : List Nat} {i j : Nat} (hi : i < Kn K) (hj : j < Kn K) : pfx K L (Kn K * i + (j + 1)) = if Kc K L i j = true then pfx K L (Kn K * i + j) ++ [Km K L i j] else pfx K L (Kn K * i + j) := by
  unfold pfx
  rw [← Nat.add_assoc, List.take_add_one, prs_at hi hj, List.filter_append, List.map_append]
  by_cases c : Kc K L i j = true
  · rw [if_pos c]; simp [c]
  · rw [if_neg c]; simp [c]
theorem pfx_0 (K : HK) (L : List Nat) : pfx K L 0 = [] := by simp [pfx]
theorem pfx_all (K : HK) (L : List Nat) : pfx K L (Kn K * Kn K) = nx K L := by
  unfold pfx nx wl
  rw [← prs_len, List.take_length, List.filter_filter]
  congr 1
  apply List.filter_congr
  intro p _
  cases e : Kc K L p.1 p.2 with
  | false => simp
  | true => have := (Kc_iff.mp e).1; simp [this]
theorem pfx_mem {K : HK} {L c : List Nat} {t : Nat} (h : c ∈ pfx K L t) : c ∈ nx K L := by
  rw [← pfx_all]
  unfold pfx at h ⊢
  rw [← prs_len, List.take_length]
  obtain ⟨p, hp, e⟩ := List.mem_map.mp h
  refine List.mem_map.mpr ⟨p, ?_, e⟩
  obtain ⟨h1, h2⟩ := List.mem_filter.mp hp
  exact List.mem_filter.mpr ⟨List.mem_of_mem_take h1, h2⟩
def bgn (K : HK) (s x : Nat) (L : List Nat) : Nat := match s with
  | 1 => ocb (Kn K) L
  | 2 => if 0 < lg L x then 17 else 0
  | 3 => lg L x
  | 4 => if 0 < lg L x then L.sum else 0
  | 5 => if ocb (Kn K) L &&& x = x then 1 else 0
  | 8 => if L.sum = x then 1 else 0
  | _ => 0
def jll (v n : Nat) : Nat := if n % 2 = 0 then (if v % 2 = 0 ∨ n / 2 + 1 < v / 2 then 2 * (n / 2 + 1) + 1 else v) else (if v % 2 = 0 ∧ v / 2 < n / 2 + 1 then 2 * (n / 2 + 1) else v)
def jnd (s v n : Nat) : Nat := match s with
  | 1 => v ||| n
  | 2 => jways v n
  | 3 => if v < n then n else v
  | 4 => if v < n then n else v
  | 5 => jmin1 v n
  | 6 => if v < n + 1 then n + 1 else v
  | 8 => jmin1 v n
  | _ => jll v n
def stq (K : HK) (s x : Nat) (L : List Nat) : Bool := decide (0 < bgn K s x L) && (decide (s = 2) || decide (s = 4) || decide (s = 5) || decide (s = 8))
/-- what a way to lie is worth, by a sort of question -/
def wor (K : HK) (s x : Nat) (L : List Nat) : Nat := dp (nx K) (bgn K s x) (stq K s x) (jnd s) L
theorem wor_2 (K : HK) (i : Nat) (L : List Nat) : wor K 2 i L = dp (nx K) (fun a => if (fun c => decide (0 < lg c i)) a = true then 17 else 0) (fun c => decide (0 < lg c i)) jways L := by
  unfold wor
  have e1 : bgn K 2 i = fun a => if (fun c => decide (0 < lg c i)) a = true then 17 else 0 := by funext a; simp [bgn]
  have e2 : stq K 2 i = fun c => decide (0 < lg c i) := by funext a; by_cases q : 0 < lg a i <;> simp [stq, bgn, q]
  have e3 : jnd 2 = jways := rfl
  rw [e1, e2, e3]
theorem wor_3 (K : HK) (i : Nat) (L : List Nat) : wor K 3 i L = dmax K (fun c => lg c i) L := by
  unfold wor dmax
  have e1 : bgn K 3 i = fun c => lg c i := rfl
  have e2 : stq K 3 i = fun _ => false := by funext a; simp [stq]
  have e3 : jnd 3 = fun v n => if v < n then n else v := rfl
  rw [e1, e2, e3]
theorem wor_4 (K : HK) (i : Nat) (L : List Nat) : wor K 4 i L = dover K (fun c => decide (0 < lg c i)) L := by
  unfold wor dover
  have e1 : bgn K 4 i = fun a => if decide (0 < lg a i) = true then a.sum else 0 := by funext a; simp [bgn]
  have e2 : stq K 4 i = fun a => decide (0 < lg a i) := by
    funext a
    by_cases q : 0 < lg a i
    · have := lg_le_sum a i
      simp [stq, bgn, q]; omega
    · simp [stq, bgn, q]
  have e3 : jnd 4 = fun v n => if v < n then n else v := rfl
  rw [e1, e2, e3]
theorem wor_5 (K : HK) (b : Nat) (L : List Nat) : wor K 5 b L = dmin K (fun c => decide (ocb (Kn K) c &&& b = b)) L := by
  unfold wor dmin
  have e1 : bgn K 5 b = fun a => if decide (ocb (Kn K) a &&& b = b) = true then 1 else 0 := by funext a; simp [bgn]
  have e2 : stq K 5 b = fun a => decide (ocb (Kn K) a &&& b = b) := by funext a; by_cases q : ocb (Kn K) a &&& b = b <;> simp [stq, bgn, q]
  have e3 : jnd 5 = jmin1 := rfl
  rw [e1, e2, e3]
theorem wor_8 (K : HK) (s : Nat) (L : List Nat) : wor K 8 s L = dmin K (fun c => decide (c.sum = s)) L := by
  unfold wor dmin
  have e1 : bgn K 8 s = fun a => if decide (a.sum = s) = true then 1 else 0 := by funext a; simp [bgn]
  have e2 : stq K 8 s = fun a => decide (a.sum = s) := by funext a; by_cases q : a.sum = s <;> simp [stq, bgn, q]
  have e3 : jnd 8 = jmin1 := rfl
  rw [e1, e2, e3]
theorem wor_6 (K : HK) (x : Nat) (L : List Nat) : wor K 6 x L = dlong K L := by
  unfold wor dlong
  have e1 : bgn K 6 x = fun _ => 0 := rfl
  have e2 : stq K 6 x = fun _ => false := by funext a; simp [stq]
  have e3 : jnd 6 = fun v n => if v < n + 1 then n + 1 else v := rfl
  rw [e1, e2, e3]
theorem wor_1 (K : HK) (x : Nat) (L : List Nat) : wor K 1 x L = dp (nx K) (fun c => ocb (Kn K) c) (fun _ => false) (fun v n => v ||| n) L := by
  unfold wor
  have e1 : bgn K 1 x = fun c => ocb (Kn K) c := rfl
  have e2 : stq K 1 x = fun _ => false := by funext a; simp [stq]
  have e3 : jnd 1 = fun v n => v ||| n := rfl
  rw [e1, e2, e3]
theorem wor_eq {K : HK} (hK : KWF K) (s x : Nat) {L : List Nat} (hL : LWF (Kn K) L) : wor K s x L = if stq K s x L = true then bgn K s x L else (nx K L).foldl (fun v c => jnd s v (wor K s x c)) (bgn K s x L) := dp_eq (Dn_nx hK) hL
theorem few_dmin (K : HK) (i : Nat) (L : List Nat) : few K i L = dmin K (fun c => decide (0 < lg c i)) L := rfl
theorem hbs_wor {K : HK} (hK : KWF K) {L : List Nat} (hL : LWF (Kn K) L) (x : Nat) : wor K 1 x L = hbs K L := by
  apply Nat.eq_of_testBit_eq
  intro i
  have h1 := dp_bits (Dn_nx hK) (g := fun c => ocb (Kn K) c) i L hL
  rw [wor_1]
  have h2 : (hbs K L).testBit i = (decide (i < Kn K) && decide (0 < few K i L)) := bt_bit _ _ _
  have h3 : ∀ c, (ocb (Kn K) c).testBit i = (decide (i < Kn K) && decide (0 < lg c i)) := fun c => bt_bit _ _ _
  rw [h2, Bool.eq_iff_iff, h1]
  simp only [h3, Bool.and_eq_true, decide_eq_true_iff]
  constructor
  · rintro ⟨d, c, a, b, e⟩
    exact ⟨b, ((few_p hK hL i).1 d c a e).1⟩
  · rintro ⟨b, e⟩
    obtain ⟨c, a, e2⟩ := (few_p hK hL i).2 e
    exact ⟨_, c, a, b, e2⟩
theorem jll_jpl (v n : Nat) : jll (2 * v + v % 2) (2 * n + n % 2) = 2 * jpl v n + jpl v n % 2 := by
  unfold jll jpl
  have e1 : (2 * v + v % 2) % 2 = v % 2 := by omega
  have e2 : (2 * v + v % 2) / 2 = v := by omega
  have e3 : (2 * n + n % 2) % 2 = n % 2 := by omega
  have e4 : (2 * n + n % 2) / 2 = n := by omega
  rw [e1, e2, e3, e4]
  by_cases c1 : v = 0
  · subst c1
    by_cases c2 : n % 2 = 0 <;> simp [c2] <;> omega
  · simp only [c1, if_false]
    by_cases c2 : n % 2 = 0 <;> by_cases c3 : v % 2 = 0 <;> by_cases c4 : n < v - 1 <;> by_cases c5 : v - 1 < n <;> simp only [c2, c3, c4, c5, if_true, if_false, true_or, false_or, true_and, false_and, show (v - 1) % 2 = 0 ↔ ¬ v % 2 = 0 by omega, not_true_eq_false, not_false_eq_true, show n + 1 < v ↔ n < v - 1 by omega, show v < n + 1 ↔ v - 1 < n by omega] <;> omega
theorem wor_7 {K : HK} (hK : KWF K) (x : Nat) : ∀ L, LWF (Kn K) L → wor K 7 x L = 2 * plf K L + plf K L % 2 := by
  refine (Dn_nx hK).ind fun a ha ih => ?_
  rw [wor_eq hK 7 x ha, if_neg (by simp [stq]), ← plf_eq hK ha]
  have key : ∀ (l : List (List Nat)), (∀ c, c ∈ l → c ∈ nx K a) → ∀ v, l.foldl (fun v c => jnd 7 v (wor K 7 x c)) (2 * v + v % 2) = 2 * (l.foldl (fun v c => jpl v (plf K c)) v) + (l.foldl (fun v c => jpl v (plf K c)) v) % 2 := by
    intro l
    induction l with
    | nil => intro _ v; rfl
    | cons c l ihl =>
      intro hl v
      rw [List.foldl_cons, List.foldl_cons, ih c (hl c (by simp))]
      show l.foldl _ (jll (2 * v + v % 2) (2 * plf K c + plf K c % 2)) = _
      rw [jll_jpl]
      exact ihl (fun c hc => hl c (by simp [hc])) _
  exact key (nx K a) (fun _ h => h) 0
/-- small enough: of what is asked, of what is joined -/
def NB (s n : Nat) : Prop := if s = 1 then n < 32 else if s = 2 then n % 16 ≤ 12 ∧ n / 16 ≤ CAP else n ≤ 26
def VB (s v : Nat) : Prop := if s = 1 then v < 32 else if s = 2 then v % 16 ≤ 13 ∧ v / 16 ≤ CAP else v ≤ 40
theorem VB_lt {s v : Nat} (h : VB s v) : v < 2 ^ 36 := by
  unfold VB CAP at h
  split at h
  · omega
  · split at h <;> omega
theorem NB_VB {s v : Nat} (h : NB s v) : VB s v := by
  unfold NB at h; unfold VB
  split at h
  · next q => rw [if_pos q]; exact h
  · next q =>
    rw [if_neg q]
    split at h
    · next q2 => rw [if_pos q2]; exact ⟨by omega, h.2⟩
    · next q2 => rw [if_neg q2]; omega
theorem dmin_le {K : HK} (hK : KWF K) {L : List Nat} (hL : LWF (Kn K) L) (g : List Nat → Bool) : dmin K g L ≤ 13 := by
  rcases Nat.eq_zero_or_pos (dmin K g L) with h | h
  · omega
  · obtain ⟨c, h1, h2⟩ := (dp_min (g := g) (Dn_nx hK) L hL).2 h
    have := Rr_V (Dn_nx hK) hL h1
    have := hL.2
    show dmin K g L ≤ 13
    have e : dmin K g L - 1 ≤ 12 := by
      show dp (nx K) (fun a => if g a = true then 1 else 0) g jmin1 L - 1 ≤ 12
      omega
    omega
theorem wor_NB {K : HK} (hK : KWF K) {s x : Nat} (h1 : 1 ≤ s) (h8 : s ≤ 8) {L : List Nat} (hL : LWF (Kn K) L) : NB s (wor K s x L) := by
  have hs := hL.2
  have hc : s = 1 ∨ s = 2 ∨ s = 3 ∨ s = 4 ∨ s = 5 ∨ s = 6 ∨ s = 7 ∨ s = 8 := by omega
  rcases hc with rfl | rfl | rfl | rfl | rfl | rfl | rfl | rfl
  · show wor K 1 x L < 32
    rw [hbs_wor hK hL]; exact bt_lt5 _ hK.1
  · show wor K 2 x L % 16 ≤ 12 ∧ wor K 2 x L / 16 ≤ CAP
    rw [wor_2]
    have h := dp_ways (g := fun c => decide (0 < lg c x)) (Dn_nx hK) L hL
    have hf := few_le hK hL x
    have ef : few K x L = dp (nx K) (fun a => if (fun c => decide (0 < lg c x)) a = true then 1 else 0) (fun c => decide (0 < lg c x)) jmin1 L := rfl
    rw [← ef] at h
    rcases Nat.eq_zero_or_pos (few K x L) with q | q
    · rw [h.1 q]; exact ⟨by omega, by omega⟩
    · rw [(h.2 q).1, (h.2 q).2]; exact ⟨hf, Nat.min_le_right _ _⟩
  · show wor K 3 x L ≤ 26
    rw [wor_3]
    obtain ⟨⟨d, c, a, b⟩, _⟩ := dp_max (g := fun c => lg c x) (Dn_nx hK) L hL
    have e : lg c x = dmax K (fun c => lg c x) L := b
    have := (Rr_V (Dn_nx hK) hL a).1.le x
    omega
  · show wor K 4 x L ≤ 26
    rw [wor_4]
    rcases Nat.eq_zero_or_pos (dover K (fun c => decide (0 < lg c x)) L) with q | q
    · omega
    · obtain ⟨_, h2⟩ := dp_over (g := fun c => decide (0 < lg c x)) (Dn_nx hK) (fun c hc => by have := lg_le_sum c x; have := of_decide_eq_true hc; omega) L hL
      obtain ⟨d, c, a, _, e⟩ := h2 q
      have e : c.sum = dover K (fun c => decide (0 < lg c x)) L := e
      have := (Rr_V (Dn_nx hK) hL a).1.2
      omega
  · show wor K 5 x L ≤ 26
    rw [wor_5]; have := dmin_le hK hL (fun c => decide (ocb (Kn K) c &&& x = x)); omega
  · show wor K 6 x L ≤ 26
    rw [wor_6]
    obtain ⟨⟨c, a⟩, _⟩ := dp_long (Dn_nx hK) L hL
    have := (Rr_V (Dn_nx hK) hL a).2
    show dlong K L ≤ 26
    unfold dlong; omega
  · show wor K 7 x L ≤ 26
    rw [wor_7 hK x L hL]
    have := plf_le hK L hL; omega
  · show wor K 8 x L ≤ 26
    rw [wor_8]; have := dmin_le hK hL (fun c => decide (c.sum = x)); omega
theorem bgn_VB {K : HK} (hK : KWF K) {s x : Nat} (h1 : 1 ≤ s) (h8 : s ≤ 8) {L : List Nat} (hL : LWF (Kn K) L) : VB s (bgn K s x L) := by
  have hs := hL.2
  have hle := hL.le x
  have hc : s = 1 ∨ s = 2 ∨ s = 3 ∨ s = 4 ∨ s = 5 ∨ s = 6 ∨ s = 7 ∨ s = 8 := by omega
  rcases hc with rfl | rfl | rfl | rfl | rfl | rfl | rfl | rfl
  · exact bt_lt5 _ hK.1
  · show (if 0 < lg L x then 17 else 0) % 16 ≤ 13 ∧ (if 0 < lg L x then 17 else 0) / 16 ≤ CAP
    unfold CAP; split <;> omega
  · show lg L x ≤ 40; omega
  · show (if 0 < lg L x then L.sum else 0) ≤ 40; split <;> omega
  · show (if ocb (Kn K) L &&& x = x then 1 else 0) ≤ 40; split <;> omega
  · show 0 ≤ 40; omega
  · show 0 ≤ 40; omega
  · show (if L.sum = x then 1 else 0) ≤ 40; split <;> omega
theorem jnd_VB {s v n : Nat} (h1 : 1 ≤ s) (h8 : s ≤ 8) (hv : VB s v) (hn : NB s n) : VB s (jnd s v n) := by
  have hc : s = 1 ∨ s = 2 ∨ s = 3 ∨ s = 4 ∨ s = 5 ∨ s = 6 ∨ s = 7 ∨ s = 8 := by omega
  rcases hc with rfl | rfl | rfl | rfl | rfl | rfl | rfl | rfl
  · exact or32 hv hn
  · have hv : v % 16 ≤ 13 ∧ v / 16 ≤ CAP := hv
    have hn : n % 16 ≤ 12 ∧ n / 16 ≤ CAP := hn
    show jways v n % 16 ≤ 13 ∧ jways v n / 16 ≤ CAP
    unfold jways
    split
    · exact hv
    · split
      · exact ⟨by omega, by omega⟩
      · have key : ∀ w, (v % 16 + 16 * (if CAP < w then CAP else w)) % 16 ≤ 13 ∧ (v % 16 + 16 * (if CAP < w then CAP else w)) / 16 ≤ CAP := by
          intro w; split <;> (constructor <;> omega)
        exact key _
  all_goals
    have hv : v ≤ 40 := hv
    have hn : n ≤ 26 := hn
  · show (if v < n then n else v) ≤ 40; split <;> omega
  · show (if v < n then n else v) ≤ 40; split <;> omega
  · show jmin1 v n ≤ 40; unfold jmin1; split <;> omega
  · show (if v < n + 1 then n + 1 else v) ≤ 40; split <;> omega
  · show jll v n ≤ 40; unfold jll; split <;> split <;> omega
  · show jmin1 v n ≤ 40; unfold jmin1; split <;> omega
