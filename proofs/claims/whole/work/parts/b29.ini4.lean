set_option maxRecDepth 20000
set_option maxHeartbeats 4000000
set_option linter.all false
/-! the ways to lie are numbered: pure -/
def pn (s a b : Nat) : Nat := n1 s + sg (fun k => nv 4 (s - k)) a + sg (fun k => nv 3 (s - a - k)) b
def pvt (t c d : Nat) : Nat := sg (fun k => nv 2 (t - k)) c + sg (fun k => nv 1 (t - c - k)) d
theorem sg_z {f : Nat → Nat} : ∀ {n : Nat}, (∀ k, k < n → f k = 0) → sg f n = 0
  | 0, _ => rfl
  | n + 1, h => by rw [sg, sg_z (fun k hk => h k (by omega)), h n (by omega)]
theorem nv0_z (e : Nat) : sg (fun k => nv 0 (e - k)) e = 0 := sg_z fun k hk => by rw [nv_0, if_neg (by omega)]
theorem nv1_1 (m : Nat) : nv 1 m = 1 := by
  have h := nv_s 0 m
  rw [sg, nv0_z, Nat.sub_self, nv_0, if_pos rfl] at h
  exact h
theorem pvt_d (t c d : Nat) : pvt t c (d + 1) = pvt t c d + 1 := by
  unfold pvt; rw [sg, nv1_1]; omega
theorem pvt_c (t c : Nat) : pvt t (c + 1) 0 = pvt t c (t - c + 1) := by
  have h : nv 2 (t - c) = sg (fun k => nv 1 (t - c - k)) (t - c + 1) := nv_s 1 (t - c)
  unfold pvt
  rw [← h, sg, sg, Nat.add_zero]
theorem pvt_t (t : Nat) : pvt t (t + 1) 0 = nv 3 t := by
  have h : nv 3 t = sg (fun k => nv 2 (t - k)) (t + 1) := nv_s 2 t
  unfold pvt
  rw [← h, sg]; omega
theorem pn_b (s a b : Nat) : pn s a (b + 1) = pn s a b + nv 3 (s - a - b) := by
  unfold pn; rw [sg]; omega
theorem pn_a (s a : Nat) : pn s (a + 1) 0 = pn s a (s - a + 1) := by
  have h : nv 4 (s - a) = sg (fun k => nv 3 (s - a - k)) (s - a + 1) := nv_s 3 (s - a)
  unfold pn
  rw [← h, sg, sg]; omega
theorem pn_s (s : Nat) : pn (s + 1) 0 0 = pn s (s + 1) 0 := by
  have h := nv_s 4 s
  unfold pn
  rw [← h]
  simp only [n1, sg]
theorem pn_0 (s : Nat) : pn s 0 0 = n1 s := by simp only [pn, sg]; omega
theorem vrk_pv (c d e : Nat) : vrk [c, d, e] = pvt (c + d + e) c d := by
  simp only [vrk, List.length_cons, List.length_nil, List.sum_cons, List.sum_nil, Nat.add_zero, Nat.zero_add, Nat.reduceAdd]
  rw [nv0_z, show c + (d + e) = c + d + e by omega, show d + e = c + d + e - c by omega]
  rfl
theorem cnum_pn (a b c d e : Nat) : cnum [a, b, c, d, e] = pn (a + b + c + d + e) a b + pvt (c + d + e) c d := by
  rw [cnum]
  have h1 : vrk [a, b, c, d, e] = sg (fun k => nv 4 (a + b + c + d + e - k)) a + (sg (fun k => nv 3 (a + b + c + d + e - a - k)) b + vrk [c, d, e]) := by
    rw [vrk, vrk]
    simp only [List.length_cons, List.length_nil, List.sum_cons, List.sum_nil, Nat.add_zero, Nat.zero_add, Nat.reduceAdd]
    rw [show a + (b + (c + (d + e))) = a + b + c + d + e by omega, show b + (c + (d + e)) = a + b + c + d + e - a by omega]
  rw [h1, vrk_pv]
  simp only [List.sum_cons, List.sum_nil, Nat.add_zero]
  rw [show a + (b + (c + (d + e))) = a + b + c + d + e by omega]
  unfold pn; omega
theorem or3 {c i e : Nat} (hi : i < 16) (he : e < 16) : c <<< 8 ||| i <<< 4 ||| e = c * 256 + i * 16 + e := by
  have h1 : i <<< 4 < 2 ^ 8 := by rw [Nat.shiftLeft_eq]; omega
  rw [← Nat.shiftLeft_add_eq_or_of_lt h1, show c <<< 8 + i <<< 4 = (c * 16 + i) <<< 4 by simp only [Nat.shiftLeft_eq]; omega, ← Nat.shiftLeft_add_eq_or_of_lt (show e < 2 ^ 4 by omega), Nat.shiftLeft_eq]; omega
theorem or12 {p x : Nat} (hx : x < 4096) : p <<< 12 ||| x = p * 4096 + x := by
  rw [← Nat.shiftLeft_add_eq_or_of_lt (show x < 2 ^ 12 by omega), Nat.shiftLeft_eq]
/-- the ways numbered below n stand -/
def P6 (n : Nat) (h : HS) : Prop := ∀ L : List Nat, L.length = 5 → L.sum ≤ 12 → cnum L < n → ia h 6 (cnum L) = nI (pk L)
theorem P6_step {h h' : HS} {L : List Nat} (hl : L.length = 5) (hs : L.sum ≤ 12) (hp : P6 (cnum L) h) (e : ia h' 6 = upd (ia h 6) (cnum L) (nI (pk L))) : P6 (cnum L + 1) h' := by
  intro M m1 m2 m3
  rw [e, upd_at]
  by_cases q : cnum M = cnum L
  · rw [if_pos q, cnum_inj ⟨m1, m2⟩ ⟨hl, hs⟩ (Nat.le_refl 5) q]
  · rw [if_neg q]; exact hp M m1 m2 (by omega)
def TV (h : HS) (c d e : Nat) : Prop := ia h 8 (c * 256 + d * 16 + e) = nI (pvt (c + d + e) c d)
def TD (S : Nat → Nat → Nat → Prop) (h : HS) : Prop := ∀ c d e, c + d + e ≤ 12 → S c d e → TV h c d e
theorem TD_step {h h' : HS} {S S' : Nat → Nat → Nat → Prop} {c d e : Nat} (hb : c + d + e ≤ 12) (hp : TD S h) (h8 : ia h' 8 = upd (ia h 8) (c * 256 + d * 16 + e) (nI (pvt (c + d + e) c d))) (hS : ∀ x y z, S' x y z → S x y z ∨ x = c ∧ y = d ∧ z = e) : TD S' h' := by
  intro x y z hx hs
  unfold TV
  rw [h8, upd_at]
  by_cases q : x * 256 + y * 16 + z = c * 256 + d * 16 + e
  · rw [if_pos q]
    have q1 : x = c := by omega
    have q2 : y = d := by omega
    have q3 : z = e := by omega
    rw [q1, q2, q3]
  · rw [if_neg q]
    rcases hS x y z hs with z1 | ⟨rfl, rfl, rfl⟩
    · exact hp x y z hx z1
    · exact absurd rfl q
theorem TD_mono {h : HS} {S S' : Nat → Nat → Nat → Prop} (hp : TD S h) (hS : ∀ x y z, S' x y z → S x y z) : TD S' h := fun x y z hx hs => hp x y z hx (hS x y z hs)
