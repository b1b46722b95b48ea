set_option maxRecDepth 20000
set_option maxHeartbeats 4000000
set_option linter.all false
/-! loads in one number -/
def pk : List Nat → Nat
  | [] => 0
  | x :: r => x * 16 ^ r.length + pk r
def lg (L : List Nat) (i : Nat) : Nat := L.getD i 0
theorem lg_nil (i : Nat) : lg [] i = 0 := by simp [lg]
theorem lg_0 (x : Nat) (L : List Nat) : lg (x :: L) 0 = x := by simp [lg]
theorem lg_s (x : Nat) (L : List Nat) (i : Nat) : lg (x :: L) (i + 1) = lg L i := by simp [lg]
theorem lg_ge {L : List Nat} {i : Nat} (h : L.length ≤ i) : lg L i = 0 := by simp [lg, h]
theorem lg_le_sum : ∀ (L : List Nat) (i : Nat), lg L i ≤ L.sum
  | [], i => by simp [lg_nil]
  | x :: L, 0 => by simp [lg_0]
  | x :: L, i + 1 => by simp [lg_s]; exact Nat.le_add_left_of_le (lg_le_sum L i)
theorem lg_set (L : List Nat) (i j v : Nat) : lg (L.set i v) j = if i = j ∧ i < L.length then v else lg L j := by
  simp [lg, List.getElem?_set]
  by_cases h : i = j
  · subst h; by_cases h2 : i < L.length <;> simp [h2]
  · simp [h]
theorem lg_mem {L : List Nat} {i : Nat} (h : i < L.length) : lg L i ∈ L := by simp [lg, h]
theorem lg_lt {L : List Nat} {b : Nat} (hb : 0 < b) (h : ∀ x ∈ L, x < b) (i : Nat) : lg L i < b := by
  by_cases hi : i < L.length
  · exact h _ (lg_mem hi)
  · rw [lg_ge (by omega)]; exact hb
theorem sum_set : ∀ (L : List Nat) (i v : Nat), i < L.length → (L.set i v).sum + lg L i = L.sum + v
  | [], i, v, h => by simp at h
  | x :: L, 0, v, h => by simp [lg_0]; omega
  | x :: L, i + 1, v, h => by
    have := sum_set L i v (by simpa using h)
    simp [lg_s]; omega
theorem mem_le_sum {L : List Nat} {x : Nat} (h : x ∈ L) : x ≤ L.sum := by
  induction L with
  | nil => cases h
  | cons y L ih =>
    cases h with
    | head => simp
    | tail _ h => simp; exact Nat.le_add_left_of_le (ih h)
theorem pk_ltp : ∀ {L : List Nat}, (∀ x ∈ L, x < 16) → pk L < 16 ^ L.length
  | [], _ => by simp [pk]
  | x :: L, h => by
    have h1 := pk_ltp (L := L) (fun y hy => h y (by simp [hy]))
    have h2 : x < 16 := h x (by simp)
    have h3 : x * 16 ^ L.length ≤ 15 * 16 ^ L.length := Nat.mul_le_mul_right _ (by omega)
    simp [pk, Nat.pow_succ]; omega
theorem pk_dig : ∀ (L : List Nat) (i : Nat), (∀ x ∈ L, x < 16) → i < L.length → pk L / 16 ^ (L.length - 1 - i) % 16 = lg L i
  | [], i, _, h => by simp at h
  | x :: L, 0, h, _ => by
    have h1 := pk_ltp (L := L) (fun y hy => h y (by simp [hy]))
    have h2 : x < 16 := h x (by simp)
    have hp : 0 < 16 ^ L.length := Nat.pow_pos (by omega)
    simp [pk, lg_0]
    rw [Nat.mul_comm, Nat.mul_add_div hp, Nat.div_eq_of_lt h1]; omega
  | x :: L, i + 1, h, hi => by
    have hi' : i < L.length := by simpa using hi
    have ih := pk_dig L i (fun y hy => h y (by simp [hy])) hi'
    rw [lg_s, ← ih]
    have e1 : (x :: L).length - 1 - (i + 1) = L.length - 1 - i := by simp; omega
    have e2 : 16 ^ L.length = 16 ^ (L.length - 1 - i) * (16 * 16 ^ i) := by
      rw [← Nat.mul_assoc, ← Nat.pow_succ, ← Nat.pow_add]; congr 1; omega
    have hp : 0 < 16 ^ (L.length - 1 - i) := Nat.pow_pos (by omega)
    rw [e1]
    simp only [pk]
    rw [e2, show x * (16 ^ (L.length - 1 - i) * (16 * 16 ^ i)) = 16 ^ (L.length - 1 - i) * (16 * (x * 16 ^ i)) by ac_rfl, Nat.mul_add_div hp, Nat.mul_add_mod]
theorem pk_set : ∀ (L : List Nat) (i v : Nat), i < L.length → pk (L.set i v) + lg L i * 16 ^ (L.length - 1 - i) = pk L + v * 16 ^ (L.length - 1 - i)
  | [], i, _, h => by simp at h
  | x :: L, 0, v, _ => by simp [pk, lg_0]; omega
  | x :: L, i + 1, v, hi => by
    have hi' : i < L.length := by simpa using hi
    have ih := pk_set L i v hi'
    have e1 : (x :: L).length - 1 - (i + 1) = L.length - 1 - i := by simp; omega
    rw [e1]; simp [pk, lg_s]; omega
theorem pk_inj : ∀ {L M : List Nat}, (∀ x ∈ L, x < 16) → (∀ x ∈ M, x < 16) → L.length = M.length → pk L = pk M → L = M := by
  intro L M hL hM hl he
  apply List.ext_getElem hl
  intro i h1 h2
  have e1 := pk_dig L i hL h1
  have e2 := pk_dig M i hM h2
  rw [he, hl] at e1
  have : lg L i = lg M i := by rw [← e1, ← e2]
  simpa [lg, h1, h2] using this
/-- so many huts' loads, 12 at most -/
def LWF (n : Nat) (L : List Nat) : Prop := L.length = n ∧ L.sum ≤ 12
theorem LWF.lt {n : Nat} {L : List Nat} (h : LWF n L) : ∀ x ∈ L, x < 16 := fun x hx => by have := mem_le_sum hx; have := h.2; omega
theorem LWF.le {n : Nat} {L : List Nat} (h : LWF n L) (i : Nat) : lg L i ≤ 12 := Nat.le_trans (lg_le_sum L i) h.2
theorem LWF.pk_lt {n : Nat} {L : List Nat} (h : LWF n L) (hn : n ≤ 5) : pk L < 1048576 := by
  have h1 := pk_ltp h.lt
  rw [h.1] at h1
  exact Nat.lt_of_lt_of_le h1 (Nat.le_trans (Nat.pow_le_pow_right (by omega) hn) (by decide))
theorem p16 (n : Nat) : (2 : Nat) ^ (4 * n) = 16 ^ n := by rw [Nat.pow_mul]
theorem and15 (n : Nat) : n &&& 15 = n % 16 := Nat.and_two_pow_sub_one_eq_mod n 4
theorem LWF.dig {n : Nat} {L : List Nat} (h : LWF n L) {i : Nat} (hi : i < n) : (pk L >>> (4 * (n - 1 - i))) &&& 15 = lg L i := by
  rw [and15, Nat.shiftRight_eq_div_pow, p16, ← h.1]
  exact pk_dig L i h.lt (by rw [h.1]; exact hi)
