set_option maxRecDepth 20000
set_option maxHeartbeats 4000000
set_option linter.all false
/-! in how many ways -/
def gi (g : List Nat → Bool) (c : List Nat) : Nat := if g c = true then 1 else 0
def CAP : Nat := 2000000000
def jways (v n : Nat) : Nat := if n = 0 then v else if v = 0 ∨ n % 16 + 1 < v % 16 then n % 16 + 1 + 16 * (n / 16) else v % 16 + 16 * (if CAP < (if n % 16 + 1 = v % 16 then v / 16 + n / 16 else v / 16) then CAP else (if n % 16 + 1 = v % 16 then v / 16 + n / 16 else v / 16))
section
variable {nxt : List Nat → List (List Nat)} {V : List Nat → Prop}
theorem nr_0 {g : List Nat → Nat} : ∀ {d : Nat} {a : List Nat}, (∀ c, Rr nxt d a c → g c = 0) → nr nxt g d a = 0
  | 0, a, h => h a rfl
  | d + 1, a, h => by
    simp only [nr, List.sum_eq_zero_iff_forall_eq_nat, List.mem_map]
    rintro _ ⟨b, hb, rfl⟩
    exact nr_0 fun c hc => h c ⟨b, hb, hc⟩
theorem dp_ways (hV : Dn nxt V) {g : List Nat → Bool} : ∀ a, V a →
    (dp nxt (fun a => if g a = true then 1 else 0) g jmin1 a = 0 → dp nxt (fun a => if g a = true then 17 else 0) g jways a = 0) ∧
    (0 < dp nxt (fun a => if g a = true then 1 else 0) g jmin1 a → dp nxt (fun a => if g a = true then 17 else 0) g jways a % 16 = dp nxt (fun a => if g a = true then 1 else 0) g jmin1 a ∧
      dp nxt (fun a => if g a = true then 17 else 0) g jways a / 16 = min (nr nxt (gi g) (dp nxt (fun a => if g a = true then 1 else 0) g jmin1 a - 1) a) CAP) := by
  refine hV.ind fun a ha ih => ?_
  have hm := dp_min (g := g) hV
  have hma := hm a ha
  rw [dp_eq (j := jways) hV ha]
  have e0 := dp_eq (b := fun a => if g a = true then 1 else 0) (st := g) (j := jmin1) hV ha
  generalize hW : dp nxt (fun a => if g a = true then 17 else 0) g jways = W at ih ⊢
  generalize hF : dp nxt (fun a => if g a = true then 1 else 0) g jmin1 = F at ih e0 hm hma ⊢
  by_cases hg : g a = true
  · simp only [hg, if_true] at e0 ⊢
    rw [e0]
    exact ⟨fun h => absurd h (by omega), fun _ => ⟨rfl, by simp [nr, gi, hg, CAP]⟩⟩
  · simp only [hg, if_false, Bool.false_eq_true] at e0 ⊢
    have hlt : ∀ b, b ∈ nxt a → F b < 13 := by
      intro b hb
      rcases Nat.eq_zero_or_pos (F b) with h0 | h0
      · omega
      · have h1 := hV.2 a ha b hb
        obtain ⟨c, hc, _⟩ := (hm b h1.1).2 h0
        have h2 := (Rr_V hV h1.1 hc).2
        have h3 := hV.1 b h1.1
        have h4 := hV.1 a ha
        omega
    have hz : ∀ b, b ∈ nxt a → ∀ d, (F b = 0 ∨ d + 1 < F b) → nr nxt (gi g) d b = 0 := by
      intro b hb d hd
      refine nr_0 fun c hc => ?_
      unfold gi
      split
      · next q => have := (hm b (hV.2 a ha b hb).1).1 d c hc q; omega
      · rfl
    have key := fl_invm (f := fun (p : Nat × Nat) c => (jmin1 p.1 (F c), jways p.2 (W c))) (nxt a) (fun m p => (∀ b, b ∈ m → b ∈ nxt a) ∧ (∀ b, b ∈ m → 0 < F b → 0 < p.1 ∧ p.1 ≤ F b + 1) ∧ (p.1 = 0 → p.2 = 0) ∧ (0 < p.1 → 2 ≤ p.1 ∧ p.1 ≤ 13 ∧ p.2 % 16 = p.1 ∧ p.2 / 16 = min ((m.map fun b => nr nxt (gi g) (p.1 - 2) b).sum) CAP)) (by
      rintro m ⟨u, v⟩ x hx ⟨h0, h1, h2, h3⟩
      have h4 := ih x hx
      have h5 := hlt x hx
      have h0' : ∀ b, b ∈ m ++ [x] → b ∈ nxt a := by
        intro b hb
        rcases List.mem_append.mp hb with hb | hb
        · exact h0 b hb
        · obtain rfl : b = x := by simpa using hb
          exact hx
      simp only at h1 h2 h3 ⊢
      by_cases hx0 : F x = 0
      · have e1 : jmin1 u (F x) = u := by simp [jmin1, hx0]
        have e2 : jways v (W x) = v := by simp [jways, h4.1 hx0]
        rw [e1, e2]
        refine ⟨h0', fun b hb hb0 => ?_, h2, fun hu => ?_⟩
        · rcases List.mem_append.mp hb with hb | hb
          · exact h1 b hb hb0
          · obtain rfl : b = x := by simpa using hb
            omega
        · have := h3 hu
          refine ⟨this.1, this.2.1, this.2.2.1, ?_⟩
          rw [List.map_append, List.sum_append, this.2.2.2]
          simp [hz x hx (u - 2) (Or.inl hx0)]
      · obtain ⟨h6, h7⟩ := h4.2 (by omega)
        have hw0 : W x ≠ 0 := by intro e; rw [e] at h6; omega
        by_cases hc : u = 0 ∨ F x + 1 < u
        · have e1 : jmin1 u (F x) = F x + 1 := by rw [jmin1, if_pos ⟨by omega, hc⟩]
          have e2 : jways v (W x) = F x + 1 + 16 * (W x / 16) := by
            rw [jways, if_neg hw0, if_pos, h6]
            rcases hc with hc | hc
            · exact Or.inl (h2 hc)
            · right; rw [h6, (h3 (by omega)).2.2.1]; exact hc
          rw [e1, e2]
          refine ⟨h0', fun b hb hb0 => ?_, fun h => absurd h (by omega), fun _ => ⟨by omega, by omega, by omega, ?_⟩⟩
          · rcases List.mem_append.mp hb with hb | hb
            · have := h1 b hb hb0; omega
            · obtain rfl : b = x := by simpa using hb
              omega
          · rw [show (F x + 1 + 16 * (W x / 16)) / 16 = W x / 16 by omega, h7, List.map_append, List.sum_append]
            have : (m.map fun b => nr nxt (gi g) (F x + 1 - 2) b).sum = 0 := by
              simp only [List.sum_eq_zero_iff_forall_eq_nat, List.mem_map]
              rintro _ ⟨b, hb, rfl⟩
              refine hz b (h0 b hb) _ ?_
              rcases Nat.eq_zero_or_pos (F b) with q | q
              · exact Or.inl q
              · have := h1 b hb q; omega
            rw [this]; simp [show F x + 1 - 2 = F x - 1 by omega]
        · have hu : 0 < u := by omega
          have h8 := h3 hu
          have e1 : jmin1 u (F x) = u := by rw [jmin1, if_neg]; omega
          have hv0 : v ≠ 0 := by intro e; rw [e] at h8; omega
          have e2 : jways v (W x) = u + 16 * min ((if F x + 1 = u then v / 16 + W x / 16 else v / 16)) CAP := by
            rw [jways, if_neg hw0, if_neg, h6, h8.2.2.1]
            · congr 2; split <;> (simp only [Nat.min_def]; split <;> split <;> omega)
            · rw [h6, h8.2.2.1]; omega
          rw [e1, e2]
          refine ⟨h0', fun b hb hb0 => ?_, fun h => absurd h (by omega), fun _ => ⟨h8.1, h8.2.1, by omega, ?_⟩⟩
          · rcases List.mem_append.mp hb with hb | hb
            · exact h1 b hb hb0
            · obtain rfl : b = x := by simpa using hb
              omega
          · rw [List.map_append, List.sum_append]
            have h9 : ∀ t, (u + 16 * t) / 16 = t := by intro t; omega
            rw [h9]
            by_cases he : F x + 1 = u
            · rw [if_pos he, h8.2.2.2, h7, show F x - 1 = u - 2 by omega]
              simp only [List.map_cons, List.map_nil, List.sum_cons, List.sum_nil, Nat.add_zero]; omega
            · rw [if_neg he, h8.2.2.2]
              simp only [List.map_cons, List.map_nil, List.sum_cons, List.sum_nil, hz x hx (u - 2) (Or.inr (by omega)), Nat.add_zero]; omega) (0, 0) ⟨by simp, by simp, by simp, by simp⟩
    have split2 : ∀ (l : List (List Nat)) (p : Nat × Nat), l.foldl (fun (p : Nat × Nat) c => (jmin1 p.1 (F c), jways p.2 (W c))) p = (l.foldl (fun v c => jmin1 v (F c)) p.1, l.foldl (fun v c => jways v (W c)) p.2) := by
      intro l
      induction l with
      | nil => intro p; rfl
      | cons x l ihl => intro p; simp only [List.foldl_cons, ihl]
    rw [split2, ← e0] at key
    obtain ⟨_, _, h2, h3⟩ := key
    refine ⟨h2, fun hu => ?_⟩
    have h4 := h3 hu
    refine ⟨h4.2.2.1, ?_⟩
    rw [h4.2.2.2, show F a - 1 = (F a - 2) + 1 by simp only at h4; omega]
    rfl
/-! passing on -/
def sm (S : List (List Nat)) (f : List Nat → Nat) : Nat := (S.map f).sum
theorem sm_congr {S : List (List Nat)} {f g : List Nat → Nat} (h : ∀ c, c ∈ S → f c = g c) : sm S f = sm S g := by
  unfold sm; rw [List.map_congr_left h]
theorem sm_add (f g : List Nat → Nat) : ∀ S, sm S (fun c => f c + g c) = sm S f + sm S g
  | [] => rfl
  | x :: S => by have := sm_add f g S; simp only [sm, List.map_cons, List.sum_cons] at this ⊢; omega
theorem sm_mul (k : Nat) (f : List Nat → Nat) : ∀ S, sm S (fun c => k * f c) = k * sm S f
  | [] => by simp [sm]
  | x :: S => by have := sm_mul k f S; simp only [sm, List.map_cons, List.sum_cons, Nat.mul_add] at this ⊢; omega
theorem sm_0 {S : List (List Nat)} {f : List Nat → Nat} (h : ∀ c, c ∈ S → f c = 0) : sm S f = 0 := by
  simp only [sm, List.sum_eq_zero_iff_forall_eq_nat, List.mem_map]
  rintro _ ⟨c, hc, rfl⟩; exact h c hc
theorem sm_swap (f : List Nat → List Nat → Nat) (S : List (List Nat)) : ∀ T, sm S (fun c => sm T (fun b => f c b)) = sm T (fun b => sm S (fun c => f c b))
  | [] => by simp [sm]; exact sm_0 (S := S) (fun _ _ => rfl)
  | x :: T => by
    have := sm_swap f S T
    have e : ∀ c, sm (x :: T) (fun b => f c b) = f c x + sm T (fun b => f c b) := fun c => by simp [sm]
    simp only [e]
    rw [sm_add, this]; simp [sm]
theorem sm_ite {S : List (List Nat)} (hS : S.Nodup) {x : List Nat} (hx : x ∈ S) (g : List Nat → Nat) : sm S (fun c => if c = x then g c else 0) = g x := by
  induction S with
  | nil => cases hx
  | cons y S ih =>
    have hy := List.nodup_cons.mp hS
    by_cases e : y = x
    · subst e
      have : sm S (fun c => if c = y then g c else 0) = 0 := sm_0 fun c hc => if_neg fun (e : c = y) => hy.1 (e ▸ hc)
      simp only [sm, List.map_cons, List.sum_cons] at this ⊢
      rw [this]; simp
    · have h2 := ih hy.2 (by rcases List.mem_cons.mp hx with h | h; exact absurd h.symm e; exact h)
      simp only [sm, List.map_cons, List.sum_cons] at h2 ⊢
      rw [h2, if_neg e]; omega
theorem sm_count {S : List (List Nat)} (hS : S.Nodup) (g : List Nat → Nat) : ∀ {l : List (List Nat)}, (∀ x, x ∈ l → x ∈ S) → sm S (fun c => l.count c * g c) = sm l g
  | [], _ => by simp [sm]; exact sm_0 (S := S) (fun _ _ => rfl)
  | x :: l, h => by
    have ih := sm_count hS g (l := l) (fun y hy => h y (by simp [hy]))
    have e : ∀ c, (x :: l).count c * g c = (if c = x then g c else 0) + l.count c * g c := by
      intro c
      rw [List.count_cons, Nat.add_mul]
      by_cases q : x = c
      · subst q; simp; omega
      · simp [q, show ¬ c = x from fun z => q z.symm]
    simp only [e]
    rw [sm_add, ih, sm_ite hS (h x (by simp)) g]
    simp [sm]
/-- T passed on once over S -/
def psh (nxt : List Nat → List (List Nat)) (S : List (List Nat)) (T : List Nat → Nat) (c : List Nat) : Nat := sm S (fun b => T b * (nxt b).count c)
theorem psh_adj {S : List (List Nat)} (hS : S.Nodup) (hc : ∀ b, b ∈ S → ∀ x, x ∈ nxt b → x ∈ S) (T g : List Nat → Nat) : sm S (fun c => psh nxt S T c * g c) = sm S (fun b => T b * sm (nxt b) g) := by
  have e1 : ∀ c, psh nxt S T c * g c = sm S (fun b => T b * ((nxt b).count c * g c)) := by
    intro c
    unfold psh
    rw [Nat.mul_comm, ← sm_mul]
    exact sm_congr fun b _ => by rw [Nat.mul_comm (g c), Nat.mul_assoc]
  simp only [e1]
  rw [sm_swap]
  refine sm_congr fun b hb => ?_
  rw [sm_mul, sm_count hS g (hc b hb)]
def pshn (nxt : List Nat → List (List Nat)) (S : List (List Nat)) (a : List Nat) : Nat → List Nat → Nat
  | 0 => fun c => if c = a then 1 else 0
  | d + 1 => psh nxt S (pshn nxt S a d)
theorem pshn_nr {S : List (List Nat)} (hS : S.Nodup) (hc : ∀ b, b ∈ S → ∀ x, x ∈ nxt b → x ∈ S) {a : List Nat} (ha : a ∈ S) : ∀ (d e : Nat) (g : List Nat → Nat), sm S (fun c => pshn nxt S a d c * nr nxt g e c) = nr nxt g (e + d) a
  | 0, e, g => by
    have : ∀ c, pshn nxt S a 0 c * nr nxt g e c = if c = a then nr nxt g e c else 0 := by
      intro c; simp only [pshn]; split <;> simp
    simp only [this, sm_ite hS ha, Nat.add_zero]
  | d + 1, e, g => by
    have := pshn_nr hS hc ha d (e + 1) g
    simp only [pshn]
    rw [psh_adj hS hc]
    rw [show e + (d + 1) = e + 1 + d by omega, ← this]
    rfl
end
