set_option maxRecDepth 20000
set_option maxHeartbeats 4000000
set_option linter.all false
/-! what can be come to -/
section
variable (nxt : List Nat → List (List Nat))
def dpf {β : Type} (b : List Nat → β) (st : List Nat → Bool) (j : β → β → β) : Nat → List Nat → β
  | 0, a => b a
  | f + 1, a => if st a = true then b a else (nxt a).foldl (fun v c => j v (dpf b st j f c)) (b a)
def dp {β : Type} (b : List Nat → β) (st : List Nat → Bool) (j : β → β → β) (a : List Nat) : β := dpf nxt b st j 12 a
/-- a carrying leads to fewer, and V stays -/
def Dn (V : List Nat → Prop) : Prop := (∀ a, V a → a.sum ≤ 12) ∧ ∀ a, V a → ∀ b, b ∈ nxt a → V b ∧ b.sum < a.sum
/-- a row of d carryings -/
def Rr : Nat → List Nat → List Nat → Prop
  | 0, a, c => a = c
  | d + 1, a, c => ∃ b, b ∈ nxt a ∧ Rr d b c
/-- over all rows of d carryings, g of what one comes to, summed -/
def nr (g : List Nat → Nat) : Nat → List Nat → Nat
  | 0, a => g a
  | d + 1, a => ((nxt a).map fun b => nr g d b).sum
end
section
variable {nxt : List Nat → List (List Nat)} {V : List Nat → Prop}
theorem fl_congr {α β : Type} {f g : β → α → β} : ∀ {l : List α} {b : β}, (∀ v x, x ∈ l → f v x = g v x) → l.foldl f b = l.foldl g b
  | [], _, _ => rfl
  | x :: l, b, h => by
    simp only [List.foldl_cons]
    rw [h b x (by simp), fl_congr (fun v y hy => h v y (by simp [hy]))]
theorem dpf_fuel (hV : Dn nxt V) {β : Type} {b : List Nat → β} {st : List Nat → Bool} {j : β → β → β} : ∀ (f f' : Nat) (a : List Nat), V a → a.sum ≤ f → a.sum ≤ f' → dpf nxt b st j f a = dpf nxt b st j f' a := by
  have nil : ∀ a, V a → a.sum = 0 → nxt a = [] := by
    intro a ha h0
    cases hn : nxt a with
    | nil => rfl
    | cons x l => have := (hV.2 a ha x (by rw [hn]; simp)).2; omega
  intro f
  induction f with
  | zero =>
    intro f' a ha h1 h2
    cases f' with
    | zero => rfl
    | succ f' => simp [dpf, nil a ha (by omega)]
  | succ f ih =>
    intro f' a ha h1 h2
    cases f' with
    | zero => simp [dpf, nil a ha (by omega)]
    | succ f' =>
      simp only [dpf]
      split
      · rfl
      · apply fl_congr
        intro v x hx
        have := hV.2 a ha x hx
        rw [ih f' x this.1 (by omega) (by omega)]
theorem dp_eq (hV : Dn nxt V) {β : Type} {b : List Nat → β} {st : List Nat → Bool} {j : β → β → β} {a : List Nat} (ha : V a) : dp nxt b st j a = if st a = true then b a else (nxt a).foldl (fun v c => j v (dp nxt b st j c)) (b a) := by
  have := hV.1 a ha
  rw [dp, dpf_fuel hV 12 13 a ha (by omega) (by omega)]; rfl
/-- induction over what comes later -/
theorem Dn.ind (hV : Dn nxt V) {P : List Nat → Prop} (h : ∀ a, V a → (∀ b, b ∈ nxt a → P b) → P a) : ∀ a, V a → P a := by
  have key : ∀ (n : Nat) (a : List Nat), a.sum < n → V a → P a := by
    intro n
    induction n with
    | zero => intro a h; omega
    | succ n ih => exact fun a h1 ha => h a ha fun b hb => ih b (by have := (hV.2 a ha b hb).2; omega) (hV.2 a ha b hb).1
  exact fun a ha => key (a.sum + 1) a (by omega) ha
theorem Rr_snoc : ∀ {d : Nat} {a c : List Nat}, Rr nxt (d + 1) a c ↔ ∃ b, Rr nxt d a b ∧ c ∈ nxt b
  | 0, a, c => by simp [Rr]
  | d + 1, a, c => by
    constructor
    · rintro ⟨b, hb, h⟩
      obtain ⟨b', h1, h2⟩ := Rr_snoc.mp h
      exact ⟨b', ⟨b, hb, h1⟩, h2⟩
    · rintro ⟨b', ⟨b, hb, h1⟩, h2⟩
      exact ⟨b, hb, Rr_snoc.mpr ⟨b', h1, h2⟩⟩
theorem Rr_V (hV : Dn nxt V) : ∀ {d : Nat} {a c : List Nat}, V a → Rr nxt d a c → V c ∧ c.sum + d ≤ a.sum
  | 0, a, c, ha, h => by cases h; exact ⟨ha, by omega⟩
  | d + 1, a, c, ha, h => by
    obtain ⟨b, hb, h⟩ := h
    have h1 := hV.2 a ha b hb
    have h2 := Rr_V hV h1.1 h
    exact ⟨h2.1, by omega⟩
/-- the greatest -/
theorem dp_max (hV : Dn nxt V) {g : List Nat → Nat} : ∀ a, V a → (∃ d c, Rr nxt d a c ∧ g c = dp nxt g (fun _ => false) (fun v n => if v < n then n else v) a) ∧ ∀ d c, Rr nxt d a c → g c ≤ dp nxt g (fun _ => false) (fun v n => if v < n then n else v) a := by
  refine hV.ind fun a ha ih => ?_
  rw [dp_eq hV ha, if_neg (by simp)]
  generalize hF : dp nxt g (fun _ => false) (fun v n => if v < n then n else v) = F at ih ⊢
  have key : ∀ (l : List (List Nat)) (v : Nat), v ≤ l.foldl (fun v c => if v < F c then F c else v) v ∧ (∀ b, b ∈ l → F b ≤ l.foldl (fun v c => if v < F c then F c else v) v) ∧ (l.foldl (fun v c => if v < F c then F c else v) v = v ∨ ∃ b, b ∈ l ∧ F b = l.foldl (fun v c => if v < F c then F c else v) v) := by
    intro l
    induction l with
    | nil => intro v; simp
    | cons x l ihl =>
      intro v
      simp only [List.foldl_cons, List.mem_cons]
      obtain ⟨h1, h2, h3⟩ := ihl (if v < F x then F x else v)
      have h4 : v ≤ (if v < F x then F x else v) ∧ F x ≤ (if v < F x then F x else v) := by split <;> omega
      refine ⟨by omega, fun b hb => ?_, ?_⟩
      · rcases hb with rfl | hb
        · omega
        · exact h2 b hb
      · rcases h3 with h3 | ⟨b, hb, h3⟩
        · rw [h3]; split
          · exact Or.inr ⟨x, Or.inl rfl, rfl⟩
          · exact Or.inl rfl
        · exact Or.inr ⟨b, Or.inr hb, h3⟩
  obtain ⟨h1, h2, h3⟩ := key (nxt a) (g a)
  refine ⟨?_, ?_⟩
  · rcases h3 with h3 | ⟨b, hb, h3⟩
    · exact ⟨0, a, rfl, h3.symm⟩
    · obtain ⟨d, c, hc, e⟩ := (ih b hb).1
      exact ⟨d + 1, c, ⟨b, hb, hc⟩, e.trans h3⟩
  · intro d c hc
    cases d with
    | zero => cases hc; exact h1
    | succ d =>
      obtain ⟨b, hb, hc⟩ := hc
      exact Nat.le_trans ((ih b hb).2 d c hc) (h2 b hb)
/-- a fold that keeps something -/
theorem fl_inv {α β : Type} {f : β → α → β} (P : List α → β → Prop) (h : ∀ l v x, P l v → P (l ++ [x]) (f v x)) : ∀ (l : List α) (b : β), P [] b → P l (l.foldl f b) := by
  have key : ∀ (l m : List α) (b : β), P m b → P (m ++ l) (l.foldl f b) := by
    intro l
    induction l with
    | nil => intro m b hb; simpa using hb
    | cons x l ih =>
      intro m b hb
      have := ih (m ++ [x]) (f b x) (h m b x hb)
      simpa using this
  exact fun l b hb => by simpa using key l [] b hb
theorem fl_invm {α β : Type} {f : β → α → β} (l : List α) (P : List α → β → Prop) (h : ∀ m v x, x ∈ l → P m v → P (m ++ [x]) (f v x)) (b : β) (hb : P [] b) : P l (l.foldl f b) := by
  have key : ∀ (l' m : List α) (b : β), (∀ x, x ∈ l' → x ∈ l) → P m b → P (m ++ l') (l'.foldl f b) := by
    intro l'
    induction l' with
    | nil => intro m b _ hb; simpa using hb
    | cons x l' ih =>
      intro m b hm hb
      have := ih (m ++ [x]) (f b x) (fun y hy => hm y (by simp [hy])) (h m b x (hm x (by simp)) hb)
      simpa using this
  have := key l [] b (fun _ h => h) hb
  simpa using this
def jmin1 (v n : Nat) : Nat := if 0 < n ∧ (v = 0 ∨ n + 1 < v) then n + 1 else v
/-- the fewest carryings, and one -/
theorem dp_min (hV : Dn nxt V) {g : List Nat → Bool} : ∀ a, V a → (∀ d c, Rr nxt d a c → g c = true → 0 < dp nxt (fun a => if g a = true then 1 else 0) g jmin1 a ∧ dp nxt (fun a => if g a = true then 1 else 0) g jmin1 a ≤ d + 1) ∧ (0 < dp nxt (fun a => if g a = true then 1 else 0) g jmin1 a → ∃ c, Rr nxt (dp nxt (fun a => if g a = true then 1 else 0) g jmin1 a - 1) a c ∧ g c = true) := by
  refine hV.ind fun a ha ih => ?_
  rw [dp_eq hV ha]
  generalize hF : dp nxt (fun a => if g a = true then 1 else 0) g jmin1 = F at ih ⊢
  by_cases hg : g a = true
  · simp only [hg, if_true]
    exact ⟨fun d c h hc => ⟨by omega, by omega⟩, fun _ => ⟨a, rfl, hg⟩⟩
  · simp only [hg, if_false, Bool.false_eq_true]
    have key := fl_invm (f := fun v c => jmin1 v (F c)) (nxt a) (fun m v => (∀ b, b ∈ m → 0 < F b → 0 < v ∧ v ≤ F b + 1) ∧ (0 < v → ∃ b, b ∈ nxt a ∧ 0 < F b ∧ v = F b + 1)) (by
      intro m v x hx ⟨h1, h2⟩
      refine ⟨fun b hb hb0 => ?_, fun hv => ?_⟩
      · rcases List.mem_append.mp hb with hb | hb
        · have := h1 b hb hb0; unfold jmin1; split <;> omega
        · obtain rfl : b = x := by simpa using hb
          unfold jmin1; split <;> omega
      · by_cases q : 0 < F x ∧ (v = 0 ∨ F x + 1 < v)
        · exact ⟨x, hx, q.1, by rw [jmin1, if_pos q]⟩
        · rw [jmin1, if_neg q] at hv ⊢; exact h2 hv) 0 ⟨by simp, by simp⟩
    obtain ⟨h1, h2⟩ := key
    refine ⟨fun d c h hc => ?_, fun hv => ?_⟩
    · cases d with
      | zero => cases h; exact absurd hc hg
      | succ d =>
        obtain ⟨b, hb, h⟩ := h
        have h3 := (ih b hb).1 d c h hc
        have h4 := h1 b hb h3.1
        omega
    · obtain ⟨b, hb, h3, h4⟩ := h2 hv
      obtain ⟨c, hc, hg⟩ := (ih b hb).2 h3
      refine ⟨c, ?_, hg⟩
      rw [h4]
      obtain ⟨e, he⟩ : ∃ e, F b = e + 1 := ⟨F b - 1, by omega⟩
      rw [he] at hc ⊢
      exact ⟨b, hb, hc⟩
/-- the longest row -/
theorem dp_long (hV : Dn nxt V) : ∀ a, V a → (∃ c, Rr nxt (dp nxt (fun _ => 0) (fun _ => false) (fun v n => if v < n + 1 then n + 1 else v) a) a c) ∧ ∀ d c, Rr nxt d a c → d ≤ dp nxt (fun _ => 0) (fun _ => false) (fun v n => if v < n + 1 then n + 1 else v) a := by
  refine hV.ind fun a ha ih => ?_
  rw [dp_eq hV ha, if_neg (by simp)]
  generalize hF : dp nxt (fun _ => 0) (fun _ => false) (fun v n => if v < n + 1 then n + 1 else v) = F at ih ⊢
  have key := fl_invm (f := fun v c => if v < F c + 1 then F c + 1 else v) (nxt a) (fun m v => (∀ b, b ∈ m → F b + 1 ≤ v) ∧ (0 < v → ∃ b, b ∈ nxt a ∧ v = F b + 1)) (by
    intro m v x hx ⟨h1, h2⟩
    refine ⟨fun b hb => ?_, fun hv => ?_⟩
    · rcases List.mem_append.mp hb with hb | hb
      · have := h1 b hb; split <;> omega
      · obtain rfl : b = x := by simpa using hb
        split <;> omega
    · split
      · exact ⟨x, hx, rfl⟩
      · next q => rw [if_neg q] at hv; exact h2 hv) 0 ⟨by simp, by simp⟩
  obtain ⟨h1, h2⟩ := key
  refine ⟨?_, fun d c h => ?_⟩
  · generalize List.foldl (fun v c => if v < F c + 1 then F c + 1 else v) 0 (nxt a) = r at h1 h2 ⊢
    cases r with
    | zero => exact ⟨a, rfl⟩
    | succ r =>
      obtain ⟨b, hb, e⟩ := h2 (by omega)
      obtain ⟨c, hc⟩ := (ih b hb).1
      exact ⟨c, b, hb, by rwa [show r = F b by omega]⟩
  · cases d with
    | zero => omega
    | succ d =>
      obtain ⟨b, hb, h⟩ := h
      have := (ih b hb).2 d c h
      have := h1 b hb
      omega
/-- what is left over at the most -/
theorem dp_over (hV : Dn nxt V) {g : List Nat → Bool} (hg0 : ∀ c, g c = true → 0 < c.sum) : ∀ a, V a → (∀ d c, Rr nxt d a c → g c = true → c.sum ≤ dp nxt (fun a => if g a = true then a.sum else 0) g (fun v n => if v < n then n else v) a) ∧ (0 < dp nxt (fun a => if g a = true then a.sum else 0) g (fun v n => if v < n then n else v) a → ∃ d c, Rr nxt d a c ∧ g c = true ∧ c.sum = dp nxt (fun a => if g a = true then a.sum else 0) g (fun v n => if v < n then n else v) a) := by
  refine hV.ind fun a ha ih => ?_
  rw [dp_eq hV ha]
  generalize hF : dp nxt (fun a => if g a = true then a.sum else 0) g (fun v n => if v < n then n else v) = F at ih ⊢
  by_cases hg : g a = true
  · simp only [hg, if_true]
    exact ⟨fun d c h hc => by have := (Rr_V hV ha h).2; omega, fun _ => ⟨0, a, rfl, hg, rfl⟩⟩
  · simp only [hg, if_false, Bool.false_eq_true]
    have key := fl_invm (f := fun v c => if v < F c then F c else v) (nxt a) (fun m v => (∀ b, b ∈ m → F b ≤ v) ∧ (0 < v → ∃ b, b ∈ nxt a ∧ v = F b)) (by
      intro m v x hx ⟨h1, h2⟩
      refine ⟨fun b hb => ?_, fun hv => ?_⟩
      · rcases List.mem_append.mp hb with hb | hb
        · have := h1 b hb; split <;> omega
        · obtain rfl : b = x := by simpa using hb
          split <;> omega
      · split
        · exact ⟨x, hx, rfl⟩
        · next q => rw [if_neg q] at hv; exact h2 hv) 0 ⟨by simp, by simp⟩
    obtain ⟨h1, h2⟩ := key
    refine ⟨fun d c h hc => ?_, fun hv => ?_⟩
    · cases d with
      | zero => cases h; exact absurd hc hg
      | succ d =>
        obtain ⟨b, hb, h⟩ := h
        exact Nat.le_trans ((ih b hb).1 d c h hc) (h1 b hb)
    · obtain ⟨b, hb, e⟩ := h2 hv
      obtain ⟨d, c, h3, h4, h5⟩ := (ih b hb).2 (by omega)
      exact ⟨d + 1, c, ⟨b, hb, h3⟩, h4, by omega⟩
/-- bits of all that is come to -/
theorem dp_bits (hV : Dn nxt V) {g : List Nat → Nat} (i : Nat) : ∀ a, V a → ((dp nxt g (fun _ => false) (fun v n => v ||| n) a).testBit i = true ↔ ∃ d c, Rr nxt d a c ∧ (g c).testBit i = true) := by
  refine hV.ind fun a ha ih => ?_
  rw [dp_eq hV ha, if_neg (by simp)]
  generalize hF : dp nxt g (fun _ => false) (fun v n => v ||| n) = F at ih ⊢
  have key : ∀ (l : List (List Nat)) (v : Nat), (l.foldl (fun v c => v ||| F c) v).testBit i = true ↔ v.testBit i = true ∨ ∃ b, b ∈ l ∧ (F b).testBit i = true := by
    intro l
    induction l with
    | nil => simp
    | cons x l ihl => intro v; simp [ihl, Nat.testBit_or, or_assoc]
  rw [key]
  constructor
  · rintro (h | ⟨b, hb, h⟩)
    · exact ⟨0, a, rfl, h⟩
    · obtain ⟨d, c, h1, h2⟩ := (ih b hb).mp h
      exact ⟨d + 1, c, ⟨b, hb, h1⟩, h2⟩
  · rintro ⟨d, c, h1, h2⟩
    cases d with
    | zero => cases h1; exact Or.inl h2
    | succ d =>
      obtain ⟨b, hb, h⟩ := h1
      exact Or.inr ⟨b, hb, (ih b hb).mpr ⟨d, c, h, h2⟩⟩
end
