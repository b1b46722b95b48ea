set_option maxRecDepth 20000
set_option maxHeartbeats 4000000
set_option linter.all false
/-! what a walk keeps -/
def RC (K : HK) (L c : List Nat) : Prop := ∃ d, Rr (nx K) d L c
def WI (K : HK) (L : List Nat) (I : List Nat → Nat) (k : Nat) : Prop :=
  (∀ x, LWF (Kn K) x → I x ≠ 0 → Rr (nx K) (I x % 16) L x ∧ Rr (nx K) (I x / 16 % 16) L x) ∧
  (I L ≠ 0 ∧ I L % 16 = 0) ∧
  (∀ b d, LWF (Kn K) b → k ≤ cnum b → Rr (nx K) d L b → ∀ x, x ∈ nx K b → I x ≠ 0 ∧ I x % 16 ≤ d + 1 ∧ d + 1 ≤ I x / 16 % 16) ∧
  (∀ x, LWF (Kn K) x → I x ≠ 0 → (512 ≤ I x ↔ k ≤ cnum x ∧ nx K x ≠ [])) ∧ (∀ x, LWF (Kn K) x → I x < 1024)
theorem cnum_ge {x : List Nat} : n1 x.sum ≤ cnum x := Nat.le_add_right _ _
theorem cnum_hi {n : Nat} {x : List Nat} (hx : LWF n x) (hn : n ≤ 5) : cnum x < n1 x.sum + nv n x.sum := by
  have := vrk_lt x; rw [hx.1] at this; unfold cnum; omega
theorem cnum_lt1 {n : Nat} {x : List Nat} (hx : LWF n x) (hn : n ≤ 5) : cnum x < n1 (x.sum + 1) := by
  have h1 := cnum_hi hx hn
  have h2 := nv_mono5 hn x.sum
  have h3 : n1 (x.sum + 1) = n1 x.sum + nv 5 x.sum := rfl
  omega
theorem n1_mono {a b : Nat} (h : a ≤ b) : n1 a ≤ n1 b := sg_mono h
theorem cnum_sum {n : Nat} {x y : List Nat} (hx : LWF n x) (hn : n ≤ 5) (h : x.sum < y.sum) : cnum x < cnum y := by
  have h1 := cnum_lt1 hx hn
  have h2 := n1_mono (show x.sum + 1 ≤ y.sum from h)
  have h3 := cnum_ge (x := y)
  omega
theorem WI_reach {K : HK} (hK : KWF K) {L : List Nat} (hL : LWF (Kn K) L) {I : List Nat → Nat} {k : Nat} (hI : WI K L I k) {c : List Nat} (hc : LWF (Kn K) c) (hk : k ≤ cnum c + 1) : ∀ d, Rr (nx K) d L c → I c ≠ 0 ∧ I c % 16 ≤ d ∧ d ≤ I c / 16 % 16 := by
  obtain ⟨v1, v2, v3, v4, v5⟩ := hI
  intro d hd
  cases d with
  | zero => cases hd; exact ⟨v2.1, by omega, Nat.zero_le _⟩
  | succ d =>
    obtain ⟨b, h1, h2⟩ := Rr_snoc.mp hd
    have hb := (Rr_V (Dn_nx hK) hL h1).1
    have hlt := ((Dn_nx hK).2 b hb c h2).2
    have := cnum_sum hc hK.1 hlt
    exact v3 b d hb (by omega) h1 c h2
theorem WI_skip {K : HK} (hK : KWF K) {L : List Nat} (hL : LWF (Kn K) L) {I : List Nat → Nat} {c : List Nat} (hc : LWF (Kn K) c) (hI : WI K L I (cnum c + 1)) (h0 : I c = 0) : WI K L I (cnum c) := by
  have hr := WI_reach hK hL hI hc (Nat.le_refl _)
  obtain ⟨v1, v2, v3, v4, v5⟩ := hI
  refine ⟨v1, v2, fun b d hb hk hd x hx => ?_, fun x hx hx0 => ?_, v5⟩
  · by_cases e : b = c
    · subst e; exact absurd h0 (hr d hd).1
    · exact v3 b d hb (by rcases Nat.lt_or_ge (cnum c) (cnum b) with q | q; exact q; exact absurd (cnum_inj hb hc hK.1 (by omega)) e) hd x hx
  · rw [v4 x hx hx0]
    by_cases e : x = c
    · subst e; exact absurd h0 hx0
    · have : cnum x ≠ cnum c := fun z => e (cnum_inj hx hc hK.1 z)
      constructor
      · rintro ⟨a, b⟩; exact ⟨by omega, b⟩
      · rintro ⟨a, b⟩; exact ⟨by omega, b⟩
theorem dg512 {v : Nat} (h : v < 512) : (v ||| 512) % 16 = v % 16 ∧ (v ||| 512) / 16 % 16 = v / 16 % 16 ∧ v ||| 512 = v + 512 := by
  have : v ||| 512 = v + 512 := by rw [or512 v (by omega), if_pos h]
  rw [this]; omega
theorem mrg_p {v f m : Nat} (hf : f < 16) (hm : m < 16) : mrg v f m ≠ 0 ∧ (mrg v f m % 16 = if v = 0 then f else min f (v % 16)) ∧ (mrg v f m / 16 % 16 = if v = 0 then m else max m (v / 16 % 16)) := by
  have h1 : v / 16 % 16 < 16 := Nat.mod_lt _ (by omega)
  have h2 : v % 16 < 16 := Nat.mod_lt _ (by omega)
  unfold mrg
  by_cases c : v = 0
  · simp only [c, if_true]; omega
  · simp only [c, if_false]; omega
theorem WI_step {K : HK} (hK : KWF K) {L : List Nat} (hL : LWF (Kn K) L) {I : List Nat → Nat} {c : List Nat} (hc : LWF (Kn K) c) (hI : WI K L I (cnum c + 1)) (h0 : I c ≠ 0) (hb : ∀ x, LWF (Kn K) x → spr I c (nx K c) x < 1024) : WI K L (spr I c (nx K c)) (cnum c) ∧ I c % 16 < 15 ∧ I c / 16 % 16 < 15 ∧ (∀ x, LWF (Kn K) x → cnum c ≤ cnum x → (spr I c (nx K c) x ≠ 0 ↔ I x ≠ 0)) := by
  have hr := WI_reach hK hL hI hc (Nat.le_refl _)
  obtain ⟨v1, v2, v3, v4, v5⟩ := hI
  have hs := hL.2
  have r1 := v1 c hc h0
  have b1 := (Rr_V (Dn_nx hK) hL r1.1).2
  have b2 := (Rr_V (Dn_nx hK) hL r1.2).2
  have f1 : I c % 16 + 1 < 16 := by omega
  have f2 : I c / 16 % 16 + 1 < 16 := by omega
  have hlow : I c < 512 := by
    rcases Nat.lt_or_ge (I c) 512 with q | q
    · exact q
    · have := (v4 c hc h0).mp q; omega
  obtain ⟨d1, d2, d3⟩ := dg512 hlow
  have hnx : ∀ x, x ∈ nx K c → LWF (Kn K) x ∧ x ≠ c ∧ cnum x < cnum c := by
    intro x hx
    have h1 := (Dn_nx hK).2 c hc x hx
    exact ⟨h1.1, fun z => by rw [z] at h1; omega, cnum_sum h1.1 hK.1 h1.2⟩
  have sc : spr I c (nx K c) c = if nx K c = [] then I c else I c ||| 512 := if_pos rfl
  have sn : ∀ x, x ∈ nx K c → spr I c (nx K c) x = mrg (I x) (I c % 16 + 1) (I c / 16 % 16 + 1) := fun x hx => by unfold spr; rw [if_neg (hnx x hx).2.1, if_pos hx]
  have so : ∀ x, x ≠ c → ¬ x ∈ nx K c → spr I c (nx K c) x = I x := fun x h1 h2 => by unfold spr; rw [if_neg h1, if_neg h2]
  have sc' : spr I c (nx K c) c % 16 = I c % 16 ∧ spr I c (nx K c) c / 16 % 16 = I c / 16 % 16 ∧ spr I c (nx K c) c ≠ 0 := by
    rw [sc]; split
    · exact ⟨rfl, rfl, h0⟩
    · exact ⟨d1, d2, by omega⟩
  -- nothing gets worse
  have better : ∀ x, I x ≠ 0 → spr I c (nx K c) x ≠ 0 ∧ spr I c (nx K c) x % 16 ≤ I x % 16 ∧ I x / 16 % 16 ≤ spr I c (nx K c) x / 16 % 16 := by
    intro x hx
    by_cases e : x = c
    · subst e; exact ⟨sc'.2.2, by omega, by omega⟩
    · by_cases e2 : x ∈ nx K c
      · have := mrg_p (v := I x) f1 f2
        rw [if_neg hx, if_neg hx] at this
        rw [sn x e2]; exact ⟨this.1, by omega, by omega⟩
      · rw [so x e e2]; exact ⟨hx, by omega, by omega⟩
  refine ⟨⟨fun x hx hx0 => ?_, ⟨(better L v2.1).1, by have := (better L v2.1).2.1; omega⟩, fun b d hb hk hd x hx => ?_, fun x hx hx0 => ?_, hb⟩, by omega, by omega, fun x hx hk => ?_⟩
  · by_cases e : x = c
    · subst e; rw [sc'.1, sc'.2.1]; exact r1
    · by_cases e2 : x ∈ nx K c
      · have := mrg_p (v := I x) f1 f2
        have n1 : Rr (nx K) (I c % 16 + 1) L x := Rr_snoc.mpr ⟨c, r1.1, e2⟩
        have n2 : Rr (nx K) (I c / 16 % 16 + 1) L x := Rr_snoc.mpr ⟨c, r1.2, e2⟩
        rw [sn x e2, this.2.1, this.2.2]
        by_cases z : I x = 0
        · rw [if_pos z, if_pos z]; exact ⟨n1, n2⟩
        · rw [if_neg z, if_neg z]
          have o := v1 x hx z
          refine ⟨?_, ?_⟩
          · rcases Nat.le_total (I c % 16 + 1) (I x % 16) with q | q
            · rw [Nat.min_eq_left q]; exact n1
            · rw [Nat.min_eq_right q]; exact o.1
          · rcases Nat.le_total (I c / 16 % 16 + 1) (I x / 16 % 16) with q | q
            · rw [Nat.max_eq_right q]; exact o.2
            · rw [Nat.max_eq_left q]; exact n2
      · rw [so x e e2] at hx0 ⊢; exact v1 x hx hx0
  · by_cases e : b = c
    · subst e
      have h1 := hr d hd
      have := mrg_p (v := I x) f1 f2
      rw [sn x hx, this.2.1, this.2.2]
      refine ⟨this.1, ?_, ?_⟩
      · split <;> omega
      · split <;> omega
    · have h1 := v3 b d hb (by rcases Nat.lt_or_ge (cnum c) (cnum b) with q | q; exact q; exact absurd (cnum_inj hb hc hK.1 (by omega)) e) hd x hx
      have h2 := better x h1.1
      exact ⟨h2.1, by omega, by omega⟩
  · by_cases e : x = c
    · subst e
      rw [sc]
      by_cases z : nx K x = []
      · rw [if_pos z]
        constructor
        · intro q; omega
        · rintro ⟨_, q⟩; exact absurd z q
      · rw [if_neg z]
        constructor
        · intro _; exact ⟨Nat.le_refl _, z⟩
        · intro _; omega
    · by_cases e2 : x ∈ nx K c
      · have h1 := hnx x e2
        have := mrg_lt (v := I x) f1 f2
        rw [sn x e2]
        constructor
        · intro q; omega
        · rintro ⟨q, _⟩; omega
      · rw [so x e e2] at hx0 ⊢
        rw [v4 x hx hx0]
        have : cnum x ≠ cnum c := fun z => e (cnum_inj hx hc hK.1 z)
        constructor
        · rintro ⟨a, b⟩; exact ⟨by omega, b⟩
        · rintro ⟨a, b⟩; exact ⟨by omega, b⟩
  · by_cases e : x = c
    · subst e; exact ⟨fun _ => h0, fun _ => sc'.2.2⟩
    · by_cases e2 : x ∈ nx K c
      · have := (hnx x e2).2.2; omega
      · rw [so x e e2]
theorem WI_0 {K : HK} (hK : KWF K) {L : List Nat} (hL : LWF (Kn K) L) : WI K L (fun x => if x = L then 256 else 0) (n1 (L.sum + 1)) := by
  have hs := hL.2
  refine ⟨fun x hx hx0 => ?_, ⟨by simp, by simp⟩, fun b d hb hk hd x hx => ?_, fun x hx hx0 => ?_, fun x _ => by simp only; split <;> omega⟩
  · by_cases e : x = L
    · subst e; simp only [if_true]; exact ⟨rfl, rfl⟩
    · simp [e] at hx0
  · have h1 := (Rr_V (Dn_nx hK) hL hd).2
    have h2 := cnum_lt1 hb hK.1
    have h3 := n1_mono (show b.sum + 1 ≤ L.sum + 1 by omega)
    omega
  · by_cases e : x = L
    · subst e
      simp only [if_true]
      constructor
      · intro q; omega
      · rintro ⟨q, _⟩
        have := cnum_lt1 hx hK.1; omega
    · simp [e] at hx0
/-- what is reached, the most loads first -/
def OS (O : List (List Nat)) : Prop := O.Pairwise fun x y => cnum y < cnum x
theorem dec_len : ∀ (l : List Nat) (N : Nat), l.Pairwise (fun x y => y < x) → (∀ x, x ∈ l → x < N) → l.length ≤ N
  | [], _, _, _ => Nat.zero_le _
  | x :: l, N, h, hb => by
    obtain ⟨h1, h2⟩ := List.pairwise_cons.mp h
    have := dec_len l x h2 h1
    have := hb x (by simp)
    simp only [List.length_cons]; omega
theorem OS_len {O : List (List Nat)} (h : OS O) {N : Nat} (hb : ∀ x, x ∈ O → cnum x < N) : O.length ≤ N := by
  have := dec_len (O.map cnum) N (by rw [List.pairwise_map]; exact h) (by simpa using hb)
  simpa using this
