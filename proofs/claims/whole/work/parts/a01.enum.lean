set_option maxRecDepth 20000
set_option maxHeartbeats 4000000
set_option linter.all false
/-! ways to lie, in their order -/
def sg (f : Nat → Nat) : Nat → Nat
  | 0 => 0
  | n + 1 => sg f n + f n
def vs : Nat → Nat → List (List Nat)
  | 0, s => if s = 0 then [[]] else []
  | n + 1, s => (List.range (s + 1)).flatMap fun x => (vs n (s - x)).map (x :: ·)
def ws : Nat → Nat → List (List Nat)
  | 0, _ => [[]]
  | n + 1, m => (List.range (m + 1)).flatMap fun x => (ws n (m - x)).map (x :: ·)
def nv (n s : Nat) : Nat := (vs n s).length
def nw (n m : Nat) : Nat := (ws n m).length
theorem mem_vs : ∀ {n s : Nat} {L : List Nat}, L ∈ vs n s ↔ L.length = n ∧ L.sum = s
  | 0, s, L => by
    by_cases h : s = 0
    · simp [vs, h]; intro e; simp [e]
    · simp [vs, h]; intro e; simp [e]; omega
  | n + 1, s, L => by
    cases L with
    | nil => simp [vs]
    | cons x r =>
      simp only [vs, List.mem_flatMap, List.mem_range, List.mem_map, List.cons.injEq, List.length_cons, List.sum_cons]
      constructor
      · rintro ⟨y, hy, r', hr, rfl, rfl⟩
        have := mem_vs.mp hr; omega
      · intro h
        exact ⟨x, by omega, r, mem_vs.mpr (by omega), rfl, rfl⟩
theorem mem_ws : ∀ {n s : Nat} {L : List Nat}, L ∈ ws n s ↔ L.length = n ∧ L.sum ≤ s
  | 0, s, L => by simp [ws]; intro e; simp [e]
  | n + 1, s, L => by
    cases L with
    | nil => simp [ws]
    | cons x r =>
      simp only [ws, List.mem_flatMap, List.mem_range, List.mem_map, List.cons.injEq, List.length_cons, List.sum_cons]
      constructor
      · rintro ⟨y, hy, r', hr, rfl, rfl⟩
        have := mem_ws.mp hr; omega
      · intro h
        exact ⟨x, by omega, r, mem_ws.mpr (by omega), rfl, rfl⟩
theorem fm_congr {α β : Type} {f g : α → List β} : ∀ {l : List α}, (∀ x, x ∈ l → f x = g x) → l.flatMap f = l.flatMap g
  | [], _ => rfl
  | x :: l, h => by rw [List.flatMap_cons, List.flatMap_cons, h x (by simp), fm_congr (fun y hy => h y (by simp [hy]))]
theorem ws_flt : ∀ (n m s : Nat), s ≤ m → (ws n m).filter (fun L => decide (L.sum = s)) = vs n s
  | 0, m, s, h => by
    by_cases e : s = 0
    · simp [ws, vs, e]
    · simp [ws, vs, e]; omega
  | n + 1, m, s, h => by
    simp only [ws, vs, List.filter_flatMap]
    have h1 : List.range (m + 1) = List.range (s + 1) ++ (List.range (m - s)).map (fun x => s + 1 + x) := by
      rw [← List.range_add]; congr 1; omega
    rw [h1, List.flatMap_append]
    have h2 : ((List.range (m - s)).map (fun x => s + 1 + x)).flatMap (fun x => ((ws n (m - x)).map (x :: ·)).filter (fun L => decide (L.sum = s))) = [] := by
      rw [List.flatMap_eq_nil_iff]
      intro x hx
      simp only [List.mem_map, List.mem_range] at hx
      obtain ⟨y, hy, rfl⟩ := hx
      simp only [List.filter_map, List.map_eq_nil_iff, List.filter_eq_nil_iff]
      intro L _
      show ¬ (decide (((s + 1 + y) :: L).sum = s) = true)
      rw [decide_eq_true_eq, List.sum_cons]; omega
    rw [h2, List.append_nil]
    apply fm_congr
    intro x hx
    have hx' : x ≤ s := by simp at hx; omega
    simp only [List.filter_map]
    congr 1
    rw [← ws_flt n (m - x) (s - x) (by omega)]
    apply List.filter_congr
    intro L _
    simp only [Function.comp, List.sum_cons]
    exact decide_eq_decide.mpr (by constructor <;> intro q <;> omega)
theorem length_flatMap_range (f : Nat → List (List Nat)) : ∀ n, ((List.range n).flatMap f).length = sg (fun x => (f x).length) n
  | 0 => rfl
  | n + 1 => by rw [List.range_succ, List.flatMap_append, List.length_append, length_flatMap_range f n]; simp [sg]
theorem sg_congr {f g : Nat → Nat} : ∀ {n : Nat}, (∀ k, k < n → f k = g k) → sg f n = sg g n
  | 0, _ => rfl
  | n + 1, h => by simp only [sg]; rw [sg_congr (fun k hk => h k (by omega)), h n (by omega)]
theorem sg_mono {f : Nat → Nat} {a b : Nat} (h : a ≤ b) : sg f a ≤ sg f b := by
  induction b with
  | zero => simp [show a = 0 by omega]
  | succ b ih =>
    by_cases e : a = b + 1
    · rw [e]; exact Nat.le_refl _
    · have := ih (by omega); simp only [sg]; omega
theorem sg_le {f : Nat → Nat} {a b : Nat} (h : a < b) : sg f a + f a ≤ sg f b := sg_mono (f := f) (a := a + 1) h
theorem nv_s (n s : Nat) : nv (n + 1) s = sg (fun k => nv n (s - k)) (s + 1) := by
  simp only [nv, vs, length_flatMap_range, List.length_map]
theorem nw_s (n s : Nat) : nw (n + 1) s = sg (fun k => nw n (s - k)) (s + 1) := by
  simp only [nw, ws, length_flatMap_range, List.length_map]
/-- the place of a way among those of as many loads -/
def vrk : List Nat → Nat
  | [] => 0
  | x :: r => sg (fun k => nv r.length (x + r.sum - k)) x + vrk r
/-- the place of a way among those of m loads at most -/
def wrk : Nat → List Nat → Nat
  | _, [] => 0
  | m, x :: r => sg (fun k => nw r.length (m - k)) x + wrk (m - x) r
theorem getElem?_flatMap_range (f : Nat → List (List Nat)) {n x i : Nat} (hx : x < n) (hi : i < (f x).length) : ((List.range n).flatMap f)[sg (fun x => (f x).length) x + i]? = (f x)[i]? := by
  obtain ⟨d, rfl⟩ : ∃ d, n = x + (d + 1) := ⟨n - x - 1, by omega⟩
  rw [List.range_add, List.flatMap_append, List.getElem?_append_right (by rw [length_flatMap_range]; omega), length_flatMap_range, Nat.add_sub_cancel_left, List.range_succ_eq_map, List.map_cons, List.flatMap_cons, Nat.add_zero, List.getElem?_append_left hi]
theorem vrk_get : ∀ (L : List Nat), (vs L.length L.sum)[vrk L]? = some L
  | [] => by simp [vs, vrk]
  | x :: r => by
    have ih := vrk_get r
    have hi : vrk r < (vs r.length r.sum).length := by
      rcases Nat.lt_or_ge (vrk r) (vs r.length r.sum).length with h | h
      · exact h
      · rw [List.getElem?_eq_none h] at ih; cases ih
    have h2 := getElem?_flatMap_range (fun k => (vs r.length (x + r.sum - k)).map (k :: ·)) (n := x + r.sum + 1) (x := x) (i := vrk r) (by omega) (by simpa [show x + r.sum - x = r.sum by omega] using hi)
    simp only [List.length_map] at h2
    show (vs (r.length + 1) (x + r.sum))[sg (fun k => nv r.length (x + r.sum - k)) x + vrk r]? = _
    simp only [vs, nv]
    rw [h2, List.getElem?_map, show x + r.sum - x = r.sum by omega, ih]; rfl
theorem wrk_get : ∀ (m : Nat) (L : List Nat), L.sum ≤ m → (ws L.length m)[wrk m L]? = some L
  | m, [], _ => by simp [ws, wrk]
  | m, x :: r, h => by
    have hs : x + r.sum ≤ m := by simpa using h
    have ih := wrk_get (m - x) r (by omega)
    have hi : wrk (m - x) r < (ws r.length (m - x)).length := by
      rcases Nat.lt_or_ge (wrk (m - x) r) (ws r.length (m - x)).length with h | h
      · exact h
      · rw [List.getElem?_eq_none h] at ih; cases ih
    have h2 := getElem?_flatMap_range (fun k => (ws r.length (m - k)).map (k :: ·)) (n := m + 1) (x := x) (i := wrk (m - x) r) (by omega) (by simpa using hi)
    simp only [List.length_map] at h2
    show (ws (r.length + 1) m)[sg (fun k => nw r.length (m - k)) x + wrk (m - x) r]? = _
    simp only [ws, nw]
    rw [h2, List.getElem?_map, ih]; rfl
theorem vrk_lt (L : List Nat) : vrk L < nv L.length L.sum := by
  have := vrk_get L
  rcases Nat.lt_or_ge (vrk L) (vs L.length L.sum).length with h | h
  · exact h
  · rw [List.getElem?_eq_none h] at this; cases this
theorem wrk_lt {m : Nat} {L : List Nat} (h : L.sum ≤ m) : wrk m L < nw L.length m := by
  have := wrk_get m L h
  rcases Nat.lt_or_ge (wrk m L) (ws L.length m).length with h | h
  · exact h
  · rw [List.getElem?_eq_none h] at this; cases this
theorem vs_nodup : ∀ (n s : Nat), (vs n s).Nodup
  | 0, s => by by_cases h : s = 0 <;> simp [vs, h]
  | n + 1, s => by
    simp only [vs, List.Nodup, List.pairwise_flatMap, List.pairwise_map]
    refine ⟨fun x _ => (vs_nodup n (s - x)).imp (fun h e => h (by simpa using e)), ?_⟩
    refine (List.nodup_range (n := s + 1)).imp ?_
    intro a b hab x hx y hy e
    simp only [List.mem_map] at hx hy
    obtain ⟨x', _, rfl⟩ := hx
    obtain ⟨y', _, rfl⟩ := hy
    exact hab (by simpa using (List.cons.inj e).1)
theorem ws_nodup : ∀ (n s : Nat), (ws n s).Nodup
  | 0, s => by simp [ws]
  | n + 1, s => by
    simp only [ws, List.Nodup, List.pairwise_flatMap, List.pairwise_map]
    refine ⟨fun x _ => (ws_nodup n (s - x)).imp (fun h e => h (by simpa using e)), ?_⟩
    refine (List.nodup_range (n := s + 1)).imp ?_
    intro a b hab x hx y hy e
    simp only [List.mem_map] at hx hy
    obtain ⟨x', _, rfl⟩ := hx
    obtain ⟨y', _, rfl⟩ := hy
    exact hab (by simpa using (List.cons.inj e).1)
theorem vs_at {n s i : Nat} {L : List Nat} (h : (vs n s)[i]? = some L) : L.length = n ∧ L.sum = s ∧ vrk L = i := by
  obtain ⟨h1, h2⟩ := mem_vs.mp (List.mem_of_getElem? h)
  refine ⟨h1, h2, ?_⟩
  have h3 := vrk_get L
  rw [h1, h2] at h3
  exact (List.getElem?_inj (l := vs n s) (by have := vrk_lt L; rw [h1, h2] at this; exact this) (vs_nodup n s)).mp (h3.trans h.symm)
theorem ws_at {n m i : Nat} {L : List Nat} (h : (ws n m)[i]? = some L) : L.length = n ∧ L.sum ≤ m ∧ wrk m L = i := by
  obtain ⟨h1, h2⟩ := mem_ws.mp (List.mem_of_getElem? h)
  refine ⟨h1, h2, ?_⟩
  have h3 := wrk_get m L h2
  rw [h1] at h3
  exact (List.getElem?_inj (l := ws n m) (by have := wrk_lt h2; rw [h1] at this; exact this) (ws_nodup n m)).mp (h3.trans h.symm)
theorem vrk_inj {L M : List Nat} (hl : L.length = M.length) (hs : L.sum = M.sum) (h : vrk L = vrk M) : L = M := by
  have h1 := vrk_get L
  have h2 := vrk_get M
  rw [hl, hs, h, h2] at h1
  exact (Option.some.inj h1).symm
theorem wrk_inj {m : Nat} {L M : List Nat} (hl : L.length = M.length) (h1 : L.sum ≤ m) (h2 : M.sum ≤ m) (h : wrk m L = wrk m M) : L = M := by
  have a := wrk_get m L h1
  have b := wrk_get m M h2
  rw [hl, h, b] at a
  exact (Option.some.inj a).symm
theorem vrk_zero (r : List Nat) : vrk (0 :: r) = vrk r := by simp [vrk, sg]
theorem nv_0 (s : Nat) : nv 0 s = if s = 0 then 1 else 0 := by by_cases h : s = 0 <;> simp [nv, vs, h]
theorem nw_0 (s : Nat) : nw 0 s = 1 := rfl
theorem nv_mono (n s : Nat) : nv n s ≤ nv (n + 1) s := by
  rw [nv_s]
  have := sg_le (f := fun k => nv n (s - k)) (a := 0) (b := s + 1) (by omega)
  simpa only [sg, Nat.zero_add, Nat.sub_zero] using this
/-- how many go ahead of all of so many loads, of five huts -/
def n1 (s : Nat) : Nat := sg (nv 5) s
def cnum (L : List Nat) : Nat := n1 L.sum + vrk L
