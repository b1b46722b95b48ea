set_option maxRecDepth 20000
set_option maxHeartbeats 4000000
set_option linter.all false
/-! the first heap: a list of cells -/
def hl (l : List va_E) : HS := fun i => l.getD i junk
theorem hl_app (l : List va_E) (y : va_E) : va_up (hl l) l.length y = hl (l ++ [y]) := by
  funext i
  unfold va_up hl
  by_cases q : i = l.length
  · rw [if_pos q, q]; simp
  · rw [if_neg q]
    rcases Nat.lt_or_ge i l.length with h | h
    · simp [List.getD_eq_getElem?_getD, List.getElem?_append_left h]
    · rw [List.getD_eq_getElem?_getD, List.getD_eq_getElem?_getD, List.getElem?_eq_none h, List.getElem?_eq_none (by simp; omega)]
theorem hl_set {l : List va_E} {a : Nat} (y : va_E) (h : a < l.length) : va_up (hl l) a y = hl (l.set a y) := by
  funext i
  unfold va_up hl
  by_cases q : i = a
  · rw [if_pos q, q]; simp [List.getD_eq_getElem?_getD, List.getElem?_set, h]
  · rw [if_neg q]; simp [List.getD_eq_getElem?_getD, List.getElem?_set, Ne.symm q]
theorem hl_at (l r : List va_E) (o : va_E) : hl (l ++ o :: r) l.length = o := by
  unfold hl; simp [List.getD_eq_getElem?_getD]
theorem hl_o (l r : List va_E) (o y : va_E) : va_up (hl (l ++ o :: r)) l.length y = hl (l ++ y :: r) := by
  rw [hl_set y (by simp)]; simp [List.set_append]
/-- h' stands as the list, the last k cells being told one by one -/
theorem hl_of {h' : HS} {l b : List va_E} (h1 : ∀ i, i < l.length → h' i = hl l i) (h2 : ∀ k, k < b.length → h' (l.length + k) = b.getD k junk) (h3 : ∀ i, l.length + b.length ≤ i → h' i = junk) : h' = hl (l ++ b) := by
  funext i
  unfold hl at h1 ⊢
  rcases Nat.lt_or_ge i l.length with h | h
  · rw [h1 i h]; simp [List.getD_eq_getElem?_getD, List.getElem?_append_left h]
  · rcases Nat.lt_or_ge i (l.length + b.length) with h5 | h5
    · have e : i = l.length + (i - l.length) := by omega
      rw [e, h2 _ (by omega), List.getD_eq_getElem?_getD, List.getD_eq_getElem?_getD, List.getElem?_append_right (by omega), Nat.add_sub_cancel_left]
    · rw [h3 i h5, List.getD_eq_getElem?_getD, List.getElem?_eq_none (by simp; omega)]; rfl
theorem hl_j {l : List va_E} {i : Nat} (h : l.length ≤ i) : hl l i = junk := by
  unfold hl; rw [List.getD_eq_getElem?_getD, List.getElem?_eq_none h]; rfl
/-- a constructor, over the list: what it leaves behind -/
def IC (F : KX) (l : List va_E) (o : va_E) (vs : List Value) (Pb : List va_E → Prop) : Prop := ∀ R' : HS → Prop, (∀ b, Pb b → R' (hl (l ++ b))) → F (l.length + 1) (.ref l.length :: vs) (hl (l ++ [o])) R'
section INI
variable {cN cS ci j t L a N s m : Nat} {env : LE} {h : HS} {K : NS → LE → HS → Prop} {l r : List va_E} {fs : List Value} {n : NS}
theorem nSeq_i {f g : NX} (k : f n env h (fun n1 e1 h1 => g n1 e1 h1 K)) : nSeq f g n env h K := k
theorem nSuper_i (h0 : env[(0 : Nat)]? = some (some (.ref a))) (k : K n env h) : nSuper n env h K := by
  unfold nSuper; rw [h0]; exact k
theorem nArr_b (m : Nat) {x : vp_A} (h0 : env[(0 : Nat)]? = some (some (.ref l.length))) (hr : r.length = m) (hc : l.length + (m + 1) + 1 ≤ cN) (hs : s + L ≤ cS) (hj : Nat.ble (j + 1) fs.length = true) (k : K (l.length + (m + 1) + 1, s + L) env (hl (l ++ .inr (ci, fs.set j (.ref (l.length + (m + 1)))) :: (r ++ [.inl (t, x)])))) : nArr cN cS ci j t L x (l.length + (m + 1), s) env (hl (l ++ .inr (ci, fs) :: r)) K := by
  have e : va_up (hl (l ++ .inr (ci, fs) :: r)) (l.length + (m + 1)) (.inl (t, x)) = hl (l ++ .inr (ci, fs) :: (r ++ [.inl (t, x)])) := by
    have : l.length + (m + 1) = (l ++ Sum.inr (ci, fs) :: r).length := by simp [hr]
    rw [this, hl_app]; simp
  unfold nArr
  rw [h0]
  refine ⟨hc, hs, ?_⟩
  rw [e, hl_at]
  refine ⟨rfl, Nat.le_of_ble_eq_true hj, ?_⟩
  rw [hl_o]
  exact k
theorem nPutR_b {i b : Nat} (h0 : env[(0 : Nat)]? = some (some (.ref l.length))) (h1 : env[i]? = some (some (.ref b))) (hj : Nat.ble (j + 1) fs.length = true) (k : K n env (hl (l ++ .inr (ci, fs.set j (.ref b)) :: r))) : nPutR ci j i n env (hl (l ++ .inr (ci, fs) :: r)) K := by
  unfold nPutR
  rw [h0, h1]
  show match (hl (l ++ .inr (ci, fs) :: r)) l.length with | .inr (c, fs) => _ | .inl _ => _
  rw [hl_at]
  refine ⟨rfl, Nat.le_of_ble_eq_true hj, ?_⟩
  rw [hl_o]
  exact k
theorem nObj_b (m q : Nat) {ci2 NN mc ms : Nat} {fs2 vs : List Value} {as : EA} {F : KX} {Pb : List va_E → Prop} (h0 : env[(0 : Nat)]? = some (some (.ref l.length))) (hr : r.length = m) (hq : l.length + (m + 1) = q) (hc : q + 1 + mc ≤ cN) (hs : s + NN + ms ≤ cS) (hj : Nat.ble (j + 1) fs.length = true)
    (ha : ∀ K' : List Value → HS → Prop, K' vs (hl (l ++ .inr (ci, fs) :: (r ++ [.inr (ci2, fs2)]))) → as env (hl (l ++ .inr (ci, fs) :: (r ++ [.inr (ci2, fs2)]))) K')
    (hF : IC F (l ++ .inr (ci, fs) :: r) (.inr (ci2, fs2)) vs Pb)
    (k : ∀ b, Pb b → K (q + 1 + mc, s + NN + ms) env (hl (l ++ .inr (ci, fs.set j (.ref q)) :: (r ++ b)))) : nObj cN cS ci j ci2 NN mc ms fs2 as F (q, s) env (hl (l ++ .inr (ci, fs) :: r)) K := by
  have hq2 : q = (l ++ Sum.inr (ci, fs) :: r).length := by simp [hr]; omega
  have e : va_up (hl (l ++ .inr (ci, fs) :: r)) q (.inr (ci2, fs2)) = hl (l ++ .inr (ci, fs) :: (r ++ [.inr (ci2, fs2)])) := by
    rw [hq2, hl_app]; simp
  unfold nObj
  rw [h0]
  refine ⟨hc, hs, ?_⟩
  rw [e]
  refine ha _ ?_
  have h9 := hF (fun h2 => match h2 l.length with
    | .inr (c, fs') => c = ci ∧ j < fs'.length ∧ K (q + 1 + mc, s + NN + ms) env (va_up h2 l.length (.inr (ci, fs'.set j (.ref q))))
    | .inl _ => False) (fun b hb => ?_)
  · rw [← hq2] at h9
    have e2 : l ++ Sum.inr (ci, fs) :: (r ++ [Sum.inr (ci2, fs2)]) = (l ++ Sum.inr (ci, fs) :: r) ++ [Sum.inr (ci2, fs2)] := by simp
    rw [e2]
    exact h9
  · have e2 : (l ++ Sum.inr (ci, fs) :: r) ++ b = l ++ Sum.inr (ci, fs) :: (r ++ b) := by simp
    rw [e2, hl_at]
    refine ⟨rfl, Nat.le_of_ble_eq_true hj, ?_⟩
    rw [hl_o]
    exact k b hb
end INI
def zI (t L : Nat) : va_E := .inl (t, L, .inl (fun _ => 0))
def zL (L : Nat) : va_E := .inl (1, L, .inr (.inl (fun _ => 0)))
theorem i_X7 {l : List va_E} : IC nX7_init l (.inr (7, [.null, .int 0])) [] (fun b => b = [.inr (7, [.ref (l.length + 1), .int 0]), zI 2 1000]) := by
  intro R' k
  refine ⟨Nat.le_refl 1, ?_⟩
  refine nSeq_i (nSuper_i rfl ?_)
  refine nArr_b 0 rfl rfl (by omega) (by omega) rfl ?_
  exact ⟨rfl, Nat.le_of_ble_eq_true rfl, k _ rfl⟩
