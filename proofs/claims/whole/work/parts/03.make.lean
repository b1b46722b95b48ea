/-! The calculus of constructors: a cell that is made takes the next number. -/
set_option maxRecDepth 20000
def gN (g : GT) (N : Nat) : GT := (g.1, g.2.1, g.2.2.1, N, g.2.2.2.2)
abbrev NS : Type := Nat × Nat
abbrev NX : Type := NS → LE → HS → (NS → LE → HS → Prop) → Prop
abbrev KX : Type := Nat → List Value → HS → (HS → Prop) → Prop
/-- private constructors of nest mates that are called -/
def nestW : List Cond := [.methodLinkNest RX11 9 yX7_init RX11, .methodLinkNest RX11 34 yX5_init RX11, .methodLinkNest RX11 51 yX9_init RX11, .methodLinkNest RX0 17 yX1_init RX11]
def NEST (U : State) : Prop := ∀ w ∈ nestW, va_Nw w U
theorem NEST.warm {s U : State} (hW : s.WarmedH U.vm) (h : NEST s) : NEST U := by
  intro w hw
  have h1 := h w hw
  simp only [nestW, List.mem_cons, List.not_mem_nil, or_false] at hw
  rcases hw with rfl | rfl | rfl | rfl
  all_goals exact va_Nw.warmM hW h1
theorem NEST.same {u U : State} (hvm : u.vm = U.vm) (h : NEST u) : NEST U := by
  intro w hw
  have h1 := h w hw
  simp only [nestW, List.mem_cons, List.not_mem_nil, or_false] at hw
  rcases hw with rfl | rfl | rfl | rfl
  all_goals exact va_Nw.same rfl hvm h1
theorem CT_gN {g : GT} {M : MT} {p : Program} {R : Room} {s : State} {m : MethodId} {args : Array Value} {c : Code} {cells slots N : Nat} (h : CT g M p R s m args c cells slots) : CT (gN g N) M p R s m args c cells slots := h
def Nok (g : GT) (M : MT) (cN cS : Nat) (pc pc' : Nat) (f : NX) : Prop := ∀ (p : Program) (e : Env) (R : Room) (s : State) (m : MethodId) (args : Array Value) (below : List Frame) (meth : Method) (c : Code) (Q : State → Prop), (∀ cells slots, cells ≤ R.cells → slots ≤ R.slots → CT g M p R s m args c cells slots) → NEST s → g.2.2.1 ≤ s.heap.size → meth.name = "<init>" → g.2.2.1 + cN ≤ s.heap.size + R.cells → cS ≤ R.slots → ∀ (cells slots N : Nat) (H : Heap) (locs : List Loc) (ls : Array Slot) (env : LE) (h : HS) (K : NS → LE → HS → Prop), s.heap.size + cells = g.2.2.1 + N → cells ≤ R.cells → slots ≤ R.slots → LR g M.2.2.1 ls env → RH (gN g N) s H locs h → f (N, slots) env h K →
  (∀ (cells' slots' N' : Nat) (H' : Heap) (locs' : List Loc) (ls' : Array Slot) (env' : LE) (h' : HS), s.heap.size + cells' = g.2.2.1 + N' → cells' ≤ R.cells → slots' ≤ R.slots → LR g M.2.2.1 ls' env' → RH (gN g N') s H' locs' h' → K (N', slots') env' h' → W p g.1 e R s m args below meth c H' locs' cells' slots' Q (F0 m pc' ls' [])) → W p g.1 e R s m args below meth c H locs cells slots Q (F0 m pc ls [])
theorem jA_mono {g : GT} {N N' : Nat} (h : N ≤ N') {q : Nat} (hq : jA (gN g N) q) : jA (gN g N') q := ⟨hq.1, Nat.lt_of_lt_of_le hq.2 (Nat.add_le_add_left h _)⟩
theorem va_S.mono {A B : Nat → Prop} {H0 H : Heap} {locs : List Loc} (hAB : ∀ q, A q → B q) (h : va_S A H0 H locs) : va_S B H0 H locs := ⟨h.1, fun q h1 h2 => h.2.1 q h1 (fun z => h2 (hAB q z)), fun l hl => hAB _ (h.2.2 l hl)⟩
theorem cE_gN (g : GT) (N : Nat) : cE (gN g N) = cE g := by
  funext x
  cases x <;> rfl
theorem lvs_gN (g : GT) (N : Nat) : ∀ (env : LE) (i : Nat), lvs (gN g N) i env = lvs g i env
  | [], i => rfl
  | none :: r, i => by simp only [lvs]; exact lvs_gN g N r (i + 1)
  | some v :: r, i => by simp only [lvs]; rw [lvs_gN g N r (i + 1)]; rfl
theorem LR_gN {g : GT} {N nL : Nat} {ls : Array Slot} {env : LE} : LR (gN g N) nL ls env ↔ LR g nL ls env := by
  unfold LR
  rw [lvs_gN]
theorem wsOf_push {g : GT} {N : Nat} {h : HS} {x : va_E} : wsOf (gN g (N + 1)) (va_up h N x) = wsOf (gN g N) h ++ [(g.2.2.1 + N, cE g x)] := by
  show (List.range (N + 1)).map _ = (List.range N).map _ ++ _
  rw [List.range_succ, List.map_append]
  congr 1
  · refine List.map_congr_left fun i hi => ?_
    have : i ≠ N := by have := List.mem_range.mp hi; omega
    simp only [va_up, this, if_false, cE_gN]
    rfl
  · simp only [va_up, if_true, cE_gN, List.map_cons, List.map_nil]
    rfl
theorem Jk_push {g : GT} {N : Nat} {h : HS} {x : va_E} (hJ : Jk (gN g N) h) : Jk (gN g (N + 1)) (va_up h N x) := fun i hi => by
  have hi' : N + 1 ≤ i := hi
  have : i ≠ N := by omega
  simp only [va_up, this, if_false]
  exact hJ i (show N ≤ i by omega)
section MK1
variable {g : GT} {p : Program} {e : Env} {R : Room} {s : State} {m : MethodId} {args : Array Value} {below : List Frame} {meth : Method} {c : Code} {Q : State → Prop} {cells slots N : Nat} {M : MT} {H : Heap} {locs : List Loc} {h : HS}
theorem exact_size {T : State} (hn0 : g.2.2.1 ≤ s.heap.size) (X : Stand p g.1 e R s m args below meth c T locs cells slots) (hT : T.heap = H) (hex : s.heap.size + cells = g.2.2.1 + N) (hH : RH (gN g N) s H locs h) : H.size = g.2.2.1 + N := by
  have h1 := X.heapSize
  rw [hT] at h1
  have h2 : g.2.2.1 + N ≤ H.size := by
    rcases Nat.eq_zero_or_pos cells with hz | hz
    · rw [← hex, hz]; exact hH.2.1.1
    · rcases Nat.eq_zero_or_pos N with hn | hn
      · have := hH.2.1.1; omega
      · have hlt : N - 1 < (gN g N).2.2.2.1 := by show N - 1 < N; omega
        have := (hH.1 (N - 1) _ (wsOf_get hlt)).lt
        have e1 : (gN g N).2.2.1 = g.2.2.1 := rfl
        simp only [e1] at this
        omega
  omega
theorem W_sz {fr : JFrame} (hn0 : g.2.2.1 ≤ s.heap.size) (hex : s.heap.size + cells = g.2.2.1 + N) (hH : RH (gN g N) s H locs h) (kk : H.size = g.2.2.1 + N → W p g.1 e R s m args below meth c H locs cells slots Q fr) : W p g.1 e R s m args below meth c H locs cells slots Q fr := fun T hT X => kk (exact_size hn0 X hT hex hH) T hT X
theorem new_obj {ci index NN : Nat} {C : String} {T : u_T} {tt : Nat → FieldType} {fs : List Value} {pc : Nat} {ls : Array Slot} {rest : List Value} (hC : CT g M p R s m args c cells slots) (hn0 : g.2.2.1 ≤ s.heap.size) (hex : s.heap.size + cells = g.2.2.1 + N) (hH : RH (gN g N) s H locs h) (hc : jcl[ci]? = some (C, T, NN)) (hin : ∀ w ∈ u_ws C T NN, w ∈ WD) (hty : ∀ k, k < NN → parseFieldDescriptor (T k).2.2.1 = some (tt k)) (hcl : Cond.classLink M.1 index C ∈ WD) (hins : Cond.instantiable C NN ∈ WD) (hini : Cond.initialized C ∈ WD) (hfs : ∀ j, j < NN → defaultValue (tt j) = vp_V fs j) (hcv : fs.map (cv g) = fs) (hcells : cells + 1 ≤ R.cells) (hslots : slots + NN ≤ R.slots) (hd : decode M.2.1 pc = .ok (.new index, 3))
    (kk : ∀ H' : Heap, RH (gN g (N + 1)) s H' locs (va_up h N (.inr (ci, fs))) → W p g.1 e R s m args below meth c H' locs (cells + 1) (slots + NN) Q (F0 m (pc + 3) ls (.ref (g.2.2.1 + N) :: rest))) : W p g.1 e R s m args below meth c H locs cells slots Q (F0 m pc ls rest) := by
  refine W_sz hn0 hex hH (fun hsz => ?_)
  have hKn := hC.2.2.2.2.2.1.1 ci _ hc
  refine W.newcK (cC := g.2.2.2.2.1.1 ci) hC.1 hC.2.1 hC.2.2.2.1 (hC.2.2.2.2.1 _ hcl) (hC.2.2.2.2.1 _ hins) (hC.2.2.2.2.1 _ hini) rfl hd hcells hslots hKn.2.1 hsz (fun H1 kC hkC e1 z1 o1 => ?_)
  refine kk H1 ⟨?_, ⟨by have := hH.2.1.1; omega, fun x h1 h2 => ?_, fun l hl => jA_mono (Nat.le_succ N) (hH.2.1.2.2 l hl)⟩, Jk_push hH.2.2⟩
  · rw [wsOf_push]
    refine (hH.1.kept (fun k x hx => o1 x.1 ?_)).app (fun k x hx => ?_)
    · have := (hH.1 k x hx).lt; omega
    · have hz : k < 1 := (List.getElem?_eq_some_iff.mp hx).1
      rw [show k = 0 by omega] at hx
      cases hx
      refine ⟨_, hc, ?_⟩
      have hb := (u_born tt (fun w hw => hC.2.2.2.2.1 w hw) hin hKn hkC e1 hty).to hfs
      show t_OB (g.2.2.1 + N) _ _ _ H1 (vp_V (fs.map (cv g)))
      rw [hcv]
      exact hb
  · have hlt : x < g.2.2.1 + N := Nat.lt_of_lt_of_le h1 (by have := hH.2.1.1; omega)
    rw [o1 x hlt]
    exact hH.2.1.2.1 x h1 (fun z => h2 (jA_mono (Nat.le_succ N) z))
theorem new_arrI {n : Int32} {L pc : Nat} {ls : Array Slot} {rest : List Value} (hC : CT g M p R s m args c cells slots) (hn0 : g.2.2.1 ≤ s.heap.size) (hex : s.heap.size + cells = g.2.2.1 + N) (hH : RH (gN g N) s H locs h) (hac : Cond.arrayClass .int ∈ WD) (hn : ¬ n < 0) (hL : n.toNatClampNeg = L) (hb8 : L * componentBytes .int ≤ 536870912) (hcells : cells + 1 ≤ R.cells) (hslots : slots + L ≤ R.slots) (hd : decode M.2.1 pc = .ok (.newarray .int, 2))
    (kk : ∀ H' : Heap, RH (gN g (N + 1)) s H' locs (va_up h N (.inl (0, L, .inl (fun _ => 0)))) → W p g.1 e R s m args below meth c H' locs (cells + 1) (slots + L) Q (F0 m (pc + 2) ls (.ref (g.2.2.1 + N) :: rest))) : W p g.1 e R s m args below meth c H locs cells slots Q (F0 m pc ls (.int n :: rest)) := by
  refine W_sz hn0 hex hH (fun hsz => ?_)
  refine va_newaK (atype := .int) hC.1 hC.2.1 (hC.2.2.2.2.1 _ hac) rfl hd rfl hn hL hb8 hcells hslots hsz (fun H1 cA e1 z1 o1 hAr hNm => ?_)
  have hcA : cA = g.2.1 0 := by
    have h2 : s.vm.findClass ("[" ++ (FieldType.toString .int)) = some (g.2.1 0) := (hC.2.2.2.2.2.1.2 0 (g.2.1 0, .int) rfl).2
    exact Option.some.inj (hNm.symm.trans h2)
  subst hcA
  refine kk H1 ⟨?_, ⟨by have := hH.2.1.1; omega, fun x h1 h2 => ?_, fun l hl => jA_mono (Nat.le_succ N) (hH.2.1.2.2 l hl)⟩, Jk_push hH.2.2⟩
  · rw [wsOf_push]
    refine (hH.1.kept (fun k x hx => o1 x.1 ?_)).app (fun k x hx => ?_)
    · have := (hH.1 k x hx).lt; omega
    · have hz : k < 1 := (List.getElem?_eq_some_iff.mp hx).1
      rw [show k = 0 by omega] at hx
      cases hx
      show H1[g.2.2.1 + N]? = some (vp_cell _ _)
      rw [e1]
      rfl
  · have hlt : x < g.2.2.1 + N := Nat.lt_of_lt_of_le h1 (by have := hH.2.1.1; omega)
    rw [o1 x hlt]
    exact hH.2.1.2.1 x h1 (fun z => h2 (jA_mono (Nat.le_succ N) z))
theorem new_arrL {n : Int32} {L pc : Nat} {ls : Array Slot} {rest : List Value} (hC : CT g M p R s m args c cells slots) (hn0 : g.2.2.1 ≤ s.heap.size) (hex : s.heap.size + cells = g.2.2.1 + N) (hH : RH (gN g N) s H locs h) (hac : Cond.arrayClass .long ∈ WD) (hn : ¬ n < 0) (hL : n.toNatClampNeg = L) (hb8 : L * componentBytes .long ≤ 536870912) (hcells : cells + 1 ≤ R.cells) (hslots : slots + L ≤ R.slots) (hd : decode M.2.1 pc = .ok (.newarray .long, 2))
    (kk : ∀ H' : Heap, RH (gN g (N + 1)) s H' locs (va_up h N (.inl (1, L, .inr (.inl (fun _ => 0))))) → W p g.1 e R s m args below meth c H' locs (cells + 1) (slots + L) Q (F0 m (pc + 2) ls (.ref (g.2.2.1 + N) :: rest))) : W p g.1 e R s m args below meth c H locs cells slots Q (F0 m pc ls (.int n :: rest)) := by
  refine W_sz hn0 hex hH (fun hsz => ?_)
  refine va_newaK (atype := .long) hC.1 hC.2.1 (hC.2.2.2.2.1 _ hac) rfl hd rfl hn hL hb8 hcells hslots hsz (fun H1 cA e1 z1 o1 hAr hNm => ?_)
  have hcA : cA = g.2.1 1 := by
    have h2 : s.vm.findClass ("[" ++ (FieldType.toString .long)) = some (g.2.1 1) := (hC.2.2.2.2.2.1.2 1 (g.2.1 1, .long) rfl).2
    exact Option.some.inj (hNm.symm.trans h2)
  subst hcA
  refine kk H1 ⟨?_, ⟨by have := hH.2.1.1; omega, fun x h1 h2 => ?_, fun l hl => jA_mono (Nat.le_succ N) (hH.2.1.2.2 l hl)⟩, Jk_push hH.2.2⟩
  · rw [wsOf_push]
    refine (hH.1.kept (fun k x hx => o1 x.1 ?_)).app (fun k x hx => ?_)
    · have := (hH.1 k x hx).lt; omega
    · have hz : k < 1 := (List.getElem?_eq_some_iff.mp hx).1
      rw [show k = 0 by omega] at hx
      cases hx
      show H1[g.2.2.1 + N]? = some (vp_cell _ _)
      rw [e1]
      rfl
  · have hlt : x < g.2.2.1 + N := Nat.lt_of_lt_of_le h1 (by have := hH.2.1.1; omega)
    rw [o1 x hlt]
    exact hH.2.1.2.1 x h1 (fun z => h2 (jA_mono (Nat.le_succ N) z))
theorem new_arrB {n : Int32} {L pc : Nat} {ls : Array Slot} {rest : List Value} (hC : CT g M p R s m args c cells slots) (hn0 : g.2.2.1 ≤ s.heap.size) (hex : s.heap.size + cells = g.2.2.1 + N) (hH : RH (gN g N) s H locs h) (hac : Cond.arrayClass .byte ∈ WD) (hn : ¬ n < 0) (hL : n.toNatClampNeg = L) (hb8 : L * componentBytes .byte ≤ 536870912) (hcells : cells + 1 ≤ R.cells) (hslots : slots + L ≤ R.slots) (hd : decode M.2.1 pc = .ok (.newarray .byte, 2))
    (kk : ∀ H' : Heap, RH (gN g (N + 1)) s H' locs (va_up h N (.inl (2, L, .inl (fun _ => 0)))) → W p g.1 e R s m args below meth c H' locs (cells + 1) (slots + L) Q (F0 m (pc + 2) ls (.ref (g.2.2.1 + N) :: rest))) : W p g.1 e R s m args below meth c H locs cells slots Q (F0 m pc ls (.int n :: rest)) := by
  refine W_sz hn0 hex hH (fun hsz => ?_)
  refine va_newaK (atype := .byte) hC.1 hC.2.1 (hC.2.2.2.2.1 _ hac) rfl hd rfl hn hL hb8 hcells hslots hsz (fun H1 cA e1 z1 o1 hAr hNm => ?_)
  have hcA : cA = g.2.1 2 := by
    have h2 : s.vm.findClass ("[" ++ (FieldType.toString .byte)) = some (g.2.1 2) := (hC.2.2.2.2.2.1.2 2 (g.2.1 2, .byte) rfl).2
    exact Option.some.inj (hNm.symm.trans h2)
  subst hcA
  refine kk H1 ⟨?_, ⟨by have := hH.2.1.1; omega, fun x h1 h2 => ?_, fun l hl => jA_mono (Nat.le_succ N) (hH.2.1.2.2 l hl)⟩, Jk_push hH.2.2⟩
  · rw [wsOf_push]
    refine (hH.1.kept (fun k x hx => o1 x.1 ?_)).app (fun k x hx => ?_)
    · have := (hH.1 k x hx).lt; omega
    · have hz : k < 1 := (List.getElem?_eq_some_iff.mp hx).1
      rw [show k = 0 by omega] at hx
      cases hx
      show H1[g.2.2.1 + N]? = some (vp_cell _ _)
      rw [e1]
      rfl
  · have hlt : x < g.2.2.1 + N := Nat.lt_of_lt_of_le h1 (by have := hH.2.1.1; omega)
    rw [o1 x hlt]
    exact hH.2.1.2.1 x h1 (fun z => h2 (jA_mono (Nat.le_succ N) z))
theorem new_arrZ {n : Int32} {L pc : Nat} {ls : Array Slot} {rest : List Value} (hC : CT g M p R s m args c cells slots) (hn0 : g.2.2.1 ≤ s.heap.size) (hex : s.heap.size + cells = g.2.2.1 + N) (hH : RH (gN g N) s H locs h) (hac : Cond.arrayClass .boolean ∈ WD) (hn : ¬ n < 0) (hL : n.toNatClampNeg = L) (hb8 : L * componentBytes .boolean ≤ 536870912) (hcells : cells + 1 ≤ R.cells) (hslots : slots + L ≤ R.slots) (hd : decode M.2.1 pc = .ok (.newarray .boolean, 2))
    (kk : ∀ H' : Heap, RH (gN g (N + 1)) s H' locs (va_up h N (.inl (3, L, .inl (fun _ => 0)))) → W p g.1 e R s m args below meth c H' locs (cells + 1) (slots + L) Q (F0 m (pc + 2) ls (.ref (g.2.2.1 + N) :: rest))) : W p g.1 e R s m args below meth c H locs cells slots Q (F0 m pc ls (.int n :: rest)) := by
  refine W_sz hn0 hex hH (fun hsz => ?_)
  refine va_newaK (atype := .boolean) hC.1 hC.2.1 (hC.2.2.2.2.1 _ hac) rfl hd rfl hn hL hb8 hcells hslots hsz (fun H1 cA e1 z1 o1 hAr hNm => ?_)
  have hcA : cA = g.2.1 3 := by
    have h2 : s.vm.findClass ("[" ++ (FieldType.toString .boolean)) = some (g.2.1 3) := (hC.2.2.2.2.2.1.2 3 (g.2.1 3, .boolean) rfl).2
    exact Option.some.inj (hNm.symm.trans h2)
  subst hcA
  refine kk H1 ⟨?_, ⟨by have := hH.2.1.1; omega, fun x h1 h2 => ?_, fun l hl => jA_mono (Nat.le_succ N) (hH.2.1.2.2 l hl)⟩, Jk_push hH.2.2⟩
  · rw [wsOf_push]
    refine (hH.1.kept (fun k x hx => o1 x.1 ?_)).app (fun k x hx => ?_)
    · have := (hH.1 k x hx).lt; omega
    · have hz : k < 1 := (List.getElem?_eq_some_iff.mp hx).1
      rw [show k = 0 by omega] at hx
      cases hx
      show H1[g.2.2.1 + N]? = some (vp_cell _ _)
      rw [e1]
      rfl
  · have hlt : x < g.2.2.1 + N := Nat.lt_of_lt_of_le h1 (by have := hH.2.1.1; omega)
    rw [o1 x hlt]
    exact hH.2.1.2.1 x h1 (fun z => h2 (jA_mono (Nat.le_succ N) z))
/-- a final field of the object that is being made -/
theorem put_fin {ci index NN j a : Nat} {C : String} {T : u_T} {tt : Nat → FieldType} {fs : List Value} {v : Value} {pc : Nat} {ls : Array Slot} {rest : List Value} (hC : CT g M p R s m args c cells slots) (hnm0 : meth.name = "<init>") (hH : RH (gN g N) s H locs h) (hc : jcl[ci]? = some (C, T, NN)) (hin : ∀ w ∈ u_ws C T NN, w ∈ WD) (hty : ∀ k, k < NN → parseFieldDescriptor (T k).2.2.1 = some (tt k)) (hnm : ∀ a, a < NN → ∀ b, b < NN → a ≠ b → (T a).2.1 ≠ (T b).2.1) (hk : j < NN) (hl : Cond.fieldLink M.1 index (T j).1 (T j).2.1 (T j).2.2.1 ∈ WD) (hdecl : (T j).1 = M.1) (hnar : narrow (tt j) (cv g v) = cv g v) (hfit : fits (tt j) (cv g v) = true) (ha : h a = .inr (ci, fs)) (hlen : j < fs.length) (hd : decode M.2.1 pc = .ok (.putfield index, 3))
    (kk : ∀ (H' : Heap) (locs' : List Loc), RH (gN g N) s H' locs' (va_up h a (.inr (ci, fs.set j v))) → W p g.1 e R s m args below meth c H' locs' cells slots Q (F0 m (pc + 3) ls rest)) : W p g.1 e R s m args below meth c H locs cells slots Q (F0 m pc ls (cv g v :: .ref (g.2.2.1 + a) :: rest)) := by
  have hlt : a < (gN g N).2.2.2.1 := Jk_lt hH.2.2 (o := a) (by rw [ha]; intro z; cases z; exact jcl_ci hc rfl)
  have hg := wsOf_get (g := gN g N) (h := h) hlt
  rw [ha] at hg
  have key : ∀ (H3 : Heap) (l3 : List Loc), va_P g.2.2.2.2.1 jcl ((wsOf (gN g N) h).set a (g.2.2.1 + a, .inr (ci, (fs.map (cv g)).set j (cv g v)))) H3 → va_S (jA (gN g N)) s.heap H3 l3 → W p g.1 e R s m args below meth c H3 l3 cells slots Q (F0 m (pc + 3) ls rest) := fun H3 l3 hP3 hS3 => kk H3 l3 ⟨by
      have e := wsOf_set (g := gN g N) (h := h) (.inr (ci, fs.set j v)) hlt
      have e2 : cE (gN g N) (.inr (ci, fs.set j v)) = .inr (ci, (fs.map (cv g)).set j (cv g v)) := by
        show Sum.inr (ci, (fs.set j v).map (cv g)) = _
        rw [List.map_set]
      rw [e2] at e
      show va_P g.2.2.2.2.1 jcl _ H3
      rw [← e]; exact hP3, hS3, Jk_up hH.2.2 hlt⟩
  cases hfin : (T j).2.2.2 with
  | true => exact va_putF hC.1 hC.2.1 hC.2.2.2.2.1 hin tt hty hnm hC.2.2.2.1 hC.2.2.2.2.2.1 hH.1 (wsOf_D (gN g N) h) hH.2.1 a hg hc j hk (hC.2.2.2.2.1 _ hl) (fun _ q => q) hfin hnm0 hdecl (hty j hk) hnar hfit (by rw [List.length_map]; exact hlen) hd (fun H3 l3 hP3 _ hS3 => key H3 l3 hP3 hS3)
  | false => exact va_put hC.1 hC.2.1 hC.2.2.2.2.1 hin tt hty hnm hC.2.2.2.1 hC.2.2.2.2.2.1 hH.1 (wsOf_D (gN g N) h) hH.2.1 a hg hc j hk (hC.2.2.2.2.1 _ hl) (fun _ q => q) hfin (hty j hk) hnar hfit (by rw [List.length_map]; exact hlen) hd (fun H3 l3 hP3 _ hS3 => key H3 l3 hP3 hS3)
/-- a constructor's room and contract -/
def rmn (k mc ms : Nat) : Room := { frames := k, cells := mc, slots := ms, locals := 48 * k }
def Pcn (g : GT) (N : Nat) (as : List Value) (h : HS) : Array Value → State → Prop := va_Pc (as.map (cv g)) (fun U => U.heap.size = g.2.2.1 + N ∧ va_P g.2.2.2.2.1 jcl (wsOf (gN g N) h) U.heap ∧ va_K g.2.2.2.2.1 jcl (jtys g) U ∧ RES g U U.heap ∧ NEST U)
def Qcn (g : GT) (N : Nat) (Rp : HS → Prop) : Array Value → State → Outcome → State → Prop := fun _ st o t => (∃ h' : HS, o = .returned none ∧ Rp h' ∧ va_P g.2.2.2.2.1 jcl (wsOf (gN g N) h') t.heap ∧ Jk (gN g N) h') ∧ va_F (jA (gN g N)) st t
def KK (g : GT) (k : Nat) (y : MethodName) (bytes : ByteArray) (maxL mc ms : Nat) (F : KX) : Prop :=
  ∀ (N : Nat) (as : List Value) (h : HS) (Rp : HS → Prop), Jk (gN g N) h → F N as h Rp → Met g.1 y (.code y bytes maxL none :: WD) (rmn k mc ms) (Pcn g N as h) (Qcn g (N + mc) Rp) mc ms (jA (gN g (N + mc)))
theorem Pcn_blind {N : Nat} {as : List Value} : FrameBlind (Pcn g N as h) := fun a U fr mk q => by
  obtain ⟨q0, qz, q1, q2, q3, q4⟩ := q
  exact ⟨q0, qz, q1, va_K.moved (u := U) (U := U.calling fr mk a) (Vm.Alike.refl U.vm) q2, RES.kept (u := U) (U := U.calling fr mk a) (Vm.Alike.refl U.vm) q3 (Nat.le_refl _) (fun _ _ _ => rfl), NEST.same (u := U) (U := U.calling fr mk a) rfl q4⟩
theorem CT_cells {cells' slots' : Nat} (hC : CT g M p R s m args c cells slots) (h1 : cells' ≤ R.cells) (h2 : slots' ≤ R.slots) : CT g M p R s m args c cells' slots' := ⟨hC.1, hC.2.1, hC.2.2.1, hC.2.2.2.1, hC.2.2.2.2.1, hC.2.2.2.2.2.1, hC.2.2.2.2.2.2.1, hC.2.2.2.2.2.2.2.1, hC.2.2.2.2.2.2.2.2.1, h1, h2⟩
/-- a constructor is called: the words by either link -/
def iok (own : String) (idx : Nat) (y : MethodName) (bytes : ByteArray) (maxL : Nat) : Prop := (Cond.methodLink own idx y ∈ WD ∨ ∃ host, Cond.methodLinkNest own idx y host ∈ nestW) ∧ Cond.instanceMethod y ∈ WD ∧ Cond.initialized y.cls ∈ WD ∧ Cond.code y bytes maxL none ∈ WD
theorem run_i {k maxL mc ms n idx pc : Nat} {y : MethodName} {bytes : ByteArray} {F : KX} {ls : Array Slot} {rest vs : List Value} {a : Nat} {Rp : HS → Prop} (hC : CT g M p R s m args c cells slots) (hNest : NEST s) (hn0 : g.2.2.1 ≤ s.heap.size) (hex : s.heap.size + cells = g.2.2.1 + N) (hM : KK g k y bytes maxL mc ms F) (hy : y.cls ≠ "java/lang/invoke/MethodHandle" ∧ y.cls ≠ "java/lang/invoke/VarHandle" ∧ (parseMethodDescriptor y.desc).map (fun d => d.parameters.length) = some n) (hname : y.name = "<init>") (hv : iok M.1 idx y bytes maxL) (hk : k + 1 ≤ M.2.2.2.1) (hm : maxL ≤ 29) (hls : ls.size = M.2.2.1) (hH : RH (gN g N) s H locs h) (hw : cats rest ≤ 8) (hn : vs.length = n) (hF : F N (.ref a :: vs) h Rp) (hcells : cells + mc ≤ R.cells) (hslots : slots + ms ≤ R.slots) (hd : decode M.2.1 pc = .ok (.invokespecial idx, 3))
    (kk : ∀ (H' : Heap) (locs' : List Loc) (h' : HS), RH (gN g (N + mc)) s H' locs' h' → Rp h' → W p g.1 e R s m args below meth c H' locs' (cells + mc) (slots + ms) Q (F0 m (pc + 3) ls rest)) : W p g.1 e R s m args below meth c H locs cells slots Q (F0 m pc ls ((vs.map (cv g)).reverse ++ .ref (g.2.2.1 + a) :: rest)) := by
  obtain ⟨hx, hb, hml, hown, hts, hK, hfr, hlo, hres, hce, hsl⟩ := hC
  have hMet := hM N _ h Rp hH.2.2 hF
  have hfr' : (rmn k mc ms).frames + 1 ≤ R.frames ∧ 8 + (maxL + 11) + (rmn k mc ms).locals ≤ R.locals := by
    refine ⟨Nat.le_trans hk hfr, Nat.le_trans ?_ hlo⟩
    show 8 + (maxL + 11) + 48 * k ≤ 48 * M.2.2.2.1
    omega
  have hn' : (vs.map (cv g)).length = n := by simpa using hn
  have hgood : GoodIn WD (.code y bytes maxL none :: WD) := goodIn_WD (fun w hw => by rcases List.mem_cons.mp hw with rfl | hw
                                                                                      · exact hv.2.2.2
                                                                                      · exact hw)
  refine W_sz hn0 hex hH (fun hsz => ?_)
  have hpre : PreS s H (Pcn g N (.ref a :: vs) h) (.ref (g.2.2.1 + a) :: vs.map (cv g)) := ⟨Pcn_blind, fun U hU hW => ⟨rfl, by rw [hU]; exact hsz, by rw [hU]; exact hH.1, va_K.moved hW.alike hK, by rw [hU]; exact RES.kept (g := gN g N) hW.alike hres hH.2.1.1 (fun q h1 h2 => hH.2.1.2.1 q h1 h2), NEST.warm hW hNest⟩⟩
  have hrun : va_Run p g.1 e R s m args below meth c H locs cells slots mc ms (F0 m pc ls ((vs.map (cv g)).reverse ++ .ref (g.2.2.1 + a) :: rest)) rest (Qcn g (N + mc) Rp (Value.ref (g.2.2.1 + a) :: vs.map (cv g)).toArray) (jA (gN g (N + mc))) := by
    rcases hv.1 with hl | ⟨host, hl⟩
    · exact va_runI (As := vs.map (cv g)) ⟨hx, hb, hml, hown, hts⟩ hMet (cwI n hts hgood rfl rfl rfl (hts _ hv.2.2.1) (hts _ hl) (hts _ hv.2.1) hname hy hfr') hpre rfl hn' hls rfl (lv_room hw) hd ⟨hcells, hslots⟩
    · exact va_runIN (As := vs.map (cv g)) ⟨hx, hb, hml, hown, hts⟩ hMet ⟨va_cnB (host := host) n hts hgood rfl rfl rfl (hNest _ hl) (hts _ hv.2.2.1) hy hfr', hname, hts _ hv.2.1⟩ hpre rfl hn' hls rfl (lv_room hw) hd ⟨hcells, hslots⟩
  intro T hT X
  obtain ⟨v, st₀, t, T', L, h0, X', hL, e1, e2, ⟨⟨h', hvv, hp, hb', hj⟩, hz, hk'⟩, st⟩ := hrun T hT X
  cases hvv
  rw [h0] at hz hk'
  obtain ⟨t2, a1, b1⟩ := kk T'.heap (locs ++ L) h' ⟨by rw [e1]; exact hb', ⟨Nat.le_trans hH.2.1.1 (by rw [e1]; exact hz), fun q h1 h2 => by rw [e1, hk' q (Nat.lt_of_lt_of_le h1 hH.2.1.1) h2]; exact hH.2.1.2.1 q h1 (fun z => h2 (jA_mono (Nat.le_add_right N mc) z)), fun q hq => by
      rcases List.mem_append.mp hq with z | z
      · exact jA_mono (Nat.le_add_right N mc) (hH.2.1.2.2 q z)
      · exact hL q z⟩, hj⟩ hp T' rfl X'
  exact ⟨t2, st t2 a1, b1⟩
end MK1
section NST
variable {g : GT} {M : MT} {cN cS w wa wb pc pc0 pc1 pc2 pc3 : Nat}
def nSeq (a b : NX) : NX := fun n env h K => a n env h (fun n1 e1 h1 => b n1 e1 h1 K)
/-- a statement that makes nothing -/
def nStmt (f : SX) : NX := fun n env h K => f env h (fun e1 h1 => K n e1 h1) (fun _ _ => False) (fun _ _ => False) (fun _ _ => False)
def nSuper : NX := fun n env h K => match env[(0 : Nat)]? with
  | some (some (.ref _)) => K n env h
  | _ => False
def nArr (cN cS ci j t : Nat) (L : Nat) (x : vp_A) : NX := fun n env h K => match env[(0 : Nat)]? with
  | some (some (.ref a)) => n.1 + 1 ≤ cN ∧ n.2 + L ≤ cS ∧ (match (va_up h n.1 (.inl (t, x))) a with
    | .inr (c, fs) => c = ci ∧ j < fs.length ∧ K (n.1 + 1, n.2 + L) env (va_up (va_up h n.1 (.inl (t, x))) a (.inr (ci, fs.set j (.ref n.1))))
    | .inl _ => False)
  | _ => False
def nPutR (ci j i : Nat) : NX := fun n env h K => match env[(0 : Nat)]?, env[i]? with
  | some (some (.ref a)), some (some (.ref b)) => (match h a with
    | .inr (c, fs) => c = ci ∧ j < fs.length ∧ K n env (va_up h a (.inr (ci, fs.set j (.ref b))))
    | .inl _ => False)
  | _, _ => False
/-- this.f = new C(..): the class, its fresh fields, the arguments, the constructor -/
def nObj (cN cS ci j ci2 NN mc ms : Nat) (fs2 : List Value) (as : EA) (F : KX) : NX := fun n env h K => match env[(0 : Nat)]? with
  | some (some (.ref a)) => n.1 + 1 + mc ≤ cN ∧ n.2 + NN + ms ≤ cS ∧ as env (va_up h n.1 (.inr (ci2, fs2))) (fun vs h1 => F (n.1 + 1) (.ref n.1 :: vs) h1 (fun h2 => match h2 a with
    | .inr (c, fs) => c = ci ∧ j < fs.length ∧ K (n.1 + 1 + mc, n.2 + NN + ms) env (va_up h2 a (.inr (ci, fs.set j (.ref n.1))))
    | .inl _ => False))
  | _ => False
def nId : NX := fun n env h K => K n env h
theorem Nok.seq {a b : NX} (ha : Nok g M cN cS pc pc1 a) (hb : Nok g M cN cS pc1 pc2 b) : Nok g M cN cS pc pc2 (nSeq a b) := by
  intro p e R s m args below meth c Q hCC hNe hn0 hini0 hcN hcS cells slots N H locs ls env h K hex hcl hsl hL hH hf kk
  exact ha p e R s m args below meth c Q hCC hNe hn0 hini0 hcN hcS cells slots N H locs ls env h _ hex hcl hsl hL hH hf (fun c1 s1 N1 H1 l1 ls1 e1 h1 q0 q1 q2 q3 q4 q5 => hb p e R s m args below meth c Q hCC hNe hn0 hini0 hcN hcS c1 s1 N1 H1 l1 ls1 e1 h1 K q0 q1 q2 q3 q4 q5 kk)
theorem Nok.stmt {f : SX} (hs : ∀ g' : GT, Sok g' M pc pc1 0 0 f) : Nok g M cN cS pc pc1 (nStmt f) := by
  intro p e R s m args below meth c Q hCC hNe hn0 hini0 hcN hcS cells slots N H locs ls env h K hex hcl hsl hL hH hf kk
  refine hs (gN g N) p e R s m args below meth c cells slots Q (hCC _ _ hcl hsl) (fun _ _ => False) (fun _ _ _ _ _ _ _ z => z.elim) H locs ls env h _ _ _ (LR_gN.mpr hL) hH hf (fun H1 l1 ls1 e1 h1 q1 q2 q3 => kk cells slots N H1 l1 ls1 e1 h1 hex hcl hsl (LR_gN.mp q1) q2 q3) (fun _ _ _ _ _ _ _ z => z.elim) (fun _ _ _ _ _ _ _ z => z.elim)
theorem Nok.super {idx : Nat} (h1 : Cond.methodLink M.1 idx objectInit ∈ WD) (h2 : Cond.instanceMethod objectInit ∈ WD) (h3 : Cond.code objectInit ⟨#[0xb1]⟩ 1 none ∈ WD) (hfr : 1 ≤ M.2.2.2.1) (hd0 : decode M.2.1 pc = .ok (.aload_n 0, 1)) (hd : decode M.2.1 (pc + 1) = .ok (.invokespecial idx, 3)) : Nok g M cN cS pc (pc + 4) nSuper := by
  intro p e R s m args below meth c Q hCC hNe hn0 hini0 hcN hcS cells slots N H locs ls env h K hex hcl hsl hL hH hf kk
  have hC := hCC _ _ hcl hsl
  unfold nSuper at hf
  split at hf
  · rename_i a ha
    refine lv_aload_n hC.1 hC.2.1 hd0 rfl (LR_get hL ha) ?_
    refine W.objInit hC.1 hC.2.1 hC.2.2.2.1 (hC.2.2.2.2.1 _ h1) (hC.2.2.2.2.1 _ h2) (hC.2.2.2.2.1 _ h3) rfl (hL.1.trans hC.2.2.1.symm) rfl hd (Nat.le_trans hfr hC.2.2.2.2.2.2.1) (by have := hC.2.2.2.2.2.2.2.1; show 2 * 0 + 0 + 12 ≤ R.locals; omega) ?_
    exact kk cells slots N H locs ls env h hex hcl hsl hL hH hf
  · exact hf.elim
theorem Nok.putR {ci j i NN index : Nat} {C : String} {T : u_T} {tt : Nat → FieldType} (hc : jcl[ci]? = some (C, T, NN)) (hin : ∀ w ∈ u_ws C T NN, w ∈ WD) (hty : ∀ k, k < NN → parseFieldDescriptor (T k).2.2.1 = some (tt k)) (hnm : ∀ a, a < NN → ∀ b, b < NN → a ≠ b → (T a).2.1 ≠ (T b).2.1) (hk : j < NN) (hl : Cond.fieldLink M.1 index (T j).1 (T j).2.1 (T j).2.2.1 ∈ WD) (hdecl : (T j).1 = M.1) (hnar : ∀ q : Nat, narrow (tt j) (.ref q) = .ref q) (hfit : ∀ q : Nat, fits (tt j) (.ref q) = true) {i4 : Fin 4} (hi4 : i4.val = i) (hd0 : decode M.2.1 pc = .ok (.aload_n 0, 1)) (hd1 : decode M.2.1 (pc + 1) = .ok (.aload_n i4, 1)) (hd : decode M.2.1 (pc + 2) = .ok (.putfield index, 3)) : Nok g M cN cS pc (pc + 5) (nPutR ci j i) := by
  intro p e R s m args below meth c Q hCC hNe hn0 hini0 hcN hcS cells slots N H locs ls env h K hex hcl hsl hL hH hf kk
  have hC := hCC _ _ hcl hsl
  subst hi4
  unfold nPutR at hf
  split at hf
  · rename_i a b ha hb
    split at hf
    · rename_i c' fs hcell
      obtain ⟨rfl, hlen, hf⟩ := hf
      refine lv_aload_n hC.1 hC.2.1 hd0 rfl (LR_get hL ha) ?_
      refine lv_aload_n hC.1 hC.2.1 hd1 rfl (LR_get hL hb) ?_
      exact put_fin (v := .ref b) hC hini0 hH hc hin hty hnm hk hl hdecl (hnar _) (hfit _) hcell hlen hd (fun H1 l1 hH1 => kk cells slots N H1 l1 ls env _ hex hcl hsl hL hH1 hf)
    · exact hf.elim
  · exact hf.elim
theorem Nok.obj {ci j NN index ci2 NN2 mc ms k maxL idx2 idxc n : Nat} {C C2 : String} {T T2 : u_T} {tt tt2 : Nat → FieldType} {fs2 : List Value} {as : EA} {y : MethodName} {bytes : ByteArray} {F : KX} (hc : jcl[ci]? = some (C, T, NN)) (hin : ∀ w ∈ u_ws C T NN, w ∈ WD) (hty : ∀ k, k < NN → parseFieldDescriptor (T k).2.2.1 = some (tt k)) (hnm : ∀ a, a < NN → ∀ b, b < NN → a ≠ b → (T a).2.1 ≠ (T b).2.1) (hk : j < NN) (hl : Cond.fieldLink M.1 index (T j).1 (T j).2.1 (T j).2.2.1 ∈ WD) (hdecl : (T j).1 = M.1) (hnar : ∀ q : Nat, narrow (tt j) (.ref q) = .ref q) (hfit : ∀ q : Nat, fits (tt j) (.ref q) = true)
    (hc2 : jcl[ci2]? = some (C2, T2, NN2)) (hin2 : ∀ w ∈ u_ws C2 T2 NN2, w ∈ WD) (hty2 : ∀ k, k < NN2 → parseFieldDescriptor (T2 k).2.2.1 = some (tt2 k)) (hcl2 : Cond.classLink M.1 idxc C2 ∈ WD) (hins2 : Cond.instantiable C2 NN2 ∈ WD) (hini2 : Cond.initialized C2 ∈ WD) (hfs2 : ∀ j, j < NN2 → defaultValue (tt2 j) = vp_V fs2 j) (hcv2 : ∀ g : GT, fs2.map (cv g) = fs2)
    (hM : KK g k y bytes maxL mc ms F) (hy : y.cls ≠ "java/lang/invoke/MethodHandle" ∧ y.cls ≠ "java/lang/invoke/VarHandle" ∧ (parseMethodDescriptor y.desc).map (fun d => d.parameters.length) = some n) (hname : y.name = "<init>") (hv : iok M.1 idx2 y bytes maxL) (hkk : k + 1 ≤ M.2.2.2.1) (hm : maxL ≤ 29)
    (hd0 : decode M.2.1 pc = .ok (.aload_n 0, 1)) (hd1 : decode M.2.1 (pc + 1) = .ok (.new idxc, 3)) (hd2 : decode M.2.1 (pc + 4) = .ok (.dup, 1)) (has : ∀ g' : GT, Aok g' M wa n (pc + 5) pc1 as) (hwa : wa ≤ 5) (hd3 : decode M.2.1 pc1 = .ok (.invokespecial idx2, 3)) (hd : decode M.2.1 (pc1 + 3) = .ok (.putfield index, 3)) : Nok g M cN cS pc (pc1 + 6) (nObj cN cS ci j ci2 NN2 mc ms fs2 as F) := by
  intro p e R s m args below meth c Q hCC hNe hn0 hini0 hcN hcS cells slots N H locs ls env h K hex hcl hsl hL hH hf kk
  have hC := hCC _ _ hcl hsl
  unfold nObj at hf
  split at hf
  · rename_i a ha
    obtain ⟨hb1, hb2, hf⟩ := hf
    dsimp only at hb1 hb2 hf
    refine lv_aload_n hC.1 hC.2.1 hd0 rfl (LR_get hL ha) ?_
    refine new_obj hC hn0 hex hH hc2 hin2 hty2 hcl2 hins2 hini2 hfs2 (hcv2 g) (by omega) (by omega) hd1 (fun H1 hH1 => ?_)
    have hC1 : CT g M p R s m args c (cells + 1) (slots + NN2) := hCC _ _ (by omega) (by omega)
    refine lv_dup hC.1 hC.2.1 hd2 rfl ?_
    refine has (gN g (N + 1)) p e R s m args below meth c (cells + 1) (slots + NN2) Q hC1 H1 locs ls env _ [.ref (g.2.2.1 + N), .ref (g.2.2.1 + N), cv g (.ref a)] _ (LR_gN.mpr hL) hH1 (by simp [cats, Value.category, cv]; omega) hf (fun vs H2 l2 h2 hH2 hn hf2 => ?_)
    refine run_i (g := g) (N := N + 1) (a := N) hC1 hNe hn0 (by omega) hM hy hname hv hkk hm hL.1 hH2 (by simp [cats, Value.category, cv]) hn hf2 (by omega) (by omega) hd3 (fun H3 l3 h3 hH3 hf3 => ?_)
    split at hf3
    · rename_i c' fs hcell
      obtain ⟨rfl, hlen, hf3⟩ := hf3
      have hC3 : CT g M p R s m args c (cells + 1 + mc) (slots + NN2 + ms) := hCC _ _ (by omega) (by omega)
      exact put_fin (v := .ref N) hC3 hini0 hH3 hc hin hty hnm hk hl hdecl (hnar _) (hfit _) hcell hlen hd (fun H4 l4 hH4 => kk (cells + 1 + mc) (slots + NN2 + ms) (N + 1 + mc) H4 l4 ls env _ (by omega) (by omega) (by omega) hL hH4 hf3)
    · exact hf3.elim
  · exact hf.elim
theorem Nok.arrI {ci j NN index L : Nat} {C : String} {T : u_T} {tt : Nat → FieldType} {n : Int32} (hc : jcl[ci]? = some (C, T, NN)) (hin : ∀ w ∈ u_ws C T NN, w ∈ WD) (hty : ∀ k, k < NN → parseFieldDescriptor (T k).2.2.1 = some (tt k)) (hnm : ∀ a, a < NN → ∀ b, b < NN → a ≠ b → (T a).2.1 ≠ (T b).2.1) (hk : j < NN) (hl : Cond.fieldLink M.1 index (T j).1 (T j).2.1 (T j).2.2.1 ∈ WD) (hdecl : (T j).1 = M.1) (hnar : ∀ q : Nat, narrow (tt j) (.ref q) = .ref q) (hfit : ∀ q : Nat, fits (tt j) (.ref q) = true)
    (hac : Cond.arrayClass .int ∈ WD) (hn : ¬ n < 0) (hLn : n.toNatClampNeg = L) (hb8 : L * componentBytes .int ≤ 536870912) (hd0 : decode M.2.1 pc = .ok (.aload_n 0, 1)) (he : ∀ g' : GT, EokI g' M 0 (pc + 1) pc1 (iK n)) (hd1 : decode M.2.1 pc1 = .ok (.newarray .int, 2)) (hd : decode M.2.1 (pc1 + 2) = .ok (.putfield index, 3)) : Nok g M cN cS pc (pc1 + 5) (nArr cN cS ci j 0 L (L, .inl (fun _ => 0))) := by
  intro p e R s m args below meth c Q hCC hNe hn0 hini0 hcN hcS cells slots N H locs ls env h K hex hcl hsl hL hH hf kk
  have hC := hCC _ _ hcl hsl
  unfold nArr at hf
  split at hf
  · rename_i a ha
    obtain ⟨hb1, hb2, hf⟩ := hf
    dsimp only at hb1 hb2 hf
    split at hf
    · rename_i c' fs hcell
      obtain ⟨rfl, hlen, hf⟩ := hf
      refine lv_aload_n hC.1 hC.2.1 hd0 rfl (LR_get hL ha) ?_
      refine he (gN g N) p e R s m args below meth c cells slots Q hC H locs ls env h [cv g (.ref a)] (fun x h1 => x = n ∧ h1 = h) (LR_gN.mpr hL) hH (by simp [cats, Value.category, cv]) ⟨rfl, rfl⟩ (fun x H1 l1 h1 hH1 hx => ?_)
      obtain ⟨rfl, rfl⟩ := hx
      refine new_arrI hC hn0 hex hH1 hac hn hLn hb8 (by omega) (by omega) hd1 (fun H2 hH2 => ?_)
      have hC2 : CT g M p R s m args c (cells + 1) (slots + L) := hCC _ _ (by omega) (by omega)
      exact put_fin (v := .ref N) hC2 hini0 hH2 hc hin hty hnm hk hl hdecl (hnar _) (hfit _) hcell hlen hd (fun H4 l4 hH4 => kk (cells + 1) (slots + L) (N + 1) H4 l4 ls env _ (by omega) (by omega) (by omega) hL hH4 hf)
    · exact hf.elim
  · exact hf.elim
theorem Nok.arrL {ci j NN index L : Nat} {C : String} {T : u_T} {tt : Nat → FieldType} {n : Int32} (hc : jcl[ci]? = some (C, T, NN)) (hin : ∀ w ∈ u_ws C T NN, w ∈ WD) (hty : ∀ k, k < NN → parseFieldDescriptor (T k).2.2.1 = some (tt k)) (hnm : ∀ a, a < NN → ∀ b, b < NN → a ≠ b → (T a).2.1 ≠ (T b).2.1) (hk : j < NN) (hl : Cond.fieldLink M.1 index (T j).1 (T j).2.1 (T j).2.2.1 ∈ WD) (hdecl : (T j).1 = M.1) (hnar : ∀ q : Nat, narrow (tt j) (.ref q) = .ref q) (hfit : ∀ q : Nat, fits (tt j) (.ref q) = true)
    (hac : Cond.arrayClass .long ∈ WD) (hn : ¬ n < 0) (hLn : n.toNatClampNeg = L) (hb8 : L * componentBytes .long ≤ 536870912) (hd0 : decode M.2.1 pc = .ok (.aload_n 0, 1)) (he : ∀ g' : GT, EokI g' M 0 (pc + 1) pc1 (iK n)) (hd1 : decode M.2.1 pc1 = .ok (.newarray .long, 2)) (hd : decode M.2.1 (pc1 + 2) = .ok (.putfield index, 3)) : Nok g M cN cS pc (pc1 + 5) (nArr cN cS ci j 1 L (L, .inr (.inl (fun _ => 0)))) := by
  intro p e R s m args below meth c Q hCC hNe hn0 hini0 hcN hcS cells slots N H locs ls env h K hex hcl hsl hL hH hf kk
  have hC := hCC _ _ hcl hsl
  unfold nArr at hf
  split at hf
  · rename_i a ha
    obtain ⟨hb1, hb2, hf⟩ := hf
    dsimp only at hb1 hb2 hf
    split at hf
    · rename_i c' fs hcell
      obtain ⟨rfl, hlen, hf⟩ := hf
      refine lv_aload_n hC.1 hC.2.1 hd0 rfl (LR_get hL ha) ?_
      refine he (gN g N) p e R s m args below meth c cells slots Q hC H locs ls env h [cv g (.ref a)] (fun x h1 => x = n ∧ h1 = h) (LR_gN.mpr hL) hH (by simp [cats, Value.category, cv]) ⟨rfl, rfl⟩ (fun x H1 l1 h1 hH1 hx => ?_)
      obtain ⟨rfl, rfl⟩ := hx
      refine new_arrL hC hn0 hex hH1 hac hn hLn hb8 (by omega) (by omega) hd1 (fun H2 hH2 => ?_)
      have hC2 : CT g M p R s m args c (cells + 1) (slots + L) := hCC _ _ (by omega) (by omega)
      exact put_fin (v := .ref N) hC2 hini0 hH2 hc hin hty hnm hk hl hdecl (hnar _) (hfit _) hcell hlen hd (fun H4 l4 hH4 => kk (cells + 1) (slots + L) (N + 1) H4 l4 ls env _ (by omega) (by omega) (by omega) hL hH4 hf)
    · exact hf.elim
  · exact hf.elim
theorem Nok.arrB {ci j NN index L : Nat} {C : String} {T : u_T} {tt : Nat → FieldType} {n : Int32} (hc : jcl[ci]? = some (C, T, NN)) (hin : ∀ w ∈ u_ws C T NN, w ∈ WD) (hty : ∀ k, k < NN → parseFieldDescriptor (T k).2.2.1 = some (tt k)) (hnm : ∀ a, a < NN → ∀ b, b < NN → a ≠ b → (T a).2.1 ≠ (T b).2.1) (hk : j < NN) (hl : Cond.fieldLink M.1 index (T j).1 (T j).2.1 (T j).2.2.1 ∈ WD) (hdecl : (T j).1 = M.1) (hnar : ∀ q : Nat, narrow (tt j) (.ref q) = .ref q) (hfit : ∀ q : Nat, fits (tt j) (.ref q) = true)
    (hac : Cond.arrayClass .byte ∈ WD) (hn : ¬ n < 0) (hLn : n.toNatClampNeg = L) (hb8 : L * componentBytes .byte ≤ 536870912) (hd0 : decode M.2.1 pc = .ok (.aload_n 0, 1)) (he : ∀ g' : GT, EokI g' M 0 (pc + 1) pc1 (iK n)) (hd1 : decode M.2.1 pc1 = .ok (.newarray .byte, 2)) (hd : decode M.2.1 (pc1 + 2) = .ok (.putfield index, 3)) : Nok g M cN cS pc (pc1 + 5) (nArr cN cS ci j 2 L (L, .inl (fun _ => 0))) := by
  intro p e R s m args below meth c Q hCC hNe hn0 hini0 hcN hcS cells slots N H locs ls env h K hex hcl hsl hL hH hf kk
  have hC := hCC _ _ hcl hsl
  unfold nArr at hf
  split at hf
  · rename_i a ha
    obtain ⟨hb1, hb2, hf⟩ := hf
    dsimp only at hb1 hb2 hf
    split at hf
    · rename_i c' fs hcell
      obtain ⟨rfl, hlen, hf⟩ := hf
      refine lv_aload_n hC.1 hC.2.1 hd0 rfl (LR_get hL ha) ?_
      refine he (gN g N) p e R s m args below meth c cells slots Q hC H locs ls env h [cv g (.ref a)] (fun x h1 => x = n ∧ h1 = h) (LR_gN.mpr hL) hH (by simp [cats, Value.category, cv]) ⟨rfl, rfl⟩ (fun x H1 l1 h1 hH1 hx => ?_)
      obtain ⟨rfl, rfl⟩ := hx
      refine new_arrB hC hn0 hex hH1 hac hn hLn hb8 (by omega) (by omega) hd1 (fun H2 hH2 => ?_)
      have hC2 : CT g M p R s m args c (cells + 1) (slots + L) := hCC _ _ (by omega) (by omega)
      exact put_fin (v := .ref N) hC2 hini0 hH2 hc hin hty hnm hk hl hdecl (hnar _) (hfit _) hcell hlen hd (fun H4 l4 hH4 => kk (cells + 1) (slots + L) (N + 1) H4 l4 ls env _ (by omega) (by omega) (by omega) hL hH4 hf)
    · exact hf.elim
  · exact hf.elim
theorem Nok.arrZ {ci j NN index L : Nat} {C : String} {T : u_T} {tt : Nat → FieldType} {n : Int32} (hc : jcl[ci]? = some (C, T, NN)) (hin : ∀ w ∈ u_ws C T NN, w ∈ WD) (hty : ∀ k, k < NN → parseFieldDescriptor (T k).2.2.1 = some (tt k)) (hnm : ∀ a, a < NN → ∀ b, b < NN → a ≠ b → (T a).2.1 ≠ (T b).2.1) (hk : j < NN) (hl : Cond.fieldLink M.1 index (T j).1 (T j).2.1 (T j).2.2.1 ∈ WD) (hdecl : (T j).1 = M.1) (hnar : ∀ q : Nat, narrow (tt j) (.ref q) = .ref q) (hfit : ∀ q : Nat, fits (tt j) (.ref q) = true)
    (hac : Cond.arrayClass .boolean ∈ WD) (hn : ¬ n < 0) (hLn : n.toNatClampNeg = L) (hb8 : L * componentBytes .boolean ≤ 536870912) (hd0 : decode M.2.1 pc = .ok (.aload_n 0, 1)) (he : ∀ g' : GT, EokI g' M 0 (pc + 1) pc1 (iK n)) (hd1 : decode M.2.1 pc1 = .ok (.newarray .boolean, 2)) (hd : decode M.2.1 (pc1 + 2) = .ok (.putfield index, 3)) : Nok g M cN cS pc (pc1 + 5) (nArr cN cS ci j 3 L (L, .inl (fun _ => 0))) := by
  intro p e R s m args below meth c Q hCC hNe hn0 hini0 hcN hcS cells slots N H locs ls env h K hex hcl hsl hL hH hf kk
  have hC := hCC _ _ hcl hsl
  unfold nArr at hf
  split at hf
  · rename_i a ha
    obtain ⟨hb1, hb2, hf⟩ := hf
    dsimp only at hb1 hb2 hf
    split at hf
    · rename_i c' fs hcell
      obtain ⟨rfl, hlen, hf⟩ := hf
      refine lv_aload_n hC.1 hC.2.1 hd0 rfl (LR_get hL ha) ?_
      refine he (gN g N) p e R s m args below meth c cells slots Q hC H locs ls env h [cv g (.ref a)] (fun x h1 => x = n ∧ h1 = h) (LR_gN.mpr hL) hH (by simp [cats, Value.category, cv]) ⟨rfl, rfl⟩ (fun x H1 l1 h1 hH1 hx => ?_)
      obtain ⟨rfl, rfl⟩ := hx
      refine new_arrZ hC hn0 hex hH1 hac hn hLn hb8 (by omega) (by omega) hd1 (fun H2 hH2 => ?_)
      have hC2 : CT g M p R s m args c (cells + 1) (slots + L) := hCC _ _ (by omega) (by omega)
      exact put_fin (v := .ref N) hC2 hini0 hH2 hc hin hty hnm hk hl hdecl (hnar _) (hfit _) hcell hlen hd (fun H4 l4 hH4 => kk (cells + 1) (slots + L) (N + 1) H4 l4 ls env _ (by omega) (by omega) (by omega) hL hH4 hf)
    · exact hf.elim
  · exact hf.elim
/-- an array's written contents, over longs -/
def Lk (g : GT) (M : MT) (pc pc' : Nat) (u : (Nat → Int64) → (Nat → Int64)) : Prop := ∀ (p : Program) (e : Env) (R : Room) (s : State) (m : MethodId) (args : Array Value) (below : List Frame) (meth : Method) (c : Code) (Q : State → Prop) (cells slots N : Nat), CT g M p R s m args c cells slots → ∀ (H : Heap) (locs : List Loc) (ls : Array Slot) (env : LE) (h : HS) (rest : List Value) (a L : Nat) (f : Nat → Int64), LR g M.2.2.1 ls env → cats rest ≤ 2 → RH (gN g N) s H locs h → L = 19 → h a = .inl (1, L, .inr (.inl f)) → (∀ (H' : Heap) (locs' : List Loc), RH (gN g N) s H' locs' (va_up h a (.inl (1, L, .inr (.inl (u f))))) → W p g.1 e R s m args below meth c H' locs' cells slots Q (F0 m pc' ls (.ref (g.2.2.1 + a) :: rest))) → W p g.1 e R s m args below meth c H locs cells slots Q (F0 m pc ls (.ref (g.2.2.1 + a) :: rest))
theorem va_up_up {h : HS} {a : Nat} {x y : va_E} : va_up (va_up h a x) a y = va_up h a y := by
  funext i
  simp only [va_up]
  split <;> rfl
theorem Lk.seq {u v : (Nat → Int64) → (Nat → Int64)} (ha : Lk g M pc pc1 u) (hb : Lk g M pc1 pc2 v) : Lk g M pc pc2 (fun f => v (u f)) := by
  intro p e R s m args below meth c Q cells slots N hC H locs ls env h rest a L f hLR hrest hH hL ha0 kk
  refine ha p e R s m args below meth c Q cells slots N hC H locs ls env h rest a L f hLR hrest hH hL ha0 (fun H1 l1 hH1 => ?_)
  refine hb p e R s m args below meth c Q cells slots N hC H1 l1 ls env _ rest a L (u f) hLR hrest hH1 hL (by simp [va_up]) (fun H2 l2 hH2 => ?_)
  rw [va_up_up] at hH2
  exact kk H2 l2 hH2
theorem Lk.one {i : Nat} {v : Int64} {idx : Nat} {iv : Int32} (hi : i < 19) (hiv : iv = nI i) (hd0 : decode M.2.1 pc = .ok (.dup, 1)) (he : ∀ g' : GT, EokI g' M 0 (pc + 1) pc1 (iK iv)) (hl : ∀ g' : GT, EokL g' M 0 pc1 pc2 (lK v)) (hd1 : decode M.2.1 pc2 = .ok (.lastore, 1)) : Lk g M pc (pc2 + 1) (fun f => vp_updL f i v) := by
  intro p e R s m args below meth c Q cells slots N hC H locs ls env h rest a L f hLR hrest hH hL ha0 kk
  subst hL
  subst hiv
  have h31 : i < 2 ^ 31 := Nat.lt_trans hi (by decide)
  refine lv_dup hC.1 hC.2.1 hd0 rfl ?_
  refine he (gN g N) p e R s m args below meth c cells slots Q hC H locs ls env h (.ref (g.2.2.1 + a) :: .ref (g.2.2.1 + a) :: rest) (fun x h1 => x = nI i ∧ h1 = h) (LR_gN.mpr hLR) hH (by rw [cats_r, cats_r]; omega) ⟨rfl, rfl⟩ (fun x H1 l1 h1 hH1 hx => ?_)
  obtain ⟨rfl, rfl⟩ := hx
  refine hl (gN g N) p e R s m args below meth c cells slots Q hC H1 l1 ls env h1 (.int (nI i) :: .ref (g.2.2.1 + a) :: .ref (g.2.2.1 + a) :: rest) (fun x h2 => x = v ∧ h2 = h1) (LR_gN.mpr hLR) hH1 (by rw [cats_i, cats_r, cats_r]; omega) ⟨rfl, rfl⟩ (fun x H2 l2 h2 hH2 hx => ?_)
  obtain ⟨rfl, rfl⟩ := hx
  have hlt : a < (gN g N).2.2.2.1 := Jk_lt hH2.2.2 (o := a) (by rw [ha0]; intro z; cases z)
  have hg := wsOf_get (g := gN g N) (h := h2) hlt
  rw [ha0] at hg
  refine va_last hC.1 hC.2.1 hC.2.2.2.2.2.1 hH2.1 (wsOf_D (gN g N) h2) hH2.2.1 a 1 hg rfl (vp_in_nI hi (by decide)) hd1 (fun H4 l4 hP4 _ hS4 => kk H4 l4 ⟨?_, hS4, Jk_up hH2.2.2 hlt⟩)
  rw [nI_clamp h31] at hP4
  rw [← wsOf_set _ hlt]
  exact hP4
/-- this.f = a written array of 19 longs -/
def nLit (cN cS ci j : Nat) (u : (Nat → Int64) → (Nat → Int64)) : NX := fun n env h K => match env[(0 : Nat)]? with
  | some (some (.ref a)) => n.1 + 1 ≤ cN ∧ n.2 + 19 ≤ cS ∧ (match (va_up h n.1 (.inl (1, 19, .inr (.inl (u (fun _ => 0)))))) a with
    | .inr (c, fs) => c = ci ∧ j < fs.length ∧ K (n.1 + 1, n.2 + 19) env (va_up (va_up h n.1 (.inl (1, 19, .inr (.inl (u (fun _ => 0)))))) a (.inr (ci, fs.set j (.ref n.1))))
    | .inl _ => False)
  | _ => False
theorem Nok.lit {ci j NN index : Nat} {C : String} {T : u_T} {tt : Nat → FieldType} {u : (Nat → Int64) → (Nat → Int64)} (hc : jcl[ci]? = some (C, T, NN)) (hin : ∀ w ∈ u_ws C T NN, w ∈ WD) (hty : ∀ k, k < NN → parseFieldDescriptor (T k).2.2.1 = some (tt k)) (hnm : ∀ a, a < NN → ∀ b, b < NN → a ≠ b → (T a).2.1 ≠ (T b).2.1) (hk : j < NN) (hl : Cond.fieldLink M.1 index (T j).1 (T j).2.1 (T j).2.2.1 ∈ WD) (hdecl : (T j).1 = M.1) (hnar : ∀ q : Nat, narrow (tt j) (.ref q) = .ref q) (hfit : ∀ q : Nat, fits (tt j) (.ref q) = true)
    (hac : Cond.arrayClass .long ∈ WD) (hd0 : decode M.2.1 pc = .ok (.aload_n 0, 1)) (hdb : decode M.2.1 (pc + 1) = .ok (.bipush 19, 2)) (hd1 : decode M.2.1 (pc + 3) = .ok (.newarray .long, 2)) (hu : Lk g M (pc + 5) pc1 u) (hd : decode M.2.1 pc1 = .ok (.putfield index, 3)) : Nok g M cN cS pc (pc1 + 3) (nLit cN cS ci j u) := by
  intro p e R s m args below meth c Q hCC hNe hn0 hini0 hcN hcS cells slots N H locs ls env h K hex hcl hsl hL hH hf kk
  have hC := hCC _ _ hcl hsl
  unfold nLit at hf
  split at hf
  · rename_i a ha
    obtain ⟨hb1, hb2, hf⟩ := hf
    dsimp only at hb1 hb2 hf
    split at hf
    · rename_i c' fs hcell
      obtain ⟨rfl, hlen, hf⟩ := hf
      refine lv_aload_n hC.1 hC.2.1 hd0 rfl (LR_get hL ha) ?_
      refine lv_bipush (v := 19) hC.1 hC.2.1 hdb (by decide) ?_
      refine new_arrL hC hn0 hex hH hac (by decide) (L := 19) (by decide) (by decide) (by omega) (by omega) hd1 (fun H2 hH2 => ?_)
      have hC2 : CT g M p R s m args c (cells + 1) (slots + 19) := hCC _ _ (by omega) (by omega)
      refine hu p e R s m args below meth c Q (cells + 1) (slots + 19) (N + 1) hC2 H2 locs ls env _ [cv g (.ref a)] N 19 (fun _ => 0) hL (by simp [cats, Value.category, cv]) hH2 rfl (by simp [va_up]) (fun H3 l3 hH3 => ?_)
      rw [va_up_up] at hH3
      exact put_fin (v := .ref N) hC2 hini0 hH3 hc hin hty hnm hk hl hdecl (hnar _) (hfit _) hcell hlen hd (fun H4 l4 hH4 => kk (cells + 1) (slots + 19) (N + 1) H4 l4 ls env _ (by omega) (by omega) (by omega) hL hH4 hf)
    · exact hf.elim
  · exact hf.elim
/-- a constructor's transformer -/
def ctorOf (nL mc ms : Nat) (f : Nat → NX) : KX := fun N as h Rp => (envA as).length ≤ nL ∧ f (N + mc) (N, 0) (env0 nL as) h (fun n _ h' => n.1 = N + mc ∧ n.2 ≤ ms ∧ Rp h')
theorem KK.of {y : MethodName} {k maxL mc ms : Nat} {bytes : ByteArray} {f : Nat → NX} (hy : plainName y.cls = true) (hname : y.name = "<init>") (hf : ∀ cN, Nok g (y.cls, bytes, maxL, k, none) cN ms 0 pc1 (f cN)) (hd : decode bytes pc1 = .ok (.return_, 1)) : KK g k y bytes maxL mc ms (ctorOf maxL mc ms f) := by
  intro N as h Rp hJ hF
  obtain ⟨hlen, hF⟩ := hF
  refine Met.ofW (cc := bytes) (maxL := maxL) (ret := none) hy rfl ?_
  intro p e s m args below meth c s₁ B hml hv
  obtain ⟨rfl, hsz, hP, hK, hres, hNe⟩ := hv
  have hx := B.exec
  have hb := B.bytes
  have hr := B.returns
  have hts := atoms_spec (ws := .code y bytes maxL none :: WD) B.pre
  have hown : s.vm.findClass y.cls = some m.cls := findClass_of_methodNamed B.named
  have hlocks := B.notSynchronized
  have hin : meth.name = "<init>" := by rw [← hname]; exact (name_of_methodNamed B.named B.method).1
  rw [lg_entry_eq]
  have hCC : ∀ cells slots, cells ≤ (rmn k mc ms).cells → slots ≤ (rmn k mc ms).slots → CT g (y.cls, bytes, maxL, k, none) p (rmn k mc ms) s m (as.map (cv g)).toArray c cells slots := fun cells slots h1 h2 => ⟨hx, hb, hml, hown, fun w hw => hts w (List.mem_cons_of_mem _ hw), hK, Nat.le_refl _, Nat.le_refl _, hres, h1, h2⟩
  refine hf (N + mc) p e (rmn k mc ms) s m _ below meth c _ hCC hNe (by omega) hin (by show g.2.2.1 + (N + mc) ≤ s.heap.size + mc; omega) (Nat.le_refl _) 0 0 N s.heap [] _ (env0 maxL as) h _ (by omega) (Nat.zero_le _) (Nat.zero_le _) (LR_entry hlen) ⟨hP, va_S.rf, hJ⟩ hF ?_
  intro cells' slots' N' H' locs' ls' env' h' hex' hc' hs' hL' hH' hK'
  obtain ⟨hN', hS', hRp⟩ := hK'
  dsimp only at hN' hS'
  subst hN'
  have hcm : cells' = mc := by omega
  subst hcm
  refine W.widen (k := cells') (n := ms) (Nat.le_refl _) hS' ?_
  exact W.vret hx hb hr (fun t ht hW => ⟨⟨h', rfl, hRp, by rw [ht]; exact hH'.1, hH'.2.2⟩, hH'.2.1.F ht⟩) hH'.2.1.2.2 hd
end NST
