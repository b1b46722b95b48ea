/-! The calculus: Java's expressions and statements as predicate transformers over abstract cells (a cell has a number; number i stands at address n0 + i), and that the bytecode does what they say (Eok.., Cok, Sok, MK). No invariant stands here: the methods' own parts do with it what they want. -/
set_option maxRecDepth 20000
abbrev HS : Type := Nat → va_E
abbrev LE : Type := List (Option Value)
abbrev EI : Type := LE → HS → (Int32 → HS → Prop) → Prop
abbrev EL : Type := LE → HS → (Int64 → HS → Prop) → Prop
abbrev ER : Type := LE → HS → (Nat → HS → Prop) → Prop
abbrev EA : Type := LE → HS → (List Value → HS → Prop) → Prop
abbrev CX : Type := LE → HS → (Bool → HS → Prop) → Prop
abbrev SX : Type := LE → HS → (LE → HS → Prop) → (LE → HS → Prop) → (LE → HS → Prop) → (Option Value → HS → Prop) → Prop
abbrev MX : Type := List Value → HS → (Option Value → HS → Prop) → Prop
abbrev GT : Type := Launch × (Nat → ClassId) × Nat × Nat × va_G × Nat × Nat × (Nat → Int32)
abbrev MT : Type := String × ByteArray × Nat × Nat × Option FieldType
/-- a value of the calculus at the machine: cell i stands at n0 + i; the return address 0 stands for the law's script -/
def cv (g : GT) (v : Value) : Value := match v with
  | .ref i => .ref (g.2.2.1 + i)
  | .retAddr _ => .ref g.2.2.2.2.2.1
  | v => v
def cE (g : GT) (x : va_E) : va_E := match x with
  | .inl a => .inl (g.2.1 a.1, a.2)
  | .inr o => .inr (o.1, o.2.map (cv g))
def wsOf (g : GT) (h : HS) : va_W := (List.range g.2.2.2.1).map (fun i => (g.2.2.1 + i, cE g (h i)))
def jA (g : GT) : Nat → Prop := fun q => g.2.2.1 ≤ q ∧ q < g.2.2.1 + g.2.2.2.1
def jtys (g : GT) : List (ClassId × FieldType) := [(g.2.1 0, .int), (g.2.1 1, .long), (g.2.1 2, .byte), (g.2.1 3, .boolean)]
/-- the signs of the reserved words, as the class's own table has them -/
def resv (j : Nat) : Int64 := [6845812, 465725121651, 1885434984, 499850634611, 1650553459, 426836652665, 7102841, 6644084, 482854660462, 6909550, 495874041200, 495756340332, 7237492, 6385252, 28530].getD j 0
/-- from n0 on -/
def jB (g : GT) : Nat → Prop := fun q => g.2.2.1 ≤ q
def RES (g : GT) (U : State) (H : Heap) : Prop := (∃ t0 : Nat, va_Z "PassHuts$Tokens" "RESERVED" "[J" (.ref t0) (jB g) U H ∧ va_T .long t0 15 (fun j => .long (resv j)) (jB g) U H) ∧ va_X g.2.2.2.2.2.1 g.2.2.2.2.2.2.1 g.2.2.2.2.2.2.2 U H ∧ g.2.2.2.2.2.1 < H.size ∧ g.2.2.2.2.2.1 < g.2.2.1
def junk : va_E := .inr (99, [])
def Jk (g : GT) (h : HS) : Prop := ∀ i, g.2.2.2.1 ≤ i → h i = junk
def RH (g : GT) (s : State) (H : Heap) (locs : List Loc) (h : HS) : Prop := va_P g.2.2.2.2.1 jcl (wsOf g h) H ∧ va_S (jA g) s.heap H locs ∧ Jk g h
def CT (g : GT) (M : MT) (p : Program) (R : Room) (s : State) (m : MethodId) (args : Array Value) (c : Code) (cells slots : Nat) : Prop :=
  p.tables.exec = Jvm.exec ∧ c.code = M.2.1 ∧ c.maxLocals = M.2.2.1 ∧ s.vm.findClass M.1 = some m.cls ∧ (∀ w ∈ WD, w.before args s = true) ∧ va_K g.2.2.2.2.1 jcl (jtys g) s ∧ M.2.2.2.1 ≤ R.frames ∧ 48 * M.2.2.2.1 ≤ R.locals ∧ RES g s s.heap ∧ cells ≤ R.cells ∧ slots ≤ R.slots
def lvs (g : GT) : Nat → LE → List (Nat × Value)
  | _, [] => []
  | i, none :: r => lvs g (i + 1) r
  | i, some v :: r => (i, cv g v) :: lvs g (i + 1) r
def LR (g : GT) (nL : Nat) (ls : Array Slot) (env : LE) : Prop := lv_has ls nL (lvs g 0 env)
def kill (env : LE) (i : Nat) : LE := match i with
  | 0 => env
  | j + 1 => match env[j]? with
    | some (some w) => if w.category = 2 then env.set j none else env
    | _ => env
def set1 (env : LE) (i : Nat) (v : Value) : LE := (kill env i).set i (some v)
def set2 (env : LE) (i : Nat) (v : Value) : LE := ((kill env i).set i (some v)).set (i + 1) none
theorem cv_cat (g : GT) (v : Value) : (cv g v).category = v.category := by cases v <;> rfl
theorem lvs_mem (g : GT) : ∀ (env : LE) (i : Nat) (q : Nat × Value), q ∈ lvs g i env ↔ ∃ j v, env[j]? = some (some v) ∧ q = (i + j, cv g v)
  | [], i, q => by simp [lvs]
  | none :: r, i, q => by
    rw [lvs, lvs_mem g r (i + 1) q]
    constructor
    · rintro ⟨j, v, h, rfl⟩
      exact ⟨j + 1, v, by simpa using h, by rw [show i + 1 + j = i + (j + 1) by omega]⟩
    · rintro ⟨j, v, h, rfl⟩
      cases j with
      | zero => simp at h
      | succ j => exact ⟨j, v, by simpa using h, by rw [show i + 1 + j = i + (j + 1) by omega]⟩
  | some w :: r, i, q => by
    rw [lvs, List.mem_cons, lvs_mem g r (i + 1) q]
    constructor
    · rintro (rfl | ⟨j, v, h, rfl⟩)
      · exact ⟨0, w, by simp, rfl⟩
      · exact ⟨j + 1, v, by simpa using h, by rw [show i + 1 + j = i + (j + 1) by omega]⟩
    · rintro ⟨j, v, h, rfl⟩
      cases j with
      | zero => simp at h; subst h; exact Or.inl rfl
      | succ j => exact Or.inr ⟨j, v, by simpa using h, by rw [show i + 1 + j = i + (j + 1) by omega]⟩
theorem LR_get {g : GT} {nL : Nat} {ls : Array Slot} {env : LE} (h : LR g nL ls env) {i : Nat} {v : Value} (hi : env[i]? = some (some v)) : ls[i]? = some (.val (cv g v)) := by
  have := h.2.2 (i, cv g v) ((lvs_mem _ env 0 _).mpr ⟨i, v, hi, by simp⟩)
  exact this
theorem kill_get {env : LE} {i j : Nat} {w : Value} (h : (kill env i)[j]? = some (some w)) : env[j]? = some (some w) ∧ ¬ (j + 1 = i ∧ w.category = 2) := by
  unfold kill at h
  split at h
  · exact ⟨h, fun q => by omega⟩
  · rename_i i' 
    split at h
    · rename_i w' hw
      split at h
      · rename_i hc
        by_cases hj : j = i'
        · subst hj
          rw [List.getElem?_set] at h
          split at h
          · split at h <;> simp at h
          · omega
        · rw [List.getElem?_set_ne (Ne.symm hj)] at h
          exact ⟨h, fun q => hj (by omega)⟩
      · rename_i hc
        refine ⟨h, fun q => hc ?_⟩
        have : j = i' := by omega
        subst this
        rw [hw] at h
        cases h
        exact q.2
    · rename_i hne
      refine ⟨h, fun q => ?_⟩
      have : j = i' := by omega
      subst this
      exact hne w h
theorem LR_set1 {g : GT} {nL : Nat} {ls : Array Slot} {env : LE} {i : Nat} {v : Value} (h : lv_has ls nL ((i, cv g v) :: (lvs g 0 env).filter (fun q => !(q.1 == i) && !(q.1 + 1 == i && q.2.category == 2)))) : LR g nL ls (set1 env i v) := by
  refine ⟨h.1, h.2.1, fun q hq => h.2.2 q ?_⟩
  obtain ⟨j, w, hj, rfl⟩ := (lvs_mem _ _ 0 q).mp hq
  rw [Nat.zero_add]
  unfold set1 at hj
  by_cases e : j = i
  · subst e
    rw [List.getElem?_set] at hj
    simp only [if_true] at hj
    split at hj
    · cases hj; exact List.mem_cons_self
    · cases hj
  · rw [List.getElem?_set_ne (Ne.symm e)] at hj
    obtain ⟨h1, h2⟩ := kill_get hj
    refine List.mem_cons_of_mem _ (List.mem_filter.mpr ⟨(lvs_mem _ env 0 _).mpr ⟨j, w, h1, by simp⟩, ?_⟩)
    simp only [cv_cat]
    simp [e]
    exact Classical.not_and_iff_not_or_not.mp h2
theorem LR_set2 {g : GT} {nL : Nat} {ls : Array Slot} {env : LE} {i : Nat} {v : Value} (h : lv_has ls nL ((i, cv g v) :: (lvs g 0 env).filter (fun q => !(q.1 == i) && (!(q.1 == i + 1) && !(q.1 + 1 == i && q.2.category == 2))))) : LR g nL ls (set2 env i v) := by
  refine ⟨h.1, h.2.1, fun q hq => h.2.2 q ?_⟩
  obtain ⟨j, w, hj, rfl⟩ := (lvs_mem _ _ 0 q).mp hq
  rw [Nat.zero_add]
  unfold set2 at hj
  by_cases e1 : j = i + 1
  · subst e1
    rw [List.getElem?_set] at hj
    simp only [if_true] at hj
    split at hj <;> cases hj
  rw [List.getElem?_set_ne (Ne.symm e1)] at hj
  by_cases e : j = i
  · subst e
    rw [List.getElem?_set] at hj
    simp only [if_true] at hj
    split at hj
    · cases hj; exact List.mem_cons_self
    · cases hj
  · rw [List.getElem?_set_ne (Ne.symm e)] at hj
    obtain ⟨h1, h2⟩ := kill_get hj
    refine List.mem_cons_of_mem _ (List.mem_filter.mpr ⟨(lvs_mem _ env 0 _).mpr ⟨j, w, h1, by simp⟩, ?_⟩)
    simp only [cv_cat]
    simp [e, e1]
    exact Classical.not_and_iff_not_or_not.mp h2
theorem LR_forget {g : GT} {nL : Nat} {ls : Array Slot} {env : LE} (k : Nat) (h : LR g nL ls env) : LR g nL ls (env.take k ++ List.replicate (env.length - k) none) := by
  refine ⟨h.1, h.2.1, fun q hq => h.2.2 q ?_⟩
  obtain ⟨j, w, hj, rfl⟩ := (lvs_mem _ _ 0 q).mp hq
  refine (lvs_mem _ env 0 _).mpr ⟨j, w, ?_, rfl⟩
  rw [List.getElem?_append] at hj
  split at hj
  · rw [List.getElem?_take] at hj
    split at hj
    · exact hj
    · cases hj
  · rw [List.getElem?_replicate] at hj
    split at hj <;> cases hj
theorem wsOf_get {g : GT} {h : HS} {o : Nat} (ho : o < g.2.2.2.1) : (wsOf g h)[o]? = some (g.2.2.1 + o, cE g (h o)) := by
  simp [wsOf, ho]
theorem wsOf_set {g : GT} {h : HS} {o : Nat} (c : va_E) (ho : o < g.2.2.2.1) : (wsOf g h).set o (g.2.2.1 + o, cE g c) = wsOf g (va_up h o c) := by
  refine List.ext_getElem? fun i => ?_
  by_cases e : i = o
  · subst e
    rw [List.getElem?_set_self (by simp [wsOf, ho]), wsOf_get ho]
    simp [va_up]
  · rw [List.getElem?_set_ne (Ne.symm e)]
    by_cases hi : i < g.2.2.2.1
    · rw [wsOf_get hi, wsOf_get hi]
      simp [va_up, e]
    · rw [List.getElem?_eq_none (by simp [wsOf]; omega), List.getElem?_eq_none (by simp [wsOf]; omega)]
theorem wsOf_D (g : GT) (h : HS) : va_D (jA g) (wsOf g h) := by
  constructor
  · intro i j p q hp hq e
    have hi : i < g.2.2.2.1 := by
      have := (List.getElem?_eq_some_iff.mp hp).1
      simpa [wsOf] using this
    have hj : j < g.2.2.2.1 := by
      have := (List.getElem?_eq_some_iff.mp hq).1
      simpa [wsOf] using this
    rw [wsOf_get hi] at hp
    rw [wsOf_get hj] at hq
    cases hp; cases hq
    simp at e
    exact e
  · intro i q hq
    have hi : i < g.2.2.2.1 := by
      have := (List.getElem?_eq_some_iff.mp hq).1
      simpa [wsOf] using this
    rw [wsOf_get hi] at hq
    cases hq
    exact ⟨Nat.le_add_right _ _, Nat.add_lt_add_left hi _⟩
theorem Jk_lt {g : GT} {h : HS} (hJ : Jk g h) {o : Nat} (ho : h o ≠ junk) : o < g.2.2.2.1 := by
  rcases Nat.lt_or_ge o g.2.2.2.1 with q | q
  · exact q
  · exact absurd (hJ o q) ho
theorem Jk_up {g : GT} {h : HS} (hJ : Jk g h) {o : Nat} {c : va_E} (ho : o < g.2.2.2.1) : Jk g (va_up h o c) := fun i hi => by
  have : i ≠ o := by omega
  simp [va_up, this, hJ i hi]
theorem jcl_ci {ci : Nat} {r : vw_C} (h : jcl[ci]? = some r) : ci ≠ 99 := by
  have : ci < 13 := (List.getElem?_eq_some_iff.mp h).1
  omega
theorem goodIn_WD {ws : List Cond} (h : ∀ w ∈ ws, w ∈ WD) : GoodIn WD ws := fun w hw => ⟨h w hw, good_of_word (WD_good (h w hw))⟩
/-- the stack's words -/
def cats (st : List Value) : Nat := (st.map fun v => v.category).sum
theorem cats_i (x : Int32) (st : List Value) : cats (.int x :: st) = 1 + cats st := by simp [cats, Value.category]
theorem cats_l (x : Int64) (st : List Value) : cats (.long x :: st) = 2 + cats st := by simp [cats, Value.category]
theorem cats_r (x : Nat) (st : List Value) : cats (.ref x :: st) = 1 + cats st := by simp [cats, Value.category]
theorem RES.kept {g : GT} {u U : State} {H H1 : Heap} (hvm : u.vm.Alike U.vm) (h : RES g u H) (hz : H.size ≤ H1.size) (hq : ∀ a : Nat, a < H.size → ¬ jA g a → H1[a]? = H[a]?) : RES g U H1 := by
  obtain ⟨⟨t0, h1, h2⟩, h3, h4, h5⟩ := h
  have hq' : ∀ a : Nat, a < H.size → ¬ jB g a → H1[a]? = H[a]? := fun a q1 q2 => hq a q1 (fun z => q2 z.1)
  exact ⟨⟨t0, (h1.moved hvm).kept hq', (h2.moved hvm).kept hq'⟩, (h3.moved hvm).kept (hq' _ h4 (Nat.not_le.mpr h5)), Nat.lt_of_lt_of_le h4 hz, h5⟩

def EokI (g : GT) (M : MT) (w pc pc' : Nat) (f : EI) : Prop := ∀ (p : Program) (e : Env) (R : Room) (s : State) (m : MethodId) (args : Array Value) (below : List Frame) (meth : Method) (c : Code) (cells slots : Nat) (Q : State → Prop), CT g M p R s m args c cells slots → ∀ (H : Heap) (locs : List Loc) (ls : Array Slot) (env : LE) (h : HS) (rest : List Value) (k : Int32 → HS → Prop), LR g M.2.2.1 ls env → RH g s H locs h → cats rest + w ≤ 8 → f env h k → (∀ (x : Int32) (H' : Heap) (locs' : List Loc) (h' : HS), RH g s H' locs' h' → k x h' → W p g.1 e R s m args below meth c H' locs' cells slots Q (F0 m pc' ls (.int x :: rest))) → W p g.1 e R s m args below meth c H locs cells slots Q (F0 m pc ls rest)
def EokL (g : GT) (M : MT) (w pc pc' : Nat) (f : EL) : Prop := ∀ (p : Program) (e : Env) (R : Room) (s : State) (m : MethodId) (args : Array Value) (below : List Frame) (meth : Method) (c : Code) (cells slots : Nat) (Q : State → Prop), CT g M p R s m args c cells slots → ∀ (H : Heap) (locs : List Loc) (ls : Array Slot) (env : LE) (h : HS) (rest : List Value) (k : Int64 → HS → Prop), LR g M.2.2.1 ls env → RH g s H locs h → cats rest + w ≤ 8 → f env h k → (∀ (x : Int64) (H' : Heap) (locs' : List Loc) (h' : HS), RH g s H' locs' h' → k x h' → W p g.1 e R s m args below meth c H' locs' cells slots Q (F0 m pc' ls (.long x :: rest))) → W p g.1 e R s m args below meth c H locs cells slots Q (F0 m pc ls rest)
def EokR (g : GT) (M : MT) (w pc pc' : Nat) (f : ER) : Prop := ∀ (p : Program) (e : Env) (R : Room) (s : State) (m : MethodId) (args : Array Value) (below : List Frame) (meth : Method) (c : Code) (cells slots : Nat) (Q : State → Prop), CT g M p R s m args c cells slots → ∀ (H : Heap) (locs : List Loc) (ls : Array Slot) (env : LE) (h : HS) (rest : List Value) (k : Nat → HS → Prop), LR g M.2.2.1 ls env → RH g s H locs h → cats rest + w ≤ 8 → f env h k → (∀ (x : Nat) (H' : Heap) (locs' : List Loc) (h' : HS), RH g s H' locs' h' → k x h' → W p g.1 e R s m args below meth c H' locs' cells slots Q (F0 m pc' ls (.ref (g.2.2.1 + x) :: rest))) → W p g.1 e R s m args below meth c H locs cells slots Q (F0 m pc ls rest)
def Aok (g : GT) (M : MT) (w n pc pc' : Nat) (f : EA) : Prop := ∀ (p : Program) (e : Env) (R : Room) (s : State) (m : MethodId) (args : Array Value) (below : List Frame) (meth : Method) (c : Code) (cells slots : Nat) (Q : State → Prop), CT g M p R s m args c cells slots → ∀ (H : Heap) (locs : List Loc) (ls : Array Slot) (env : LE) (h : HS) (rest : List Value) (k : List Value → HS → Prop), LR g M.2.2.1 ls env → RH g s H locs h → cats rest + w ≤ 8 → f env h k → (∀ (vs : List Value) (H' : Heap) (locs' : List Loc) (h' : HS), RH g s H' locs' h' → vs.length = n → k vs h' → W p g.1 e R s m args below meth c H' locs' cells slots Q (F0 m pc' ls ((vs.map (cv g)).reverse ++ rest))) → W p g.1 e R s m args below meth c H locs cells slots Q (F0 m pc ls rest)
def Cok (g : GT) (M : MT) (w pc pcT pcF : Nat) (f : CX) : Prop := ∀ (p : Program) (e : Env) (R : Room) (s : State) (m : MethodId) (args : Array Value) (below : List Frame) (meth : Method) (c : Code) (cells slots : Nat) (Q : State → Prop), CT g M p R s m args c cells slots → ∀ (H : Heap) (locs : List Loc) (ls : Array Slot) (env : LE) (h : HS) (rest : List Value) (k : Bool → HS → Prop), LR g M.2.2.1 ls env → RH g s H locs h → cats rest + w ≤ 8 → f env h k → (∀ (b : Bool) (H' : Heap) (locs' : List Loc) (h' : HS), RH g s H' locs' h' → k b h' → W p g.1 e R s m args below meth c H' locs' cells slots Q (F0 m (if b = true then pcT else pcF) ls rest)) → W p g.1 e R s m args below meth c H locs cells slots Q (F0 m pc ls rest)
/-- this value is what the return at this place gives back -/
def isRet (M : MT) (pc : Nat) (v : Option Value) : Prop := match v with
  | none => M.2.2.2.2 = none ∧ decode M.2.1 pc = .ok (.return_, 1)
  | some (.int x) => decode M.2.1 pc = .ok (.ireturn, 1) ∧ (M.2.2.2.2 = some .int ∨ (M.2.2.2.2 = some .boolean ∧ (x = 0 ∨ x = 1)))
  | some (.long _) => decode M.2.1 pc = .ok (.lreturn, 1) ∧ M.2.2.2.2 = some .long
  | _ => False
def Sok (g : GT) (M : MT) (pc pcN pcB pcC : Nat) (f : SX) : Prop := ∀ (p : Program) (e : Env) (R : Room) (s : State) (m : MethodId) (args : Array Value) (below : List Frame) (meth : Method) (c : Code) (cells slots : Nat) (Q : State → Prop), CT g M p R s m args c cells slots → ∀ (Rp : Option Value → HS → Prop), (∀ (v : Option Value) (H' : Heap) (locs' : List Loc) (h' : HS) (pc' : Nat) (ls' : Array Slot), RH g s H' locs' h' → Rp v h' → isRet M pc' v → W p g.1 e R s m args below meth c H' locs' cells slots Q (F0 m pc' ls' (v.map (cv g)).toList)) → ∀ (H : Heap) (locs : List Loc) (ls : Array Slot) (env : LE) (h : HS) (N B C : LE → HS → Prop), LR g M.2.2.1 ls env → RH g s H locs h → f env h N B C Rp →
  (∀ (H' : Heap) (locs' : List Loc) (ls' : Array Slot) (env' : LE) (h' : HS), LR g M.2.2.1 ls' env' → RH g s H' locs' h' → N env' h' → W p g.1 e R s m args below meth c H' locs' cells slots Q (F0 m pcN ls' [])) →
  (∀ (H' : Heap) (locs' : List Loc) (ls' : Array Slot) (env' : LE) (h' : HS), LR g M.2.2.1 ls' env' → RH g s H' locs' h' → B env' h' → W p g.1 e R s m args below meth c H' locs' cells slots Q (F0 m pcB ls' [])) →
  (∀ (H' : Heap) (locs' : List Loc) (ls' : Array Slot) (env' : LE) (h' : HS), LR g M.2.2.1 ls' env' → RH g s H' locs' h' → C env' h' → W p g.1 e R s m args below meth c H' locs' cells slots Q (F0 m pcC ls' [])) → W p g.1 e R s m args below meth c H locs cells slots Q (F0 m pc ls [])
section EX
variable {g : GT} {M : MT} {w wa wb wd pc pc1 pc2 pc3 pc4 pcT pcF pcN pcB pcC i j k n : Nat}
def iK (v : Int32) : EI := fun _ h k => k v h
def lK (v : Int64) : EL := fun _ h k => k v h
def iLoc (i : Nat) : EI := fun env h k => match env[i]? with
  | some (some (.int x)) => k x h
  | _ => False
def lLoc (i : Nat) : EL := fun env h k => match env[i]? with
  | some (some (.long x)) => k x h
  | _ => False
def rLoc (i : Nat) : ER := fun env h k => match env[i]? with
  | some (some (.ref x)) => k x h
  | _ => False

theorem EokI.iconst {n : Int} {v : Int32} (hd : decode M.2.1 pc = .ok (.iconst n, 1)) (hv : Int32.ofInt n = v) : EokI g M 0 pc (pc + 1) (iK v) := by
  intro p e R s m args below meth c cells slots Q hC H locs ls env h rest k hL hH hw hf kk
  exact lv_iconst hC.1 hC.2.1 hd hv (kk _ _ _ _ hH hf)
theorem EokI.bipush {n : Int} {v : Int32} (hd : decode M.2.1 pc = .ok (.bipush n, 2)) (hv : (Int8.ofInt n).toInt32 = v) : EokI g M 0 pc (pc + 2) (iK v) := by
  intro p e R s m args below meth c cells slots Q hC H locs ls env h rest k hL hH hw hf kk
  exact lv_bipush hC.1 hC.2.1 hd hv (kk _ _ _ _ hH hf)
theorem EokI.sipush {n : Int} {v : Int32} (hd : decode M.2.1 pc = .ok (.sipush n, 3)) (hv : (Int16.ofInt n).toInt32 = v) : EokI g M 0 pc (pc + 3) (iK v) := by
  intro p e R s m args below meth c cells slots Q hC H locs ls env h rest k hL hH hw hf kk
  exact lv_sipush hC.1 hC.2.1 hd hv (kk _ _ _ _ hH hf)
theorem EokI.ldc {index : Nat} {v : Int32} (hc : Cond.constant M.1 index v ∈ WD) (hd : decode M.2.1 pc = .ok (.ldc index, 2)) : EokI g M 0 pc (pc + 2) (iK v) := by
  intro p e R s m args below meth c cells slots Q hC H locs ls env h rest k hL hH hw hf kk
  exact lv_ldc hC.1 hC.2.1 hC.2.2.2.1 (hC.2.2.2.2.1 _ hc) hd (kk _ _ _ _ hH hf)
theorem EokL.ldc2 {index : Nat} {v : Int64} (hc : Cond.constantLong M.1 index v ∈ WD) (hd : decode M.2.1 pc = .ok (.ldc2_w index, 3)) : EokL g M 0 pc (pc + 3) (lK v) := by
  intro p e R s m args below meth c cells slots Q hC H locs ls env h rest k hL hH hw hf kk
  exact lv_ldc2 hC.1 hC.2.1 hC.2.2.2.1 (hC.2.2.2.2.1 _ hc) hd (kk _ _ _ _ hH hf)
theorem EokL.lconst {n : Fin 2} {v : Int64} (hd : decode M.2.1 pc = .ok (.lconst n, 1)) (hv : Int64.ofNat (n : Nat) = v) : EokL g M 0 pc (pc + 1) (lK v) := by
  intro p e R s m args below meth c cells slots Q hC H locs ls env h rest k hL hH hw hf kk
  exact lv_lconst hC.1 hC.2.1 hd hv (kk _ _ _ _ hH hf)
theorem EokI.iload (hd : decode M.2.1 pc = .ok (.iload i, 2)) : EokI g M 0 pc (pc + 2) (iLoc i) := by
  intro p e R s m args below meth c cells slots Q hC H locs ls env h rest k hL hH hw hf kk
  unfold iLoc at hf
  split at hf
  · rename_i x hx
    exact lv_iload hC.1 hC.2.1 hd (LR_get hL hx) (kk _ _ _ _ hH hf)
  · exact hf.elim
theorem EokI.iload_n {q : Fin 4} (hd : decode M.2.1 pc = .ok (.iload_n q, 1)) : EokI g M 0 pc (pc + 1) (iLoc q.val) := by
  intro p e R s m args below meth c cells slots Q hC H locs ls env h rest k hL hH hw hf kk
  unfold iLoc at hf
  split at hf
  · rename_i x hx
    exact lv_iload_n hC.1 hC.2.1 hd rfl (LR_get hL hx) (kk _ _ _ _ hH hf)
  · exact hf.elim
theorem EokL.lload (hd : decode M.2.1 pc = .ok (.lload i, 2)) : EokL g M 0 pc (pc + 2) (lLoc i) := by
  intro p e R s m args below meth c cells slots Q hC H locs ls env h rest k hL hH hw hf kk
  unfold lLoc at hf
  split at hf
  · rename_i x hx
    exact lv_lload hC.1 hC.2.1 hd (LR_get hL hx) (kk _ _ _ _ hH hf)
  · exact hf.elim
theorem EokL.lload_n {q : Fin 4} (hd : decode M.2.1 pc = .ok (.lload_n q, 1)) : EokL g M 0 pc (pc + 1) (lLoc q.val) := by
  intro p e R s m args below meth c cells slots Q hC H locs ls env h rest k hL hH hw hf kk
  unfold lLoc at hf
  split at hf
  · rename_i x hx
    exact lv_lload_n hC.1 hC.2.1 hd rfl (LR_get hL hx) (kk _ _ _ _ hH hf)
  · exact hf.elim
theorem EokR.aload (hd : decode M.2.1 pc = .ok (.aload i, 2)) : EokR g M 0 pc (pc + 2) (rLoc i) := by
  intro p e R s m args below meth c cells slots Q hC H locs ls env h rest k hL hH hw hf kk
  unfold rLoc at hf
  split at hf
  · rename_i x hx
    exact lv_aload hC.1 hC.2.1 hd (LR_get hL hx) (kk _ _ _ _ hH hf)
  · exact hf.elim
theorem EokR.aload_n {q : Fin 4} (hd : decode M.2.1 pc = .ok (.aload_n q, 1)) : EokR g M 0 pc (pc + 1) (rLoc q.val) := by
  intro p e R s m args below meth c cells slots Q hC H locs ls env h rest k hL hH hw hf kk
  unfold rLoc at hf
  split at hf
  · rename_i x hx
    exact lv_aload_n hC.1 hC.2.1 hd rfl (LR_get hL hx) (kk _ _ _ _ hH hf)
  · exact hf.elim
def gT2 {α β : Type} : α → β → Prop := fun _ _ => True
def gNZ : Int32 → Int32 → Prop := fun _ y => ¬ y = 0
def gNZL : Int64 → Int64 → Prop := fun _ y => ¬ y = 0
def iB (gd : Int32 → Int32 → Prop) (op : Int32 → Int32 → Int32) (a b : EI) : EI := fun env h k => a env h fun x h1 => b env h1 fun y h2 => gd x y ∧ k (op x y) h2
def lB (gd : Int64 → Int64 → Prop) (op : Int64 → Int64 → Int64) (a b : EL) : EL := fun env h k => a env h fun x h1 => b env h1 fun y h2 => gd x y ∧ k (op x y) h2
def lBI (op : Int64 → Int32 → Int64) (a : EL) (b : EI) : EL := fun env h k => a env h fun x h1 => b env h1 fun y h2 => k (op x y) h2
def jrem (x y : Int32) : Int32 := x - x / y * y
def jshl (x y : Int32) : Int32 := x <<< (y &&& 31)
def jshr (x y : Int32) : Int32 := x >>> (y &&& 31)
def jlrem (x y : Int64) : Int64 := x - x / y * y
def jlshl (x : Int64) (y : Int32) : Int64 := x <<< (y.toInt64 &&& 63)
def jlshr (x : Int64) (y : Int32) : Int64 := x >>> (y.toInt64 &&& 63)
def OPI (g : GT) (M : MT) (pc : Nat) (gd : Int32 → Int32 → Prop) (op : Int32 → Int32 → Int32) : Prop := ∀ (p : Program) (e : Env) (R : Room) (s : State) (m : MethodId) (args : Array Value) (below : List Frame) (meth : Method) (c : Code) (cells slots : Nat) (Q : State → Prop), CT g M p R s m args c cells slots → ∀ (H : Heap) (locs : List Loc) (ls : Array Slot) (rest : List Value) (x : Int32) (y : Int32), gd x y → W p g.1 e R s m args below meth c H locs cells slots Q (F0 m (pc + 1) ls (.int (op x y) :: rest)) → W p g.1 e R s m args below meth c H locs cells slots Q (F0 m pc ls (.int y :: .int x :: rest))
def OPL (g : GT) (M : MT) (pc : Nat) (gd : Int64 → Int64 → Prop) (op : Int64 → Int64 → Int64) : Prop := ∀ (p : Program) (e : Env) (R : Room) (s : State) (m : MethodId) (args : Array Value) (below : List Frame) (meth : Method) (c : Code) (cells slots : Nat) (Q : State → Prop), CT g M p R s m args c cells slots → ∀ (H : Heap) (locs : List Loc) (ls : Array Slot) (rest : List Value) (x : Int64) (y : Int64), gd x y → W p g.1 e R s m args below meth c H locs cells slots Q (F0 m (pc + 1) ls (.long (op x y) :: rest)) → W p g.1 e R s m args below meth c H locs cells slots Q (F0 m pc ls (.long y :: .long x :: rest))
def OPLI (g : GT) (M : MT) (pc : Nat) (op : Int64 → Int32 → Int64) : Prop := ∀ (p : Program) (e : Env) (R : Room) (s : State) (m : MethodId) (args : Array Value) (below : List Frame) (meth : Method) (c : Code) (cells slots : Nat) (Q : State → Prop), CT g M p R s m args c cells slots → ∀ (H : Heap) (locs : List Loc) (ls : Array Slot) (rest : List Value) (x : Int64) (y : Int32), W p g.1 e R s m args below meth c H locs cells slots Q (F0 m (pc + 1) ls (.long (op x y) :: rest)) → W p g.1 e R s m args below meth c H locs cells slots Q (F0 m pc ls (.int y :: .long x :: rest))
theorem OPI.iadd (hd : decode M.2.1 pc = .ok (.iadd, 1)) : OPI g M pc gT2 (· + ·) := by
  intro p e R s m args below meth c cells slots Q hC H locs ls rest x y hg kk
  exact lv_iadd hC.1 hC.2.1 hd kk
theorem OPI.isub (hd : decode M.2.1 pc = .ok (.isub, 1)) : OPI g M pc gT2 (· - ·) := by
  intro p e R s m args below meth c cells slots Q hC H locs ls rest x y hg kk
  exact lv_isub hC.1 hC.2.1 hd kk
theorem OPI.imul (hd : decode M.2.1 pc = .ok (.imul, 1)) : OPI g M pc gT2 (· * ·) := by
  intro p e R s m args below meth c cells slots Q hC H locs ls rest x y hg kk
  exact lv_imul hC.1 hC.2.1 hd kk
theorem OPI.iand (hd : decode M.2.1 pc = .ok (.iand, 1)) : OPI g M pc gT2 (· &&& ·) := by
  intro p e R s m args below meth c cells slots Q hC H locs ls rest x y hg kk
  exact lv_iand hC.1 hC.2.1 hd kk
theorem OPI.ior (hd : decode M.2.1 pc = .ok (.ior, 1)) : OPI g M pc gT2 (· ||| ·) := by
  intro p e R s m args below meth c cells slots Q hC H locs ls rest x y hg kk
  exact lv_ior hC.1 hC.2.1 hd kk
theorem OPI.idiv (hd : decode M.2.1 pc = .ok (.idiv, 1)) : OPI g M pc gNZ (· / ·) := by
  intro p e R s m args below meth c cells slots Q hC H locs ls rest x y hg kk
  exact lv_idiv hC.1 hC.2.1 hd hg kk
theorem OPI.irem (hd : decode M.2.1 pc = .ok (.irem, 1)) : OPI g M pc gNZ jrem := by
  intro p e R s m args below meth c cells slots Q hC H locs ls rest x y hg kk
  exact lv_irem hC.1 hC.2.1 hd hg kk
theorem OPI.ishl (hd : decode M.2.1 pc = .ok (.ishl, 1)) : OPI g M pc gT2 jshl := by
  intro p e R s m args below meth c cells slots Q hC H locs ls rest x y hg kk
  exact lv_ishl hC.1 hC.2.1 hd kk
theorem OPI.ishr (hd : decode M.2.1 pc = .ok (.ishr, 1)) : OPI g M pc gT2 jshr := by
  intro p e R s m args below meth c cells slots Q hC H locs ls rest x y hg kk
  exact lv_ishr hC.1 hC.2.1 hd kk
theorem OPL.ladd (hd : decode M.2.1 pc = .ok (.ladd, 1)) : OPL g M pc gT2 (· + ·) := by
  intro p e R s m args below meth c cells slots Q hC H locs ls rest x y hg kk
  exact lv_ladd hC.1 hC.2.1 hd kk
theorem OPL.lsub (hd : decode M.2.1 pc = .ok (.lsub, 1)) : OPL g M pc gT2 (· - ·) := by
  intro p e R s m args below meth c cells slots Q hC H locs ls rest x y hg kk
  exact lv_lsub hC.1 hC.2.1 hd kk
theorem OPL.lmul (hd : decode M.2.1 pc = .ok (.lmul, 1)) : OPL g M pc gT2 (· * ·) := by
  intro p e R s m args below meth c cells slots Q hC H locs ls rest x y hg kk
  exact lv_lmul hC.1 hC.2.1 hd kk
theorem OPL.land (hd : decode M.2.1 pc = .ok (.land, 1)) : OPL g M pc gT2 (· &&& ·) := by
  intro p e R s m args below meth c cells slots Q hC H locs ls rest x y hg kk
  exact lv_land hC.1 hC.2.1 hd kk
theorem OPL.lor (hd : decode M.2.1 pc = .ok (.lor, 1)) : OPL g M pc gT2 (· ||| ·) := by
  intro p e R s m args below meth c cells slots Q hC H locs ls rest x y hg kk
  exact lv_lor hC.1 hC.2.1 hd kk
theorem OPL.ldiv (hd : decode M.2.1 pc = .ok (.ldiv, 1)) : OPL g M pc gNZL (· / ·) := by
  intro p e R s m args below meth c cells slots Q hC H locs ls rest x y hg kk
  exact lv_ldiv hC.1 hC.2.1 hd hg kk
theorem OPL.lrem (hd : decode M.2.1 pc = .ok (.lrem, 1)) : OPL g M pc gNZL jlrem := by
  intro p e R s m args below meth c cells slots Q hC H locs ls rest x y hg kk
  exact lv_lrem hC.1 hC.2.1 hd hg kk
theorem OPLI.lshl (hd : decode M.2.1 pc = .ok (.lshl, 1)) : OPLI g M pc jlshl := by
  intro p e R s m args below meth c cells slots Q hC H locs ls rest x y kk
  exact lv_lshl hC.1 hC.2.1 hd rfl kk
theorem OPLI.lshr (hd : decode M.2.1 pc = .ok (.lshr, 1)) : OPLI g M pc jlshr := by
  intro p e R s m args below meth c cells slots Q hC H locs ls rest x y kk
  exact lv_lshr hC.1 hC.2.1 hd rfl kk
theorem EokI.bin {gd : Int32 → Int32 → Prop} {op : Int32 → Int32 → Int32} {a b : EI} (ha : EokI g M wa pc pc1 a) (hb : EokI g M wb pc1 pc2 b) (ho : OPI g M pc2 gd op) : EokI g M (max wa (1 + wb)) pc (pc2 + 1) (iB gd op a b) := by
  intro p e R s m args below meth c cells slots Q hC H locs ls env h rest k hL hH hw hf kk
  refine ha p e R s m args below meth c cells slots Q hC H locs ls env h rest _ hL hH (by omega) hf (fun x H1 l1 h1 hH1 hf1 => ?_)
  refine hb p e R s m args below meth c cells slots Q hC H1 l1 ls env h1 (.int x :: rest) _ hL hH1 (by rw [cats_i]; omega) hf1 (fun y H2 l2 h2 hH2 hf2 => ?_)
  exact ho p e R s m args below meth c cells slots Q hC H2 l2 ls rest x y hf2.1 (kk _ _ _ _ hH2 hf2.2)
theorem EokL.bin {gd : Int64 → Int64 → Prop} {op : Int64 → Int64 → Int64} {a b : EL} (ha : EokL g M wa pc pc1 a) (hb : EokL g M wb pc1 pc2 b) (ho : OPL g M pc2 gd op) : EokL g M (max wa (2 + wb)) pc (pc2 + 1) (lB gd op a b) := by
  intro p e R s m args below meth c cells slots Q hC H locs ls env h rest k hL hH hw hf kk
  refine ha p e R s m args below meth c cells slots Q hC H locs ls env h rest _ hL hH (by omega) hf (fun x H1 l1 h1 hH1 hf1 => ?_)
  refine hb p e R s m args below meth c cells slots Q hC H1 l1 ls env h1 (.long x :: rest) _ hL hH1 (by rw [cats_l]; omega) hf1 (fun y H2 l2 h2 hH2 hf2 => ?_)
  exact ho p e R s m args below meth c cells slots Q hC H2 l2 ls rest x y hf2.1 (kk _ _ _ _ hH2 hf2.2)
theorem EokL.binI {op : Int64 → Int32 → Int64} {a : EL} {b : EI} (ha : EokL g M wa pc pc1 a) (hb : EokI g M wb pc1 pc2 b) (ho : OPLI g M pc2 op) : EokL g M (max wa (2 + wb)) pc (pc2 + 1) (lBI op a b) := by
  intro p e R s m args below meth c cells slots Q hC H locs ls env h rest k hL hH hw hf kk
  refine ha p e R s m args below meth c cells slots Q hC H locs ls env h rest _ hL hH (by omega) hf (fun x H1 l1 h1 hH1 hf1 => ?_)
  refine hb p e R s m args below meth c cells slots Q hC H1 l1 ls env h1 (.long x :: rest) _ hL hH1 (by rw [cats_l]; omega) hf1 (fun y H2 l2 h2 hH2 hf2 => ?_)
  exact ho p e R s m args below meth c cells slots Q hC H2 l2 ls rest x y (kk _ _ _ _ hH2 hf2)
def iNeg (a : EI) : EI := fun env h k => a env h fun x h1 => k (-x) h1
def iOfL (a : EL) : EI := fun env h k => a env h fun x h1 => k x.toInt32 h1
def lOfI (a : EI) : EL := fun env h k => a env h fun x h1 => k x.toInt64 h1
def iByte (a : EI) : EI := fun env h k => a env h fun x h1 => k x.toInt8.toInt32 h1
theorem EokI.ineg {a : EI} (ha : EokI g M wa pc pc1 a) (hd : decode M.2.1 pc1 = .ok (.ineg, 1)) : EokI g M wa pc (pc1 + 1) (iNeg a) := by
  intro p e R s m args below meth c cells slots Q hC H locs ls env h rest k hL hH hw hf kk
  exact ha p e R s m args below meth c cells slots Q hC H locs ls env h rest _ hL hH hw hf (fun x H1 l1 h1 hH1 hf1 => lv_ineg hC.1 hC.2.1 hd (kk _ _ _ _ hH1 hf1))
theorem EokI.l2i {a : EL} (ha : EokL g M wa pc pc1 a) (hd : decode M.2.1 pc1 = .ok (.l2i, 1)) : EokI g M wa pc (pc1 + 1) (iOfL a) := by
  intro p e R s m args below meth c cells slots Q hC H locs ls env h rest k hL hH hw hf kk
  exact ha p e R s m args below meth c cells slots Q hC H locs ls env h rest _ hL hH hw hf (fun x H1 l1 h1 hH1 hf1 => lv_l2i hC.1 hC.2.1 hd rfl (kk _ _ _ _ hH1 hf1))
theorem EokL.i2l {a : EI} (ha : EokI g M wa pc pc1 a) (hd : decode M.2.1 pc1 = .ok (.i2l, 1)) : EokL g M wa pc (pc1 + 1) (lOfI a) := by
  intro p e R s m args below meth c cells slots Q hC H locs ls env h rest k hL hH hw hf kk
  exact ha p e R s m args below meth c cells slots Q hC H locs ls env h rest _ hL hH hw hf (fun x H1 l1 h1 hH1 hf1 => lv_i2l hC.1 hC.2.1 hd rfl (kk _ _ _ _ hH1 hf1))
theorem EokI.i2b {a : EI} (ha : EokI g M wa pc pc1 a) (hd : decode M.2.1 pc1 = .ok (.i2b, 1)) : EokI g M wa pc (pc1 + 1) (iByte a) := by
  intro p e R s m args below meth c cells slots Q hC H locs ls env h rest k hL hH hw hf kk
  exact ha p e R s m args below meth c cells slots Q hC H locs ls env h rest _ hL hH hw hf (fun x H1 l1 h1 hH1 hf1 => lv_i2b hC.1 hC.2.1 hd rfl (kk _ _ _ _ hH1 hf1))
def iGet (ci j : Nat) (o : ER) : EI := fun env h k => o env h fun a h1 => match h1 a with
  | .inr (c, fs) => c = ci ∧ (match fs[j]? with
    | some (.int x) => k x h1
    | _ => False)
  | .inl _ => False
theorem EokI.getf {o : ER} {ci index N : Nat} {C : String} {T : u_T} (ho : EokR g M wa pc pc1 o) (hc : jcl[ci]? = some (C, T, N)) (hin : ∀ w ∈ u_ws C T N, w ∈ WD) (hk : j < N) (hl : Cond.fieldLink M.1 index (T j).1 (T j).2.1 (T j).2.2.1 ∈ WD) (hd : decode M.2.1 pc1 = .ok (.getfield index, 3)) : EokI g M wa pc (pc1 + 3) (iGet ci j o) := by
  intro p e R s m args below meth c cells slots Q hC H locs ls env h rest k hL hH hw hf kk
  refine ho p e R s m args below meth c cells slots Q hC H locs ls env h rest _ hL hH hw hf (fun a H1 l1 h1 hH1 hf1 => ?_)
  try dsimp only at hf1
  split at hf1
  · rename_i c' fs hcell
    obtain ⟨rfl, hf1⟩ := hf1
    split at hf1
    · rename_i x hx
      have hlt := Jk_lt hH1.2.2 (o := a) (by rw [hcell]; intro q; cases q; exact jcl_ci hc rfl)
      have hg := wsOf_get (g := g) (h := h1) hlt
      rw [hcell] at hg
      exact va_get hC.1 hC.2.1 hC.2.2.2.2.1 hin hC.2.2.2.1 hC.2.2.2.2.2.1 hH1.1 a hg hc j hk (hC.2.2.2.2.1 _ hl) (fun _ q => q) (v := cv g (.int x)) (by simp [hx]) hd (kk _ _ _ _ hH1 hf1)
    · exact hf1.elim
  · exact hf1.elim
def lGet (ci j : Nat) (o : ER) : EL := fun env h k => o env h fun a h1 => match h1 a with
  | .inr (c, fs) => c = ci ∧ (match fs[j]? with
    | some (.long x) => k x h1
    | _ => False)
  | .inl _ => False
theorem EokL.getf {o : ER} {ci index N : Nat} {C : String} {T : u_T} (ho : EokR g M wa pc pc1 o) (hc : jcl[ci]? = some (C, T, N)) (hin : ∀ w ∈ u_ws C T N, w ∈ WD) (hk : j < N) (hl : Cond.fieldLink M.1 index (T j).1 (T j).2.1 (T j).2.2.1 ∈ WD) (hd : decode M.2.1 pc1 = .ok (.getfield index, 3)) : EokL g M wa pc (pc1 + 3) (lGet ci j o) := by
  intro p e R s m args below meth c cells slots Q hC H locs ls env h rest k hL hH hw hf kk
  refine ho p e R s m args below meth c cells slots Q hC H locs ls env h rest _ hL hH hw hf (fun a H1 l1 h1 hH1 hf1 => ?_)
  try dsimp only at hf1
  split at hf1
  · rename_i c' fs hcell
    obtain ⟨rfl, hf1⟩ := hf1
    split at hf1
    · rename_i x hx
      have hlt := Jk_lt hH1.2.2 (o := a) (by rw [hcell]; intro q; cases q; exact jcl_ci hc rfl)
      have hg := wsOf_get (g := g) (h := h1) hlt
      rw [hcell] at hg
      exact va_get hC.1 hC.2.1 hC.2.2.2.2.1 hin hC.2.2.2.1 hC.2.2.2.2.2.1 hH1.1 a hg hc j hk (hC.2.2.2.2.1 _ hl) (fun _ q => q) (v := cv g (.long x)) (by simp [hx]) hd (kk _ _ _ _ hH1 hf1)
    · exact hf1.elim
  · exact hf1.elim
def rGet (ci j : Nat) (o : ER) : ER := fun env h k => o env h fun a h1 => match h1 a with
  | .inr (c, fs) => c = ci ∧ (match fs[j]? with
    | some (.ref x) => k x h1
    | _ => False)
  | .inl _ => False
theorem EokR.getf {o : ER} {ci index N : Nat} {C : String} {T : u_T} (ho : EokR g M wa pc pc1 o) (hc : jcl[ci]? = some (C, T, N)) (hin : ∀ w ∈ u_ws C T N, w ∈ WD) (hk : j < N) (hl : Cond.fieldLink M.1 index (T j).1 (T j).2.1 (T j).2.2.1 ∈ WD) (hd : decode M.2.1 pc1 = .ok (.getfield index, 3)) : EokR g M wa pc (pc1 + 3) (rGet ci j o) := by
  intro p e R s m args below meth c cells slots Q hC H locs ls env h rest k hL hH hw hf kk
  refine ho p e R s m args below meth c cells slots Q hC H locs ls env h rest _ hL hH hw hf (fun a H1 l1 h1 hH1 hf1 => ?_)
  try dsimp only at hf1
  split at hf1
  · rename_i c' fs hcell
    obtain ⟨rfl, hf1⟩ := hf1
    split at hf1
    · rename_i x hx
      have hlt := Jk_lt hH1.2.2 (o := a) (by rw [hcell]; intro q; cases q; exact jcl_ci hc rfl)
      have hg := wsOf_get (g := g) (h := h1) hlt
      rw [hcell] at hg
      exact va_get hC.1 hC.2.1 hC.2.2.2.2.1 hin hC.2.2.2.1 hC.2.2.2.2.2.1 hH1.1 a hg hc j hk (hC.2.2.2.2.1 _ hl) (fun _ q => q) (v := cv g (.ref x)) (by simp [hx]) hd (kk _ _ _ _ hH1 hf1)
    · exact hf1.elim
  · exact hf1.elim
def iALd (a : ER) (i : EI) : EI := fun env h k => a env h fun o h1 => i env h1 fun x h2 => match h2 o with
  | .inl (c, n, .inl f) => c = 0 ∧ vp_in x n ∧ k (f x.toNatClampNeg) h2
  | _ => False
theorem EokI.iALd {a : ER} {i : EI} (ha : EokR g M wa pc pc1 a) (hi : EokI g M wb pc1 pc2 i) (hd : decode M.2.1 pc2 = .ok (.iaload, 1)) : EokI g M (max wa (1 + wb)) pc (pc2 + 1) (iALd a i) := by
  intro p e R s m args below meth c cells slots Q hC H locs ls env h rest k hL hH hw hf kk
  refine ha p e R s m args below meth c cells slots Q hC H locs ls env h rest _ hL hH (by omega) hf (fun o H1 l1 h1 hH1 hf1 => ?_)
  refine hi p e R s m args below meth c cells slots Q hC H1 l1 ls env h1 (.ref (g.2.2.1 + o) :: rest) _ hL hH1 (by rw [cats_r]; omega) hf1 (fun x H2 l2 h2 hH2 hf2 => ?_)
  try dsimp only at hf2
  split at hf2
  · rename_i c' n' f' hcell
    obtain ⟨rfl, hin, hf2⟩ := hf2
    have hlt := Jk_lt hH2.2.2 (o := o) (by rw [hcell]; intro q; cases q)
    have hg := wsOf_get (g := g) (h := h2) hlt
    rw [hcell] at hg
    exact va_iald hC.1 hC.2.1 hC.2.2.2.2.2.1 hH2.1 o 0 hg rfl hin hd (kk _ _ _ _ hH2 hf2)
  · exact hf2.elim
def bALd (a : ER) (i : EI) : EI := fun env h k => a env h fun o h1 => i env h1 fun x h2 => match h2 o with
  | .inl (c, n, .inl f) => c = 2 ∧ vp_in x n ∧ k (f x.toNatClampNeg) h2
  | _ => False
theorem EokI.bALd {a : ER} {i : EI} (ha : EokR g M wa pc pc1 a) (hi : EokI g M wb pc1 pc2 i) (hd : decode M.2.1 pc2 = .ok (.baload, 1)) : EokI g M (max wa (1 + wb)) pc (pc2 + 1) (bALd a i) := by
  intro p e R s m args below meth c cells slots Q hC H locs ls env h rest k hL hH hw hf kk
  refine ha p e R s m args below meth c cells slots Q hC H locs ls env h rest _ hL hH (by omega) hf (fun o H1 l1 h1 hH1 hf1 => ?_)
  refine hi p e R s m args below meth c cells slots Q hC H1 l1 ls env h1 (.ref (g.2.2.1 + o) :: rest) _ hL hH1 (by rw [cats_r]; omega) hf1 (fun x H2 l2 h2 hH2 hf2 => ?_)
  try dsimp only at hf2
  split at hf2
  · rename_i c' n' f' hcell
    obtain ⟨rfl, hin, hf2⟩ := hf2
    have hlt := Jk_lt hH2.2.2 (o := o) (by rw [hcell]; intro q; cases q)
    have hg := wsOf_get (g := g) (h := h2) hlt
    rw [hcell] at hg
    exact va_bald hC.1 hC.2.1 hC.2.2.2.2.2.1 hH2.1 o 2 hg rfl hin hd (kk _ _ _ _ hH2 hf2)
  · exact hf2.elim
def zALd (a : ER) (i : EI) : EI := fun env h k => a env h fun o h1 => i env h1 fun x h2 => match h2 o with
  | .inl (c, n, .inl f) => c = 3 ∧ vp_in x n ∧ k (f x.toNatClampNeg) h2
  | _ => False
theorem EokI.zALd {a : ER} {i : EI} (ha : EokR g M wa pc pc1 a) (hi : EokI g M wb pc1 pc2 i) (hd : decode M.2.1 pc2 = .ok (.baload, 1)) : EokI g M (max wa (1 + wb)) pc (pc2 + 1) (zALd a i) := by
  intro p e R s m args below meth c cells slots Q hC H locs ls env h rest k hL hH hw hf kk
  refine ha p e R s m args below meth c cells slots Q hC H locs ls env h rest _ hL hH (by omega) hf (fun o H1 l1 h1 hH1 hf1 => ?_)
  refine hi p e R s m args below meth c cells slots Q hC H1 l1 ls env h1 (.ref (g.2.2.1 + o) :: rest) _ hL hH1 (by rw [cats_r]; omega) hf1 (fun x H2 l2 h2 hH2 hf2 => ?_)
  try dsimp only at hf2
  split at hf2
  · rename_i c' n' f' hcell
    obtain ⟨rfl, hin, hf2⟩ := hf2
    have hlt := Jk_lt hH2.2.2 (o := o) (by rw [hcell]; intro q; cases q)
    have hg := wsOf_get (g := g) (h := h2) hlt
    rw [hcell] at hg
    exact va_zald hC.1 hC.2.1 hC.2.2.2.2.2.1 hH2.1 o 3 hg rfl hin hd (kk _ _ _ _ hH2 hf2)
  · exact hf2.elim
def lALd (a : ER) (i : EI) : EL := fun env h k => a env h fun o h1 => i env h1 fun x h2 => match h2 o with
  | .inl (c, n, .inr (.inl f)) => c = 1 ∧ vp_in x n ∧ k (f x.toNatClampNeg) h2
  | _ => False
theorem EokL.lALd {a : ER} {i : EI} (ha : EokR g M wa pc pc1 a) (hi : EokI g M wb pc1 pc2 i) (hd : decode M.2.1 pc2 = .ok (.laload, 1)) : EokL g M (max wa (1 + wb)) pc (pc2 + 1) (lALd a i) := by
  intro p e R s m args below meth c cells slots Q hC H locs ls env h rest k hL hH hw hf kk
  refine ha p e R s m args below meth c cells slots Q hC H locs ls env h rest _ hL hH (by omega) hf (fun o H1 l1 h1 hH1 hf1 => ?_)
  refine hi p e R s m args below meth c cells slots Q hC H1 l1 ls env h1 (.ref (g.2.2.1 + o) :: rest) _ hL hH1 (by rw [cats_r]; omega) hf1 (fun x H2 l2 h2 hH2 hf2 => ?_)
  try dsimp only at hf2
  split at hf2
  · rename_i c' n' f' hcell
    obtain ⟨rfl, hin, hf2⟩ := hf2
    have hlt := Jk_lt hH2.2.2 (o := o) (by rw [hcell]; intro q; cases q)
    have hg := wsOf_get (g := g) (h := h2) hlt
    rw [hcell] at hg
    exact va_lald hC.1 hC.2.1 hC.2.2.2.2.2.1 hH2.1 o 1 hg rfl hin hd (kk _ _ _ _ hH2 hf2)
  · exact hf2.elim
def iLen (a : ER) : EI := fun env h k => a env h fun o h1 => match h1 o with
  | .inl (c, x) => c < 4 ∧ k (Int32.ofNat x.1) h1
  | .inr _ => False
theorem EokI.alen {a : ER} (ha : EokR g M wa pc pc1 a) (hd : decode M.2.1 pc1 = .ok (.arraylength, 1)) : EokI g M wa pc (pc1 + 1) (iLen a) := by
  intro p e R s m args below meth c cells slots Q hC H locs ls env h rest k hL hH hw hf kk
  refine ha p e R s m args below meth c cells slots Q hC H locs ls env h rest _ hL hH hw hf (fun o H1 l1 h1 hH1 hf1 => ?_)
  try dsimp only at hf1
  split at hf1
  · rename_i c' x hcell
    obtain ⟨hc4, hf1⟩ := hf1
    have hlt := Jk_lt hH1.2.2 (o := o) (by rw [hcell]; intro q; cases q)
    have hg := wsOf_get (g := g) (h := h1) hlt
    rw [hcell] at hg
    obtain ⟨ty, hty⟩ : ∃ ty, (jtys g)[c']? = some (g.2.1 c', ty) := by
      have hq : ∀ z : Nat, z < 4 → ∃ ty, (jtys g)[z]? = some (g.2.1 z, ty) := fun z hz => by
        rcases (show z = 0 ∨ z = 1 ∨ z = 2 ∨ z = 3 by omega) with rfl | rfl | rfl | rfl <;> exact ⟨_, rfl⟩
      exact hq c' hc4
    exact va_alen hC.1 hC.2.1 hC.2.2.2.2.2.1 hH1.1 o c' hg hty rfl hd (kk _ _ _ _ hH1 hf1)
  · exact hf1.elim
/-- the length of the table of reserved words; what stands in it -/
def iResLen : EI := fun _ h k => k 15 h
def lRes (i : EI) : EL := fun env h k => i env h fun x h1 => vp_in x 15 ∧ k (resv x.toNatClampNeg) h1
theorem EokI.resLen {index : Nat} (hl : Cond.fieldLink M.1 index "PassHuts$Tokens" "RESERVED" "[J" ∈ WD) (hd : decode M.2.1 pc = .ok (.getstatic index, 3)) (hd2 : decode M.2.1 (pc + 3) = .ok (.arraylength, 1)) : EokI g M 0 pc (pc + 4) iResLen := by
  intro p e R s m args below meth c cells slots Q hC H locs ls env h rest k hL hH hw hf kk
  obtain ⟨⟨t0, hz, ht⟩, -, -⟩ := hC.2.2.2.2.2.2.2.2.1
  have hz := hz.narrow (B := jA g) (fun q z => z.1)
  have ht := ht.narrow (B := jA g) (fun q z => z.1)
  refine va_gets hC.1 hC.2.1 hz hH.2.1 hC.2.2.2.1 (hC.2.2.2.2.1 _ hl) (fun _ q => q) hd ?_
  exact va_tlen hC.1 hC.2.1 ht hH.2.1 rfl hd2 (kk _ _ _ _ hH hf)
theorem EokL.resAt {index : Nat} {i : EI} (hl : Cond.fieldLink M.1 index "PassHuts$Tokens" "RESERVED" "[J" ∈ WD) (hd : decode M.2.1 pc = .ok (.getstatic index, 3)) (hi : EokI g M wb (pc + 3) pc2 i) (hd2 : decode M.2.1 pc2 = .ok (.laload, 1)) : EokL g M (1 + wb) pc (pc2 + 1) (lRes i) := by
  intro p e R s m args below meth c cells slots Q hC H locs ls env h rest k hL hH hw hf kk
  obtain ⟨⟨t0, hz, ht⟩, -, -⟩ := hC.2.2.2.2.2.2.2.2.1
  have hz := hz.narrow (B := jA g) (fun q z => z.1)
  have ht := ht.narrow (B := jA g) (fun q z => z.1)
  refine va_gets hC.1 hC.2.1 hz hH.2.1 hC.2.2.2.1 (hC.2.2.2.2.1 _ hl) (fun _ q => q) hd ?_
  refine hi p e R s m args below meth c cells slots Q hC H locs ls env h (.ref t0 :: rest) _ hL hH (by rw [cats_r]; omega) hf (fun x H2 l2 h2 hH2 hf2 => ?_)
  exact va_tl hC.1 hC.2.1 ht hH2.2.1 hf2.1 rfl hd2 (kk _ _ _ _ hH2 hf2.2)
/-- the law's script: its length, what stands in it -/
def iScrLen (L : Nat) : EI := fun env h k => env[0]? = some (some (.retAddr 0)) ∧ k (Int32.ofNat L) h
def iScr (L : Nat) (xs : Nat → Int32) (i : EI) : EI := fun env h k => env[0]? = some (some (.retAddr 0)) ∧ i env h fun x h1 => vp_in x L ∧ k (xs x.toNatClampNeg) h1
theorem EokI.scrLen (hd : decode M.2.1 pc = .ok (.aload_n 0, 1)) (hd2 : decode M.2.1 (pc + 1) = .ok (.arraylength, 1)) : EokI g M 0 pc (pc + 2) (iScrLen g.2.2.2.2.2.2.1) := by
  intro p e R s m args below meth c cells slots Q hC H locs ls env h rest k hL hH hw hf kk
  obtain ⟨-, hx, hbl, hb0⟩ := hC.2.2.2.2.2.2.2.2.1
  have hl0 := LR_get hL hf.1
  refine lv_aload_n hC.1 hC.2.1 hd rfl hl0 ?_
  exact va_slen hC.1 hC.2.1 hx hbl (fun z => absurd z.1 (Nat.not_le.mpr hb0)) hH.2.1 hd2 (kk _ _ _ _ hH hf.2)
theorem EokI.scr {i : EI} (hd : decode M.2.1 pc = .ok (.aload_n 0, 1)) (hi : EokI g M wb (pc + 1) pc2 i) (hd2 : decode M.2.1 pc2 = .ok (.iaload, 1)) : EokI g M (1 + wb) pc (pc2 + 1) (iScr g.2.2.2.2.2.2.1 g.2.2.2.2.2.2.2 i) := by
  intro p e R s m args below meth c cells slots Q hC H locs ls env h rest k hL hH hw hf kk
  obtain ⟨-, hx, hbl, hb0⟩ := hC.2.2.2.2.2.2.2.2.1
  have hl0 := LR_get hL hf.1
  refine lv_aload_n hC.1 hC.2.1 hd rfl hl0 ?_
  refine hi p e R s m args below meth c cells slots Q hC H locs ls env h (.ref g.2.2.2.2.2.1 :: rest) _ hL hH (by rw [cats_r]; omega) hf.2 (fun x H2 l2 h2 hH2 hf2 => ?_)
  exact va_sld hC.1 hC.2.1 hx hbl (fun z => absurd z.1 (Nat.not_le.mpr hb0)) hH2.2.1 hf2.1 hd2 (kk _ _ _ _ hH2 hf2.2)
def JI (g : GT) (M : MT) (pc pcT pcF : Nat) (rel : Int32 → Int32 → Bool) : Prop := ∀ (p : Program) (e : Env) (R : Room) (s : State) (m : MethodId) (args : Array Value) (below : List Frame) (meth : Method) (c : Code) (cells slots : Nat) (Q : State → Prop), CT g M p R s m args c cells slots → ∀ (H : Heap) (locs : List Loc) (ls : Array Slot) (rest : List Value) (x y : Int32), W p g.1 e R s m args below meth c H locs cells slots Q (F0 m (if rel x y = true then pcT else pcF) ls rest) → W p g.1 e R s m args below meth c H locs cells slots Q (F0 m pc ls (.int y :: .int x :: rest))
def JZ (g : GT) (M : MT) (pc pcT pcF : Nat) (rel : Int32 → Bool) : Prop := ∀ (p : Program) (e : Env) (R : Room) (s : State) (m : MethodId) (args : Array Value) (below : List Frame) (meth : Method) (c : Code) (cells slots : Nat) (Q : State → Prop), CT g M p R s m args c cells slots → ∀ (H : Heap) (locs : List Loc) (ls : Array Slot) (rest : List Value) (x : Int32), W p g.1 e R s m args below meth c H locs cells slots Q (F0 m (if rel x = true then pcT else pcF) ls rest) → W p g.1 e R s m args below meth c H locs cells slots Q (F0 m pc ls (.int x :: rest))
def JL (g : GT) (M : MT) (pc pcT pcF : Nat) (rel : Int64 → Int64 → Bool) : Prop := ∀ (p : Program) (e : Env) (R : Room) (s : State) (m : MethodId) (args : Array Value) (below : List Frame) (meth : Method) (c : Code) (cells slots : Nat) (Q : State → Prop), CT g M p R s m args c cells slots → ∀ (H : Heap) (locs : List Loc) (ls : Array Slot) (rest : List Value) (x y : Int64), W p g.1 e R s m args below meth c H locs cells slots Q (F0 m (if rel x y = true then pcT else pcF) ls rest) → W p g.1 e R s m args below meth c H locs cells slots Q (F0 m pc ls (.long y :: .long x :: rest))
def req (x y : Int32) : Bool := decide (x = y)
def zeq (x : Int32) : Bool := decide (x = 0)
def leq (x y : Int64) : Bool := decide (x = y)
def rne (x y : Int32) : Bool := decide (¬ x = y)
def zne (x : Int32) : Bool := decide (¬ x = 0)
def lne (x y : Int64) : Bool := decide (¬ x = y)
def rlt (x y : Int32) : Bool := decide (x < y)
def zlt (x : Int32) : Bool := decide (x < 0)
def llt (x y : Int64) : Bool := decide (x < y)
def rge (x y : Int32) : Bool := decide (y ≤ x)
def zge (x : Int32) : Bool := decide (0 ≤ x)
def lge (x y : Int64) : Bool := decide (y ≤ x)
def rgt (x y : Int32) : Bool := decide (y < x)
def zgt (x : Int32) : Bool := decide (0 < x)
def lgt (x y : Int64) : Bool := decide (y < x)
def rle (x y : Int32) : Bool := decide (x ≤ y)
def zle (x : Int32) : Bool := decide (x ≤ 0)
def lle (x y : Int64) : Bool := decide (x ≤ y)
theorem JI.eqT {off : Int} {tgt : Nat} (hd : decode M.2.1 pc = .ok (.if_icmp .eq off, 3)) (ht : (pc : Int) + off = (tgt : Int)) : JI g M pc tgt (pc + 3) req := by
  intro p e R s m args below meth c cells slots Q hC H locs ls rest x y kk
  refine lv_icmp_eq hC.1 hC.2.1 hd ht (fun q => ?_) (fun q => ?_)
  · rw [if_pos (by simpa [req] using q)] at kk; exact kk
  · rw [if_neg (by simpa [req] using q)] at kk; exact kk
theorem JI.eqF {off : Int} {tgt : Nat} (hd : decode M.2.1 pc = .ok (.if_icmp .ne off, 3)) (ht : (pc : Int) + off = (tgt : Int)) : JI g M pc (pc + 3) tgt req := by
  intro p e R s m args below meth c cells slots Q hC H locs ls rest x y kk
  refine lv_icmp_ne hC.1 hC.2.1 hd ht (fun q => ?_) (fun q => ?_)
  · rw [if_neg (by simpa [req, Int32.not_lt, Int32.not_le] using q)] at kk; exact kk
  · rw [if_pos (by simpa [req, Int32.not_lt, Int32.not_le] using q)] at kk; exact kk
theorem JZ.eqT {off : Int} {tgt : Nat} (hd : decode M.2.1 pc = .ok (.ifCond .eq off, 3)) (ht : (pc : Int) + off = (tgt : Int)) : JZ g M pc tgt (pc + 3) zeq := by
  intro p e R s m args below meth c cells slots Q hC H locs ls rest x kk
  refine lv_if_eq hC.1 hC.2.1 hd ht (fun q => ?_) (fun q => ?_)
  · rw [if_pos (by simpa [zeq] using q)] at kk; exact kk
  · rw [if_neg (by simpa [zeq] using q)] at kk; exact kk
theorem JZ.eqF {off : Int} {tgt : Nat} (hd : decode M.2.1 pc = .ok (.ifCond .ne off, 3)) (ht : (pc : Int) + off = (tgt : Int)) : JZ g M pc (pc + 3) tgt zeq := by
  intro p e R s m args below meth c cells slots Q hC H locs ls rest x kk
  refine lv_if_ne hC.1 hC.2.1 hd ht (fun q => ?_) (fun q => ?_)
  · rw [if_neg (by simpa [zeq, Int32.not_lt, Int32.not_le] using q)] at kk; exact kk
  · rw [if_pos (by simpa [zeq, Int32.not_lt, Int32.not_le] using q)] at kk; exact kk
theorem JL.eq (hd : decode M.2.1 pc = .ok (.lcmp, 1)) (hz : JZ g M (pc + 1) pcT pcF zeq) : JL g M pc pcT pcF leq := by
  intro p e R s m args below meth c cells slots Q hC H locs ls rest x y kk
  refine W.lcmp hC.1 hC.2.1 hd ?_
  refine hz p e R s m args below meth c cells slots Q hC H locs ls rest _ ?_
  have e : zeq (lg_cmp x y) = leq x y := by simp [zeq, leq, lg_cmp_eq]
  rw [e]
  exact kk
theorem JI.neT {off : Int} {tgt : Nat} (hd : decode M.2.1 pc = .ok (.if_icmp .ne off, 3)) (ht : (pc : Int) + off = (tgt : Int)) : JI g M pc tgt (pc + 3) rne := by
  intro p e R s m args below meth c cells slots Q hC H locs ls rest x y kk
  refine lv_icmp_ne hC.1 hC.2.1 hd ht (fun q => ?_) (fun q => ?_)
  · rw [if_pos (by simpa [rne] using q)] at kk; exact kk
  · rw [if_neg (by simpa [rne] using q)] at kk; exact kk
theorem JI.neF {off : Int} {tgt : Nat} (hd : decode M.2.1 pc = .ok (.if_icmp .eq off, 3)) (ht : (pc : Int) + off = (tgt : Int)) : JI g M pc (pc + 3) tgt rne := by
  intro p e R s m args below meth c cells slots Q hC H locs ls rest x y kk
  refine lv_icmp_eq hC.1 hC.2.1 hd ht (fun q => ?_) (fun q => ?_)
  · rw [if_neg (by simpa [rne, Int32.not_lt, Int32.not_le] using q)] at kk; exact kk
  · rw [if_pos (by simpa [rne, Int32.not_lt, Int32.not_le] using q)] at kk; exact kk
theorem JZ.neT {off : Int} {tgt : Nat} (hd : decode M.2.1 pc = .ok (.ifCond .ne off, 3)) (ht : (pc : Int) + off = (tgt : Int)) : JZ g M pc tgt (pc + 3) zne := by
  intro p e R s m args below meth c cells slots Q hC H locs ls rest x kk
  refine lv_if_ne hC.1 hC.2.1 hd ht (fun q => ?_) (fun q => ?_)
  · rw [if_pos (by simpa [zne] using q)] at kk; exact kk
  · rw [if_neg (by simpa [zne] using q)] at kk; exact kk
theorem JZ.neF {off : Int} {tgt : Nat} (hd : decode M.2.1 pc = .ok (.ifCond .eq off, 3)) (ht : (pc : Int) + off = (tgt : Int)) : JZ g M pc (pc + 3) tgt zne := by
  intro p e R s m args below meth c cells slots Q hC H locs ls rest x kk
  refine lv_if_eq hC.1 hC.2.1 hd ht (fun q => ?_) (fun q => ?_)
  · rw [if_neg (by simpa [zne, Int32.not_lt, Int32.not_le] using q)] at kk; exact kk
  · rw [if_pos (by simpa [zne, Int32.not_lt, Int32.not_le] using q)] at kk; exact kk
theorem JL.ne (hd : decode M.2.1 pc = .ok (.lcmp, 1)) (hz : JZ g M (pc + 1) pcT pcF zne) : JL g M pc pcT pcF lne := by
  intro p e R s m args below meth c cells slots Q hC H locs ls rest x y kk
  refine W.lcmp hC.1 hC.2.1 hd ?_
  refine hz p e R s m args below meth c cells slots Q hC H locs ls rest _ ?_
  have e : zne (lg_cmp x y) = lne x y := by simp [zne, lne, lg_cmp_eq]
  rw [e]
  exact kk
theorem JI.ltT {off : Int} {tgt : Nat} (hd : decode M.2.1 pc = .ok (.if_icmp .lt off, 3)) (ht : (pc : Int) + off = (tgt : Int)) : JI g M pc tgt (pc + 3) rlt := by
  intro p e R s m args below meth c cells slots Q hC H locs ls rest x y kk
  refine lv_icmp_lt hC.1 hC.2.1 hd ht (fun q => ?_) (fun q => ?_)
  · rw [if_pos (by simpa [rlt] using q)] at kk; exact kk
  · rw [if_neg (by simpa [rlt] using q)] at kk; exact kk
theorem JI.ltF {off : Int} {tgt : Nat} (hd : decode M.2.1 pc = .ok (.if_icmp .ge off, 3)) (ht : (pc : Int) + off = (tgt : Int)) : JI g M pc (pc + 3) tgt rlt := by
  intro p e R s m args below meth c cells slots Q hC H locs ls rest x y kk
  refine lv_icmp_ge hC.1 hC.2.1 hd ht (fun q => ?_) (fun q => ?_)
  · rw [if_neg (by simpa [rlt, Int32.not_lt, Int32.not_le] using q)] at kk; exact kk
  · rw [if_pos (by simpa [rlt, Int32.not_lt, Int32.not_le] using q)] at kk; exact kk
theorem JZ.ltT {off : Int} {tgt : Nat} (hd : decode M.2.1 pc = .ok (.ifCond .lt off, 3)) (ht : (pc : Int) + off = (tgt : Int)) : JZ g M pc tgt (pc + 3) zlt := by
  intro p e R s m args below meth c cells slots Q hC H locs ls rest x kk
  refine lv_if_lt hC.1 hC.2.1 hd ht (fun q => ?_) (fun q => ?_)
  · rw [if_pos (by simpa [zlt] using q)] at kk; exact kk
  · rw [if_neg (by simpa [zlt] using q)] at kk; exact kk
theorem JZ.ltF {off : Int} {tgt : Nat} (hd : decode M.2.1 pc = .ok (.ifCond .ge off, 3)) (ht : (pc : Int) + off = (tgt : Int)) : JZ g M pc (pc + 3) tgt zlt := by
  intro p e R s m args below meth c cells slots Q hC H locs ls rest x kk
  refine lv_if_ge hC.1 hC.2.1 hd ht (fun q => ?_) (fun q => ?_)
  · rw [if_neg (by simpa [zlt, Int32.not_lt, Int32.not_le] using q)] at kk; exact kk
  · rw [if_pos (by simpa [zlt, Int32.not_lt, Int32.not_le] using q)] at kk; exact kk
theorem JL.lt (hd : decode M.2.1 pc = .ok (.lcmp, 1)) (hz : JZ g M (pc + 1) pcT pcF zlt) : JL g M pc pcT pcF llt := by
  intro p e R s m args below meth c cells slots Q hC H locs ls rest x y kk
  refine W.lcmp hC.1 hC.2.1 hd ?_
  refine hz p e R s m args below meth c cells slots Q hC H locs ls rest _ ?_
  have e : zlt (lg_cmp x y) = llt x y := by simp [zlt, llt, lg_cmp_lt]
  rw [e]
  exact kk
theorem JI.geT {off : Int} {tgt : Nat} (hd : decode M.2.1 pc = .ok (.if_icmp .ge off, 3)) (ht : (pc : Int) + off = (tgt : Int)) : JI g M pc tgt (pc + 3) rge := by
  intro p e R s m args below meth c cells slots Q hC H locs ls rest x y kk
  refine lv_icmp_ge hC.1 hC.2.1 hd ht (fun q => ?_) (fun q => ?_)
  · rw [if_pos (by simpa [rge] using q)] at kk; exact kk
  · rw [if_neg (by simpa [rge] using q)] at kk; exact kk
theorem JI.geF {off : Int} {tgt : Nat} (hd : decode M.2.1 pc = .ok (.if_icmp .lt off, 3)) (ht : (pc : Int) + off = (tgt : Int)) : JI g M pc (pc + 3) tgt rge := by
  intro p e R s m args below meth c cells slots Q hC H locs ls rest x y kk
  refine lv_icmp_lt hC.1 hC.2.1 hd ht (fun q => ?_) (fun q => ?_)
  · rw [if_neg (by simpa [rge, Int32.not_lt, Int32.not_le] using q)] at kk; exact kk
  · rw [if_pos (by simpa [rge, Int32.not_lt, Int32.not_le] using q)] at kk; exact kk
theorem JZ.geT {off : Int} {tgt : Nat} (hd : decode M.2.1 pc = .ok (.ifCond .ge off, 3)) (ht : (pc : Int) + off = (tgt : Int)) : JZ g M pc tgt (pc + 3) zge := by
  intro p e R s m args below meth c cells slots Q hC H locs ls rest x kk
  refine lv_if_ge hC.1 hC.2.1 hd ht (fun q => ?_) (fun q => ?_)
  · rw [if_pos (by simpa [zge] using q)] at kk; exact kk
  · rw [if_neg (by simpa [zge] using q)] at kk; exact kk
theorem JZ.geF {off : Int} {tgt : Nat} (hd : decode M.2.1 pc = .ok (.ifCond .lt off, 3)) (ht : (pc : Int) + off = (tgt : Int)) : JZ g M pc (pc + 3) tgt zge := by
  intro p e R s m args below meth c cells slots Q hC H locs ls rest x kk
  refine lv_if_lt hC.1 hC.2.1 hd ht (fun q => ?_) (fun q => ?_)
  · rw [if_neg (by simpa [zge, Int32.not_lt, Int32.not_le] using q)] at kk; exact kk
  · rw [if_pos (by simpa [zge, Int32.not_lt, Int32.not_le] using q)] at kk; exact kk
theorem JL.ge (hd : decode M.2.1 pc = .ok (.lcmp, 1)) (hz : JZ g M (pc + 1) pcT pcF zge) : JL g M pc pcT pcF lge := by
  intro p e R s m args below meth c cells slots Q hC H locs ls rest x y kk
  refine W.lcmp hC.1 hC.2.1 hd ?_
  refine hz p e R s m args below meth c cells slots Q hC H locs ls rest _ ?_
  have e : zge (lg_cmp x y) = lge x y := by simp [zge, lge, lg_cmp_ge]
  rw [e]
  exact kk
theorem JI.gtT {off : Int} {tgt : Nat} (hd : decode M.2.1 pc = .ok (.if_icmp .gt off, 3)) (ht : (pc : Int) + off = (tgt : Int)) : JI g M pc tgt (pc + 3) rgt := by
  intro p e R s m args below meth c cells slots Q hC H locs ls rest x y kk
  refine lv_icmp_gt hC.1 hC.2.1 hd ht (fun q => ?_) (fun q => ?_)
  · rw [if_pos (by simpa [rgt] using q)] at kk; exact kk
  · rw [if_neg (by simpa [rgt] using q)] at kk; exact kk
theorem JI.gtF {off : Int} {tgt : Nat} (hd : decode M.2.1 pc = .ok (.if_icmp .le off, 3)) (ht : (pc : Int) + off = (tgt : Int)) : JI g M pc (pc + 3) tgt rgt := by
  intro p e R s m args below meth c cells slots Q hC H locs ls rest x y kk
  refine lv_icmp_le hC.1 hC.2.1 hd ht (fun q => ?_) (fun q => ?_)
  · rw [if_neg (by simpa [rgt, Int32.not_lt, Int32.not_le] using q)] at kk; exact kk
  · rw [if_pos (by simpa [rgt, Int32.not_lt, Int32.not_le] using q)] at kk; exact kk
theorem JZ.gtT {off : Int} {tgt : Nat} (hd : decode M.2.1 pc = .ok (.ifCond .gt off, 3)) (ht : (pc : Int) + off = (tgt : Int)) : JZ g M pc tgt (pc + 3) zgt := by
  intro p e R s m args below meth c cells slots Q hC H locs ls rest x kk
  refine lv_if_gt hC.1 hC.2.1 hd ht (fun q => ?_) (fun q => ?_)
  · rw [if_pos (by simpa [zgt] using q)] at kk; exact kk
  · rw [if_neg (by simpa [zgt] using q)] at kk; exact kk
theorem JZ.gtF {off : Int} {tgt : Nat} (hd : decode M.2.1 pc = .ok (.ifCond .le off, 3)) (ht : (pc : Int) + off = (tgt : Int)) : JZ g M pc (pc + 3) tgt zgt := by
  intro p e R s m args below meth c cells slots Q hC H locs ls rest x kk
  refine lv_if_le hC.1 hC.2.1 hd ht (fun q => ?_) (fun q => ?_)
  · rw [if_neg (by simpa [zgt, Int32.not_lt, Int32.not_le] using q)] at kk; exact kk
  · rw [if_pos (by simpa [zgt, Int32.not_lt, Int32.not_le] using q)] at kk; exact kk
theorem JL.gt (hd : decode M.2.1 pc = .ok (.lcmp, 1)) (hz : JZ g M (pc + 1) pcT pcF zgt) : JL g M pc pcT pcF lgt := by
  intro p e R s m args below meth c cells slots Q hC H locs ls rest x y kk
  refine W.lcmp hC.1 hC.2.1 hd ?_
  refine hz p e R s m args below meth c cells slots Q hC H locs ls rest _ ?_
  have e : zgt (lg_cmp x y) = lgt x y := by simp [zgt, lgt, lg_cmp_gt]
  rw [e]
  exact kk
theorem JI.leT {off : Int} {tgt : Nat} (hd : decode M.2.1 pc = .ok (.if_icmp .le off, 3)) (ht : (pc : Int) + off = (tgt : Int)) : JI g M pc tgt (pc + 3) rle := by
  intro p e R s m args below meth c cells slots Q hC H locs ls rest x y kk
  refine lv_icmp_le hC.1 hC.2.1 hd ht (fun q => ?_) (fun q => ?_)
  · rw [if_pos (by simpa [rle] using q)] at kk; exact kk
  · rw [if_neg (by simpa [rle] using q)] at kk; exact kk
theorem JI.leF {off : Int} {tgt : Nat} (hd : decode M.2.1 pc = .ok (.if_icmp .gt off, 3)) (ht : (pc : Int) + off = (tgt : Int)) : JI g M pc (pc + 3) tgt rle := by
  intro p e R s m args below meth c cells slots Q hC H locs ls rest x y kk
  refine lv_icmp_gt hC.1 hC.2.1 hd ht (fun q => ?_) (fun q => ?_)
  · rw [if_neg (by simpa [rle, Int32.not_lt, Int32.not_le] using q)] at kk; exact kk
  · rw [if_pos (by simpa [rle, Int32.not_lt, Int32.not_le] using q)] at kk; exact kk
theorem JZ.leT {off : Int} {tgt : Nat} (hd : decode M.2.1 pc = .ok (.ifCond .le off, 3)) (ht : (pc : Int) + off = (tgt : Int)) : JZ g M pc tgt (pc + 3) zle := by
  intro p e R s m args below meth c cells slots Q hC H locs ls rest x kk
  refine lv_if_le hC.1 hC.2.1 hd ht (fun q => ?_) (fun q => ?_)
  · rw [if_pos (by simpa [zle] using q)] at kk; exact kk
  · rw [if_neg (by simpa [zle] using q)] at kk; exact kk
theorem JZ.leF {off : Int} {tgt : Nat} (hd : decode M.2.1 pc = .ok (.ifCond .gt off, 3)) (ht : (pc : Int) + off = (tgt : Int)) : JZ g M pc (pc + 3) tgt zle := by
  intro p e R s m args below meth c cells slots Q hC H locs ls rest x kk
  refine lv_if_gt hC.1 hC.2.1 hd ht (fun q => ?_) (fun q => ?_)
  · rw [if_neg (by simpa [zle, Int32.not_lt, Int32.not_le] using q)] at kk; exact kk
  · rw [if_pos (by simpa [zle, Int32.not_lt, Int32.not_le] using q)] at kk; exact kk
theorem JL.le (hd : decode M.2.1 pc = .ok (.lcmp, 1)) (hz : JZ g M (pc + 1) pcT pcF zle) : JL g M pc pcT pcF lle := by
  intro p e R s m args below meth c cells slots Q hC H locs ls rest x y kk
  refine W.lcmp hC.1 hC.2.1 hd ?_
  refine hz p e R s m args below meth c cells slots Q hC H locs ls rest _ ?_
  have e : zle (lg_cmp x y) = lle x y := by simp [zle, lle, lg_cmp_le]
  rw [e]
  exact kk
def cB (rel : Int32 → Int32 → Bool) (a b : EI) : CX := fun env h k => a env h fun x h1 => b env h1 fun y h2 => k (rel x y) h2
def cZ (rel : Int32 → Bool) (a : EI) : CX := fun env h k => a env h fun x h1 => k (rel x) h1
def cL (rel : Int64 → Int64 → Bool) (a b : EL) : CX := fun env h k => a env h fun x h1 => b env h1 fun y h2 => k (rel x y) h2
def cAnd (a b : CX) : CX := fun env h k => a env h fun x h1 => if x = true then b env h1 k else k false h1
def cOr (a b : CX) : CX := fun env h k => a env h fun x h1 => if x = true then k true h1 else b env h1 k
def cNot (a : CX) : CX := fun env h k => a env h fun x h1 => k (!x) h1
def cK (b : Bool) : CX := fun _ h k => k b h
theorem Cok.cmp {rel : Int32 → Int32 → Bool} {a b : EI} (ha : EokI g M wa pc pc1 a) (hb : EokI g M wb pc1 pc2 b) (hj : JI g M pc2 pcT pcF rel) : Cok g M (max wa (1 + wb)) pc pcT pcF (cB rel a b) := by
  intro p e R s m args below meth c cells slots Q hC H locs ls env h rest k hL hH hw hf kk
  refine ha p e R s m args below meth c cells slots Q hC H locs ls env h rest _ hL hH (by omega) hf (fun x H1 l1 h1 hH1 hf1 => ?_)
  refine hb p e R s m args below meth c cells slots Q hC H1 l1 ls env h1 (.int x :: rest) _ hL hH1 (by rw [cats_i]; omega) hf1 (fun y H2 l2 h2 hH2 hf2 => ?_)
  exact hj p e R s m args below meth c cells slots Q hC H2 l2 ls rest x y (kk _ _ _ _ hH2 hf2)
theorem Cok.zero {rel : Int32 → Bool} {a : EI} (ha : EokI g M wa pc pc1 a) (hj : JZ g M pc1 pcT pcF rel) : Cok g M wa pc pcT pcF (cZ rel a) := by
  intro p e R s m args below meth c cells slots Q hC H locs ls env h rest k hL hH hw hf kk
  refine ha p e R s m args below meth c cells slots Q hC H locs ls env h rest _ hL hH hw hf (fun x H1 l1 h1 hH1 hf1 => ?_)
  exact hj p e R s m args below meth c cells slots Q hC H1 l1 ls rest x (kk _ _ _ _ hH1 hf1)
theorem Cok.lcmp {rel : Int64 → Int64 → Bool} {a b : EL} (ha : EokL g M wa pc pc1 a) (hb : EokL g M wb pc1 pc2 b) (hj : JL g M pc2 pcT pcF rel) : Cok g M (max wa (2 + wb)) pc pcT pcF (cL rel a b) := by
  intro p e R s m args below meth c cells slots Q hC H locs ls env h rest k hL hH hw hf kk
  refine ha p e R s m args below meth c cells slots Q hC H locs ls env h rest _ hL hH (by omega) hf (fun x H1 l1 h1 hH1 hf1 => ?_)
  refine hb p e R s m args below meth c cells slots Q hC H1 l1 ls env h1 (.long x :: rest) _ hL hH1 (by rw [cats_l]; omega) hf1 (fun y H2 l2 h2 hH2 hf2 => ?_)
  exact hj p e R s m args below meth c cells slots Q hC H2 l2 ls rest x y (kk _ _ _ _ hH2 hf2)
theorem Cok.and {a b : CX} (ha : Cok g M wa pc pc1 pcF a) (hb : Cok g M wb pc1 pcT pcF b) : Cok g M (max wa wb) pc pcT pcF (cAnd a b) := by
  intro p e R s m args below meth c cells slots Q hC H locs ls env h rest k hL hH hw hf kk
  refine ha p e R s m args below meth c cells slots Q hC H locs ls env h rest _ hL hH (by omega) hf (fun x H1 l1 h1 hH1 hf1 => ?_)
  cases x with
  | false => exact kk false _ _ _ hH1 hf1
  | true => exact hb p e R s m args below meth c cells slots Q hC H1 l1 ls env h1 rest k hL hH1 (by omega) hf1 kk
theorem Cok.or {a b : CX} (ha : Cok g M wa pc pcT pc1 a) (hb : Cok g M wb pc1 pcT pcF b) : Cok g M (max wa wb) pc pcT pcF (cOr a b) := by
  intro p e R s m args below meth c cells slots Q hC H locs ls env h rest k hL hH hw hf kk
  refine ha p e R s m args below meth c cells slots Q hC H locs ls env h rest _ hL hH (by omega) hf (fun x H1 l1 h1 hH1 hf1 => ?_)
  cases x with
  | true => exact kk true _ _ _ hH1 hf1
  | false => exact hb p e R s m args below meth c cells slots Q hC H1 l1 ls env h1 rest k hL hH1 (by omega) hf1 kk
theorem Cok.not {a : CX} (ha : Cok g M wa pc pcF pcT a) : Cok g M wa pc pcT pcF (cNot a) := by
  intro p e R s m args below meth c cells slots Q hC H locs ls env h rest k hL hH hw hf kk
  refine ha p e R s m args below meth c cells slots Q hC H locs ls env h rest _ hL hH hw hf (fun x H1 l1 h1 hH1 hf1 => ?_)
  have := kk (!x) _ _ _ hH1 hf1
  cases x <;> exact this
theorem Cok.gotoT {a : CX} {off : Int} {pcT' : Nat} (ha : Cok g M wa pc pcT' pcF a) (hd : decode M.2.1 pcT' = .ok (.goto off, 3)) (ht : (pcT' : Int) + off = (pcT : Int)) : Cok g M wa pc pcT pcF a := by
  intro p e R s m args below meth c cells slots Q hC H locs ls env h rest k hL hH hw hf kk
  refine ha p e R s m args below meth c cells slots Q hC H locs ls env h rest _ hL hH hw hf (fun x H1 l1 h1 hH1 hf1 => ?_)
  have := kk x _ _ _ hH1 hf1
  cases x
  · exact this
  · exact lv_goto hC.1 hC.2.1 hd ht this
theorem Cok.gotoF {a : CX} {off : Int} {pcF' : Nat} (ha : Cok g M wa pc pcT pcF' a) (hd : decode M.2.1 pcF' = .ok (.goto off, 3)) (ht : (pcF' : Int) + off = (pcF : Int)) : Cok g M wa pc pcT pcF a := by
  intro p e R s m args below meth c cells slots Q hC H locs ls env h rest k hL hH hw hf kk
  refine ha p e R s m args below meth c cells slots Q hC H locs ls env h rest _ hL hH hw hf (fun x H1 l1 h1 hH1 hf1 => ?_)
  have := kk x _ _ _ hH1 hf1
  cases x
  · exact lv_goto hC.1 hC.2.1 hd ht this
  · exact this
def iCond (c : CX) (a b : EI) : EI := fun env h k => c env h fun x h1 => if x = true then a env h1 k else b env h1 k
def lCond (c : CX) (a b : EL) : EL := fun env h k => c env h fun x h1 => if x = true then a env h1 k else b env h1 k
/-- a condition's worth as an int -/
def iBool (c : CX) : EI := iCond c (iK 1) (iK 0)
theorem EokI.cond {c : CX} {a b : EI} {off : Int} (hc : Cok g M wa pc pc1 pc2 c) (ha : EokI g M wb pc1 pc3 a) (hd : decode M.2.1 pc3 = .ok (.goto off, 3)) (ht : (pc3 : Int) + off = (pc4 : Int)) (hb : EokI g M wd pc2 pc4 b) : EokI g M (max wa (max wb wd)) pc pc4 (iCond c a b) := by
  intro p e R s m args below meth c cells slots Q hC H locs ls env h rest k hL hH hw hf kk
  refine hc p e R s m args below meth c cells slots Q hC H locs ls env h rest _ hL hH (by omega) hf (fun x H1 l1 h1 hH1 hf1 => ?_)
  cases x with
  | true => exact ha p e R s m args below meth c cells slots Q hC H1 l1 ls env h1 rest k hL hH1 (by omega) hf1 (fun x H2 l2 h2 hH2 hf2 => lv_goto hC.1 hC.2.1 hd ht (kk _ _ _ _ hH2 hf2))
  | false => exact hb p e R s m args below meth c cells slots Q hC H1 l1 ls env h1 rest k hL hH1 (by omega) hf1 kk
theorem EokI.goto {a : EI} {off : Int} (ha : EokI g M wa pc pc1 a) (hd : decode M.2.1 pc1 = .ok (.goto off, 3)) (ht : (pc1 : Int) + off = (pc2 : Int)) : EokI g M wa pc pc2 a := by
  intro p e R s m args below meth c cells slots Q hC H locs ls env h rest k hL hH hw hf kk
  exact ha p e R s m args below meth c cells slots Q hC H locs ls env h rest k hL hH hw hf (fun x H2 l2 h2 hH2 hf2 => lv_goto hC.1 hC.2.1 hd ht (kk _ _ _ _ hH2 hf2))
/-- both ways end at one place, by whatever jumps -/
theorem EokI.cond' {c : CX} {a b : EI} (hc : Cok g M wa pc pc1 pc2 c) (ha : EokI g M wb pc1 pc4 a) (hb : EokI g M wd pc2 pc4 b) : EokI g M (max wa (max wb wd)) pc pc4 (iCond c a b) := by
  intro p e R s m args below meth c cells slots Q hC H locs ls env h rest k hL hH hw hf kk
  refine hc p e R s m args below meth c cells slots Q hC H locs ls env h rest _ hL hH (by omega) hf (fun x H1 l1 h1 hH1 hf1 => ?_)
  cases x with
  | true => exact ha p e R s m args below meth c cells slots Q hC H1 l1 ls env h1 rest k hL hH1 (by omega) hf1 kk
  | false => exact hb p e R s m args below meth c cells slots Q hC H1 l1 ls env h1 rest k hL hH1 (by omega) hf1 kk
theorem EokL.cond {c : CX} {a b : EL} {off : Int} (hc : Cok g M wa pc pc1 pc2 c) (ha : EokL g M wb pc1 pc3 a) (hd : decode M.2.1 pc3 = .ok (.goto off, 3)) (ht : (pc3 : Int) + off = (pc4 : Int)) (hb : EokL g M wd pc2 pc4 b) : EokL g M (max wa (max wb wd)) pc pc4 (lCond c a b) := by
  intro p e R s m args below meth c cells slots Q hC H locs ls env h rest k hL hH hw hf kk
  refine hc p e R s m args below meth c cells slots Q hC H locs ls env h rest _ hL hH (by omega) hf (fun x H1 l1 h1 hH1 hf1 => ?_)
  cases x with
  | true => exact ha p e R s m args below meth c cells slots Q hC H1 l1 ls env h1 rest k hL hH1 (by omega) hf1 (fun x H2 l2 h2 hH2 hf2 => lv_goto hC.1 hC.2.1 hd ht (kk _ _ _ _ hH2 hf2))
  | false => exact hb p e R s m args below meth c cells slots Q hC H1 l1 ls env h1 rest k hL hH1 (by omega) hf1 kk
theorem EokL.goto {a : EL} {off : Int} (ha : EokL g M wa pc pc1 a) (hd : decode M.2.1 pc1 = .ok (.goto off, 3)) (ht : (pc1 : Int) + off = (pc2 : Int)) : EokL g M wa pc pc2 a := by
  intro p e R s m args below meth c cells slots Q hC H locs ls env h rest k hL hH hw hf kk
  exact ha p e R s m args below meth c cells slots Q hC H locs ls env h rest k hL hH hw hf (fun x H2 l2 h2 hH2 hf2 => lv_goto hC.1 hC.2.1 hd ht (kk _ _ _ _ hH2 hf2))
/-- both ways end at one place, by whatever jumps -/
theorem EokL.cond' {c : CX} {a b : EL} (hc : Cok g M wa pc pc1 pc2 c) (ha : EokL g M wb pc1 pc4 a) (hb : EokL g M wd pc2 pc4 b) : EokL g M (max wa (max wb wd)) pc pc4 (lCond c a b) := by
  intro p e R s m args below meth c cells slots Q hC H locs ls env h rest k hL hH hw hf kk
  refine hc p e R s m args below meth c cells slots Q hC H locs ls env h rest _ hL hH (by omega) hf (fun x H1 l1 h1 hH1 hf1 => ?_)
  cases x with
  | true => exact ha p e R s m args below meth c cells slots Q hC H1 l1 ls env h1 rest k hL hH1 (by omega) hf1 kk
  | false => exact hb p e R s m args below meth c cells slots Q hC H1 l1 ls env h1 rest k hL hH1 (by omega) hf1 kk
def aNil : EA := fun _ h k => k [] h
def aI (a : EI) (r : EA) : EA := fun env h k => a env h fun x h1 => r env h1 fun vs h2 => k (.int x :: vs) h2
def aL (a : EL) (r : EA) : EA := fun env h k => a env h fun x h1 => r env h1 fun vs h2 => k (.long x :: vs) h2
def aR (a : ER) (r : EA) : EA := fun env h k => a env h fun x h1 => r env h1 fun vs h2 => k (.ref x :: vs) h2
theorem Aok.nil : Aok g M 0 0 pc pc aNil := by
  intro p e R s m args below meth c cells slots Q hC H locs ls env h rest k hL hH hw hf kk
  exact kk [] _ _ _ hH rfl hf
theorem Aok.aI {a : EI} {r : EA} (ha : EokI g M wa pc pc1 a) (hr : Aok g M wb n pc1 pc2 r) : Aok g M (max wa (1 + wb)) (n + 1) pc pc2 (aI a r) := by
  intro p e R s m args below meth c cells slots Q hC H locs ls env h rest k hL hH hw hf kk
  refine ha p e R s m args below meth c cells slots Q hC H locs ls env h rest _ hL hH (by omega) hf (fun x H1 l1 h1 hH1 hf1 => ?_)
  refine hr p e R s m args below meth c cells slots Q hC H1 l1 ls env h1 (.int x :: rest) _ hL hH1 (by rw [cats_i]; omega) hf1 (fun vs H2 l2 h2 hH2 hn hf2 => ?_)
  have := kk (.int x :: vs) _ _ _ hH2 (by simp [hn]) hf2
  simpa [cv] using this
theorem Aok.aL {a : EL} {r : EA} (ha : EokL g M wa pc pc1 a) (hr : Aok g M wb n pc1 pc2 r) : Aok g M (max wa (2 + wb)) (n + 1) pc pc2 (aL a r) := by
  intro p e R s m args below meth c cells slots Q hC H locs ls env h rest k hL hH hw hf kk
  refine ha p e R s m args below meth c cells slots Q hC H locs ls env h rest _ hL hH (by omega) hf (fun x H1 l1 h1 hH1 hf1 => ?_)
  refine hr p e R s m args below meth c cells slots Q hC H1 l1 ls env h1 (.long x :: rest) _ hL hH1 (by rw [cats_l]; omega) hf1 (fun vs H2 l2 h2 hH2 hn hf2 => ?_)
  have := kk (.long x :: vs) _ _ _ hH2 (by simp [hn]) hf2
  simpa [cv] using this
theorem Aok.aR {a : ER} {r : EA} (ha : EokR g M wa pc pc1 a) (hr : Aok g M wb n pc1 pc2 r) : Aok g M (max wa (1 + wb)) (n + 1) pc pc2 (aR a r) := by
  intro p e R s m args below meth c cells slots Q hC H locs ls env h rest k hL hH hw hf kk
  refine ha p e R s m args below meth c cells slots Q hC H locs ls env h rest _ hL hH (by omega) hf (fun x H1 l1 h1 hH1 hf1 => ?_)
  refine hr p e R s m args below meth c cells slots Q hC H1 l1 ls env h1 (.ref (g.2.2.1 + x) :: rest) _ hL hH1 (by rw [cats_r]; omega) hf1 (fun vs H2 l2 h2 hH2 hn hf2 => ?_)
  have := kk (.ref x :: vs) _ _ _ hH2 (by simp [hn]) hf2
  simpa [cv] using this
end EX
/-- the room of a method of so many frames, which makes nothing -/
def rmk (k : Nat) : Room := { frames := k, cells := 0, slots := 0, locals := 48 * k }
def Pcj (g : GT) (as : List Value) (h : HS) : Array Value → State → Prop := va_Pc (as.map (cv g)) (fun U => va_P g.2.2.2.2.1 jcl (wsOf g h) U.heap ∧ va_K g.2.2.2.2.1 jcl (jtys g) U ∧ RES g U U.heap)
def Qcj (g : GT) (Rp : Option Value → HS → Prop) : Array Value → State → Outcome → State → Prop := fun _ st o t => (∃ (v : Option Value) (h' : HS), o = .returned (v.map (cv g)) ∧ Rp v h' ∧ va_P g.2.2.2.2.1 jcl (wsOf g h') t.heap ∧ Jk g h') ∧ va_F (jA g) st t
/-- a method's contract: what its transformer says of any post holds at its end -/
def MK (g : GT) (k : Nat) (y : MethodName) (bytes : ByteArray) (maxL : Nat) (ret : Option FieldType) (F : MX) : Prop :=
  ∀ (as : List Value) (h : HS) (Rp : Option Value → HS → Prop), Jk g h → F as h Rp → Met g.1 y (.code y bytes maxL ret :: WD) (rmk k) (Pcj g as h) (Qcj g Rp) 0 0 (jA g)
theorem Pcj_blind {g : GT} {as : List Value} {h : HS} : FrameBlind (Pcj g as h) := fun a U fr mk q => by
  obtain ⟨q0, q1, q2, q3⟩ := q
  exact ⟨q0, q1, va_K.moved (u := U) (U := U.calling fr mk a) (Vm.Alike.refl U.vm) q2, RES.kept (u := U) (U := U.calling fr mk a) (Vm.Alike.refl U.vm) q3 (Nat.le_refl _) (fun _ _ _ => rfl)⟩
section CALLS
variable {g : GT} {M : MT} {w wa wb wd pc pc1 pc2 pc3 pc4 n : Nat}
theorem call_go {p : Program} {e : Env} {R : Room} {s : State} {m : MethodId} {args : Array Value} {below : List Frame} {meth : Method} {c : Code} {cells slots : Nat} {Q : State → Prop} {H : Heap} {locs : List Loc} {h : HS} {fr : JFrame} {rest : List Value} {Rp : Option Value → HS → Prop} {a : Array Value} (hH : RH g s H locs h)
    (hr : va_Run p g.1 e R s m args below meth c H locs cells slots 0 0 fr rest (Qcj g Rp a) (jA g))
    (kk : ∀ (v : Option Value) (H' : Heap) (locs' : List Loc) (h' : HS), RH g s H' locs' h' → Rp v h' → W p g.1 e R s m args below meth c H' locs' cells slots Q { fr with pc := fr.pc + 3, stack := (v.map (cv g)).toList ++ rest }) : W p g.1 e R s m args below meth c H locs cells slots Q fr := by
  intro T hT X
  obtain ⟨v, st₀, t, T', L, h0, X', hL, e1, e2, ⟨⟨v', h', hv, hp, hb, hj⟩, hz, hk⟩, st⟩ := hr T hT X
  cases hv
  rw [h0] at hz hk
  obtain ⟨t2, a1, b1⟩ := kk v' T'.heap (locs ++ L) h' ⟨by rw [e1]; exact hb, ⟨Nat.le_trans hH.2.1.1 (by rw [e1]; exact hz), fun q h1 h2 => by rw [e1, hk q (Nat.lt_of_lt_of_le h1 hH.2.1.1) h2]; exact hH.2.1.2.1 q h1 h2, fun q hq => by
      rcases List.mem_append.mp hq with z | z
      · exact hH.2.1.2.2 q z
      · exact hL q z⟩, hj⟩ hp T' rfl X'
  exact ⟨t2, st t2 a1, b1⟩
/-- the receiver is an object of this class -/
def rcv (ci : Nat) (vs : List Value) (h : HS) : Prop := match vs with
  | .ref o :: _ => ∃ fs, h o = .inr (ci, fs)
  | _ => False
def yok (y : MethodName) (n : Nat) : Prop := plainName y.cls = true ∧ y.cls ≠ "java/lang/invoke/MethodHandle" ∧ y.cls ≠ "java/lang/invoke/VarHandle" ∧ (parseMethodDescriptor y.desc).map (fun d => d.parameters.length) = some n
def vok (own : String) (idx : Nat) (y : MethodName) (bytes : ByteArray) (maxL : Nat) (ret : Option FieldType) : Prop := ∀ w ∈ wsV own idx y.cls y (.code y bytes maxL ret :: WD), w ∈ WD
def sok (own : String) (idx : Nat) (y : MethodName) (bytes : ByteArray) (maxL : Nat) (ret : Option FieldType) : Prop := ∀ w ∈ va_wsS own idx y (.code y bytes maxL ret :: WD), w ∈ WD
theorem vok_of {own : String} {idx : Nat} {y : MethodName} {bytes : ByteArray} {maxL : Nat} {ret : Option FieldType} (h1 : Cond.methodLink own idx y ∈ WD) (h2 : Cond.instanceMethod y ∈ WD) (h3 : Cond.selects y.cls y y ∈ WD) (h4 : Cond.initialized y.cls ∈ WD) (h5 : Cond.code y bytes maxL ret ∈ WD) : vok own idx y bytes maxL ret := by
  intro w hw
  simp only [wsV, List.mem_append, List.mem_cons, List.not_mem_nil, or_false] at hw
  rcases hw with (rfl | rfl | rfl | rfl) | rfl | hw
  all_goals assumption
theorem sok_of {own : String} {idx : Nat} {y : MethodName} {bytes : ByteArray} {maxL : Nat} {ret : Option FieldType} (h1 : Cond.methodLink own idx y ∈ WD) (h2 : Cond.static y ∈ WD) (h4 : Cond.initialized y.cls ∈ WD) (h5 : Cond.code y bytes maxL ret ∈ WD) : sok own idx y bytes maxL ret := by
  intro w hw
  simp only [va_wsS, List.mem_append, List.mem_cons, List.not_mem_nil, or_false] at hw
  rcases hw with (rfl | rfl | rfl) | rfl | hw
  all_goals assumption
theorem run_v {p : Program} {e : Env} {R : Room} {s : State} {m : MethodId} {args : Array Value} {below : List Frame} {meth : Method} {c : Code} {cells slots : Nat} {Q : State → Prop} {k ci idx maxL : Nat} {y : MethodName} {bytes : ByteArray} {ret : Option FieldType} {F : MX} {T : u_T} {NN : Nat} (hC : CT g M p R s m args c cells slots) (hM : MK g k y bytes maxL ret F) (hcl : jcl[ci]? = some (y.cls, T, NN)) (hy : yok y n) (hv : vok M.1 idx y bytes maxL ret) (hk : k + 1 ≤ M.2.2.2.1) (hm : maxL ≤ 29) (hd : decode M.2.1 pc = .ok (.invokevirtual idx, 3))
    {H : Heap} {locs : List Loc} {h : HS} {ls : Array Slot} {rest vs : List Value} {Rp : Option Value → HS → Prop} (hls : ls.size = M.2.2.1) (hH : RH g s H locs h) (hw : cats rest ≤ 8) (hn : vs.length = n + 1) (hr : rcv ci vs h) (hF : F vs h Rp)
    (kk : ∀ (v : Option Value) (H' : Heap) (locs' : List Loc) (h' : HS), RH g s H' locs' h' → Rp v h' → W p g.1 e R s m args below meth c H' locs' cells slots Q (F0 m (pc + 3) ls ((v.map (cv g)).toList ++ rest))) : W p g.1 e R s m args below meth c H locs cells slots Q (F0 m pc ls ((vs.map (cv g)).reverse ++ rest)) := by
  unfold rcv at hr
  split at hr
  · rename_i o vs'
    obtain ⟨fs, ho⟩ := hr
    obtain ⟨hx, hb, hml, hown, hts, hK, hfr, hlo, hres, hce, hsl⟩ := hC
    have hlt := Jk_lt hH.2.2 (o := o) (by rw [ho]; intro q; cases q; exact jcl_ci hcl rfl)
    have hg := wsOf_get (g := g) (h := h) hlt
    rw [ho] at hg
    have hMet := hM _ h Rp hH.2.2 hF
    have hfr' : (rmk k).frames + 1 ≤ R.frames ∧ 8 + (maxL + 11) + (rmk k).locals ≤ R.locals := by
      refine ⟨Nat.le_trans hk hfr, Nat.le_trans ?_ hlo⟩
      show 8 + (maxL + 11) + 48 * k ≤ 48 * M.2.2.2.1
      omega
    have hn' : (vs'.map (cv g)).length = n := by simpa using hn
    refine call_go (fr := F0 m pc ls (((Value.ref o :: vs').map (cv g)).reverse ++ rest)) (rest := rest) hH (va_runV (As := vs'.map (cv g)) (b := g.2.2.1 + o) (C := y.cls) ⟨hx, hb, hml, hown, hts⟩ hMet (cwV n hts (goodIn_WD hv) rfl rfl rfl ⟨rfl, hy.2⟩ hfr') ⟨Pcj_blind, va_recv hK hH.1 hcl hg, fun U hU hW => ⟨rfl, by rw [hU]; exact hH.1, va_K.moved hW.alike hK, ?_⟩⟩ rfl hn' hls (by simp [cv]) (lv_room hw) hd ⟨hce, hsl⟩) kk
    rw [hU]
    exact RES.kept hW.alike hres hH.2.1.1 (fun a h1 h2 => hH.2.1.2.1 a h1 h2)
  · exact hr.elim
theorem run_s {p : Program} {e : Env} {R : Room} {s : State} {m : MethodId} {args : Array Value} {below : List Frame} {meth : Method} {c : Code} {cells slots : Nat} {Q : State → Prop} {k idx maxL : Nat} {y : MethodName} {bytes : ByteArray} {ret : Option FieldType} {F : MX} (hC : CT g M p R s m args c cells slots) (hM : MK g k y bytes maxL ret F) (hy : yok y n) (hv : sok M.1 idx y bytes maxL ret) (hk : k + 1 ≤ M.2.2.2.1) (hm : maxL ≤ 29) (hd : decode M.2.1 pc = .ok (.invokestatic idx, 3))
    {H : Heap} {locs : List Loc} {h : HS} {ls : Array Slot} {rest vs : List Value} {Rp : Option Value → HS → Prop} (hls : ls.size = M.2.2.1) (hH : RH g s H locs h) (hw : cats rest ≤ 8) (hn : vs.length = n) (hF : F vs h Rp)
    (kk : ∀ (v : Option Value) (H' : Heap) (locs' : List Loc) (h' : HS), RH g s H' locs' h' → Rp v h' → W p g.1 e R s m args below meth c H' locs' cells slots Q (F0 m (pc + 3) ls ((v.map (cv g)).toList ++ rest))) : W p g.1 e R s m args below meth c H locs cells slots Q (F0 m pc ls ((vs.map (cv g)).reverse ++ rest)) := by
  obtain ⟨hx, hb, hml, hown, hts, hK, hfr, hlo, hres, hce, hsl⟩ := hC
  have hMet := hM _ h Rp hH.2.2 hF
  have hfr' : (rmk k).frames + 1 ≤ R.frames ∧ 8 + (maxL + 11) + (rmk k).locals ≤ R.locals := by
    refine ⟨Nat.le_trans hk hfr, Nat.le_trans ?_ hlo⟩
    show 8 + (maxL + 11) + 48 * k ≤ 48 * M.2.2.2.1
    omega
  have hn' : (vs.map (cv g)).length = n := by simpa using hn
  refine call_go (fr := F0 m pc ls ((vs.map (cv g)).reverse ++ rest)) (rest := rest) hH (va_runS (As := vs.map (cv g)) ⟨hx, hb, hml, hown, hts⟩ hMet (va_cwS n hts (goodIn_WD hv) rfl rfl rfl hy.2 hfr') ⟨Pcj_blind, fun U hU hW => ⟨rfl, by rw [hU]; exact hH.1, va_K.moved hW.alike hK, ?_⟩⟩ rfl hn' hls rfl (lv_room hw) hd ⟨hce, hsl⟩) kk
  rw [hU]
  exact RES.kept hW.alike hres hH.2.1.1 (fun a h1 h2 => hH.2.1.2.1 a h1 h2)
def iCallV (ci : Nat) (F : MX) (as : EA) : EI := fun env h k => as env h fun vs h1 => rcv ci vs h1 ∧ F vs h1 (fun r h2 => match r with
  | some (.int x) => k x h2
  | _ => False)
def lCallV (ci : Nat) (F : MX) (as : EA) : EL := fun env h k => as env h fun vs h1 => rcv ci vs h1 ∧ F vs h1 (fun r h2 => match r with
  | some (.long x) => k x h2
  | _ => False)
def iCallS (F : MX) (as : EA) : EI := fun env h k => as env h fun vs h1 => F vs h1 (fun r h2 => match r with
  | some (.int x) => k x h2
  | _ => False)
def lCallS (F : MX) (as : EA) : EL := fun env h k => as env h fun vs h1 => F vs h1 (fun r h2 => match r with
  | some (.long x) => k x h2
  | _ => False)
def sCallV (ci : Nat) (F : MX) (as : EA) : SX := fun env h N _ _ _ => as env h fun vs h1 => rcv ci vs h1 ∧ F vs h1 (fun r h2 => r = none ∧ N env h2)
def sCallS (F : MX) (as : EA) : SX := fun env h N _ _ _ => as env h fun vs h1 => F vs h1 (fun r h2 => r = none ∧ N env h2)
theorem LR_size {nL : Nat} {ls : Array Slot} {env : LE} (h : LR g nL ls env) : ls.size = nL := h.1
theorem EokI.iCallV {k ci idx maxL : Nat} {y : MethodName} {bytes : ByteArray} {ret : Option FieldType} {F : MX} {T : u_T} {NN : Nat} {as : EA} (ha : Aok g M wa (n + 1) pc pc1 as) (hM : MK g k y bytes maxL ret F) (hcl : jcl[ci]? = some (y.cls, T, NN)) (hy : yok y n) (hv : vok M.1 idx y bytes maxL ret) (hk : k + 1 ≤ M.2.2.2.1) (hm : maxL ≤ 29) (hd : decode M.2.1 pc1 = .ok (.invokevirtual idx, 3)) : EokI g M wa pc (pc1 + 3) (iCallV ci F as) := by
  intro p e R s m args below meth c cells slots Q hC H locs ls env h rest kx hL hH hw hf kk
  refine ha p e R s m args below meth c cells slots Q hC H locs ls env h rest _ hL hH hw hf (fun vs H1 l1 h1 hH1 hn hf1 => ?_)
  refine run_v hC hM hcl hy hv hk hm hd (LR_size hL) hH1 (by omega) hn hf1.1 hf1.2 (fun v H2 l2 h2 hH2 hf2 => ?_)
  try dsimp only at hf2
  split at hf2
  · exact kk _ _ _ _ hH2 hf2
  · exact hf2.elim
theorem EokL.lCallV {k ci idx maxL : Nat} {y : MethodName} {bytes : ByteArray} {ret : Option FieldType} {F : MX} {T : u_T} {NN : Nat} {as : EA} (ha : Aok g M wa (n + 1) pc pc1 as) (hM : MK g k y bytes maxL ret F) (hcl : jcl[ci]? = some (y.cls, T, NN)) (hy : yok y n) (hv : vok M.1 idx y bytes maxL ret) (hk : k + 1 ≤ M.2.2.2.1) (hm : maxL ≤ 29) (hd : decode M.2.1 pc1 = .ok (.invokevirtual idx, 3)) : EokL g M wa pc (pc1 + 3) (lCallV ci F as) := by
  intro p e R s m args below meth c cells slots Q hC H locs ls env h rest kx hL hH hw hf kk
  refine ha p e R s m args below meth c cells slots Q hC H locs ls env h rest _ hL hH hw hf (fun vs H1 l1 h1 hH1 hn hf1 => ?_)
  refine run_v hC hM hcl hy hv hk hm hd (LR_size hL) hH1 (by omega) hn hf1.1 hf1.2 (fun v H2 l2 h2 hH2 hf2 => ?_)
  try dsimp only at hf2
  split at hf2
  · exact kk _ _ _ _ hH2 hf2
  · exact hf2.elim
theorem EokI.iCallS {k idx maxL : Nat} {y : MethodName} {bytes : ByteArray} {ret : Option FieldType} {F : MX} {as : EA} (ha : Aok g M wa n pc pc1 as) (hM : MK g k y bytes maxL ret F) (hy : yok y n) (hv : sok M.1 idx y bytes maxL ret) (hk : k + 1 ≤ M.2.2.2.1) (hm : maxL ≤ 29) (hd : decode M.2.1 pc1 = .ok (.invokestatic idx, 3)) : EokI g M wa pc (pc1 + 3) (iCallS F as) := by
  intro p e R s m args below meth c cells slots Q hC H locs ls env h rest kx hL hH hw hf kk
  refine ha p e R s m args below meth c cells slots Q hC H locs ls env h rest _ hL hH hw hf (fun vs H1 l1 h1 hH1 hn hf1 => ?_)
  refine run_s hC hM hy hv hk hm hd (LR_size hL) hH1 (by omega) hn hf1 (fun v H2 l2 h2 hH2 hf2 => ?_)
  try dsimp only at hf2
  split at hf2
  · exact kk _ _ _ _ hH2 hf2
  · exact hf2.elim
theorem EokL.lCallS {k idx maxL : Nat} {y : MethodName} {bytes : ByteArray} {ret : Option FieldType} {F : MX} {as : EA} (ha : Aok g M wa n pc pc1 as) (hM : MK g k y bytes maxL ret F) (hy : yok y n) (hv : sok M.1 idx y bytes maxL ret) (hk : k + 1 ≤ M.2.2.2.1) (hm : maxL ≤ 29) (hd : decode M.2.1 pc1 = .ok (.invokestatic idx, 3)) : EokL g M wa pc (pc1 + 3) (lCallS F as) := by
  intro p e R s m args below meth c cells slots Q hC H locs ls env h rest kx hL hH hw hf kk
  refine ha p e R s m args below meth c cells slots Q hC H locs ls env h rest _ hL hH hw hf (fun vs H1 l1 h1 hH1 hn hf1 => ?_)
  refine run_s hC hM hy hv hk hm hd (LR_size hL) hH1 (by omega) hn hf1 (fun v H2 l2 h2 hH2 hf2 => ?_)
  try dsimp only at hf2
  split at hf2
  · exact kk _ _ _ _ hH2 hf2
  · exact hf2.elim
end CALLS
section MATH
variable {g : GT} {M : MT} {wa wb pc pc1 pc2 : Nat}
def jmax (x y : Int32) : Int32 := if x < y then y else x
def jmin (x y : Int32) : Int32 := if y < x then y else x
def jlmin (x y : Int64) : Int64 := if y < x then y else x
theorem EokI.mmax {idx : Nat} {a b : EI} (ha : EokI g M wa pc pc1 a) (hb : EokI g M wb pc1 pc2 b) (hl : Cond.methodLink M.1 idx Lib.Math.max.name ∈ WD) (hst : Cond.static Lib.Math.max.name ∈ WD) (hini : Cond.initialized "java/lang/Math" ∈ WD) (hco : Cond.code Lib.Math.max.name Lib.Math.max.code 2 (some .int) ∈ WD) (hfr : 1 ≤ M.2.2.2.1) (hd : decode M.2.1 pc2 = .ok (.invokestatic idx, 3)) : EokI g M (max wa (1 + wb)) pc (pc2 + 3) (iB gT2 jmax a b) := by
  intro p e R s m args below meth c cells slots Q hC H locs ls env h rest k hL hH hw hf kk
  refine ha p e R s m args below meth c cells slots Q hC H locs ls env h rest _ hL hH (by omega) hf (fun x H1 l1 h1 hH1 hf1 => ?_)
  refine hb p e R s m args below meth c cells slots Q hC H1 l1 ls env h1 (.int x :: rest) _ hL hH1 (by rw [cats_i]; omega) hf1 (fun y H2 l2 h2 hH2 hf2 => ?_)
  have h8 : (rest.map fun v => v.category).sum ≤ 8 := by have : cats rest ≤ 8 := by omega
                                                         exact this
  exact va_mmax hC.1 hC.2.1 (hC.2.2.1.trans hL.1.symm) hC.2.2.2.1 (hC.2.2.2.2.1 _ hl) (hC.2.2.2.2.1 _ hst) (hC.2.2.2.2.1 _ hini) (hC.2.2.2.2.1 _ hco) (Nat.le_trans hfr hC.2.2.2.2.2.2.1) (by have := hC.2.2.2.2.2.2.2.1; omega) hC.2.2.2.2.2.2.2.2.2.1 hC.2.2.2.2.2.2.2.2.2.2 hd (kk _ _ _ _ hH2 hf2.2)
theorem EokI.mmin {idx : Nat} {a b : EI} (ha : EokI g M wa pc pc1 a) (hb : EokI g M wb pc1 pc2 b) (hl : Cond.methodLink M.1 idx Lib.Math.min.name ∈ WD) (hst : Cond.static Lib.Math.min.name ∈ WD) (hini : Cond.initialized "java/lang/Math" ∈ WD) (hco : Cond.code Lib.Math.min.name Lib.Math.min.code 2 (some .int) ∈ WD) (hfr : 1 ≤ M.2.2.2.1) (hd : decode M.2.1 pc2 = .ok (.invokestatic idx, 3)) : EokI g M (max wa (1 + wb)) pc (pc2 + 3) (iB gT2 jmin a b) := by
  intro p e R s m args below meth c cells slots Q hC H locs ls env h rest k hL hH hw hf kk
  refine ha p e R s m args below meth c cells slots Q hC H locs ls env h rest _ hL hH (by omega) hf (fun x H1 l1 h1 hH1 hf1 => ?_)
  refine hb p e R s m args below meth c cells slots Q hC H1 l1 ls env h1 (.int x :: rest) _ hL hH1 (by rw [cats_i]; omega) hf1 (fun y H2 l2 h2 hH2 hf2 => ?_)
  have h8 : (rest.map fun v => v.category).sum ≤ 8 := by have : cats rest ≤ 8 := by omega
                                                         exact this
  exact va_mmin hC.1 hC.2.1 (hC.2.2.1.trans hL.1.symm) hC.2.2.2.1 (hC.2.2.2.2.1 _ hl) (hC.2.2.2.2.1 _ hst) (hC.2.2.2.2.1 _ hini) (hC.2.2.2.2.1 _ hco) (Nat.le_trans hfr hC.2.2.2.2.2.2.1) (by have := hC.2.2.2.2.2.2.2.1; omega) hC.2.2.2.2.2.2.2.2.2.1 hC.2.2.2.2.2.2.2.2.2.2 hd (kk _ _ _ _ hH2 hf2.2)
theorem EokL.lmin {idx : Nat} {a b : EL} (ha : EokL g M wa pc pc1 a) (hb : EokL g M wb pc1 pc2 b) (hl : Cond.methodLink M.1 idx Lib.MathLoose.min_long.x ∈ WD) (hst : Cond.static Lib.MathLoose.min_long.x ∈ WD) (hini : Cond.initialized "java/lang/Math" ∈ WD) (hco : Cond.code Lib.MathLoose.min_long.x Lib.MathLoose.min_long.code 4 (some .long) ∈ WD) (hfr : 1 ≤ M.2.2.2.1) (hd : decode M.2.1 pc2 = .ok (.invokestatic idx, 3)) : EokL g M (max wa (2 + wb)) pc (pc2 + 3) (lB gT2 jlmin a b) := by
  intro p e R s m args below meth c cells slots Q hC H locs ls env h rest k hL hH hw hf kk
  refine ha p e R s m args below meth c cells slots Q hC H locs ls env h rest _ hL hH (by omega) hf (fun x H1 l1 h1 hH1 hf1 => ?_)
  refine hb p e R s m args below meth c cells slots Q hC H1 l1 ls env h1 (.long x :: rest) _ hL hH1 (by rw [cats_l]; omega) hf1 (fun y H2 l2 h2 hH2 hf2 => ?_)
  have h8 : (rest.map fun v => v.category).sum ≤ 8 := by have : cats rest ≤ 8 := by omega
                                                         exact this
  exact va_mmin_long hC.1 hC.2.1 (hC.2.2.1.trans hL.1.symm) hC.2.2.2.1 (hC.2.2.2.2.1 _ hl) (hC.2.2.2.2.1 _ hst) (hC.2.2.2.2.1 _ hini) (hC.2.2.2.2.1 _ hco) (Nat.le_trans hfr hC.2.2.2.2.2.2.1) (by have := hC.2.2.2.2.2.2.2.1; omega) hC.2.2.2.2.2.2.2.2.2.1 hC.2.2.2.2.2.2.2.2.2.2 hd (kk _ _ _ _ hH2 hf2.2)
end MATH
section ST
variable {g : GT} {M : MT} {w wa wb wd pc pc0 pc1 pc2 pc3 pc4 pcN pcB pcC i j n : Nat}
def sSkip : SX := fun env h N _ _ _ => N env h
def sBreak : SX := fun env h _ B _ _ => B env h
def sCont : SX := fun env h _ _ C _ => C env h
def sSeq (a b : SX) : SX := fun env h N B C R => a env h (fun env1 h1 => b env1 h1 N B C R) B C R
def sIf (c : CX) (a b : SX) : SX := fun env h N B C R => c env h fun x h1 => if x = true then a env h1 N B C R else b env h1 N B C R
def sForget (k : Nat) : SX := fun env h N _ _ _ => N (env.take k ++ List.replicate (env.length - k) none) h
def sSetI (i : Nat) (a : EI) : SX := fun env h N _ _ _ => a env h fun x h1 => N (set1 env i (.int x)) h1
def sSetL (i : Nat) (a : EL) : SX := fun env h N _ _ _ => a env h fun x h1 => N (set2 env i (.long x)) h1
def sSetR (i : Nat) (a : ER) : SX := fun env h N _ _ _ => a env h fun x h1 => N (set1 env i (.ref x)) h1
def sInc (i : Nat) (n : Int32) : SX := fun env h N _ _ _ => match env[i]? with
  | some (some (.int x)) => N (set1 env i (.int (x + n))) h
  | _ => False
def sRetV : SX := fun _ h _ _ _ R => R none h
def sRetI (a : EI) : SX := fun env h _ _ _ R => a env h fun x h1 => R (some (.int x)) h1
def sRetZ (a : EI) : SX := fun env h _ _ _ R => a env h fun x h1 => (x = 0 ∨ x = 1) ∧ R (some (.int x)) h1
def sRetL (a : EL) : SX := fun env h _ _ _ R => a env h fun x h1 => R (some (.long x)) h1
theorem Sok.skip : Sok g M pc pc pcB pcC sSkip := by
  intro p e R s m args below meth c cells slots Q hC Rp hR H locs ls env h N B C hL hH hf hN hB hCc
  exact hN _ _ _ _ _ hL hH hf
theorem Sok.forget : Sok g M pc pc pcB pcC (sForget n) := by
  intro p e R s m args below meth c cells slots Q hC Rp hR H locs ls env h N B C hL hH hf hN hB hCc
  exact hN _ _ _ _ _ (LR_forget n hL) hH hf
theorem Sok.brk {off : Int} (hd : decode M.2.1 pc = .ok (.goto off, 3)) (ht : (pc : Int) + off = (pcB : Int)) : Sok g M pc pcN pcB pcC sBreak := by
  intro p e R s m args below meth c cells slots Q hC Rp hR H locs ls env h N B C hL hH hf hN hB hCc
  exact lv_goto hC.1 hC.2.1 hd ht (hB _ _ _ _ _ hL hH hf)
theorem Sok.brk0 : Sok g M pc pcN pc pcC sBreak := by
  intro p e R s m args below meth c cells slots Q hC Rp hR H locs ls env h N B C hL hH hf hN hB hCc
  exact hB _ _ _ _ _ hL hH hf
theorem Sok.cont {off : Int} (hd : decode M.2.1 pc = .ok (.goto off, 3)) (ht : (pc : Int) + off = (pcC : Int)) : Sok g M pc pcN pcB pcC sCont := by
  intro p e R s m args below meth c cells slots Q hC Rp hR H locs ls env h N B C hL hH hf hN hB hCc
  exact lv_goto hC.1 hC.2.1 hd ht (hCc _ _ _ _ _ hL hH hf)
theorem Sok.goto {off : Int} {a : SX} (ha : Sok g M pc pc1 pcB pcC a) (hd : decode M.2.1 pc1 = .ok (.goto off, 3)) (ht : (pc1 : Int) + off = (pcN : Int)) : Sok g M pc pcN pcB pcC a := by
  intro p e R s m args below meth c cells slots Q hC Rp hR H locs ls env h N B C hL hH hf hN hB hCc
  exact ha p e R s m args below meth c cells slots Q hC Rp hR H locs ls env h N B C hL hH hf (fun H' l' ls' e' h' q1 q2 q3 => lv_goto hC.1 hC.2.1 hd ht (hN H' l' ls' e' h' q1 q2 q3)) hB hCc
theorem Sok.seq {a b : SX} (ha : Sok g M pc pc1 pcB pcC a) (hb : Sok g M pc1 pcN pcB pcC b) : Sok g M pc pcN pcB pcC (sSeq a b) := by
  intro p e R s m args below meth c cells slots Q hC Rp hR H locs ls env h N B C hL hH hf hN hB hCc
  exact ha p e R s m args below meth c cells slots Q hC Rp hR H locs ls env h _ B C hL hH hf (fun H' l' ls' e' h' q1 q2 q3 => hb p e R s m args below meth c cells slots Q hC Rp hR H' l' ls' e' h' N B C q1 q2 q3 hN hB hCc) hB hCc
theorem Sok.ite {c : CX} {a b : SX} (hc : Cok g M wa pc pc1 pc2 c) (hw : wa ≤ 8) (ha : Sok g M pc1 pcN pcB pcC a) (hb : Sok g M pc2 pcN pcB pcC b) : Sok g M pc pcN pcB pcC (sIf c a b) := by
  intro p e R s m args below meth c0 cells slots Q hC Rp hR H locs ls env h N B C hL hH hf hN hB hCc
  refine hc p e R s m args below meth c0 cells slots Q hC H locs ls env h [] _ hL hH (by simpa [cats] using hw) hf (fun x H1 l1 h1 hH1 hf1 => ?_)
  cases x with
  | true => exact ha p e R s m args below meth c0 cells slots Q hC Rp hR H1 l1 ls env h1 N B C hL hH1 hf1 hN hB hCc
  | false => exact hb p e R s m args below meth c0 cells slots Q hC Rp hR H1 l1 ls env h1 N B C hL hH1 hf1 hN hB hCc
theorem Sok.retV (hd : decode M.2.1 pc = .ok (.return_, 1)) (hr : M.2.2.2.2 = none) : Sok g M pc pcN pcB pcC sRetV := by
  intro p e R s m args below meth c cells slots Q hC Rp hR H locs ls env h N B C hL hH hf hN hB hCc
  exact hR none _ _ _ _ _ hH hf ⟨hr, hd⟩
theorem Sok.retI {a : EI} (ha : EokI g M wa pc pc1 a) (hw : wa ≤ 8) (hd : decode M.2.1 pc1 = .ok (.ireturn, 1)) (hr : M.2.2.2.2 = some .int) : Sok g M pc pcN pcB pcC (sRetI a) := by
  intro p e R s m args below meth c cells slots Q hC Rp hR H locs ls env h N B C hL hH hf hN hB hCc
  exact ha p e R s m args below meth c cells slots Q hC H locs ls env h [] _ hL hH (by simpa [cats] using hw) hf (fun x H1 l1 h1 hH1 hf1 => hR (some (.int x)) _ _ _ _ _ hH1 hf1 ⟨hd, Or.inl hr⟩)
theorem Sok.retZ {a : EI} (ha : EokI g M wa pc pc1 a) (hw : wa ≤ 8) (hd : decode M.2.1 pc1 = .ok (.ireturn, 1)) (hr : M.2.2.2.2 = some .boolean) : Sok g M pc pcN pcB pcC (sRetZ a) := by
  intro p e R s m args below meth c cells slots Q hC Rp hR H locs ls env h N B C hL hH hf hN hB hCc
  exact ha p e R s m args below meth c cells slots Q hC H locs ls env h [] _ hL hH (by simpa [cats] using hw) hf (fun x H1 l1 h1 hH1 hf1 => hR (some (.int x)) _ _ _ _ _ hH1 hf1.2 ⟨hd, Or.inr ⟨hr, hf1.1⟩⟩)
theorem Sok.retL {a : EL} (ha : EokL g M wa pc pc1 a) (hw : wa ≤ 8) (hd : decode M.2.1 pc1 = .ok (.lreturn, 1)) (hr : M.2.2.2.2 = some .long) : Sok g M pc pcN pcB pcC (sRetL a) := by
  intro p e R s m args below meth c cells slots Q hC Rp hR H locs ls env h N B C hL hH hf hN hB hCc
  exact ha p e R s m args below meth c cells slots Q hC H locs ls env h [] _ hL hH (by simpa [cats] using hw) hf (fun x H1 l1 h1 hH1 hf1 => hR (some (.long x)) _ _ _ _ _ hH1 hf1 ⟨hd, hr⟩)
theorem Sok.iinc {n : Int} {v : Int32} (hd : decode M.2.1 pc = .ok (.iinc i n, 3)) (hi : i < M.2.2.1) (hv : Int32.ofInt n = v) : Sok g M pc (pc + 3) pcB pcC (sInc i v) := by
  intro p e R s m args below meth c cells slots Q hC Rp hR H locs ls env h N B C hL hH hf hN hB hCc
  unfold sInc at hf
  split at hf
  · rename_i x hx
    subst hv
    have hm := (lvs_mem g env 0 (i, .int x)).mpr ⟨i, .int x, hx, by simp [cv]⟩
    obtain ⟨q, hq⟩ := List.mem_iff_getElem?.mp hm
    exact lv_iinc hC.1 hC.2.1 hd hL hq rfl hi rfl (fun ls' hl' => hN _ _ _ _ _ (LR_set1 (v := .int (x + Int32.ofInt n)) hl') hH hf)
  · exact hf.elim
theorem Sok.setI {a : EI} (ha : EokI g M wa pc pc1 a) (hw : wa ≤ 8) (hd : decode M.2.1 pc1 = .ok (.istore i, 2)) (hi : i < M.2.2.1) : Sok g M pc (pc1 + 2) pcB pcC (sSetI i a) := by
  intro p e R s m args below meth c cells slots Q hC Rp hR H locs ls env h N B C hL hH hf hN hB hCc
  exact ha p e R s m args below meth c cells slots Q hC H locs ls env h [] _ hL hH (by simpa [cats] using hw) hf (fun x H1 l1 h1 hH1 hf1 => lv_istore hC.1 hC.2.1 hd hL hi rfl (fun ls' hl' => hN _ _ _ _ _ (LR_set1 (v := .int x) hl') hH1 hf1))
theorem Sok.setI_n {a : EI} {q : Fin 4} (ha : EokI g M wa pc pc1 a) (hw : wa ≤ 8) (hd : decode M.2.1 pc1 = .ok (.istore_n q, 1)) (hi : q.val < M.2.2.1) : Sok g M pc (pc1 + 1) pcB pcC (sSetI q.val a) := by
  intro p e R s m args below meth c cells slots Q hC Rp hR H locs ls env h N B C hL hH hf hN hB hCc
  exact ha p e R s m args below meth c cells slots Q hC H locs ls env h [] _ hL hH (by simpa [cats] using hw) hf (fun x H1 l1 h1 hH1 hf1 => lv_istore_n hC.1 hC.2.1 hd rfl hL hi rfl (fun ls' hl' => hN _ _ _ _ _ (LR_set1 (v := .int x) hl') hH1 hf1))
theorem Sok.setL {a : EL} (ha : EokL g M wa pc pc1 a) (hw : wa ≤ 8) (hd : decode M.2.1 pc1 = .ok (.lstore i, 2)) (hi : i + 1 < M.2.2.1) : Sok g M pc (pc1 + 2) pcB pcC (sSetL i a) := by
  intro p e R s m args below meth c cells slots Q hC Rp hR H locs ls env h N B C hL hH hf hN hB hCc
  exact ha p e R s m args below meth c cells slots Q hC H locs ls env h [] _ hL hH (by simpa [cats] using hw) hf (fun x H1 l1 h1 hH1 hf1 => lv_lstore hC.1 hC.2.1 hd hL hi rfl (fun ls' hl' => hN _ _ _ _ _ (LR_set2 (v := .long x) hl') hH1 hf1))
theorem Sok.setL_n {a : EL} {q : Fin 4} (ha : EokL g M wa pc pc1 a) (hw : wa ≤ 8) (hd : decode M.2.1 pc1 = .ok (.lstore_n q, 1)) (hi : q.val + 1 < M.2.2.1) : Sok g M pc (pc1 + 1) pcB pcC (sSetL q.val a) := by
  intro p e R s m args below meth c cells slots Q hC Rp hR H locs ls env h N B C hL hH hf hN hB hCc
  exact ha p e R s m args below meth c cells slots Q hC H locs ls env h [] _ hL hH (by simpa [cats] using hw) hf (fun x H1 l1 h1 hH1 hf1 => lv_lstore_n hC.1 hC.2.1 hd rfl hL hi rfl (fun ls' hl' => hN _ _ _ _ _ (LR_set2 (v := .long x) hl') hH1 hf1))
theorem Sok.setR {a : ER} (ha : EokR g M wa pc pc1 a) (hw : wa ≤ 8) (hd : decode M.2.1 pc1 = .ok (.astore i, 2)) (hi : i < M.2.2.1) : Sok g M pc (pc1 + 2) pcB pcC (sSetR i a) := by
  intro p e R s m args below meth c cells slots Q hC Rp hR H locs ls env h N B C hL hH hf hN hB hCc
  exact ha p e R s m args below meth c cells slots Q hC H locs ls env h [] _ hL hH (by simpa [cats] using hw) hf (fun x H1 l1 h1 hH1 hf1 => lv_astore hC.1 hC.2.1 hd hL hi rfl (fun ls' hl' => hN _ _ _ _ _ (LR_set1 (v := .ref x) hl') hH1 hf1))
theorem Sok.setR_n {a : ER} {q : Fin 4} (ha : EokR g M wa pc pc1 a) (hw : wa ≤ 8) (hd : decode M.2.1 pc1 = .ok (.astore_n q, 1)) (hi : q.val < M.2.2.1) : Sok g M pc (pc1 + 1) pcB pcC (sSetR q.val a) := by
  intro p e R s m args below meth c cells slots Q hC Rp hR H locs ls env h N B C hL hH hf hN hB hCc
  exact ha p e R s m args below meth c cells slots Q hC H locs ls env h [] _ hL hH (by simpa [cats] using hw) hf (fun x H1 l1 h1 hH1 hf1 => lv_astore_n hC.1 hC.2.1 hd rfl hL hi rfl (fun ls' hl' => hN _ _ _ _ _ (LR_set1 (v := .ref x) hl') hH1 hf1))
def ptI (ty : FieldType) (x : Int32) : Prop := match ty with
  | .int => True
  | .boolean => x = 0 ∨ x = 1
  | _ => False
theorem ptI_ok {ty : FieldType} {x : Int32} (h : ptI ty x) : narrow ty (.int x) = .int x ∧ fits ty (.int x) = true := by
  unfold ptI at h
  split at h
  · exact ⟨rfl, rfl⟩
  · rcases h with rfl | rfl <;> exact ⟨by decide +kernel, by decide +kernel⟩
  · exact h.elim
def sPutI (ci j : Nat) (ty : FieldType) (o : ER) (a : EI) : SX := fun env h N _ _ _ => o env h fun q h1 => a env h1 fun x h2 => match h2 q with
  | .inr (c, fs) => c = ci ∧ j < fs.length ∧ ptI ty x ∧ N env (va_up h2 q (.inr (ci, fs.set j (.int x))))
  | .inl _ => False
def sPutL (ci j : Nat) (o : ER) (a : EL) : SX := fun env h N _ _ _ => o env h fun q h1 => a env h1 fun x h2 => match h2 q with
  | .inr (c, fs) => c = ci ∧ j < fs.length ∧ N env (va_up h2 q (.inr (ci, fs.set j (.long x))))
  | .inl _ => False
def sPutR (ci j : Nat) (o : ER) (a : ER) : SX := fun env h N _ _ _ => o env h fun q h1 => a env h1 fun x h2 => match h2 q with
  | .inr (c, fs) => c = ci ∧ j < fs.length ∧ N env (va_up h2 q (.inr (ci, fs.set j (.ref x))))
  | .inl _ => False
theorem Sok.putI {ci index NN : Nat} {C : String} {T : u_T} {tt : Nat → FieldType} {ty : FieldType} {o : ER} {a : EI} (ho : EokR g M wa pc pc1 o) (ha : EokI g M wb pc1 pc2 a) (hw : max wa (1 + wb) ≤ 8) (hc : jcl[ci]? = some (C, T, NN)) (hin : ∀ w ∈ u_ws C T NN, w ∈ WD) (hty : ∀ k, k < NN → parseFieldDescriptor (T k).2.2.1 = some (tt k)) (hnm : ∀ a, a < NN → ∀ b, b < NN → a ≠ b → (T a).2.1 ≠ (T b).2.1) (hk : j < NN) (hl : Cond.fieldLink M.1 index (T j).1 (T j).2.1 (T j).2.2.1 ∈ WD) (hfin : (T j).2.2.2 = false) (htt : tt j = ty) (hd : decode M.2.1 pc2 = .ok (.putfield index, 3)) : Sok g M pc (pc2 + 3) pcB pcC (sPutI ci j ty o a) := by
  intro p e R s m args below meth c cells slots Q hC Rp hR H locs ls env h N B C9 hL hH hf hN hB hCc
  refine ho p e R s m args below meth c cells slots Q hC H locs ls env h [] _ hL hH (by simp [cats]; omega) hf (fun q H1 l1 h1 hH1 hf1 => ?_)
  refine ha p e R s m args below meth c cells slots Q hC H1 l1 ls env h1 [.ref (g.2.2.1 + q)] _ hL hH1 (by simp [cats, Value.category]; omega) hf1 (fun x H2 l2 h2 hH2 hf2 => ?_)
  try dsimp only at hf2
  split at hf2
  · rename_i c' fs hcell
    obtain ⟨rfl, hlen, hpt, hf2⟩ := hf2
    subst htt
    have hlt := Jk_lt hH2.2.2 (o := q) (by rw [hcell]; intro z; cases z; exact jcl_ci hc rfl)
    have hg := wsOf_get (g := g) (h := h2) hlt
    rw [hcell] at hg
    exact va_put hC.1 hC.2.1 hC.2.2.2.2.1 hin tt hty hnm hC.2.2.2.1 hC.2.2.2.2.2.1 hH2.1 (wsOf_D g h2) hH2.2.1 q hg hc j hk (hC.2.2.2.2.1 _ hl) (fun _ q => q) hfin (v := cv g (.int x)) (hty j hk) (ptI_ok hpt).1 (ptI_ok hpt).2 (by simpa using hlen) hd (fun H3 l3 hP3 _ hS3 => hN _ _ _ _ _ hL ⟨by
        have e := wsOf_set (g := g) (h := h2) (.inr (c', fs.set j (.int x))) hlt
        simp only [cE, List.map_set] at e
        rw [← e]; exact hP3, hS3, Jk_up hH2.2.2 hlt⟩ hf2)
  · exact hf2.elim
theorem Sok.putL {ci index NN : Nat} {C : String} {T : u_T} {tt : Nat → FieldType} {o : ER} {a : EL} (ho : EokR g M wa pc pc1 o) (ha : EokL g M wb pc1 pc2 a) (hw : max wa (1 + wb) ≤ 8) (hc : jcl[ci]? = some (C, T, NN)) (hin : ∀ w ∈ u_ws C T NN, w ∈ WD) (hty : ∀ k, k < NN → parseFieldDescriptor (T k).2.2.1 = some (tt k)) (hnm : ∀ a, a < NN → ∀ b, b < NN → a ≠ b → (T a).2.1 ≠ (T b).2.1) (hk : j < NN) (hl : Cond.fieldLink M.1 index (T j).1 (T j).2.1 (T j).2.2.1 ∈ WD) (hfin : (T j).2.2.2 = false) (htt : tt j = .long) (hd : decode M.2.1 pc2 = .ok (.putfield index, 3)) : Sok g M pc (pc2 + 3) pcB pcC (sPutL ci j o a) := by
  intro p e R s m args below meth c cells slots Q hC Rp hR H locs ls env h N B C9 hL hH hf hN hB hCc
  refine ho p e R s m args below meth c cells slots Q hC H locs ls env h [] _ hL hH (by simp [cats]; omega) hf (fun q H1 l1 h1 hH1 hf1 => ?_)
  refine ha p e R s m args below meth c cells slots Q hC H1 l1 ls env h1 [.ref (g.2.2.1 + q)] _ hL hH1 (by simp [cats, Value.category]; omega) hf1 (fun x H2 l2 h2 hH2 hf2 => ?_)
  try dsimp only at hf2
  split at hf2
  · rename_i c' fs hcell
    obtain ⟨rfl, hlen, hf2⟩ := hf2
    have hlt := Jk_lt hH2.2.2 (o := q) (by rw [hcell]; intro z; cases z; exact jcl_ci hc rfl)
    have hg := wsOf_get (g := g) (h := h2) hlt
    rw [hcell] at hg
    exact va_put hC.1 hC.2.1 hC.2.2.2.2.1 hin tt hty hnm hC.2.2.2.1 hC.2.2.2.2.2.1 hH2.1 (wsOf_D g h2) hH2.2.1 q hg hc j hk (hC.2.2.2.2.1 _ hl) (fun _ q => q) hfin (v := cv g (.long x)) (hty j hk) (by rw [htt]; rfl) (by rw [htt]; rfl) (by simpa using hlen) hd (fun H3 l3 hP3 _ hS3 => hN _ _ _ _ _ hL ⟨by
        have e := wsOf_set (g := g) (h := h2) (.inr (c', fs.set j (.long x))) hlt
        simp only [cE, List.map_set] at e
        rw [← e]; exact hP3, hS3, Jk_up hH2.2.2 hlt⟩ hf2)
  · exact hf2.elim
theorem Sok.putR {ci index NN : Nat} {C : String} {T : u_T} {tt : Nat → FieldType} {o : ER} {a : ER} (ho : EokR g M wa pc pc1 o) (ha : EokR g M wb pc1 pc2 a) (hw : max wa (1 + wb) ≤ 8) (hc : jcl[ci]? = some (C, T, NN)) (hin : ∀ w ∈ u_ws C T NN, w ∈ WD) (hty : ∀ k, k < NN → parseFieldDescriptor (T k).2.2.1 = some (tt k)) (hnm : ∀ a, a < NN → ∀ b, b < NN → a ≠ b → (T a).2.1 ≠ (T b).2.1) (hk : j < NN) (hl : Cond.fieldLink M.1 index (T j).1 (T j).2.1 (T j).2.2.1 ∈ WD) (hfin : (T j).2.2.2 = false) (hnar : ∀ q : Nat, narrow (tt j) (.ref q) = .ref q) (hfit : ∀ q : Nat, fits (tt j) (.ref q) = true) (hd : decode M.2.1 pc2 = .ok (.putfield index, 3)) : Sok g M pc (pc2 + 3) pcB pcC (sPutR ci j o a) := by
  intro p e R s m args below meth c cells slots Q hC Rp hR H locs ls env h N B C9 hL hH hf hN hB hCc
  refine ho p e R s m args below meth c cells slots Q hC H locs ls env h [] _ hL hH (by simp [cats]; omega) hf (fun q H1 l1 h1 hH1 hf1 => ?_)
  refine ha p e R s m args below meth c cells slots Q hC H1 l1 ls env h1 [.ref (g.2.2.1 + q)] _ hL hH1 (by simp [cats, Value.category]; omega) hf1 (fun x H2 l2 h2 hH2 hf2 => ?_)
  try dsimp only at hf2
  split at hf2
  · rename_i c' fs hcell
    obtain ⟨rfl, hlen, hf2⟩ := hf2
    have hlt := Jk_lt hH2.2.2 (o := q) (by rw [hcell]; intro z; cases z; exact jcl_ci hc rfl)
    have hg := wsOf_get (g := g) (h := h2) hlt
    rw [hcell] at hg
    exact va_put hC.1 hC.2.1 hC.2.2.2.2.1 hin tt hty hnm hC.2.2.2.1 hC.2.2.2.2.2.1 hH2.1 (wsOf_D g h2) hH2.2.1 q hg hc j hk (hC.2.2.2.2.1 _ hl) (fun _ q => q) hfin (v := cv g (.ref x)) (hty j hk) (hnar _) (hfit _) (by simpa using hlen) hd (fun H3 l3 hP3 _ hS3 => hN _ _ _ _ _ hL ⟨by
        have e := wsOf_set (g := g) (h := h2) (.inr (c', fs.set j (.ref x))) hlt
        simp only [cE, List.map_set] at e
        rw [← e]; exact hP3, hS3, Jk_up hH2.2.2 hlt⟩ hf2)
  · exact hf2.elim
/-- o.f op= a -/
def sUpd (ci j : Nat) (gd : Int32 → Int32 → Prop) (op : Int32 → Int32 → Int32) (o : ER) (a : EI) : SX := fun env h N _ _ _ => o env h fun q h1 => match h1 q with
  | .inr (c1, fs1) => c1 = ci ∧ (match fs1[j]? with
    | some (.int x0) => a env h1 fun y h2 => gd x0 y ∧ (match h2 q with
      | .inr (c, fs) => c = ci ∧ j < fs.length ∧ N env (va_up h2 q (.inr (ci, fs.set j (.int (op x0 y)))))
      | .inl _ => False)
    | _ => False)
  | .inl _ => False
theorem Sok.upd {ci index NN : Nat} {C : String} {T : u_T} {tt : Nat → FieldType} {gd : Int32 → Int32 → Prop} {op : Int32 → Int32 → Int32} {o : ER} {a : EI} (ho : EokR g M wa pc pc1 o) (hdup : decode M.2.1 pc1 = .ok (.dup, 1)) (hd1 : decode M.2.1 (pc1 + 1) = .ok (.getfield index, 3)) (ha : EokI g M wb (pc1 + 4) pc2 a) (hop : OPI g M pc2 gd op) (hw : max wa (2 + wb) ≤ 8) (hc : jcl[ci]? = some (C, T, NN)) (hin : ∀ w ∈ u_ws C T NN, w ∈ WD) (hty : ∀ k, k < NN → parseFieldDescriptor (T k).2.2.1 = some (tt k)) (hnm : ∀ a, a < NN → ∀ b, b < NN → a ≠ b → (T a).2.1 ≠ (T b).2.1) (hk : j < NN) (hl : Cond.fieldLink M.1 index (T j).1 (T j).2.1 (T j).2.2.1 ∈ WD) (hfin : (T j).2.2.2 = false) (htt : tt j = .int) (hd : decode M.2.1 (pc2 + 1) = .ok (.putfield index, 3)) : Sok g M pc (pc2 + 4) pcB pcC (sUpd ci j gd op o a) := by
  intro p e R s m args below meth c cells slots Q hC Rp hR H locs ls env h N B C9 hL hH hf hN hB hCc
  refine ho p e R s m args below meth c cells slots Q hC H locs ls env h [] _ hL hH (by simp [cats]; omega) hf (fun q H1 l1 h1 hH1 hf1 => ?_)
  try dsimp only at hf1
  split at hf1
  · rename_i c1 fs1 hcell1
    obtain ⟨rfl, hf1⟩ := hf1
    split at hf1
    · rename_i x0 hx0
      have hlt := Jk_lt hH1.2.2 (o := q) (by rw [hcell1]; intro z; cases z; exact jcl_ci hc rfl)
      have hg1 := wsOf_get (g := g) (h := h1) hlt
      rw [hcell1] at hg1
      refine lv_dup hC.1 hC.2.1 hdup rfl ?_
      refine va_get hC.1 hC.2.1 hC.2.2.2.2.1 hin hC.2.2.2.1 hC.2.2.2.2.2.1 hH1.1 q hg1 hc j hk (hC.2.2.2.2.1 _ hl) (fun _ z => z) (v := .int x0) (by simp [hx0, cv]) hd1 ?_
      refine ha p e R s m args below meth c cells slots Q hC H1 l1 ls env h1 [.int x0, .ref (g.2.2.1 + q)] _ hL hH1 (by simp [cats, Value.category]; omega) hf1 (fun y H2 l2 h2 hH2 hf2 => ?_)
      obtain ⟨hgd, hf2⟩ := hf2
      split at hf2
      · rename_i c' fs hcell
        obtain ⟨rfl, hlen, hf2⟩ := hf2
        have hg := wsOf_get (g := g) (h := h2) hlt
        rw [hcell] at hg
        refine hop p e R s m args below meth c cells slots Q hC H2 l2 ls [.ref (g.2.2.1 + q)] x0 y hgd ?_
        exact va_put hC.1 hC.2.1 hC.2.2.2.2.1 hin tt hty hnm hC.2.2.2.1 hC.2.2.2.2.2.1 hH2.1 (wsOf_D g h2) hH2.2.1 q hg hc j hk (hC.2.2.2.2.1 _ hl) (fun _ q => q) hfin (v := cv g (.int (op x0 y))) (hty j hk) (by rw [htt]; rfl) (by rw [htt]; rfl) (by simpa using hlen) hd (fun H3 l3 hP3 _ hS3 => hN _ _ _ _ _ hL ⟨by
        have e := wsOf_set (g := g) (h := h2) (.inr (c', fs.set j (.int (op x0 y)))) hlt
        simp only [cE, List.map_set] at e
        rw [← e]; exact hP3, hS3, Jk_up hH2.2.2 hlt⟩ hf2)
      · exact hf2.elim
    · exact hf1.elim
  · exact hf1.elim
def sASt (t : Nat) (nar : Int32 → Int32) (a : ER) (i v : EI) : SX := fun env h N _ _ _ => a env h fun o h1 => i env h1 fun x h2 => v env h2 fun y h3 => match h3 o with
  | .inl (c, n, .inl f) => c = t ∧ vp_in x n ∧ N env (va_up h3 o (.inl (t, n, .inl (upd f x.toNatClampNeg (nar y)))))
  | _ => False
def sAStL (a : ER) (i : EI) (v : EL) : SX := fun env h N _ _ _ => a env h fun o h1 => i env h1 fun x h2 => v env h2 fun y h3 => match h3 o with
  | .inl (c, n, .inr (.inl f)) => c = 1 ∧ vp_in x n ∧ N env (va_up h3 o (.inl (1, n, .inr (.inl (vp_updL f x.toNatClampNeg y)))))
  | _ => False
def narI (x : Int32) : Int32 := x
def narB : Int32 → Int32 := vp_nar .byte
def narZ : Int32 → Int32 := vp_nar .boolean
theorem Sok.iASt {a : ER} {i v : EI} (ha : EokR g M wa pc pc1 a) (hi : EokI g M wb pc1 pc2 i) (hv : EokI g M wd pc2 pc3 v) (hw : max wa (max (1 + wb) (2 + wd)) ≤ 8) (hd : decode M.2.1 pc3 = .ok (.iastore, 1)) : Sok g M pc (pc3 + 1) pcB pcC (sASt 0 narI a i v) := by
  intro p e R s m args below meth c cells slots Q hC Rp hR H locs ls env h N B C hL hH hf hN hB hCc
  refine ha p e R s m args below meth c cells slots Q hC H locs ls env h [] _ hL hH (by simp [cats]; omega) hf (fun o H1 l1 h1 hH1 hf1 => ?_)
  refine hi p e R s m args below meth c cells slots Q hC H1 l1 ls env h1 [.ref (g.2.2.1 + o)] _ hL hH1 (by simp [cats, Value.category]; omega) hf1 (fun x H2 l2 h2 hH2 hf2 => ?_)
  refine hv p e R s m args below meth c cells slots Q hC H2 l2 ls env h2 [.int x, .ref (g.2.2.1 + o)] _ hL hH2 (by simp [cats, Value.category]; omega) hf2 (fun y H3 l3 h3 hH3 hf3 => ?_)
  try dsimp only at hf3
  split at hf3
  · rename_i c' n' f' hcell
    obtain ⟨rfl, hin, hf3⟩ := hf3
    have hlt := Jk_lt hH3.2.2 (o := o) (by rw [hcell]; intro z; cases z)
    have hg := wsOf_get (g := g) (h := h3) hlt
    rw [hcell] at hg
    refine va_iast hC.1 hC.2.1 hC.2.2.2.2.2.1 hH3.1 (wsOf_D g h3) hH3.2.1 o 0 hg rfl hin hd (fun H4 l4 hP4 _ hS4 => hN _ _ _ _ _ hL ⟨?_, hS4, Jk_up hH3.2.2 hlt⟩ hf3)
    rw [← wsOf_set _ hlt]
    exact hP4
  · exact hf3.elim
theorem Sok.bASt {a : ER} {i v : EI} (ha : EokR g M wa pc pc1 a) (hi : EokI g M wb pc1 pc2 i) (hv : EokI g M wd pc2 pc3 v) (hw : max wa (max (1 + wb) (2 + wd)) ≤ 8) (hd : decode M.2.1 pc3 = .ok (.bastore, 1)) : Sok g M pc (pc3 + 1) pcB pcC (sASt 2 narB a i v) := by
  intro p e R s m args below meth c cells slots Q hC Rp hR H locs ls env h N B C hL hH hf hN hB hCc
  refine ha p e R s m args below meth c cells slots Q hC H locs ls env h [] _ hL hH (by simp [cats]; omega) hf (fun o H1 l1 h1 hH1 hf1 => ?_)
  refine hi p e R s m args below meth c cells slots Q hC H1 l1 ls env h1 [.ref (g.2.2.1 + o)] _ hL hH1 (by simp [cats, Value.category]; omega) hf1 (fun x H2 l2 h2 hH2 hf2 => ?_)
  refine hv p e R s m args below meth c cells slots Q hC H2 l2 ls env h2 [.int x, .ref (g.2.2.1 + o)] _ hL hH2 (by simp [cats, Value.category]; omega) hf2 (fun y H3 l3 h3 hH3 hf3 => ?_)
  try dsimp only at hf3
  split at hf3
  · rename_i c' n' f' hcell
    obtain ⟨rfl, hin, hf3⟩ := hf3
    have hlt := Jk_lt hH3.2.2 (o := o) (by rw [hcell]; intro z; cases z)
    have hg := wsOf_get (g := g) (h := h3) hlt
    rw [hcell] at hg
    refine va_bast hC.1 hC.2.1 hC.2.2.2.2.2.1 hH3.1 (wsOf_D g h3) hH3.2.1 o 2 hg rfl hin hd (fun H4 l4 hP4 _ hS4 => hN _ _ _ _ _ hL ⟨?_, hS4, Jk_up hH3.2.2 hlt⟩ hf3)
    rw [← wsOf_set _ hlt]
    exact hP4
  · exact hf3.elim
theorem Sok.zASt {a : ER} {i v : EI} (ha : EokR g M wa pc pc1 a) (hi : EokI g M wb pc1 pc2 i) (hv : EokI g M wd pc2 pc3 v) (hw : max wa (max (1 + wb) (2 + wd)) ≤ 8) (hd : decode M.2.1 pc3 = .ok (.bastore, 1)) : Sok g M pc (pc3 + 1) pcB pcC (sASt 3 narZ a i v) := by
  intro p e R s m args below meth c cells slots Q hC Rp hR H locs ls env h N B C hL hH hf hN hB hCc
  refine ha p e R s m args below meth c cells slots Q hC H locs ls env h [] _ hL hH (by simp [cats]; omega) hf (fun o H1 l1 h1 hH1 hf1 => ?_)
  refine hi p e R s m args below meth c cells slots Q hC H1 l1 ls env h1 [.ref (g.2.2.1 + o)] _ hL hH1 (by simp [cats, Value.category]; omega) hf1 (fun x H2 l2 h2 hH2 hf2 => ?_)
  refine hv p e R s m args below meth c cells slots Q hC H2 l2 ls env h2 [.int x, .ref (g.2.2.1 + o)] _ hL hH2 (by simp [cats, Value.category]; omega) hf2 (fun y H3 l3 h3 hH3 hf3 => ?_)
  try dsimp only at hf3
  split at hf3
  · rename_i c' n' f' hcell
    obtain ⟨rfl, hin, hf3⟩ := hf3
    have hlt := Jk_lt hH3.2.2 (o := o) (by rw [hcell]; intro z; cases z)
    have hg := wsOf_get (g := g) (h := h3) hlt
    rw [hcell] at hg
    refine va_zast hC.1 hC.2.1 hC.2.2.2.2.2.1 hH3.1 (wsOf_D g h3) hH3.2.1 o 3 hg rfl hin hd (fun H4 l4 hP4 _ hS4 => hN _ _ _ _ _ hL ⟨?_, hS4, Jk_up hH3.2.2 hlt⟩ hf3)
    rw [← wsOf_set _ hlt]
    exact hP4
  · exact hf3.elim
theorem Sok.lASt {a : ER} {i : EI} {v : EL} (ha : EokR g M wa pc pc1 a) (hi : EokI g M wb pc1 pc2 i) (hv : EokL g M wd pc2 pc3 v) (hw : max wa (max (1 + wb) (2 + wd)) ≤ 8) (hd : decode M.2.1 pc3 = .ok (.lastore, 1)) : Sok g M pc (pc3 + 1) pcB pcC (sAStL a i v) := by
  intro p e R s m args below meth c cells slots Q hC Rp hR H locs ls env h N B C hL hH hf hN hB hCc
  refine ha p e R s m args below meth c cells slots Q hC H locs ls env h [] _ hL hH (by simp [cats]; omega) hf (fun o H1 l1 h1 hH1 hf1 => ?_)
  refine hi p e R s m args below meth c cells slots Q hC H1 l1 ls env h1 [.ref (g.2.2.1 + o)] _ hL hH1 (by simp [cats, Value.category]; omega) hf1 (fun x H2 l2 h2 hH2 hf2 => ?_)
  refine hv p e R s m args below meth c cells slots Q hC H2 l2 ls env h2 [.int x, .ref (g.2.2.1 + o)] _ hL hH2 (by simp [cats, Value.category]; omega) hf2 (fun y H3 l3 h3 hH3 hf3 => ?_)
  try dsimp only at hf3
  split at hf3
  · rename_i c' n' f' hcell
    obtain ⟨rfl, hin, hf3⟩ := hf3
    have hlt := Jk_lt hH3.2.2 (o := o) (by rw [hcell]; intro z; cases z)
    have hg := wsOf_get (g := g) (h := h3) hlt
    rw [hcell] at hg
    refine va_last hC.1 hC.2.1 hC.2.2.2.2.2.1 hH3.1 (wsOf_D g h3) hH3.2.1 o 1 hg rfl hin hd (fun H4 l4 hP4 _ hS4 => hN _ _ _ _ _ hL ⟨?_, hS4, Jk_up hH3.2.2 hlt⟩ hf3)
    rw [← wsOf_set _ hlt]
    exact hP4
  · exact hf3.elim
/-- a[i] op= v, over ints -/
def sAUpd (gd : Int32 → Int32 → Prop) (op : Int32 → Int32 → Int32) (a : ER) (i v : EI) : SX := fun env h N _ _ _ => a env h fun o h1 => i env h1 fun x h2 => match h2 o with
  | .inl (c2, n2, .inl f2) => c2 = 0 ∧ vp_in x n2 ∧ v env h2 (fun y h3 => gd (f2 x.toNatClampNeg) y ∧ (match h3 o with
    | .inl (c, n, .inl f) => c = 0 ∧ vp_in x n ∧ N env (va_up h3 o (.inl (0, n, .inl (upd f x.toNatClampNeg (op (f2 x.toNatClampNeg) y)))))
    | _ => False))
  | _ => False
/-- a[i] op= v, over longs -/
def sAUpdL (gd : Int64 → Int64 → Prop) (op : Int64 → Int64 → Int64) (a : ER) (i : EI) (v : EL) : SX := fun env h N _ _ _ => a env h fun o h1 => i env h1 fun x h2 => match h2 o with
  | .inl (c2, n2, .inr (.inl f2)) => c2 = 1 ∧ vp_in x n2 ∧ v env h2 (fun y h3 => gd (f2 x.toNatClampNeg) y ∧ (match h3 o with
    | .inl (c, n, .inr (.inl f)) => c = 1 ∧ vp_in x n ∧ N env (va_up h3 o (.inl (1, n, .inr (.inl (vp_updL f x.toNatClampNeg (op (f2 x.toNatClampNeg) y))))))
    | _ => False))
  | _ => False
theorem Sok.aupd {gd : Int32 → Int32 → Prop} {op : Int32 → Int32 → Int32} {a : ER} {i : EI} {v : EI} (ha : EokR g M wa pc pc1 a) (hi : EokI g M wb pc1 pc2 i) (hdup : decode M.2.1 pc2 = .ok (.dup2, 1)) (hld : decode M.2.1 (pc2 + 1) = .ok (.iaload, 1)) (hv : EokI g M wd (pc2 + 2) pc3 v) (hop : OPI g M pc3 gd op) (hw : max wa (max (1 + wb) (4 + wd)) ≤ 8) (hd : decode M.2.1 (pc3 + 1) = .ok (.iastore, 1)) : Sok g M pc (pc3 + 2) pcB pcC (sAUpd gd op a i v) := by
  intro p e R s m args below meth c cells slots Q hC Rp hR H locs ls env h N B C hL hH hf hN hB hCc
  refine ha p e R s m args below meth c cells slots Q hC H locs ls env h [] _ hL hH (by simp [cats]; omega) hf (fun o H1 l1 h1 hH1 hf1 => ?_)
  refine hi p e R s m args below meth c cells slots Q hC H1 l1 ls env h1 [.ref (g.2.2.1 + o)] _ hL hH1 (by simp [cats, Value.category]; omega) hf1 (fun x H2 l2 h2 hH2 hf2 => ?_)
  try dsimp only at hf2
  split at hf2
  · rename_i c2 n2 f2 hcell2
    obtain ⟨rfl, hin2, hf2⟩ := hf2
    have hlt := Jk_lt hH2.2.2 (o := o) (by rw [hcell2]; intro z; cases z)
    have hg2 := wsOf_get (g := g) (h := h2) hlt
    rw [hcell2] at hg2
    refine lv_dup2_11 hC.1 hC.2.1 hdup rfl rfl ?_
    refine va_iald hC.1 hC.2.1 hC.2.2.2.2.2.1 hH2.1 o 0 hg2 rfl hin2 hld ?_
    refine hv p e R s m args below meth c cells slots Q hC H2 l2 ls env h2 [.int (f2 x.toNatClampNeg), .int x, .ref (g.2.2.1 + o)] _ hL hH2 (by simp [cats, Value.category]; omega) hf2 (fun y H3 l3 h3 hH3 hf3 => ?_)
    obtain ⟨hgd, hf3⟩ := hf3
    split at hf3
    · rename_i c' n' f' hcell
      obtain ⟨rfl, hin, hf3⟩ := hf3
      have hg := wsOf_get (g := g) (h := h3) hlt
      rw [hcell] at hg
      refine hop p e R s m args below meth c cells slots Q hC H3 l3 ls [.int x, .ref (g.2.2.1 + o)] _ y hgd ?_
      refine va_iast hC.1 hC.2.1 hC.2.2.2.2.2.1 hH3.1 (wsOf_D g h3) hH3.2.1 o 0 hg rfl hin hd (fun H4 l4 hP4 _ hS4 => hN _ _ _ _ _ hL ⟨?_, hS4, Jk_up hH3.2.2 hlt⟩ hf3)
      rw [← wsOf_set _ hlt]
      exact hP4
    · exact hf3.elim
  · exact hf2.elim
theorem Sok.aupdL {gd : Int64 → Int64 → Prop} {op : Int64 → Int64 → Int64} {a : ER} {i : EI} {v : EL} (ha : EokR g M wa pc pc1 a) (hi : EokI g M wb pc1 pc2 i) (hdup : decode M.2.1 pc2 = .ok (.dup2, 1)) (hld : decode M.2.1 (pc2 + 1) = .ok (.laload, 1)) (hv : EokL g M wd (pc2 + 2) pc3 v) (hop : OPL g M pc3 gd op) (hw : max wa (max (1 + wb) (4 + wd)) ≤ 8) (hd : decode M.2.1 (pc3 + 1) = .ok (.lastore, 1)) : Sok g M pc (pc3 + 2) pcB pcC (sAUpdL gd op a i v) := by
  intro p e R s m args below meth c cells slots Q hC Rp hR H locs ls env h N B C hL hH hf hN hB hCc
  refine ha p e R s m args below meth c cells slots Q hC H locs ls env h [] _ hL hH (by simp [cats]; omega) hf (fun o H1 l1 h1 hH1 hf1 => ?_)
  refine hi p e R s m args below meth c cells slots Q hC H1 l1 ls env h1 [.ref (g.2.2.1 + o)] _ hL hH1 (by simp [cats, Value.category]; omega) hf1 (fun x H2 l2 h2 hH2 hf2 => ?_)
  try dsimp only at hf2
  split at hf2
  · rename_i c2 n2 f2 hcell2
    obtain ⟨rfl, hin2, hf2⟩ := hf2
    have hlt := Jk_lt hH2.2.2 (o := o) (by rw [hcell2]; intro z; cases z)
    have hg2 := wsOf_get (g := g) (h := h2) hlt
    rw [hcell2] at hg2
    refine lv_dup2_11 hC.1 hC.2.1 hdup rfl rfl ?_
    refine va_lald hC.1 hC.2.1 hC.2.2.2.2.2.1 hH2.1 o 1 hg2 rfl hin2 hld ?_
    refine hv p e R s m args below meth c cells slots Q hC H2 l2 ls env h2 [.long (f2 x.toNatClampNeg), .int x, .ref (g.2.2.1 + o)] _ hL hH2 (by simp [cats, Value.category]; omega) hf2 (fun y H3 l3 h3 hH3 hf3 => ?_)
    obtain ⟨hgd, hf3⟩ := hf3
    split at hf3
    · rename_i c' n' f' hcell
      obtain ⟨rfl, hin, hf3⟩ := hf3
      have hg := wsOf_get (g := g) (h := h3) hlt
      rw [hcell] at hg
      refine hop p e R s m args below meth c cells slots Q hC H3 l3 ls [.int x, .ref (g.2.2.1 + o)] _ y hgd ?_
      refine va_last hC.1 hC.2.1 hC.2.2.2.2.2.1 hH3.1 (wsOf_D g h3) hH3.2.1 o 1 hg rfl hin hd (fun H4 l4 hP4 _ hS4 => hN _ _ _ _ _ hL ⟨?_, hS4, Jk_up hH3.2.2 hlt⟩ hf3)
      rw [← wsOf_set _ hlt]
      exact hP4
    · exact hf3.elim
  · exact hf2.elim
theorem Sok.sCallV {k ci idx maxL : Nat} {y : MethodName} {bytes : ByteArray} {ret : Option FieldType} {F : MX} {T : u_T} {NN : Nat} {as : EA} (ha : Aok g M wa (n + 1) pc pc1 as) (hw : wa ≤ 8) (hM : MK g k y bytes maxL ret F) (hcl : jcl[ci]? = some (y.cls, T, NN)) (hy : yok y n) (hv : vok M.1 idx y bytes maxL ret) (hk : k + 1 ≤ M.2.2.2.1) (hm : maxL ≤ 29) (hd : decode M.2.1 pc1 = .ok (.invokevirtual idx, 3)) : Sok g M pc (pc1 + 3) pcB pcC (sCallV ci F as) := by
  intro p e R s m args below meth c cells slots Q hC Rp hR H locs ls env h N B C hL hH hf hN hB hCc
  refine ha p e R s m args below meth c cells slots Q hC H locs ls env h [] _ hL hH (by simpa [cats] using hw) hf (fun vs H1 l1 h1 hH1 hn hf1 => ?_)
  refine run_v hC hM hcl hy hv hk hm hd (LR_size hL) hH1 (by simp [cats]) hn hf1.1 hf1.2 (fun v H2 l2 h2 hH2 hf2 => ?_)
  obtain ⟨rfl, hf2⟩ := hf2
  exact hN _ _ _ _ _ hL hH2 hf2
theorem Sok.sCallS {k idx maxL : Nat} {y : MethodName} {bytes : ByteArray} {ret : Option FieldType} {F : MX} {as : EA} (ha : Aok g M wa n pc pc1 as) (hw : wa ≤ 8) (hM : MK g k y bytes maxL ret F) (hy : yok y n) (hv : sok M.1 idx y bytes maxL ret) (hk : k + 1 ≤ M.2.2.2.1) (hm : maxL ≤ 29) (hd : decode M.2.1 pc1 = .ok (.invokestatic idx, 3)) : Sok g M pc (pc1 + 3) pcB pcC (sCallS F as) := by
  intro p e R s m args below meth c cells slots Q hC Rp hR H locs ls env h N B C hL hH hf hN hB hCc
  refine ha p e R s m args below meth c cells slots Q hC H locs ls env h [] _ hL hH (by simpa [cats] using hw) hf (fun vs H1 l1 h1 hH1 hn hf1 => ?_)
  refine run_s hC hM hy hv hk hm hd (LR_size hL) hH1 (by simp [cats]) hn hf1 (fun v H2 l2 h2 hH2 hf2 => ?_)
  obtain ⟨rfl, hf2⟩ := hf2
  exact hN _ _ _ _ _ hL hH2 hf2
def loopN (c : CX) (s u : SX) : Nat → LE → HS → (LE → HS → Prop) → (Option Value → HS → Prop) → Prop
  | 0, _, _, _, _ => False
  | n + 1, env, h, N, R => c env h fun b h1 => if b = true then s env h1 (fun e2 h2 => u e2 h2 (fun e3 h3 => loopN c s u n e3 h3 N R) (fun _ _ => False) (fun _ _ => False) R) N (fun e2 h2 => u e2 h2 (fun e3 h3 => loopN c s u n e3 h3 N R) (fun _ _ => False) (fun _ _ => False) R) R else N env h1
def sLoop (c : CX) (s u : SX) : SX := fun env h N _ _ R => ∃ n, loopN c s u n env h N R
theorem Sok.loop {c : CX} {s u : SX} (hc : Cok g M wa pc pc1 pcN c) (hw : wa ≤ 8) (hs : Sok g M pc1 pc2 pcN pc2 s) (hu : Sok g M pc2 pc 0 0 u) : Sok g M pc pcN pcB pcC (sLoop c s u) := by
  intro p e R s0 m args below meth c0 cells slots Q hC Rp hR H locs ls env h N B C hL hH hf hN hB hCc
  obtain ⟨n, hf⟩ := hf
  induction n generalizing H locs ls env h with
  | zero => exact hf.elim
  | succ n ih =>
    refine hc p e R s0 m args below meth c0 cells slots Q hC H locs ls env h [] _ hL hH (by simpa [cats] using hw) hf (fun x H1 l1 h1 hH1 hf1 => ?_)
    cases x with
    | false => exact hN _ _ _ _ _ hL hH1 hf1
    | true =>
      have key : ∀ (H' : Heap) (locs' : List Loc) (ls' : Array Slot) (env' : LE) (h' : HS), LR g M.2.2.1 ls' env' → RH g s0 H' locs' h' → u env' h' (fun e3 h3 => loopN c s u n e3 h3 N Rp) (fun _ _ => False) (fun _ _ => False) Rp → W p g.1 e R s0 m args below meth c0 H' locs' cells slots Q (F0 m pc2 ls' []) := fun H2 l2 ls2 e2 h2 q1 q2 q3 =>
        hu p e R s0 m args below meth c0 cells slots Q hC Rp hR H2 l2 ls2 e2 h2 _ _ _ q1 q2 q3 (fun H3 l3 ls3 e3 h3 q4 q5 q6 => ih H3 l3 ls3 e3 h3 q4 q5 q6) (fun _ _ _ _ _ _ _ z => z.elim) (fun _ _ _ _ _ _ _ z => z.elim)
      exact hs p e R s0 m args below meth c0 cells slots Q hC Rp hR H1 l1 ls env h1 _ _ _ hL hH1 hf1 key hN key
/-- a switch over a table: bodies by place, the last for all else -/
def swAt {α : Type} (lo : Int) (l : List α) (d : α) (x : Int32) : α := if lo ≤ x.toInt ∧ x.toInt < lo + l.length then l.getD (x.toInt - lo).toNat d else d
def sSwitch (lo : Int) (a : EI) (bs : List SX) (d : SX) : SX := fun env h N B C R => a env h fun x h1 => (swAt lo bs d x) env h1 N B C R
theorem Sok.tswitch {a : EI} {bs : List SX} {d : SX} {dflt lo hi : Int} {offs : Array Int} {len pd : Nat} {pcs : List Nat} (ha : EokI g M wa pc pc1 a) (hw : wa ≤ 8) (hd : decode M.2.1 pc1 = .ok (.tableswitch dflt lo hi offs, len)) (hlen : (pcs.length : Int) = hi + 1 - lo) (hb : bs.length = pcs.length) (hoffs : ∀ i, i < pcs.length → (offs[i]?).map (fun off => (pc1 : Int) + off) = some (((pcs.getD i pd) : Nat) : Int)) (hdf : (pc1 : Int) + dflt = (pd : Int)) (hbs : ∀ i, i < pcs.length → Sok g M (pcs.getD i pd) pcN pcB pcC (bs.getD i d)) (hdd : Sok g M pd pcN pcB pcC d) : Sok g M pc pcN pcB pcC (sSwitch lo a bs d) := by
  intro p e R s m args below meth c cells slots Q hC Rp hR H locs ls env h N B C hL hH hf hN hB hCc
  refine ha p e R s m args below meth c cells slots Q hC H locs ls env h [] _ hL hH (by simpa [cats] using hw) hf (fun x H1 l1 h1 hH1 hf1 => ?_)
  unfold swAt at hf1
  by_cases hx : lo ≤ x.toInt ∧ x.toInt < lo + bs.length
  · rw [if_pos hx] at hf1
    have hi1 : (x.toInt - lo).toNat < pcs.length := by omega
    obtain ⟨off, ho1, ho2⟩ := Option.map_eq_some_iff.mp (hoffs _ hi1)
    exact lv_tableIn hC.1 hC.2.1 hd (by omega) (by omega) ho1 ho2 (hbs _ hi1 p e R s m args below meth c cells slots Q hC Rp hR H1 l1 ls env h1 N B C hL hH1 hf1 hN hB hCc)
  · rw [if_neg hx] at hf1
    exact lv_tableOut hC.1 hC.2.1 hd (by omega) hdf (hdd p e R s m args below meth c cells slots Q hC Rp hR H1 l1 ls env h1 N B C hL hH1 hf1 hN hB hCc)
def sCase (a : EI) (f : Int32 → SX) : SX := fun env h N B C R => a env h fun x h1 => f x env h1 N B C R
theorem Sok.lswitch {a : EI} {f : Int32 → SX} {dflt : Int} {ps : Array (Int × Int)} {len : Nat} (tg : Int32 → Nat) (ha : EokI g M wa pc pc1 a) (hw : wa ≤ 8) (hd : decode M.2.1 pc1 = .ok (.lookupswitch dflt ps, len)) (hp : (ps.toList.zip (ps.toList.drop 1)).all (fun (a, next) => a.1 < next.1) = true) (ht : ∀ x : Int32, (pc1 : Int) + Op.lookupswitch.offset ps.toList dflt x.toInt = (tg x : Int)) (hbs : ∀ x, Sok g M (tg x) pcN pcB pcC (f x)) : Sok g M pc pcN pcB pcC (sCase a f) := by
  intro p e R s m args below meth c cells slots Q hC Rp hR H locs ls env h N B C hL hH hf hN hB hCc
  refine ha p e R s m args below meth c cells slots Q hC H locs ls env h [] _ hL hH (by simpa [cats] using hw) hf (fun x H1 l1 h1 hH1 hf1 => ?_)
  exact lv_lookup hC.1 hC.2.1 hd hp rfl (ht x) (hbs x p e R s m args below meth c cells slots Q hC Rp hR H1 l1 ls env h1 N B C hL hH1 hf1 hN hB hCc)
/-- what stands ahead of a break or a continue may go straight where that goes -/
theorem Sok.seqB {a : SX} (ha : Sok g M pc pcB pcB pcC a) : Sok g M pc pcN pcB pcC (sSeq a sBreak) := by
  intro p e R s m args below meth c cells slots Q hC Rp hR H locs ls env h N B C hL hH hf hN hB hCc
  exact ha p e R s m args below meth c cells slots Q hC Rp hR H locs ls env h _ B C hL hH hf hB hB hCc
theorem Sok.seqC {a : SX} (ha : Sok g M pc pcC pcB pcC a) : Sok g M pc pcN pcB pcC (sSeq a sCont) := by
  intro p e R s m args below meth c cells slots Q hC Rp hR H locs ls env h N B C hL hH hf hN hB hCc
  exact ha p e R s m args below meth c cells slots Q hC Rp hR H locs ls env h _ B C hL hH hf hCc hB hCc
/-- a switch's break ends the switch -/
def sSw (s : SX) : SX := fun env h N _ C R => s env h N N C R
theorem Sok.swB {a : SX} (ha : Sok g M pc pcN pcN pcC a) : Sok g M pc pcN pcB pcC (sSw a) := by
  intro p e R s m args below meth c cells slots Q hC Rp hR H locs ls env h N B C hL hH hf hN hB hCc
  exact ha p e R s m args below meth c cells slots Q hC Rp hR H locs ls env h N N C hL hH hf hN hN hCc
def SWL (g : GT) (M : MT) (pcN pcB pcC : Nat) : List Nat → List SX → Prop
  | [], [] => True
  | p :: ps, b :: bs => Sok g M p pcN pcB pcC b ∧ SWL g M pcN pcB pcC ps bs
  | _, _ => False
theorem sw_list {pd : Nat} {d : SX} : ∀ {ps : List Nat} {bs : List SX}, SWL g M pcN pcB pcC ps bs → ∀ i, i < ps.length → Sok g M (ps.getD i pd) pcN pcB pcC (bs.getD i d)
  | [], [], _, i, hi => absurd hi (Nat.not_lt_zero i)
  | p :: ps, b :: bs, h, 0, _ => h.1
  | p :: ps, b :: bs, h, i + 1, hi => by
    have := sw_list (pd := pd) (d := d) h.2 i (by simpa using hi)
    simpa using this
  | [], _ :: _, h, _, _ => h.elim
  | _ :: _, [], h, _, _ => h.elim
theorem Sok.ifx {c : Prop} [Decidable c] {p1 p2 : Nat} {a b : SX} (ha : Sok g M p1 pcN pcB pcC a) (hb : Sok g M p2 pcN pcB pcC b) : Sok g M (if c then p1 else p2) pcN pcB pcC (if c then a else b) := by
  split
  · exact ha
  · exact hb
theorem lsw2 {x k0 k1 : Int32} {a0 o0 a1 o1 d : Int} {q p0 p1 pd : Nat} (h0 : k0.toInt = a0) (h1 : k1.toInt = a1) (e0 : (q : Int) + o0 = (p0 : Int)) (e1 : (q : Int) + o1 = (p1 : Int)) (ed : (q : Int) + d = (pd : Int)) : (q : Int) + Op.lookupswitch.offset [(a0, o0), (a1, o1)] d x.toInt = ((if x = k0 then p0 else if x = k1 then p1 else pd : Nat) : Int) := by
  by_cases hx0 : x = k0
  · subst hx0
    rw [if_pos rfl, Op.lookupswitch.offset_cons, if_pos h0.symm]; exact e0
  · rw [if_neg hx0, lv_osw hx0 h0]
    by_cases hx1 : x = k1
    · subst hx1
      rw [if_pos rfl, Op.lookupswitch.offset_cons, if_pos h1.symm]; exact e1
    · rw [if_neg hx1, lv_osw hx1 h1]; exact ed
/-- the locals at a method's entry -/
def envA : List Value → LE
  | [] => []
  | v :: vs => if v.category = 2 then some v :: none :: envA vs else some v :: envA vs
def env0 (nL : Nat) (as : List Value) : LE := envA as ++ List.replicate (nL - (envA as).length) none
def bodyOf (nL : Nat) (f : SX) : MX := fun as h Rp => (envA as).length ≤ nL ∧ f (env0 nL as) h (fun _ _ => False) (fun _ _ => False) (fun _ _ => False) Rp
theorem lvs_app (g : GT) : ∀ (a b : LE) (i : Nat), lvs g i (a ++ b) = lvs g i a ++ lvs g (i + a.length) b
  | [], b, i => by simp [lvs]
  | none :: a, b, i => by simp [lvs, lvs_app g a b (i + 1), Nat.add_assoc, Nat.add_comm 1]
  | some v :: a, b, i => by simp [lvs, lvs_app g a b (i + 1), Nat.add_assoc, Nat.add_comm 1]
theorem lvs_none (g : GT) : ∀ (k i : Nat), lvs g i (List.replicate k none) = []
  | 0, i => rfl
  | k + 1, i => by rw [List.replicate_succ, lvs, lvs_none g k]
theorem lvs_envA (g : GT) : ∀ (as : List Value) (i : Nat), lvs g i (envA as) = lv_args i (as.map (cv g))
  | [], i => rfl
  | v :: vs, i => by
    by_cases hc : v.category = 2
    · simp [envA, hc, lvs, lv_args, cv_cat, lvs_envA g vs]
    · simp [envA, hc, lvs, lv_args, cv_cat, lvs_envA g vs]
theorem lg_len (g : GT) : ∀ as : List Value, (lg_sl (as.map (cv g))).length = (envA as).length
  | [] => rfl
  | v :: vs => by
    have ih := lg_len g vs
    unfold lg_sl at ih ⊢
    by_cases hc : v.category = 2
    · simp [envA, hc, cv_cat]
      simpa using ih
    · simp [envA, hc, cv_cat]
      simpa using ih
theorem LR_entry {as : List Value} {nL : Nat} (h : (envA as).length ≤ nL) : LR g nL ((lg_sl (as.map (cv g)) ++ List.replicate (nL - (lg_sl (as.map (cv g))).length) Slot.unset).toArray) (env0 nL as) := by
  have := lv_entry (as.map (cv g)) (n := nL) (by rw [lg_len]; exact h)
  unfold LR env0
  rw [lvs_app, lvs_none, List.append_nil, lvs_envA]
  exact this
theorem MK.of {y : MethodName} {k maxL : Nat} {bytes : ByteArray} {ret : Option FieldType} {f : SX} (hy : plainName y.cls = true) (hf : Sok g (y.cls, bytes, maxL, k, ret) 0 pcN pcB pcC f) : MK g k y bytes maxL ret (bodyOf maxL f) := by
  intro as h Rp hJ hF
  obtain ⟨hlen, hF⟩ := hF
  refine Met.ofW (cc := bytes) (maxL := maxL) (ret := ret) hy rfl ?_
  intro p e s m args below meth c s₁ B hml hv
  obtain ⟨rfl, hP, hK, hres⟩ := hv
  have hx := B.exec
  have hb := B.bytes
  have hr := B.returns
  have hts := atoms_spec (ws := .code y bytes maxL ret :: WD) B.pre
  have hown : s.vm.findClass y.cls = some m.cls := findClass_of_methodNamed B.named
  have hlocks := B.notSynchronized
  rw [lg_entry_eq]
  have hC : CT g (y.cls, bytes, maxL, k, ret) p (rmk k) s m (as.map (cv g)).toArray c 0 0 := ⟨hx, hb, hml, hown, fun w hw => hts w (List.mem_cons_of_mem _ hw), hK, Nat.le_refl _, Nat.le_refl _, hres, Nat.zero_le _, Nat.zero_le _⟩
  refine hf p e (rmk k) s m _ below meth c 0 0 _ hC Rp ?_ s.heap [] _ (env0 maxL as) h _ _ _ (LR_entry hlen) ⟨hP, va_S.rf, hJ⟩ hF (fun _ _ _ _ _ _ _ z => z.elim) (fun _ _ _ _ _ _ _ z => z.elim) (fun _ _ _ _ _ _ _ z => z.elim)
  intro v H' locs' h' pc' ls' hH' hRp hret
  have fin : ∀ (w : Option Value), w = v.map (cv g) → ∀ t : State, t.heap = H' → s.WarmedH t.vm → Qcj g Rp (as.map (cv g)).toArray s (.returned w) t := fun w hw t ht hW => ⟨⟨v, h', by rw [hw], hRp, by rw [ht]; exact hH'.1, hH'.2.2⟩, hH'.2.1.F ht⟩
  unfold isRet at hret
  split at hret
  · obtain ⟨h1, h2⟩ := hret
    exact W.vret hx hb (hr.trans h1) (fin none rfl) hH'.2.1.2.2 h2
  · rename_i x
    obtain ⟨h1, h2 | ⟨h2, h3⟩⟩ := hret
    · exact W.zret (ty := .int) hx hb (hr.trans h2) rfl (fin _ rfl) hH'.2.1.2.2 h1
    · exact W.zret (ty := .boolean) hx hb (hr.trans h2) (by rcases h3 with rfl | rfl <;> decide +kernel) (fin _ rfl) hH'.2.1.2.2 h1
  · obtain ⟨h1, h2⟩ := hret
    exact W.lret hx hb (hr.trans h2) (fin _ rfl) hH'.2.1.2.2 h1
  · exact hret.elim
end ST
