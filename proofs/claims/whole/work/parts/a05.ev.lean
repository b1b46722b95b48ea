set_option maxRecDepth 20000
set_option maxHeartbeats 4000000
set_option linter.all false
/-! evaluation, a step a lemma (none of them by computing) -/
def cI (v : Option (Option Value)) (q : Int32 → Prop) : Prop := match v with
  | some (some (.int x)) => q x
  | _ => False
theorem cI_s (x : Int32) (q : Int32 → Prop) : cI (some (some (.int x))) q = q x := (Eq.refl _).trans (Eq.refl _)
def cL0 (v : Option (Option Value)) (q : Int64 → Prop) : Prop := match v with
  | some (some (.long x)) => q x
  | _ => False
theorem cL0_s (x : Int64) (q : Int64 → Prop) : cL0 (some (some (.long x))) q = q x := (Eq.refl _).trans (Eq.refl _)
def cR (v : Option (Option Value)) (q : Nat → Prop) : Prop := match v with
  | some (some (.ref x)) => q x
  | _ => False
theorem cR_s (x : Nat) (q : Nat → Prop) : cR (some (some (.ref x))) q = q x := (Eq.refl _).trans (Eq.refl _)
def vI (v : Option Value) (q : Int32 → Prop) : Prop := match v with
  | some (.int x) => q x
  | _ => False
theorem vI_s (x : Int32) (q : Int32 → Prop) : vI (some (.int x)) q = q x := (Eq.refl _).trans (Eq.refl _)
def vL (v : Option Value) (q : Int64 → Prop) : Prop := match v with
  | some (.long x) => q x
  | _ => False
theorem vL_s (x : Int64) (q : Int64 → Prop) : vL (some (.long x)) q = q x := (Eq.refl _).trans (Eq.refl _)
def vR (v : Option Value) (q : Nat → Prop) : Prop := match v with
  | some (.ref x) => q x
  | _ => False
theorem vR_s (x : Nat) (q : Nat → Prop) : vR (some (.ref x)) q = q x := (Eq.refl _).trans (Eq.refl _)
variable (env : LE) (h : HS)
theorem u_iLoc (i : Nat) (k : Int32 → HS → Prop) : iLoc i env h k = cI env[i]? (fun x => k x h) := (Eq.refl _).trans (Eq.refl _)
theorem u_lLoc (i : Nat) (k : Int64 → HS → Prop) : lLoc i env h k = cL0 env[i]? (fun x => k x h) := (Eq.refl _).trans (Eq.refl _)
theorem u_rLoc (i : Nat) (k : Nat → HS → Prop) : rLoc i env h k = cR env[i]? (fun x => k x h) := (Eq.refl _).trans (Eq.refl _)
theorem u_iK (v : Int32) (k : Int32 → HS → Prop) : iK v env h k = k v h := (Eq.refl _).trans (Eq.refl _)
theorem u_lK (v : Int64) (k : Int64 → HS → Prop) : lK v env h k = k v h := (Eq.refl _).trans (Eq.refl _)
theorem u_iB (gd : Int32 → Int32 → Prop) (op : Int32 → Int32 → Int32) (a b : EI) (k : Int32 → HS → Prop) : iB gd op a b env h k = a env h (fun x h1 => b env h1 (fun y h2 => gd x y ∧ k (op x y) h2)) := (Eq.refl _).trans (Eq.refl _)
theorem u_lB (gd : Int64 → Int64 → Prop) (op : Int64 → Int64 → Int64) (a b : EL) (k : Int64 → HS → Prop) : lB gd op a b env h k = a env h (fun x h1 => b env h1 (fun y h2 => gd x y ∧ k (op x y) h2)) := (Eq.refl _).trans (Eq.refl _)
theorem u_iBg (op : Int32 → Int32 → Int32) (a b : EI) (k : Int32 → HS → Prop) : iB gT2 op a b env h k = a env h (fun x h1 => b env h1 (fun y h2 => k (op x y) h2)) := by
  rw [u_iB]; simp only [gT2, true_and]
theorem u_lBg (op : Int64 → Int64 → Int64) (a b : EL) (k : Int64 → HS → Prop) : lB gT2 op a b env h k = a env h (fun x h1 => b env h1 (fun y h2 => k (op x y) h2)) := by
  rw [u_lB]; simp only [gT2, true_and]
theorem u_lBI (op : Int64 → Int32 → Int64) (a : EL) (b : EI) (k : Int64 → HS → Prop) : lBI op a b env h k = a env h (fun x h1 => b env h1 (fun y h2 => k (op x y) h2)) := (Eq.refl _).trans (Eq.refl _)
theorem u_gT (x y : Int32) : gT2 x y = True := (Eq.refl _).trans (Eq.refl _)
theorem u_gTL (x y : Int64) : gT2 x y = True := (Eq.refl _).trans (Eq.refl _)
theorem u_gNZ (x y : Int32) : gNZ x y = ¬ (y = 0) := (Eq.refl _).trans (Eq.refl _)
theorem u_gNZL (x y : Int64) : gNZL x y = ¬ (y = 0) := (Eq.refl _).trans (Eq.refl _)
theorem u_iNeg (a : EI) (k : Int32 → HS → Prop) : iNeg a env h k = a env h (fun x h1 => k (-x) h1) := (Eq.refl _).trans (Eq.refl _)
theorem u_iOfL (a : EL) (k : Int32 → HS → Prop) : iOfL a env h k = a env h (fun x h1 => k (x.toInt32) h1) := (Eq.refl _).trans (Eq.refl _)
theorem u_lOfI (a : EI) (k : Int64 → HS → Prop) : lOfI a env h k = a env h (fun x h1 => k (x.toInt64) h1) := (Eq.refl _).trans (Eq.refl _)
theorem u_iByte (a : EI) (k : Int32 → HS → Prop) : iByte a env h k = a env h (fun x h1 => k (x.toInt8.toInt32) h1) := (Eq.refl _).trans (Eq.refl _)
def fI (e : va_E) (ci j : Nat) (q : Int32 → Prop) : Prop := match e with
  | .inr (c, fs) => c = ci ∧ vI fs[j]? q
  | .inl _ => False
theorem fI_s (ci j : Nat) (fs : List Value) (q : Int32 → Prop) : fI (.inr (ci, fs)) ci j q = vI fs[j]? q := (propext (and_iff_right rfl) : (ci = ci ∧ vI fs[j]? q) = _)
theorem u_iGet (ci j : Nat) (o : ER) (k : Int32 → HS → Prop) : iGet ci j o env h k = o env h (fun a h1 => fI (h1 a) ci j (fun x => k x h1)) := (Eq.refl _).trans (Eq.refl _)
def fL (e : va_E) (ci j : Nat) (q : Int64 → Prop) : Prop := match e with
  | .inr (c, fs) => c = ci ∧ vL fs[j]? q
  | .inl _ => False
theorem fL_s (ci j : Nat) (fs : List Value) (q : Int64 → Prop) : fL (.inr (ci, fs)) ci j q = vL fs[j]? q := (propext (and_iff_right rfl) : (ci = ci ∧ vL fs[j]? q) = _)
theorem u_lGet (ci j : Nat) (o : ER) (k : Int64 → HS → Prop) : lGet ci j o env h k = o env h (fun a h1 => fL (h1 a) ci j (fun x => k x h1)) := (Eq.refl _).trans (Eq.refl _)
def fR (e : va_E) (ci j : Nat) (q : Nat → Prop) : Prop := match e with
  | .inr (c, fs) => c = ci ∧ vR fs[j]? q
  | .inl _ => False
theorem fR_s (ci j : Nat) (fs : List Value) (q : Nat → Prop) : fR (.inr (ci, fs)) ci j q = vR fs[j]? q := (propext (and_iff_right rfl) : (ci = ci ∧ vR fs[j]? q) = _)
theorem u_rGet (ci j : Nat) (o : ER) (k : Nat → HS → Prop) : rGet ci j o env h k = o env h (fun a h1 => fR (h1 a) ci j (fun x => k x h1)) := (Eq.refl _).trans (Eq.refl _)
def eI (e : va_E) (t : Nat) (x : Int32) (q : Int32 → Prop) : Prop := match e with
  | .inl (c, n, .inl f) => c = t ∧ vp_in x n ∧ q (f x.toNatClampNeg)
  | _ => False
def eL (e : va_E) (x : Int32) (q : Int64 → Prop) : Prop := match e with
  | .inl (c, n, .inr (.inl f)) => c = 1 ∧ vp_in x n ∧ q (f x.toNatClampNeg)
  | _ => False
theorem eI_s (t n : Nat) (f : Nat → Int32) (x : Int32) (q : Int32 → Prop) : eI (.inl (t, n, .inl f)) t x q = (vp_in x n ∧ q (f x.toNatClampNeg)) := (propext (and_iff_right rfl) : (t = t ∧ _) = _)
theorem eL_s (n : Nat) (f : Nat → Int64) (x : Int32) (q : Int64 → Prop) : eL (.inl (1, n, .inr (.inl f))) x q = (vp_in x n ∧ q (f x.toNatClampNeg)) := (propext (and_iff_right rfl) : (1 = 1 ∧ _) = _)
theorem u_iALd (a : ER) (i : EI) (k : Int32 → HS → Prop) : iALd a i env h k = a env h (fun o h1 => i env h1 (fun x h2 => eI (h2 o) 0 x (fun v => k v h2))) := (Eq.refl _).trans (Eq.refl _)
theorem u_bALd (a : ER) (i : EI) (k : Int32 → HS → Prop) : bALd a i env h k = a env h (fun o h1 => i env h1 (fun x h2 => eI (h2 o) 2 x (fun v => k v h2))) := (Eq.refl _).trans (Eq.refl _)
theorem u_zALd (a : ER) (i : EI) (k : Int32 → HS → Prop) : zALd a i env h k = a env h (fun o h1 => i env h1 (fun x h2 => eI (h2 o) 3 x (fun v => k v h2))) := (Eq.refl _).trans (Eq.refl _)
theorem u_lALd (a : ER) (i : EI) (k : Int64 → HS → Prop) : lALd a i env h k = a env h (fun o h1 => i env h1 (fun x h2 => eL (h2 o) x (fun v => k v h2))) := (Eq.refl _).trans (Eq.refl _)
def eN (e : va_E) (q : Int32 → Prop) : Prop := match e with
  | .inl (c, x) => c < 4 ∧ q (nI x.1)
  | .inr _ => False
theorem eN_s (c n : Nat) (x : (Nat → Int32) ⊕ (Nat → Int64) ⊕ (Nat → UInt32) ⊕ (Nat → UInt64) ⊕ (Nat → Option Nat)) (q : Int32 → Prop) (hc : c < 4) : eN (.inl (c, n, x)) q = q (nI n) := (propext (and_iff_right hc) : (c < 4 ∧ _) = _)
theorem u_iLen (a : ER) (k : Int32 → HS → Prop) : iLen a env h k = a env h (fun o h1 => eN (h1 o) (fun x => k x h1)) := (Eq.refl _).trans (Eq.refl _)
theorem u_iResLen (k : Int32 → HS → Prop) : iResLen env h k = k 15 h := (Eq.refl _).trans (Eq.refl _)
theorem u_lRes (i : EI) (k : Int64 → HS → Prop) : lRes i env h k = i env h (fun x h1 => vp_in x 15 ∧ k (resv x.toNatClampNeg) h1) := (Eq.refl _).trans (Eq.refl _)
theorem u_cB (rel : Int32 → Int32 → Bool) (a b : EI) (k : Bool → HS → Prop) : cB rel a b env h k = a env h (fun x h1 => b env h1 (fun y h2 => k (rel x y) h2)) := (Eq.refl _).trans (Eq.refl _)
theorem u_cZ (rel : Int32 → Bool) (a : EI) (k : Bool → HS → Prop) : cZ rel a env h k = a env h (fun x h1 => k (rel x) h1) := (Eq.refl _).trans (Eq.refl _)
theorem u_cL (rel : Int64 → Int64 → Bool) (a b : EL) (k : Bool → HS → Prop) : cL rel a b env h k = a env h (fun x h1 => b env h1 (fun y h2 => k (rel x y) h2)) := (Eq.refl _).trans (Eq.refl _)
theorem u_cAnd (a b : CX) (k : Bool → HS → Prop) : cAnd a b env h k = a env h (fun x h1 => if x = true then b env h1 k else k false h1) := (Eq.refl _).trans (Eq.refl _)
theorem u_cOr (a b : CX) (k : Bool → HS → Prop) : cOr a b env h k = a env h (fun x h1 => if x = true then k true h1 else b env h1 k) := (Eq.refl _).trans (Eq.refl _)
theorem u_cNot (a : CX) (k : Bool → HS → Prop) : cNot a env h k = a env h (fun x h1 => k (!x) h1) := (Eq.refl _).trans (Eq.refl _)
theorem u_cK (b : Bool) (k : Bool → HS → Prop) : cK b env h k = k b h := (Eq.refl _).trans (Eq.refl _)
theorem u_iCond (c : CX) (a b : EI) (k : Int32 → HS → Prop) : iCond c a b env h k = c env h (fun x h1 => if x = true then a env h1 k else b env h1 k) := (Eq.refl _).trans (Eq.refl _)
theorem u_lCond (c : CX) (a b : EL) (k : Int64 → HS → Prop) : lCond c a b env h k = c env h (fun x h1 => if x = true then a env h1 k else b env h1 k) := (Eq.refl _).trans (Eq.refl _)
theorem u_iBool (c : CX) (k : Int32 → HS → Prop) : iBool c env h k = c env h (fun x h1 => if x = true then k 1 h1 else k 0 h1) := (Eq.refl _).trans (Eq.refl _)
theorem req_t (x y : Int32) : (req x y = true) = (x = y) := propext decide_eq_true_iff
theorem req_f (x y : Int32) : (req x y = false) = ¬ (x = y) := propext decide_eq_false_iff_not
theorem zeq_t (x : Int32) : (zeq x = true) = (x = 0) := propext decide_eq_true_iff
theorem zeq_f (x : Int32) : (zeq x = false) = ¬ (x = 0) := propext decide_eq_false_iff_not
theorem leq_t (x y : Int64) : (leq x y = true) = (x = y) := propext decide_eq_true_iff
theorem leq_f (x y : Int64) : (leq x y = false) = ¬ (x = y) := propext decide_eq_false_iff_not
theorem rne_t (x y : Int32) : (rne x y = true) = (¬ x = y) := propext decide_eq_true_iff
theorem rne_f (x y : Int32) : (rne x y = false) = ¬ (¬ x = y) := propext decide_eq_false_iff_not
theorem zne_t (x : Int32) : (zne x = true) = (¬ x = 0) := propext decide_eq_true_iff
theorem zne_f (x : Int32) : (zne x = false) = ¬ (¬ x = 0) := propext decide_eq_false_iff_not
theorem lne_t (x y : Int64) : (lne x y = true) = (¬ x = y) := propext decide_eq_true_iff
theorem lne_f (x y : Int64) : (lne x y = false) = ¬ (¬ x = y) := propext decide_eq_false_iff_not
theorem rlt_t (x y : Int32) : (rlt x y = true) = (x < y) := propext decide_eq_true_iff
theorem rlt_f (x y : Int32) : (rlt x y = false) = ¬ (x < y) := propext decide_eq_false_iff_not
theorem zlt_t (x : Int32) : (zlt x = true) = (x < 0) := propext decide_eq_true_iff
theorem zlt_f (x : Int32) : (zlt x = false) = ¬ (x < 0) := propext decide_eq_false_iff_not
theorem llt_t (x y : Int64) : (llt x y = true) = (x < y) := propext decide_eq_true_iff
theorem llt_f (x y : Int64) : (llt x y = false) = ¬ (x < y) := propext decide_eq_false_iff_not
theorem rge_t (x y : Int32) : (rge x y = true) = (y ≤ x) := propext decide_eq_true_iff
theorem rge_f (x y : Int32) : (rge x y = false) = ¬ (y ≤ x) := propext decide_eq_false_iff_not
theorem zge_t (x : Int32) : (zge x = true) = (0 ≤ x) := propext decide_eq_true_iff
theorem zge_f (x : Int32) : (zge x = false) = ¬ (0 ≤ x) := propext decide_eq_false_iff_not
theorem lge_t (x y : Int64) : (lge x y = true) = (y ≤ x) := propext decide_eq_true_iff
theorem lge_f (x y : Int64) : (lge x y = false) = ¬ (y ≤ x) := propext decide_eq_false_iff_not
theorem rgt_t (x y : Int32) : (rgt x y = true) = (y < x) := propext decide_eq_true_iff
theorem rgt_f (x y : Int32) : (rgt x y = false) = ¬ (y < x) := propext decide_eq_false_iff_not
theorem zgt_t (x : Int32) : (zgt x = true) = (0 < x) := propext decide_eq_true_iff
theorem zgt_f (x : Int32) : (zgt x = false) = ¬ (0 < x) := propext decide_eq_false_iff_not
theorem lgt_t (x y : Int64) : (lgt x y = true) = (y < x) := propext decide_eq_true_iff
theorem lgt_f (x y : Int64) : (lgt x y = false) = ¬ (y < x) := propext decide_eq_false_iff_not
theorem rle_t (x y : Int32) : (rle x y = true) = (x ≤ y) := propext decide_eq_true_iff
theorem rle_f (x y : Int32) : (rle x y = false) = ¬ (x ≤ y) := propext decide_eq_false_iff_not
theorem zle_t (x : Int32) : (zle x = true) = (x ≤ 0) := propext decide_eq_true_iff
theorem zle_f (x : Int32) : (zle x = false) = ¬ (x ≤ 0) := propext decide_eq_false_iff_not
theorem lle_t (x y : Int64) : (lle x y = true) = (x ≤ y) := propext decide_eq_true_iff
theorem lle_f (x y : Int64) : (lle x y = false) = ¬ (x ≤ y) := propext decide_eq_false_iff_not
theorem u_aNil (k : List Value → HS → Prop) : aNil env h k = k [] h := (Eq.refl _).trans (Eq.refl _)
theorem u_aI (a : EI) (r : EA) (k : List Value → HS → Prop) : aI a r env h k = a env h (fun x h1 => r env h1 (fun vs h2 => k (.int x :: vs) h2)) := (Eq.refl _).trans (Eq.refl _)
theorem u_aL (a : EL) (r : EA) (k : List Value → HS → Prop) : aL a r env h k = a env h (fun x h1 => r env h1 (fun vs h2 => k (.long x :: vs) h2)) := (Eq.refl _).trans (Eq.refl _)
theorem u_aR (a : ER) (r : EA) (k : List Value → HS → Prop) : aR a r env h k = a env h (fun x h1 => r env h1 (fun vs h2 => k (.ref x :: vs) h2)) := (Eq.refl _).trans (Eq.refl _)
def rI (k : Int32 → HS → Prop) : Option Value → HS → Prop := fun r h => match r with
  | some (.int x) => k x h
  | _ => False
def rL (k : Int64 → HS → Prop) : Option Value → HS → Prop := fun r h => match r with
  | some (.long x) => k x h
  | _ => False
def rN (k : HS → Prop) : Option Value → HS → Prop := fun r h => r = none ∧ k h
theorem rI_s (k : Int32 → HS → Prop) (x : Int32) : rI k (some (.int x)) h = k x h := (Eq.refl _).trans (Eq.refl _)
theorem rL_s (k : Int64 → HS → Prop) (x : Int64) : rL k (some (.long x)) h = k x h := (Eq.refl _).trans (Eq.refl _)
theorem rN_s (k : HS → Prop) : rN k none h = k h := propext (and_iff_right rfl)
theorem u_iCallV (ci : Nat) (F : MX) (as : EA) (k : Int32 → HS → Prop) : iCallV ci F as env h k = as env h (fun vs h1 => rcv ci vs h1 ∧ F vs h1 (rI k)) := (Eq.refl _).trans (Eq.refl _)
theorem u_lCallV (ci : Nat) (F : MX) (as : EA) (k : Int64 → HS → Prop) : lCallV ci F as env h k = as env h (fun vs h1 => rcv ci vs h1 ∧ F vs h1 (rL k)) := (Eq.refl _).trans (Eq.refl _)
theorem u_iCallS (F : MX) (as : EA) (k : Int32 → HS → Prop) : iCallS F as env h k = as env h (fun vs h1 => F vs h1 (rI k)) := (Eq.refl _).trans (Eq.refl _)
theorem u_lCallS (F : MX) (as : EA) (k : Int64 → HS → Prop) : lCallS F as env h k = as env h (fun vs h1 => F vs h1 (rL k)) := (Eq.refl _).trans (Eq.refl _)
variable (N B C : LE → HS → Prop) (R : Option Value → HS → Prop)
theorem u_sCallV (ci : Nat) (F : MX) (as : EA) : sCallV ci F as env h N B C R = as env h (fun vs h1 => rcv ci vs h1 ∧ F vs h1 (rN (N env))) := (Eq.refl _).trans (Eq.refl _)
theorem u_sCallS (F : MX) (as : EA) : sCallS F as env h N B C R = as env h (fun vs h1 => F vs h1 (rN (N env))) := (Eq.refl _).trans (Eq.refl _)
theorem u_sSkip : sSkip env h N B C R = N env h := (Eq.refl _).trans (Eq.refl _)
theorem u_sBreak : sBreak env h N B C R = B env h := (Eq.refl _).trans (Eq.refl _)
theorem u_sCont : sCont env h N B C R = C env h := (Eq.refl _).trans (Eq.refl _)
theorem u_sSeq (a b : SX) : sSeq a b env h N B C R = a env h (fun env1 h1 => b env1 h1 N B C R) B C R := (Eq.refl _).trans (Eq.refl _)
theorem u_sIf (c : CX) (a b : SX) : sIf c a b env h N B C R = c env h (fun x h1 => if x = true then a env h1 N B C R else b env h1 N B C R) := (Eq.refl _).trans (Eq.refl _)
theorem u_sForget (k : Nat) : sForget k env h N B C R = N (env.take k ++ List.replicate (env.length - k) none) h := (Eq.refl _).trans (Eq.refl _)
theorem u_sSetI (i : Nat) (a : EI) : sSetI i a env h N B C R = a env h (fun x h1 => N (set1 env i (.int x)) h1) := (Eq.refl _).trans (Eq.refl _)
theorem u_sSetL (i : Nat) (a : EL) : sSetL i a env h N B C R = a env h (fun x h1 => N (set2 env i (.long x)) h1) := (Eq.refl _).trans (Eq.refl _)
theorem u_sSetR (i : Nat) (a : ER) : sSetR i a env h N B C R = a env h (fun x h1 => N (set1 env i (.ref x)) h1) := (Eq.refl _).trans (Eq.refl _)
theorem u_sInc (i : Nat) (n : Int32) : sInc i n env h N B C R = cI env[i]? (fun x => N (set1 env i (.int (x + n))) h) := (Eq.refl _).trans (Eq.refl _)
theorem u_sRetV : sRetV env h N B C R = R none h := (Eq.refl _).trans (Eq.refl _)
theorem u_sRetI (a : EI) : sRetI a env h N B C R = a env h (fun x h1 => R (some (.int x)) h1) := (Eq.refl _).trans (Eq.refl _)
theorem u_sRetL (a : EL) : sRetL a env h N B C R = a env h (fun x h1 => R (some (.long x)) h1) := (Eq.refl _).trans (Eq.refl _)
theorem u_sRetZB (c : CX) : sRetZ (iBool c) env h N B C R = c env h (fun x h1 => if x = true then R (some (.int 1)) h1 else R (some (.int 0)) h1) := sRetZB c env h N B C R
theorem u_sRetZ (a : EI) : sRetZ a env h N B C R = a env h (fun x h1 => (x = 0 ∨ x = 1) ∧ R (some (.int x)) h1) := (Eq.refl _).trans (Eq.refl _)
theorem u_sRetZC (c : CX) (a b : EI) : sRetZ (iCond c a b) env h N B C R = c env h (fun x h1 => if x = true then sRetZ a env h1 N B C R else sRetZ b env h1 N B C R) := (Eq.refl _).trans (Eq.refl _)
theorem u_sRetZV (ci : Nat) (F : MX) (as : EA) : sRetZ (iCallV ci F as) env h N B C R = iCallV ci F as env h (fun x h1 => (x = 0 ∨ x = 1) ∧ R (some (.int x)) h1) := (Eq.refl _).trans (Eq.refl _)
theorem u_sRetZS (F : MX) (as : EA) : sRetZ (iCallS F as) env h N B C R = iCallS F as env h (fun x h1 => (x = 0 ∨ x = 1) ∧ R (some (.int x)) h1) := (Eq.refl _).trans (Eq.refl _)
theorem u_sRetZL (i : Nat) : sRetZ (iLoc i) env h N B C R = iLoc i env h (fun x h1 => (x = 0 ∨ x = 1) ∧ R (some (.int x)) h1) := (Eq.refl _).trans (Eq.refl _)
theorem u_sSw (s : SX) : sSw s env h N B C R = s env h N N C R := (Eq.refl _).trans (Eq.refl _)
theorem u_sSwitch (lo : Int) (a : EI) (bs : List SX) (d : SX) : sSwitch lo a bs d env h N B C R = a env h (fun x h1 => (swAt lo bs d x) env h1 N B C R) := (Eq.refl _).trans (Eq.refl _)
def pI (e : va_E) (ci j : Nat) (x : Int32) (q : va_E → Prop) : Prop := match e with
  | .inr (c, fs) => c = ci ∧ j < fs.length ∧ q (.inr (ci, fs.set j (.int x)))
  | .inl _ => False
theorem pI_s (ci j : Nat) (fs : List Value) (x : Int32) (q : va_E → Prop) : pI (.inr (ci, fs)) ci j x q = (j < fs.length ∧ q (.inr (ci, fs.set j (.int x)))) := (propext (and_iff_right rfl) : (ci = ci ∧ _) = _)
def pL (e : va_E) (ci j : Nat) (x : Int64) (q : va_E → Prop) : Prop := match e with
  | .inr (c, fs) => c = ci ∧ j < fs.length ∧ q (.inr (ci, fs.set j (.long x)))
  | .inl _ => False
theorem pL_s (ci j : Nat) (fs : List Value) (x : Int64) (q : va_E → Prop) : pL (.inr (ci, fs)) ci j x q = (j < fs.length ∧ q (.inr (ci, fs.set j (.long x)))) := (propext (and_iff_right rfl) : (ci = ci ∧ _) = _)
def pR (e : va_E) (ci j : Nat) (x : Nat) (q : va_E → Prop) : Prop := match e with
  | .inr (c, fs) => c = ci ∧ j < fs.length ∧ q (.inr (ci, fs.set j (.ref x)))
  | .inl _ => False
theorem pR_s (ci j : Nat) (fs : List Value) (x : Nat) (q : va_E → Prop) : pR (.inr (ci, fs)) ci j x q = (j < fs.length ∧ q (.inr (ci, fs.set j (.ref x)))) := (propext (and_iff_right rfl) : (ci = ci ∧ _) = _)
theorem u_sPutI (ci j : Nat) (o : ER) (a : EI) : sPutI ci j .int o a env h N B C R = o env h (fun q h1 => a env h1 (fun x h2 => pI (h2 q) ci j x (fun e => N env (va_up h2 q e)))) := by
  show o env h _ = o env h _
  congr 1; funext q h1
  show a env h1 _ = a env h1 _
  congr 1; funext x h2
  unfold pI
  rcases h2 q with e | ⟨c, fs⟩
  · rfl
  · show (c = ci ∧ j < fs.length ∧ True ∧ _) = _
    rw [true_and]
theorem u_sPutZ (ci j : Nat) (o : ER) (a : EI) : sPutI ci j .boolean o a env h N B C R = o env h (fun q h1 => a env h1 (fun x h2 => (x = 0 ∨ x = 1) ∧ pI (h2 q) ci j x (fun e => N env (va_up h2 q e)))) := by
  show o env h _ = o env h _
  congr 1; funext q h1
  show a env h1 _ = a env h1 _
  congr 1; funext x h2
  unfold pI
  rcases h2 q with e | ⟨c, fs⟩
  · exact propext ⟨fun z => z.elim, fun z => z.2⟩
  · exact propext ⟨fun z => ⟨z.2.2.1, z.1, z.2.1, z.2.2.2⟩, fun z => ⟨z.2.1, z.2.2.1, z.1, z.2.2.2⟩⟩
theorem u_sPutL (ci j : Nat) (o : ER) (a : EL) : sPutL ci j o a env h N B C R = o env h (fun q h1 => a env h1 (fun x h2 => pL (h2 q) ci j x (fun e => N env (va_up h2 q e)))) := (Eq.refl _).trans (Eq.refl _)
theorem u_sPutR (ci j : Nat) (o : ER) (a : ER) : sPutR ci j o a env h N B C R = o env h (fun q h1 => a env h1 (fun x h2 => pR (h2 q) ci j x (fun e => N env (va_up h2 q e)))) := (Eq.refl _).trans (Eq.refl _)
theorem u_sUpd (ci j : Nat) (op : Int32 → Int32 → Int32) (o : ER) (a : EI) : sUpd ci j gT2 op o a env h N B C R = o env h (fun q h1 => fI (h1 q) ci j (fun x0 => a env h1 (fun y h2 => pI (h2 q) ci j (op x0 y) (fun e => N env (va_up h2 q e))))) := by
  show o env h _ = o env h _
  congr 1; funext q h1
  unfold fI
  rcases h1 q with e | ⟨c, fs⟩
  · rfl
  · show (c = ci ∧ _) = (c = ci ∧ _)
    congr 1
    rcases fs[j]? with _ | v
    · rfl
    · cases v with
      | int x0 =>
        show a env h1 _ = a env h1 _
        congr 1; funext y h2
        unfold pI
        rcases h2 q with e | ⟨c, fs⟩
        · exact propext ⟨fun z => z.2, fun z => z.elim⟩
        · exact propext ⟨fun z => z.2, fun z => ⟨trivial, z⟩⟩
      | _ => rfl
def sI (e : va_E) (t : Nat) (x y : Int32) (q : va_E → Prop) : Prop := match e with
  | .inl (c, n, .inl f) => c = t ∧ vp_in x n ∧ q (.inl (t, n, .inl (upd f x.toNatClampNeg y)))
  | _ => False
theorem sI_s (t n : Nat) (f : Nat → Int32) (x y : Int32) (q : va_E → Prop) : sI (.inl (t, n, .inl f)) t x y q = (vp_in x n ∧ q (.inl (t, n, .inl (upd f x.toNatClampNeg y)))) := (propext (and_iff_right rfl) : (t = t ∧ _) = _)
def sL (e : va_E) (x : Int32) (y : Int64) (q : va_E → Prop) : Prop := match e with
  | .inl (c, n, .inr (.inl f)) => c = 1 ∧ vp_in x n ∧ q (.inl (1, n, .inr (.inl (vp_updL f x.toNatClampNeg y))))
  | _ => False
theorem sL_s (n : Nat) (f : Nat → Int64) (x : Int32) (y : Int64) (q : va_E → Prop) : sL (.inl (1, n, .inr (.inl f))) x y q = (vp_in x n ∧ q (.inl (1, n, .inr (.inl (vp_updL f x.toNatClampNeg y))))) := (propext (and_iff_right rfl) : (1 = 1 ∧ _) = _)
theorem u_sASt (t : Nat) (nar : Int32 → Int32) (a : ER) (i v : EI) : sASt t nar a i v env h N B C R = a env h (fun o h1 => i env h1 (fun x h2 => v env h2 (fun y h3 => sI (h3 o) t x (nar y) (fun e => N env (va_up h3 o e))))) := (Eq.refl _).trans (Eq.refl _)
theorem u_sAStN (t : Nat) (a : ER) (i v : EI) : sASt t narI a i v env h N B C R = a env h (fun o h1 => i env h1 (fun x h2 => v env h2 (fun y h3 => sI (h3 o) t x y (fun e => N env (va_up h3 o e))))) := u_sASt env h N B C R t narI a i v
theorem u_sAStL (a : ER) (i : EI) (v : EL) : sAStL a i v env h N B C R = a env h (fun o h1 => i env h1 (fun x h2 => v env h2 (fun y h3 => sL (h3 o) x y (fun e => N env (va_up h3 o e))))) := (Eq.refl _).trans (Eq.refl _)
theorem u_sAUpd (op : Int32 → Int32 → Int32) (a : ER) (i v : EI) : sAUpd gT2 op a i v env h N B C R = a env h (fun o h1 => i env h1 (fun x h2 => eI (h2 o) 0 x (fun z => v env h2 (fun y h3 => sI (h3 o) 0 x (op z y) (fun e => N env (va_up h3 o e)))))) := by
  show a env h _ = a env h _
  congr 1; funext o h1
  show i env h1 _ = i env h1 _
  congr 1; funext x h2
  unfold eI
  rcases h2 o with ⟨c, n, f | f | f | f | f⟩ | e
  · show (c = 0 ∧ vp_in x n ∧ _) = (c = 0 ∧ vp_in x n ∧ _)
    congr 1; congr 1
    show v env h2 _ = v env h2 _
    congr 1; funext y h3
    unfold sI
    rcases h3 o with ⟨c, n, f | f | f | f | f⟩ | e <;> exact propext ⟨fun z => z.2, fun z => ⟨trivial, z⟩⟩
  all_goals rfl
theorem u_sAUpdL (op : Int64 → Int64 → Int64) (a : ER) (i : EI) (v : EL) : sAUpdL gT2 op a i v env h N B C R = a env h (fun o h1 => i env h1 (fun x h2 => eL (h2 o) x (fun z => v env h2 (fun y h3 => sL (h3 o) x (op z y) (fun e => N env (va_up h3 o e)))))) := by
  show a env h _ = a env h _
  congr 1; funext o h1
  show i env h1 _ = i env h1 _
  congr 1; funext x h2
  unfold eL
  rcases h2 o with ⟨c, n, f | f | f | f | f⟩ | e
  · rfl
  · show (c = 1 ∧ vp_in x n ∧ _) = (c = 1 ∧ vp_in x n ∧ _)
    congr 1; congr 1
    show v env h2 _ = v env h2 _
    congr 1; funext y h3
    unfold sL
    rcases h3 o with ⟨c, n, f | f | f | f | f⟩ | e <;> exact propext ⟨fun z => z.2, fun z => ⟨trivial, z⟩⟩
  all_goals rfl
theorem u_body (nL : Nat) (f : SX) (as : List Value) : bodyOf nL f as h R = ((envA as).length ≤ nL ∧ f (env0 nL as) h (fun _ _ => False) (fun _ _ => False) (fun _ _ => False) R) := (Eq.refl _).trans (Eq.refl _)
theorem u_env0 (nL : Nat) (as : List Value) : env0 nL as = envA as ++ List.replicate (nL - (envA as).length) none := (Eq.refl _).trans (Eq.refl _)
theorem u_eAn : envA [] = [] := (Eq.refl _).trans (Eq.refl _)
theorem u_eAint (x : Int32) (r : List Value) : envA (.int x :: r) = some (.int x) :: envA r := (Eq.refl _).trans (Eq.refl _)
theorem u_eAref (x : Nat) (r : List Value) : envA (.ref x :: r) = some (.ref x) :: envA r := (Eq.refl _).trans (Eq.refl _)
theorem u_eAlong (x : Int64) (r : List Value) : envA (.long x :: r) = some (.long x) :: none :: envA r := (Eq.refl _).trans (Eq.refl _)
def kl (env : LE) (j : Nat) (v : Option (Option Value)) : LE := match v with
  | some (some w) => if w.category = 2 then env.set j none else env
  | _ => env
theorem kl_i (j : Nat) (x : Int32) : kl env j (some (some (.int x))) = env := (Eq.refl _).trans (Eq.refl _)
theorem kl_r (j : Nat) (x : Nat) : kl env j (some (some (.ref x))) = env := (Eq.refl _).trans (Eq.refl _)
theorem kl_l (j : Nat) (x : Int64) : kl env j (some (some (.long x))) = env.set j none := (Eq.refl _).trans (Eq.refl _)
theorem kl_n (j : Nat) : kl env j (some none) = env := (Eq.refl _).trans (Eq.refl _)
theorem kl_nn (j : Nat) : kl env j none = env := (Eq.refl _).trans (Eq.refl _)
theorem u_set1_0 (v : Value) : set1 env 0 v = env.set 0 (some v) := (Eq.refl _).trans (Eq.refl _)
theorem u_set1_s (j : Nat) (v : Value) : set1 env (j + 1) v = (kl env j env[j]?).set (j + 1) (some v) := (Eq.refl _).trans (Eq.refl _)
theorem u_set2_0 (v : Value) : set2 env 0 v = (env.set 0 (some v)).set 1 none := (Eq.refl _).trans (Eq.refl _)
theorem u_set2_s (j : Nat) (v : Value) : set2 env (j + 1) v = ((kl env j env[j]?).set (j + 1) (some v)).set (j + 1 + 1) none := (Eq.refl _).trans (Eq.refl _)
theorem u_s1_1 (v : Value) : set1 env 1 v = (kl env 0 env[0]?).set 1 (some v) := (Eq.refl _).trans (Eq.refl _)
theorem u_s2_1 (v : Value) : set2 env 1 v = ((kl env 0 env[0]?).set 1 (some v)).set 2 none := (Eq.refl _).trans (Eq.refl _)
theorem u_s1_2 (v : Value) : set1 env 2 v = (kl env 1 env[1]?).set 2 (some v) := (Eq.refl _).trans (Eq.refl _)
theorem u_s2_2 (v : Value) : set2 env 2 v = ((kl env 1 env[1]?).set 2 (some v)).set 3 none := (Eq.refl _).trans (Eq.refl _)
theorem u_s1_3 (v : Value) : set1 env 3 v = (kl env 2 env[2]?).set 3 (some v) := (Eq.refl _).trans (Eq.refl _)
theorem u_s2_3 (v : Value) : set2 env 3 v = ((kl env 2 env[2]?).set 3 (some v)).set 4 none := (Eq.refl _).trans (Eq.refl _)
theorem u_s1_4 (v : Value) : set1 env 4 v = (kl env 3 env[3]?).set 4 (some v) := (Eq.refl _).trans (Eq.refl _)
theorem u_s2_4 (v : Value) : set2 env 4 v = ((kl env 3 env[3]?).set 4 (some v)).set 5 none := (Eq.refl _).trans (Eq.refl _)
theorem u_s1_5 (v : Value) : set1 env 5 v = (kl env 4 env[4]?).set 5 (some v) := (Eq.refl _).trans (Eq.refl _)
theorem u_s2_5 (v : Value) : set2 env 5 v = ((kl env 4 env[4]?).set 5 (some v)).set 6 none := (Eq.refl _).trans (Eq.refl _)
theorem u_s1_6 (v : Value) : set1 env 6 v = (kl env 5 env[5]?).set 6 (some v) := (Eq.refl _).trans (Eq.refl _)
theorem u_s2_6 (v : Value) : set2 env 6 v = ((kl env 5 env[5]?).set 6 (some v)).set 7 none := (Eq.refl _).trans (Eq.refl _)
theorem u_s1_7 (v : Value) : set1 env 7 v = (kl env 6 env[6]?).set 7 (some v) := (Eq.refl _).trans (Eq.refl _)
theorem u_s2_7 (v : Value) : set2 env 7 v = ((kl env 6 env[6]?).set 7 (some v)).set 8 none := (Eq.refl _).trans (Eq.refl _)
theorem u_s1_8 (v : Value) : set1 env 8 v = (kl env 7 env[7]?).set 8 (some v) := (Eq.refl _).trans (Eq.refl _)
theorem u_s2_8 (v : Value) : set2 env 8 v = ((kl env 7 env[7]?).set 8 (some v)).set 9 none := (Eq.refl _).trans (Eq.refl _)
theorem u_s1_9 (v : Value) : set1 env 9 v = (kl env 8 env[8]?).set 9 (some v) := (Eq.refl _).trans (Eq.refl _)
theorem u_s2_9 (v : Value) : set2 env 9 v = ((kl env 8 env[8]?).set 9 (some v)).set 10 none := (Eq.refl _).trans (Eq.refl _)
theorem u_s1_10 (v : Value) : set1 env 10 v = (kl env 9 env[9]?).set 10 (some v) := (Eq.refl _).trans (Eq.refl _)
theorem u_s2_10 (v : Value) : set2 env 10 v = ((kl env 9 env[9]?).set 10 (some v)).set 11 none := (Eq.refl _).trans (Eq.refl _)
theorem u_s1_11 (v : Value) : set1 env 11 v = (kl env 10 env[10]?).set 11 (some v) := (Eq.refl _).trans (Eq.refl _)
theorem u_s2_11 (v : Value) : set2 env 11 v = ((kl env 10 env[10]?).set 11 (some v)).set 12 none := (Eq.refl _).trans (Eq.refl _)
theorem u_s1_12 (v : Value) : set1 env 12 v = (kl env 11 env[11]?).set 12 (some v) := (Eq.refl _).trans (Eq.refl _)
theorem u_s2_12 (v : Value) : set2 env 12 v = ((kl env 11 env[11]?).set 12 (some v)).set 13 none := (Eq.refl _).trans (Eq.refl _)
theorem u_s1_13 (v : Value) : set1 env 13 v = (kl env 12 env[12]?).set 13 (some v) := (Eq.refl _).trans (Eq.refl _)
theorem u_s2_13 (v : Value) : set2 env 13 v = ((kl env 12 env[12]?).set 13 (some v)).set 14 none := (Eq.refl _).trans (Eq.refl _)
theorem u_s1_14 (v : Value) : set1 env 14 v = (kl env 13 env[13]?).set 14 (some v) := (Eq.refl _).trans (Eq.refl _)
theorem u_s2_14 (v : Value) : set2 env 14 v = ((kl env 13 env[13]?).set 14 (some v)).set 15 none := (Eq.refl _).trans (Eq.refl _)
theorem ab0 (b k : Nat) : (b = b + (k + 1)) = False := eq_false (by omega)
theorem ab1 (b k : Nat) : (b + (k + 1) = b) = False := eq_false (by omega)
theorem u_sAStB (t : Nat) (a : ER) (i v : EI) : sASt t narB a i v env h N B C R = a env h (fun o h1 => i env h1 (fun x h2 => v env h2 (fun y h3 => sI (h3 o) t x (narB y) (fun e => N env (va_up h3 o e))))) := u_sASt env h N B C R t narB a i v
theorem u_sAStZ (t : Nat) (a : ER) (i v : EI) : sASt t narZ a i v env h N B C R = a env h (fun o h1 => i env h1 (fun x h2 => v env h2 (fun y h3 => sI (h3 o) t x (narZ y) (fun e => N env (va_up h3 o e))))) := u_sASt env h N B C R t narZ a i v
def ocls (e : va_E) (ci : Nat) : Prop := ∃ fs, e = .inr (ci, fs)
theorem u_rcv (ci a : Nat) (vs : List Value) : rcv ci (.ref a :: vs) h = ocls (h a) ci := (Eq.refl _).trans (Eq.refl _)
theorem ocls_s (ci : Nat) (fs : List Value) : ocls (.inr (ci, fs)) ci = True := eq_true ⟨fs, rfl⟩
theorem u_sCase (a : EI) (f : Int32 → SX) : sCase a f env h N B C R = a env h (fun x h1 => (f x) env h1 N B C R) := (Eq.refl _).trans (Eq.refl _)
theorem iteSX {q : Prop} [d : Decidable q] (f g : SX) : (if q then f else g) env h N B C R = if q then f env h N B C R else g env h N B C R := by split <;> rfl
theorem u_rnd (c : CX) (s u : SX) (X : LE → HS → Prop) : rnd c s u N R X env h = c env h (fun b h1 => if b = true then s env h1 (fun e2 h2 => u e2 h2 X (fun _ _ => False) (fun _ _ => False) R) N (fun e2 h2 => u e2 h2 X (fun _ _ => False) (fun _ _ => False) R) R else N env h1) := (Eq.refl _).trans (Eq.refl _)
theorem loop_do {c : CX} {s u : SX} {N B C : LE → HS → Prop} {R : Option Value → HS → Prop} (E : Nat → LE) (H : Nat → HS) (b : Nat)
    (hs : ∀ (i : Nat) (X : LE → HS → Prop), i < b → rnd c s u N R X (E i) (H i) = X (E (i + 1)) (H (i + 1)))
    (he : ∀ (X : LE → HS → Prop), rnd c s u N R X (E b) (H b)) (i : Nat) (hi : i ≤ b) : sLoop c s u (E i) (H i) N B C R := by
  have := loop_eq (B := B) (C := C) E H b True hs (fun X => eq_true (he X)) i hi
  rw [this]; trivial
