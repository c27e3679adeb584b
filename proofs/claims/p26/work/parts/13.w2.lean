/-! TWO WORLDS: the law's two sorters, each a matrix world of its own; the script -/
def W2 (D : va_G) (cI cR : ClassId) (q1 q2 : Nat → Nat) (G P : Nat → Nat → Int32) (H : Heap) : Prop := MW D cI cR q1 tmC G H ∧ MW D cI cR q2 tmC P H
def J2 (q1 q2 : Nat → Nat) : Prop := MJ tmC q1 ∧ MJ tmC q2 ∧ ∀ a, MA tmC q1 a → ¬ MA tmC q2 a
def M2 (q1 q2 : Nat → Nat) : Nat → Prop := fun a => MA tmC q1 a ∨ MA tmC q2 a
theorem W2.kept {D : va_G} {cI cR : ClassId} {q1 q2 : Nat → Nat} {G P : Nat → Nat → Int32} {H H1 : Heap} (h : W2 D cI cR q1 q2 G P H) (hk : ∀ z : Nat, z < H.size → H1[z]? = H[z]?) : W2 D cI cR q1 q2 G P H1 := ⟨h.1.kept fun z _ hz => hk z hz, h.2.kept fun z _ hz => hk z hz⟩
theorem w2_end {D : va_G} {cI cR : ClassId} {q1 q2 : Nat → Nat} {G P G' P' : Nat → Nat → Int32} {H : Heap} {t : State} (ht : t.heap = H) (hW : W2 D cI cR q1 q2 G P H) (h1 : G = G') (h2 : P = P') : W2 D cI cR q1 q2 G' P' t.heap := by
  subst h1
  subst h2
  rw [ht]
  exact hW
abbrev mW2 (D : va_G) (cI cR : ClassId) (q1 q2 : Nat → Nat) (r : (Nat → Nat → Int32) × (Nat → Nat → Int32)) : Array Value → State → Outcome → State → Prop := va_Qi (fun r' (_ : Unit) => r' = 1) (fun _ t => W2 D cI cR q1 q2 r.1 r.2 t.heap) (M2 q1 q2)
abbrev lPre2 (av : List Value) (D : va_G) (cI cR : ClassId) (q1 q2 : Nat → Nat) (G P : Nat → Nat → Int32) : Array Value → State → Prop := va_Pc av (fun U => W2 D cI cR q1 q2 G P U.heap ∧ va_K D vwCl (mTy cI cR) U)
abbrev lPreK (av : List Value) (D : va_G) (cI cR : ClassId) (q1 q2 : Nat → Nat) (G P : Nat → Nat → Int32) (b L : Nat) (xs : Nat → Int32) : Array Value → State → Prop := va_Pc av (fun U => W2 D cI cR q1 q2 G P U.heap ∧ va_K D vwCl (mTy cI cR) U ∧ va_X b L xs U U.heap ∧ ¬ MA tmC q1 b ∧ ¬ MA tmC q2 b)
abbrev cPre (av : List Value) (b L : Nat) (xs : Nat → Int32) : Array Value → State → Prop := va_Pc av (fun U => va_X b L xs U U.heap)
theorem X_lt {b L : Nat} {xs : Nat → Int32} {U : State} {H : Heap} (h : va_X b L xs U H) : b < H.size := by
  obtain ⟨scr, h1, -⟩ := h
  exact (Array.getElem?_eq_some_iff.mp h1).1
theorem uPreS {s : State} {H : Heap} {As : List Value} : PreS s H (va_Pc As (fun _ => True)) As := ⟨fun _ _ _ _ h => h, fun _ _ _ => ⟨rfl, trivial⟩⟩
theorem cPreS {s : State} {H : Heap} {As : List Value} {b L : Nat} {xs : Nat → Int32} {A : Nat → Prop} {locs : List Loc} (hX : va_X b L xs s s.heap) (hbl : b < s.heap.size) (hbA : ¬ A b) (hS : va_S A s.heap H locs) : PreS s H (cPre As b L xs) As :=
  ⟨fun a U g mk h => ⟨h.1, va_X.moved (u := U) (U := U.calling g mk a) (Vm.Alike.refl U.vm) h.2⟩, fun U hU hW => ⟨rfl, by show va_X b L xs U U.heap; rw [hU]; exact va_X.moved hW.alike (hX.kept (hS.2.1 b hbl hbA))⟩⟩
theorem lPreS {s : State} {H : Heap} {As : List Value} {D : va_G} {cI cR : ClassId} {q1 q2 : Nat → Nat} {G P : Nat → Nat → Int32} (hK : va_K D vwCl (mTy cI cR) s) (hW : W2 D cI cR q1 q2 G P H) : PreS s H (lPre2 As D cI cR q1 q2 G P) As :=
  ⟨fun a U g mk h => ⟨h.1, h.2.1, va_K.moved (u := U) (U := U.calling g mk a) (Vm.Alike.refl U.vm) h.2.2⟩, fun U hU hV => ⟨rfl, by rw [hU]; exact hW, va_K.moved hV.alike hK⟩⟩
theorem kPreS {s : State} {H : Heap} {As : List Value} {D : va_G} {cI cR : ClassId} {q1 q2 : Nat → Nat} {G P : Nat → Nat → Int32} {b L : Nat} {xs : Nat → Int32} {A : Nat → Prop} {locs : List Loc} (hK : va_K D vwCl (mTy cI cR) s) (hW : W2 D cI cR q1 q2 G P H) (hX : va_X b L xs s s.heap) (hbl : b < s.heap.size) (hbA : ¬ A b) (hS : va_S A s.heap H locs) (h1 : ¬ MA tmC q1 b) (h2 : ¬ MA tmC q2 b) : PreS s H (lPreK As D cI cR q1 q2 G P b L xs) As :=
  ⟨fun a U g mk h => ⟨h.1, h.2.1, va_K.moved (u := U) (U := U.calling g mk a) (Vm.Alike.refl U.vm) h.2.2.1, va_X.moved (u := U) (U := U.calling g mk a) (Vm.Alike.refl U.vm) h.2.2.2.1, h.2.2.2.2⟩, fun U hU hV => ⟨rfl, by rw [hU]; exact hW, va_K.moved hV.alike hK, by rw [hU]; exact va_X.moved hV.alike (hX.kept (hS.2.1 b hbl hbA)), h1, h2⟩⟩
section K2
variable {p : Program} {l : Launch} {e : Env} {R : Room} {s : State} {m : MethodId} {args : Array Value} {below : List Frame} {meth : Method} {c : Code} {H : Heap} {locs : List Loc} {cells slots : Nat} {Q : State → Prop}
variable {pc : Nat} {ls : Array Slot} {rest st0 : List Value} {D : va_G} {A : Nat → Prop} {H0 : Heap} {cI cR : ClassId} {q1 q2 : Nat → Nat} {G P : Nat → Nat → Int32} {a : Array Value}
theorem k2_cI {v : Int32} (hr : va_Run p l e R s m args below meth c H locs cells slots 0 0 (F0 m pc ls st0) rest (mI v a) (fun _ => False)) (hS : va_S A H0 H locs) (hW : W2 D cI cR q1 q2 G P H)
    (kk : ∀ (H1 : Heap) (locs1 : List Loc), W2 D cI cR q1 q2 G P H1 → va_S A H0 H1 locs1 → W p l e R s m args below meth c H1 locs1 cells slots Q (F0 m (pc + 3) ls (.int v :: rest))) : W p l e R s m args below meth c H locs cells slots Q (F0 m pc ls st0) :=
  va_calli hr hS (fun _ _ h => h.elim) (fun _ h => h.elim) (fun r _ t H1 locs1 _ _ hp _ _ hk hS1 => by subst hp; exact kk H1 locs1 (hW.kept fun z hz => hk z hz id) hS1)
theorem k2_cD {v : UInt64} (hr : va_Run p l e R s m args below meth c H locs cells slots 0 0 (F0 m pc ls st0) rest (mD v a) (fun _ => False)) (hS : va_S A H0 H locs) (hW : W2 D cI cR q1 q2 G P H)
    (kk : ∀ (H1 : Heap) (locs1 : List Loc), W2 D cI cR q1 q2 G P H1 → va_S A H0 H1 locs1 → W p l e R s m args below meth c H1 locs1 cells slots Q (F0 m (pc + 3) ls (.double v :: rest))) : W p l e R s m args below meth c H locs cells slots Q (F0 m pc ls st0) :=
  va_calld hr hS (fun _ _ h => h.elim) (fun _ h => h.elim) (fun r _ t H1 locs1 _ _ hp _ _ hk hS1 => by subst hp; exact kk H1 locs1 (hW.kept fun z hz => hk z hz id) hS1)
theorem k2_cW1 {v : Int32 × (Nat → Nat → Int32)} (hJ : J2 q1 q2) (hr : va_Run p l e R s m args below meth c H locs cells slots 0 0 (F0 m pc ls st0) rest (mIW D cI cR q1 tmC v a) (MA tmC q1)) (hS : va_S A H0 H locs) (hA : ∀ a, M2 q1 q2 a → A a) (hW : W2 D cI cR q1 q2 G P H)
    (kk : ∀ (H1 : Heap) (locs1 : List Loc), W2 D cI cR q1 q2 v.2 P H1 → va_S A H0 H1 locs1 → W p l e R s m args below meth c H1 locs1 cells slots Q (F0 m (pc + 3) ls (.int v.1 :: rest))) : W p l e R s m args below meth c H locs cells slots Q (F0 m pc ls st0) :=
  va_calli hr hS (fun _ _ h => hA _ (Or.inl h)) (fun _ h => hA _ (Or.inl h)) (fun r _ t H1 locs1 ht _ hp hB _ hk hS1 => by
    subst hp
    refine kk H1 locs1 ⟨by rw [← ht]; exact hB, hW.2.kept fun z hz hlt => hk z hlt (fun y => hJ.2.2 z y hz)⟩ hS1)
theorem k2_cW2 {v : Int32 × (Nat → Nat → Int32)} (hJ : J2 q1 q2) (hr : va_Run p l e R s m args below meth c H locs cells slots 0 0 (F0 m pc ls st0) rest (mIW D cI cR q2 tmC v a) (MA tmC q2)) (hS : va_S A H0 H locs) (hA : ∀ a, M2 q1 q2 a → A a) (hW : W2 D cI cR q1 q2 G P H)
    (kk : ∀ (H1 : Heap) (locs1 : List Loc), W2 D cI cR q1 q2 G v.2 H1 → va_S A H0 H1 locs1 → W p l e R s m args below meth c H1 locs1 cells slots Q (F0 m (pc + 3) ls (.int v.1 :: rest))) : W p l e R s m args below meth c H locs cells slots Q (F0 m pc ls st0) :=
  va_calli hr hS (fun _ _ h => hA _ (Or.inr h)) (fun _ h => hA _ (Or.inr h)) (fun r _ t H1 locs1 ht _ hp hB _ hk hS1 => by
    subst hp
    refine kk H1 locs1 ⟨hW.1.kept fun z hz hlt => hk z hlt (fun y => hJ.2.2 z hz y), by rw [← ht]; exact hB⟩ hS1)
theorem k2_cW {r : (Nat → Nat → Int32) × (Nat → Nat → Int32)} (hr : va_Run p l e R s m args below meth c H locs cells slots 0 0 (F0 m pc ls st0) rest (mW2 D cI cR q1 q2 r a) (M2 q1 q2)) (hS : va_S A H0 H locs) (hA : ∀ a, M2 q1 q2 a → A a)
    (kk : ∀ (H1 : Heap) (locs1 : List Loc), W2 D cI cR q1 q2 r.1 r.2 H1 → va_S A H0 H1 locs1 → W p l e R s m args below meth c H1 locs1 cells slots Q (F0 m (pc + 3) ls (.int 1 :: rest))) : W p l e R s m args below meth c H locs cells slots Q (F0 m pc ls st0) :=
  va_calli hr hS (fun _ _ h => hA _ h) (fun _ h => hA _ h) (fun r _ t H1 locs1 ht _ hp hB _ hk hS1 => by
    subst hp
    refine kk H1 locs1 (by rw [← ht]; exact hB) hS1)
end K2
