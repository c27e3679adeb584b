/-! MACHINE: the law's wrappers: one try each: what they are given, what they leave -/
abbrev mTyL (cI cR cL : ClassId) : List (ClassId × FieldType) := [(cI, .int), (cR, .object "CoinRails$State"), (cL, .long)]
theorem mTyL_K {D : va_G} {cI cR cL : ClassId} {U : State} (h : va_K D vwCl (mTyL cI cR cL) U) : va_K D vwCl (mTy cI cR) U := h.sub [0, 1] rfl
/-- classes that are thrown: none of two may stand for the other -/
def ncL : List (String × String) := [("java/lang/IllegalArgumentException", "java/lang/IllegalStateException"), ("java/lang/IllegalArgumentException", "java/lang/IndexOutOfBoundsException"), ("java/lang/IllegalStateException", "java/lang/IllegalArgumentException"), ("java/lang/IllegalStateException", "java/lang/IndexOutOfBoundsException"), ("java/lang/IndexOutOfBoundsException", "java/lang/IllegalArgumentException"), ("java/lang/IndexOutOfBoundsException", "java/lang/IllegalStateException")]
def ncP (U : State) : Prop := ∀ x ∈ ncL, va_Nc x.1 x.2 U
theorem ncP.moved {u U : State} (hvm : u.vm.Alike U.vm) (h : ncP u) : ncP U := fun x hx => va_Nc.moved hvm (h x hx)
abbrev oW (o : Nat) (cL : ClassId) (v : Int64) : va_W := [(o, .inl (cL, 1, .inr (.inl (fun _ => v))))]
def wA (q : Nat → Nat) (sz o : Nat) : Nat → Prop := fun a => MN tmC q sz a ∨ a = o
abbrev wPre (av : List Value) (D : va_G) (cI cR cL : ClassId) (q : Nat → Nat) (G : Nat → Nat → Int32) (sz o : Nat) (v : Int64) : Array Value → State → Prop := va_Pc av (fun U => U.heap.size = sz ∧ MW D cI cR q tmC G U.heap ∧ va_K D vwCl (mTyL cI cR cL) U ∧ thP (MN tmC q sz) U ∧ va_P D vwCl (oW o cL v) U.heap ∧ ¬ MN tmC q sz o ∧ ncP U)
/-- by what the class does (r): the wrapper's answer k, the class's matrix and out's number after it -/
def wOk (r : String ⊕ (Int32 × (Nat → Nat → Int32))) (hs : List (String × Nat)) (G : Nat → Nat → Int32) (v : Int64) (k : Int32) (u : (Nat → Nat → Int32) × Int64) : Prop := (∃ x G', r = .inr (x, G') ∧ k = 0 ∧ u = (G', x.toInt64)) ∨ ∃ E j, r = .inl E ∧ (E, j) ∈ hs ∧ k = nI j ∧ u = (G, v)
abbrev wPost (D : va_G) (cI cR cL : ClassId) (q : Nat → Nat) (G : Nat → Nat → Int32) (sz o : Nat) (v : Int64) (hs : List (String × Nat)) (r : String ⊕ (Int32 × (Nat → Nat → Int32))) : Array Value → State → Outcome → State → Prop := va_Qi (fun k (u : (Nat → Nat → Int32) × Int64) => wOk r hs G v k u) (fun u t => MW D cI cR q tmC u.1 t.heap ∧ va_P D vwCl (oW o cL u.2) t.heap) (wA q sz o)
theorem wBlind {av : List Value} {D : va_G} {cI cR cL : ClassId} {q : Nat → Nat} {G : Nat → Nat → Int32} {sz o : Nat} {v : Int64} : FrameBlind (wPre av D cI cR cL q G sz o v) := fun a U g mk h => by
  obtain ⟨h0, h1, h2, h3, ⟨h4, h5, h6, h7, h8⟩, h9, h10, h11⟩ := h
  exact ⟨h0, h1, h2, va_K.moved (u := U) (U := U.calling g mk a) (Vm.Alike.refl U.vm) h3, ⟨vx_Zq.moved (u := U) (U := U.calling g mk a) (Vm.Alike.refl U.vm) h4, vx_Zq.moved (u := U) (U := U.calling g mk a) (Vm.Alike.refl U.vm) h5, fun x hx => by
    obtain ⟨sa, z⟩ := h6 x hx
    exact ⟨sa, vk_R.same (u := U) (U := U.calling g mk a) rfl z⟩, fun E hE => va_Nw.same (u := U) (U := U.calling g mk a) rfl rfl (h7 E hE), fun Y hY => va_Nw.same (u := U) (U := U.calling g mk a) rfl rfl (h8 Y hY)⟩, h9, h10, ncP.moved (u := U) (U := U.calling g mk a) (Vm.Alike.refl U.vm) h11⟩
/-- what only answers, as what changes nothing -/
def liftR (G : Nat → Nat → Int32) : String ⊕ Int32 → String ⊕ (Int32 × (Nat → Nat → Int32))
  | .inl E => .inl E
  | .inr x => .inr (x, G)
theorem OpR.lift {G : Nat → Nat → Int32} {hs : List (String × Nat)} {c : Option (String ⊕ Int32)} {m : Option (Int32 × (Nat → Nat → Int32))} (h : OpR G hs c m) : OpT G hs (c.map (liftR G)) m := by
  rcases h with ⟨r, M', h1, h2, h3, h4⟩ | ⟨E, j, b, M', h1, h2, h3, h4, h5⟩
  · exact Or.inl ⟨r, G, M', by rw [h1]; rfl, h2, h3, h4⟩
  · exact Or.inr ⟨E, j, b, M', by rw [h1]; rfl, h2, h3, h4, h5⟩
/-- nothing is thrown out of a wrapper -/
abbrev wX : String → State → State → Prop := vx_X (fun (_ : Unit) => False) (fun _ _ _ => False) (fun _ => False)
