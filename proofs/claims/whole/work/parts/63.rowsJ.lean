/-! MACHINE: a call that answers a long and leaves a world -/
section KJ
variable {p : Program} {l : Launch} {e : Env} {R : Room} {s : State} {m : MethodId} {args : Array Value} {below : List Frame} {meth : Method} {c : Code} {H : Heap} {locs : List Loc} {cells slots : Nat} {Q : State → Prop}
variable {pc : Nat} {ls : Array Slot} {rest st0 : List Value} {D : va_G} {A : Nat → Prop} {H0 : Heap} {cI cR : ClassId} {q : Nat → Nat} {tm : List cellT} {a : Array Value}
theorem k_cJW {v : Int64 × (Nat → Nat → Int32)} (hr : va_Run p l e R s m args below meth c H locs cells slots 0 0 (F0 m pc ls st0) rest (mJW D cI cR q tm v a) (MA tm q)) (hS : va_S A H0 H locs) (hA : ∀ a, MA tm q a → A a)
    (kk : ∀ (H1 : Heap) (locs1 : List Loc), MW D cI cR q tm v.2 H1 → va_S A H0 H1 locs1 → H.size ≤ H1.size → (∀ z : Nat, z < H.size → ¬ MA tm q z → H1[z]? = H[z]?) → W p l e R s m args below meth c H1 locs1 cells slots Q (F0 m (pc + 3) ls (.long v.1 :: rest))) : W p l e R s m args below meth c H locs cells slots Q (F0 m pc ls st0) :=
  va_calll hr hS (fun _ _ h => hA _ h) (fun _ h => hA _ h) (fun r _ t H1 locs1 ht _ hp hB hz hk hS1 => by subst hp; exact kk H1 locs1 (by rw [← ht]; exact hB) hS1 hz hk)
/-- the same for an int; what lies outside the world is as it was -/
theorem k_cIWk {v : Int32 × (Nat → Nat → Int32)} (hr : va_Run p l e R s m args below meth c H locs cells slots 0 0 (F0 m pc ls st0) rest (mIW D cI cR q tm v a) (MA tm q)) (hS : va_S A H0 H locs) (hA : ∀ a, MA tm q a → A a)
    (kk : ∀ (H1 : Heap) (locs1 : List Loc), MW D cI cR q tm v.2 H1 → va_S A H0 H1 locs1 → H.size ≤ H1.size → (∀ z : Nat, z < H.size → ¬ MA tm q z → H1[z]? = H[z]?) → W p l e R s m args below meth c H1 locs1 cells slots Q (F0 m (pc + 3) ls (.int v.1 :: rest))) : W p l e R s m args below meth c H locs cells slots Q (F0 m pc ls st0) :=
  va_calli hr hS (fun _ _ h => hA _ h) (fun _ h => hA _ h) (fun r _ t H1 locs1 ht _ hp hB hz hk hS1 => by subst hp; exact kk H1 locs1 (by rw [← ht]; exact hB) hS1 hz hk)
end KJ
