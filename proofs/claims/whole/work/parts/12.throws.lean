/-! methods that throw: contracts over the matrix world -/
def thE : List String := ["java/lang/IllegalArgumentException", "java/lang/IllegalStateException", "java/lang/IndexOutOfBoundsException"]
def thD : List String := ["java/lang/RuntimeException", "java/lang/Exception", Bundle.tN]
def thP (A : Nat → Prop) (U : State) : Prop := vx_Zq Bundle.tN "UNASSIGNED_STACK" Bundle.steD A U U.heap ∧ vx_Zq Bundle.tN "SUPPRESSED_SENTINEL" Bundle.listD A U U.heap ∧ (∀ x ∈ thS, ∃ sa, vk_R RX3 x.1 x.2 sa U) ∧ (∀ E ∈ thE, va_Nw (.castable E E) U) ∧ ∀ Y ∈ thD, va_Nw (.declares (Bundle.initS Y)) U
abbrev mPreT (av : List Value) (D : va_G) (cI cR : ClassId) (q : Nat → Nat) (tm : List cellT) (G : Nat → Nat → Int32) (sz : Nat) : Array Value → State → Prop := va_Pc av (fun U => U.heap.size = sz ∧ MW D cI cR q tm G U.heap ∧ va_K D vwCl (mTy cI cR) U ∧ thP (MN tm q sz) U)
abbrev tI (D : va_G) (cI cR : ClassId) (q : Nat → Nat) (tm : List cellT) (G : Nat → Nat → Int32) (r : String ⊕ Int32) (sz : Nat) : Array Value → State → Outcome → State → Prop := va_Qi (fun r' (_ : Unit) => r = .inr r') (fun _ t => MW D cI cR q tm G t.heap) (MN tm q sz)
abbrev tV (D : va_G) (cI cR : ClassId) (q : Nat → Nat) (tm : List cellT) (G : Nat → Nat → Int32) (r : String ⊕ Unit) (sz : Nat) : Array Value → State → Outcome → State → Prop := va_Qv (fun (_ : Unit) => r = .inr ()) (fun _ t => MW D cI cR q tm G t.heap) (MN tm q sz)
abbrev tIW (D : va_G) (cI cR : ClassId) (q : Nat → Nat) (tm : List cellT) (r : String ⊕ (Int32 × (Nat → Nat → Int32))) (sz : Nat) : Array Value → State → Outcome → State → Prop := va_Qi (fun r' (G' : Nat → Nat → Int32) => r = .inr (r', G')) (fun G' t => MW D cI cR q tm G' t.heap) (MN tm q sz)
abbrev tX {β : Type} (D : va_G) (cI cR : ClassId) (q : Nat → Nat) (tm : List cellT) (G : Nat → Nat → Int32) (r : String ⊕ β) (sz : Nat) : String → State → State → Prop := vx_X (fun (_ : Unit) => True) (fun E _ t => r = .inl E ∧ MW D cI cR q tm G t.heap) (MN tm q sz)
theorem tBlind {av : List Value} {D : va_G} {cI cR : ClassId} {q : Nat → Nat} {tm : List cellT} {G : Nat → Nat → Int32} {sz : Nat} : FrameBlind (mPreT av D cI cR q tm G sz) := fun a U g mk h => by
  obtain ⟨h0, h1, h2, h3, h4, h5, h6, h7, h8⟩ := h
  exact ⟨h0, h1, h2, va_K.moved (u := U) (U := U.calling g mk a) (Vm.Alike.refl U.vm) h3, vx_Zq.moved (u := U) (U := U.calling g mk a) (Vm.Alike.refl U.vm) h4, vx_Zq.moved (u := U) (U := U.calling g mk a) (Vm.Alike.refl U.vm) h5, fun x hx => by
    obtain ⟨sa, z⟩ := h6 x hx
    exact ⟨sa, vk_R.same (u := U) (U := U.calling g mk a) rfl z⟩, fun E hE => va_Nw.same (u := U) (U := U.calling g mk a) rfl rfl (h7 E hE), fun Y hY => va_Nw.same (u := U) (U := U.calling g mk a) rfl rfl (h8 Y hY)⟩
theorem thP.moved {A B : Nat → Prop} {s U : State} {H : Heap} {locs : List Loc} (h : thP A s) (hS : va_S A s.heap H locs) (hU : U.heap = H) (hW : s.WarmedH U.vm) (hAB : ∀ a, B a → A a) : thP B U := by
  obtain ⟨h4, h5, h6, h7, h8⟩ := h
  refine ⟨?_, ?_, fun x hx => ?_, fun E hE => va_Nw.warmC hW (h7 E hE), fun Y hY => va_Nw.warmD hW (h8 Y hY)⟩
  · rw [hU]; exact (vx_Zq.moved hW.alike (h4.kept hS.2.1)).narrow hAB
  · rw [hU]; exact (vx_Zq.moved hW.alike (h5.kept hS.2.1)).narrow hAB
  · obtain ⟨sa, z⟩ := h6 x hx
    exact ⟨sa, vk_R.warm hW z⟩
theorem MN.up {tm : List cellT} {q : Nat → Nat} {s : State} {H : Heap} {locs : List Loc} {sz : Nat} (hS : va_S (MN tm q sz) s.heap H locs) (hsz : s.heap.size = sz) : ∀ a, MN tm q H.size a → MN tm q sz a :=
  fun _ h => h.elim Or.inl (fun z => Or.inr (Nat.le_trans (by rw [← hsz]; exact hS.1) z))
theorem mPreVT {s : State} {H : Heap} {D : va_G} {cI cR : ClassId} {q : Nat → Nat} {tm : List cellT} {G : Nat → Nat → Int32} {As : List Value} {locs : List Loc} {sz : Nat} (hK : va_K D vwCl (mTy cI cR) s) (hM : MW D cI cR q tm G H) (hS : va_S (MN tm q sz) s.heap H locs) (hsz : s.heap.size = sz) (hth : thP (MN tm q sz) s) (i : Nat) {ci : Nat} {fs : List (Option Nat)} (ht : tm[i]? = some (.inr (.inl (ci, fs)))) {r : vw_C} (hc : vwCl[ci]? = some r) : PreV s H r.1 (q i) (mPreT (.ref (q i) :: As) D cI cR q tm G H.size) As :=
  ⟨tBlind, va_recv hK hM hc (mwL_get ht), fun U hU hW => ⟨rfl, by rw [hU], by rw [hU]; exact hM, va_K.moved hW.alike hK, hth.moved hS hU hW (MN.up hS hsz)⟩⟩
theorem mPreST {s : State} {H : Heap} {D : va_G} {cI cR : ClassId} {q : Nat → Nat} {tm : List cellT} {G : Nat → Nat → Int32} {As : List Value} {locs : List Loc} {sz : Nat} (hK : va_K D vwCl (mTy cI cR) s) (hM : MW D cI cR q tm G H) (hS : va_S (MN tm q sz) s.heap H locs) (hsz : s.heap.size = sz) (hth : thP (MN tm q sz) s) : PreS s H (mPreT As D cI cR q tm G H.size) As :=
  ⟨tBlind, fun U hU hW => ⟨rfl, by rw [hU], by rw [hU]; exact hM, va_K.moved hW.alike hK, hth.moved hS hU hW (MN.up hS hsz)⟩⟩
section TR
variable {p : Program} {l : Launch} {e : Env} {R : Room} {s : State} {m : MethodId} {args : Array Value} {below : List Frame} {meth : Method} {c : Code} {H : Heap} {locs : List Loc} {cells slots : Nat}
variable {cc : ByteArray} {pc : Nat} {ls : Array Slot} {rest st0 : List Value} {D : va_G} {cI cR : ClassId} {q : Nat → Nat} {tm : List cellT} {G : Nat → Nat → Int32} {a : Array Value} {sz mc ms MC MS : Nat} {Qc : Array Value → State → Outcome → State → Prop}
theorem t_cV {β : Type} {v : String ⊕ Unit} {r : String ⊕ β} {f : Unit → Option (String ⊕ β)}
    (hr : vx_Run p l e R s m args below meth c H locs cells slots mc ms (F0 m pc ls st0) rest (tV D cI cR q tm G v H.size a) (tX D cI cR q tm G v H.size) (MN tm q H.size))
    (hS : va_S (MN tm q sz) s.heap H locs) (hM : MW D cI cR q tm G H) (hsz : s.heap.size = sz)
    (h : (∃ e, v = .inl e ∧ r = .inl e) ∨ ∃ a, v = .inr a ∧ f a = some r)
    (hout : ∀ (k : Nat), ∀ x ∈ c.exceptionTable.toList, covers x k = false) (hlocks : meth.locks = false) (hmc : cells + mc ≤ MC) (hms : slots + ms ≤ MS)
    (kk : ∀ (a1 : Unit) (H1 : Heap) (locs1 : List Loc), MW D cI cR q tm G H1 → va_S (MN tm q sz) s.heap H1 locs1 → f a1 = some r → W p l e R s m args below meth c H1 locs1 (cells + mc) (slots + ms) (vx_MQ below Qc (tX D cI cR q tm G r sz) args s MC MS (MN tm q sz)) (F0 m (pc + 3) ls rest)) :
    W p l e R s m args below meth c H locs cells slots (vx_MQ below Qc (tX D cI cR q tm G r sz) args s MC MS (MN tm q sz)) (F0 m pc ls st0) := by
  refine vx_callv hr hS (fun z _ hz => MN.up hS hsz z hz) (MN.up hS hsz) (fun z _ hz => MN.up hS hsz z hz) (fun E ce q9 u t H1 locs1 ht hvm _ hB hz hk hS1 hce hcv hcl => ?_) (fun u t H1 locs1 ht hvm hp hB hz hk hS1 => ?_)
  · obtain ⟨hE, hM1⟩ := hB
    rw [ht] at hM1
    refine vx_out (hout pc) hlocks hce hcv hcl (fun t' ht' _ => ⟨(), trivial, ⟨?_, by rw [ht']; exact hM1⟩, hS1.F ht'⟩) hS1.2.2 hmc hms
    rcases h with ⟨e, h1, h2⟩ | ⟨a, h1, h2⟩
    · rw [hE] at h1; cases h1; exact h2
    · rw [hE] at h1; cases h1
  · rw [ht] at hB
    rcases h with ⟨e, h1, h2⟩ | ⟨a, h1, h2⟩
    · rw [hp] at h1; cases h1
    · exact kk a H1 locs1 hB hS1 h2
theorem t_throw {β : Type} {r : String ⊕ β} {own cls text : String} {names : List String} {ik is ic sa : Nat} (hexec : p.tables.exec = Jvm.exec) (hb : c.code = cc) (hl : l.stackTraces = false)
    (hown : s.vm.findClass own = some m.cls) (hcls : Bundle.fit cls = true) (hnames : ∀ n ∈ names, Bundle.fit n = true)
    (hk : (Cond.classLink own ik cls).before args s = true) (hini : (Cond.initialized cls).before args s = true) (hstr : vk_R own is text sa s) (hat : ∀ w ∈ vx_atS own ic cls names, w.before args s = true)
    (hgood : ∀ w ∈ Cond.classLink own ik cls :: Cond.initialized cls :: vx_atS own ic cls names, vx_ot w = true)
    (hth : thP (MN tm q sz) s) (hsz : s.heap.size = sz) (hS : va_S (MN tm q sz) s.heap H locs) (hsize : ls.size = c.maxLocals)
    (d0 : decode cc pc = .ok (.new ik, 3)) (d3 : decode cc (pc + 3) = .ok (.dup, 1)) (d4 : decode cc (pc + 4) = .ok (.ldc is, 2)) (d6 : decode cc (pc + 6) = .ok (.invokespecial ic, 3)) (d9 : decode cc (pc + 9) = .ok (.athrow, 1))
    (hout : ∀ (k : Nat), ∀ x ∈ c.exceptionTable.toList, covers x k = false)
    (hRframes : names.length + 3 < R.frames) (hRlocals : (rest.map fun v => v.category).sum + (13 * (names.length + 1) + 43) ≤ R.locals) (hRcells : cells + 1 ≤ R.cells) (hRslots : slots + 6 ≤ R.slots) (hlocks : meth.locks = false)
    (hM : MW D cI cR q tm G H) (h : some (Sum.inl cls) = some r) (hc : cells + 1 ≤ MC) (hs : slots + 6 ≤ MS) :
    W p l e R s m args below meth c H locs cells slots (vx_MQ below Qc (tX D cI cR q tm G r sz) args s MC MS (MN tm q sz)) (F0 m pc ls rest) :=
  vx_throwS (A := MN tm q sz) hexec hb hl hown hcls hnames hk hini hstr hat hgood hth.1 hth.2.1 hS hsize d0 d3 d4 d6 d9 (hout _) hRframes hRlocals hRcells hRslots hlocks
    (fun t _ hle heq => ⟨(), trivial, ⟨(Option.some.inj h).symm, hM.kept (fun a _ ha => heq a ha)⟩, ⟨Nat.le_trans hS.1 hle, fun z h1 h2 => (heq z (Nat.lt_of_lt_of_le h1 hS.1)).trans (hS.2.1 z h1 h2)⟩⟩) hS.2.2 hc hs
end TR
