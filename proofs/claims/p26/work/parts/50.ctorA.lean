/-! MACHINE: constructors -/
section NW
variable {p : Program} {l : Launch} {e : Env} {R : Room} {s : State} {m : MethodId} {args : Array Value} {below : List Frame} {meth : Method} {c : Code} {H : Heap} {locs : List Loc} {cells slots : Nat} {Q : State → Prop}
variable {cc : ByteArray} {pc : Nat} {ls : Array Slot} {rest : List Value} {D : va_G} {A : Nat → Prop} {H0 : Heap} {cI cR : ClassId} {ws : va_W}
theorem k_newI (hexec : p.tables.exec = Jvm.exec) (hb : c.code = cc) (harr : (Cond.arrayClass .int).before args s = true) (hK : va_K D vwCl (mTy cI cR) s) (hP : va_P D vwCl ws H) (hD : va_D A ws) (hS : va_S A H0 H locs) (hA : ∀ a, H0.size ≤ a → A a)
    {n : Int32} {N : Nat} (hn : ¬ n < 0) (hN : n.toNatClampNeg = N) (hbytes : N * componentBytes .int ≤ 536870912) (hcells : cells + 1 ≤ R.cells) (hslots : slots + N ≤ R.slots) (hdg : decode cc pc = .ok (.newarray .int, 2))
    (kk : ∀ (h : Nat) (H1 : Heap), va_P D vwCl (ws ++ [(h, .inl (cI, N, .inl (fun _ => 0)))]) H1 → va_D A (ws ++ [(h, .inl (cI, N, .inl (fun _ => 0)))]) → va_S A H0 H1 locs →
      W p l e R s m args below meth c H1 locs (cells + 1) (slots + N) Q (F0 m (pc + 2) ls (.ref h :: rest))) : W p l e R s m args below meth c H locs cells slots Q (F0 m pc ls (.int n :: rest)) := by
  refine va_newa (atype := .int) (ty := .int) (a0 := (N, .inl (fun _ => 0))) hexec hb harr rfl hK hP hD hS hA (fun cA => rfl) hn hN hbytes hcells hslots hdg fun h cA H1 hK1 hP1 hD1 hS1 => ?_
  have hcI : cA = cI := by
    have h1 : s.vm.findClass ("[" ++ (FieldType.int).toString) = some cI := (hK.2 0 _ rfl).2
    have h2 : s.vm.findClass ("[" ++ (FieldType.int).toString) = some cA := (hK1.2 2 _ rfl).2
    exact Option.some.inj (h2.symm.trans h1)
  subst hcI
  exact kk h H1 hP1 hD1 hS1
end NW
theorem MJ_of {A : Nat → Prop} {cI cR : ClassId} {q : Nat → Nat} {tm : List cellT} {G : Nat → Nat → Int32} (hD : va_D A (mwL cI cR q tm G)) : MJ tm q := fun i j hi hj e => hD.1 i j _ _ (mwL_get (List.getElem?_eq_getElem hi)) (mwL_get (List.getElem?_eq_getElem hj)) e
theorem MA_of {A : Nat → Prop} {cI cR : ClassId} {q : Nat → Nat} {tm : List cellT} {G : Nat → Nat → Int32} (hD : va_D A (mwL cI cR q tm G)) : ∀ a, MA tm q a → A a := fun a ⟨i, hi, e⟩ => by rw [e]; exact hD.2 i _ (mwL_get (List.getElem?_eq_getElem hi))
theorem D1_of {A : Nat → Prop} {b : Nat} {x : va_E} (h : A b) : va_D A [(b, x)] := ⟨fun i j y z h1 h2 _ => by
    have h3 := (List.getElem?_eq_some_iff.mp h1).1
    have h4 := (List.getElem?_eq_some_iff.mp h2).1
    simp at h3 h4
    omega, fun k y hy => by
    have h3 := (List.getElem?_eq_some_iff.mp hy).1
    simp at h3
    subst h3
    cases hy
    exact h⟩
def lq (as : List Nat) : Nat → Nat := fun i => as.getD i 0
def nA (b sz : Nat) : Nat → Prop := fun a => a = b ∨ sz ≤ a
def zG : Nat → Nat → Int32 := fun _ _ => 0
def iS : Nat → Nat → Nat → Int32
  | 0 => zG
  | i + 1 => up2 (up2 (up2 (iS i) 6 i (nI (1500 + 400 * i))) 8 i (-1)) 9 i (-1)
abbrev nPre (D : va_G) (cI cR : ClassId) (b sz ci : Nat) (fs : List Value) : Array Value → State → Prop := va_Pc [.ref b] (fun U => U.heap.size = sz ∧ va_P D vwCl [(b, .inr (ci, fs))] U.heap ∧ va_K D vwCl (mTy cI cR) U)
def nOk (b sz : Nat) (tm : List cellT) (q : Nat → Nat) : Prop := q 0 = b ∧ MJ tm q ∧ ∀ i, 0 < i → i < tm.length → sz ≤ q i
abbrev nPost (D : va_G) (cI cR : ClassId) (b sz : Nat) (tm : List cellT) (G : Nat → Nat → Int32) : Array Value → State → Outcome → State → Prop := va_Qv (fun (q : Nat → Nat) => nOk b sz tm q) (fun q t => MW D cI cR q tm G t.heap) (nA b sz)
theorem nBlind {D : va_G} {cI cR : ClassId} {b sz ci : Nat} {fs : List Value} : FrameBlind (nPre D cI cR b sz ci fs) := fun a U g mk h => by
  obtain ⟨h0, h1, h2, h3⟩ := h
  exact ⟨h0, h1, h2, va_K.moved (u := U) (U := U.calling g mk a) (Vm.Alike.refl U.vm) h3⟩
theorem nOk_of {b sz : Nat} {tm : List cellT} {q : Nat → Nat} (h0 : q 0 = b) (hl : 0 < tm.length) (hJ : MJ tm q) (hA : ∀ a, MA tm q a → nA b sz a) : nOk b sz tm q := ⟨h0, hJ, fun i hi hl2 => by
  rcases hA (q i) ⟨i, hl2, rfl⟩ with z | z
  · have := hJ i 0 hl2 hl (z.trans h0.symm)
    omega
  · exact z⟩
def tmT : List cellT := [.inr (.inl (0, [some 1, none, some 2, some 3, none])), .inl 90, .inl 45, .inl 45]
set_option maxHeartbeats 4000000 in
set_option maxRecDepth 100000 in
theorem kX0_init (l : Launch) (D : va_G) (cI cR : ClassId) (b sz : Nat) : Met l yX0_init wsX0_init ({ frames := 1, cells := 3, slots := 180, locals := 21 } : Room) (nPre D cI cR b sz 0 [.null, .int 0, .null, .null, .int 0]) (nPost D cI cR b sz tmT zG) 3 180 (nA b sz) := by
  refine Met.ofW (cc := cX0_init) (maxL := 1) (ret := none) (by decide) rfl ?_
  intro p e s m args below meth c s₁ B hml hv
  obtain ⟨hargs, hsz, hP, hK⟩ := hv
  have hx := B.exec
  have hb := B.bytes
  have hr := B.returns
  have hts := atoms_spec (ws := wsX0_init) B.pre
  have hown : s.vm.findClass RX0 = some m.cls := findClass_of_methodNamed B.named
  have hin : meth.name = "<init>" := (name_of_methodNamed B.named B.method).1
  have hA : ∀ a, s.heap.size ≤ a → nA b sz a := fun a h => Or.inr (by rw [← hsz]; exact h)
  have hS : va_S (nA b sz) s.heap s.heap [] := va_S.rf
  subst hargs
  have hl := lv_entry ([.ref b]) (n := 1) (Nat.le_of_ble_eq_true rfl)
  rw [lg_entry_eq]
  generalize (lg_sl ([.ref b]) ++ List.replicate (1 - (lg_sl ([.ref b])).length) Slot.unset).toArray = ls at hl ⊢
  have hl : lv_has ls 1 [(0, .ref b)] := hl
  have hD : va_D (nA b sz) [(b, .inr (0, [.null, .int 0, .null, .null, .int 0]))] := D1_of (Or.inl rfl)
  have iX0 : ∀ w ∈ wsX00, w ∈ wsX0_init := fun _ h => List.mem_cons_of_mem _ (List.mem_append_right _ (h))
  refine lv_aload_n hx hb dX0_init_0 rfl (lv_at hl 0 rfl) ?_
  refine W.objInit hx hb hown (hts (.methodLink RX0 3 objectInit) (List.mem_of_getElem? (i := 1) (by decide +kernel))) (hts (.instanceMethod objectInit) (List.mem_of_getElem? (i := 2) (by decide +kernel))) (hts (.code objectInit ⟨#[0xb1]⟩ 1 none) (List.mem_of_getElem? (i := 3) (by decide +kernel))) rfl (by rw [hml]; exact hl.1) rfl dX0_init_1 (Nat.le_of_ble_eq_true rfl) (Nat.le_of_ble_eq_true rfl) ?_
  refine W.eq (g2 := F0 m 4 ls []) rfl ?_
  have warr := hts (Cond.arrayClass .int) (List.mem_of_getElem? (i := 4) (by decide +kernel))
  refine lv_aload_n hx hb dX0_init_4 rfl (lv_at hl 0 rfl) ?_
  refine lv_bipush (v := 90) hx hb dX0_init_5 (by decide) ?_
  refine k_newI (N := 90) hx hb warr hK hP hD hS hA (by decide) (by decide) (by decide) (Nat.le_of_ble_eq_true rfl) (Nat.le_of_ble_eq_true rfl) dX0_init_7 (fun a1 H hP hD hS => ?_)
  have hP : va_P D vwCl [(b, .inr (0, [.null, .int 0, .null, .null, .int 0])), (a1, .inl (cI, 90, .inl (fun _ => 0)))] H := hP
  have hD : va_D (nA b sz) [(b, .inr (0, [.null, .int 0, .null, .null, .int 0])), (a1, .inl (cI, 90, .inl (fun _ => 0)))] := hD
  refine va_putF (D := D) (ci := 0) (v := .ref a1) (ty := .array .int) (C := RX0) (T := TX0) (N := 5) hx hb hts iX0 tyX0 tyX0_ok nmX0 hown hK hP hD hS 0 rfl rfl 0 (by decide) (hts (Cond.fieldLink RX0 9 "CoinRails$CoinText" "bytes" "[I") (List.mem_of_getElem? (i := 5) (by decide +kernel))) (fun _ h9 => h9) rfl hin rfl (by decide +kernel) rfl rfl (Nat.le_of_ble_eq_true rfl) dX0_init_9 (fun H locs hP hD hS => ?_)
  have hP : va_P D vwCl [(b, .inr (0, [.ref a1, .int 0, .null, .null, .int 0])), (a1, .inl (cI, 90, .inl (fun _ => 0)))] H := hP
  have hD : va_D (nA b sz) [(b, .inr (0, [.ref a1, .int 0, .null, .null, .int 0])), (a1, .inl (cI, 90, .inl (fun _ => 0)))] := hD
  refine lv_aload_n hx hb dX0_init_12 rfl (lv_at hl 0 rfl) ?_
  refine lv_bipush (v := 45) hx hb dX0_init_13 (by decide) ?_
  refine k_newI (N := 45) hx hb warr hK hP hD hS hA (by decide) (by decide) (by decide) (Nat.le_of_ble_eq_true rfl) (Nat.le_of_ble_eq_true rfl) dX0_init_15 (fun a2 H hP hD hS => ?_)
  have hP : va_P D vwCl [(b, .inr (0, [.ref a1, .int 0, .null, .null, .int 0])), (a1, .inl (cI, 90, .inl (fun _ => 0))), (a2, .inl (cI, 45, .inl (fun _ => 0)))] H := hP
  have hD : va_D (nA b sz) [(b, .inr (0, [.ref a1, .int 0, .null, .null, .int 0])), (a1, .inl (cI, 90, .inl (fun _ => 0))), (a2, .inl (cI, 45, .inl (fun _ => 0)))] := hD
  refine va_putF (D := D) (ci := 0) (v := .ref a2) (ty := .array .int) (C := RX0) (T := TX0) (N := 5) hx hb hts iX0 tyX0 tyX0_ok nmX0 hown hK hP hD hS 0 rfl rfl 2 (by decide) (hts (Cond.fieldLink RX0 15 "CoinRails$CoinText" "kindOf" "[I") (List.mem_of_getElem? (i := 6) (by decide +kernel))) (fun _ h9 => h9) rfl hin rfl (by decide +kernel) rfl rfl (Nat.le_of_ble_eq_true rfl) dX0_init_17 (fun H locs hP hD hS => ?_)
  have hP : va_P D vwCl [(b, .inr (0, [.ref a1, .int 0, .ref a2, .null, .int 0])), (a1, .inl (cI, 90, .inl (fun _ => 0))), (a2, .inl (cI, 45, .inl (fun _ => 0)))] H := hP
  have hD : va_D (nA b sz) [(b, .inr (0, [.ref a1, .int 0, .ref a2, .null, .int 0])), (a1, .inl (cI, 90, .inl (fun _ => 0))), (a2, .inl (cI, 45, .inl (fun _ => 0)))] := hD
  refine lv_aload_n hx hb dX0_init_20 rfl (lv_at hl 0 rfl) ?_
  refine lv_bipush (v := 45) hx hb dX0_init_21 (by decide) ?_
  refine k_newI (N := 45) hx hb warr hK hP hD hS hA (by decide) (by decide) (by decide) (Nat.le_of_ble_eq_true rfl) (Nat.le_of_ble_eq_true rfl) dX0_init_23 (fun a3 H hP hD hS => ?_)
  have hP : va_P D vwCl [(b, .inr (0, [.ref a1, .int 0, .ref a2, .null, .int 0])), (a1, .inl (cI, 90, .inl (fun _ => 0))), (a2, .inl (cI, 45, .inl (fun _ => 0))), (a3, .inl (cI, 45, .inl (fun _ => 0)))] H := hP
  have hD : va_D (nA b sz) [(b, .inr (0, [.ref a1, .int 0, .ref a2, .null, .int 0])), (a1, .inl (cI, 90, .inl (fun _ => 0))), (a2, .inl (cI, 45, .inl (fun _ => 0))), (a3, .inl (cI, 45, .inl (fun _ => 0)))] := hD
  refine va_putF (D := D) (ci := 0) (v := .ref a3) (ty := .array .int) (C := RX0) (T := TX0) (N := 5) hx hb hts iX0 tyX0 tyX0_ok nmX0 hown hK hP hD hS 0 rfl rfl 3 (by decide) (hts (Cond.fieldLink RX0 18 "CoinRails$CoinText" "wearOf" "[I") (List.mem_of_getElem? (i := 7) (by decide +kernel))) (fun _ h9 => h9) rfl hin rfl (by decide +kernel) rfl rfl (Nat.le_of_ble_eq_true rfl) dX0_init_25 (fun H locs hP hD hS => ?_)
  have hP : va_P D vwCl [(b, .inr (0, [.ref a1, .int 0, .ref a2, .ref a3, .int 0])), (a1, .inl (cI, 90, .inl (fun _ => 0))), (a2, .inl (cI, 45, .inl (fun _ => 0))), (a3, .inl (cI, 45, .inl (fun _ => 0)))] H := hP
  have hD : va_D (nA b sz) [(b, .inr (0, [.ref a1, .int 0, .ref a2, .ref a3, .int 0])), (a1, .inl (cI, 90, .inl (fun _ => 0))), (a2, .inl (cI, 45, .inl (fun _ => 0))), (a3, .inl (cI, 45, .inl (fun _ => 0)))] := hD
  have hM : MW D cI cR (lq [b, a1, a2, a3]) tmT zG H := hP
  have hD2 : va_D (nA b sz) (mwL cI cR (lq [b, a1, a2, a3]) tmT zG) := hD
  have hJ : MJ tmT (lq [b, a1, a2, a3]) := MJ_of hD2
  have hA2 : ∀ a, MA tmT (lq [b, a1, a2, a3]) a → nA b sz a := MA_of hD2
  have h0 : (lq [b, a1, a2, a3]) 0 = b := rfl
  generalize (lq [b, a1, a2, a3]) = q at hM hJ hA2 h0
  subst h0
  exact W.vret hx hb hr (fun t ht hW => ⟨⟨q, rfl, nOk_of rfl (by decide) hJ hA2, w_end ht hM rfl⟩, hS.F ht⟩) hS.2.2 dX0_init_28
set_option maxHeartbeats 4000000 in
set_option maxRecDepth 100000 in
theorem kX2_init (l : Launch) (D : va_G) (cI cR : ClassId) (b sz : Nat) : Met l yX2_init wsX2_init ({ frames := 1, cells := 11, slots := 96, locals := 21 } : Room) (nPre D cI cR b sz 2 [.int 0, .null, .null, .null, .null, .null, .null, .null, .null, .null, .null, .null, .int 0]) (nPost D cI cR b sz (tmS 0) (iS 6)) 11 96 (nA b sz) := by
  refine Met.ofW (cc := cX2_init) (maxL := 2) (ret := none) (by decide) rfl ?_
  intro p e s m args below meth c s₁ B hml hv
  obtain ⟨hargs, hsz, hP, hK⟩ := hv
  have hx := B.exec
  have hb := B.bytes
  have hr := B.returns
  have hts := atoms_spec (ws := wsX2_init) B.pre
  have hown : s.vm.findClass RX2 = some m.cls := findClass_of_methodNamed B.named
  have hin : meth.name = "<init>" := (name_of_methodNamed B.named B.method).1
  have hA : ∀ a, s.heap.size ≤ a → nA b sz a := fun a h => Or.inr (by rw [← hsz]; exact h)
  have hS : va_S (nA b sz) s.heap s.heap [] := va_S.rf
  subst hargs
  have hl := lv_entry ([.ref b]) (n := 2) (Nat.le_of_ble_eq_true rfl)
  rw [lg_entry_eq]
  generalize (lg_sl ([.ref b]) ++ List.replicate (2 - (lg_sl ([.ref b])).length) Slot.unset).toArray = ls at hl ⊢
  have hl : lv_has ls 2 [(0, .ref b)] := hl
  have hD : va_D (nA b sz) [(b, .inr (2, [.int 0, .null, .null, .null, .null, .null, .null, .null, .null, .null, .null, .null, .int 0]))] := D1_of (Or.inl rfl)
  have iX2 : ∀ w ∈ wsX20, w ∈ wsX2_init := fun _ h => List.mem_cons_of_mem _ (List.mem_append_right _ (h))
  refine lv_aload_n hx hb dX2_init_0 rfl (lv_at hl 0 rfl) ?_
  refine W.objInit hx hb hown (hts (.methodLink RX2 3 objectInit) (List.mem_of_getElem? (i := 1) (by decide +kernel))) (hts (.instanceMethod objectInit) (List.mem_of_getElem? (i := 2) (by decide +kernel))) (hts (.code objectInit ⟨#[0xb1]⟩ 1 none) (List.mem_of_getElem? (i := 3) (by decide +kernel))) rfl (by rw [hml]; exact hl.1) rfl dX2_init_1 (Nat.le_of_ble_eq_true rfl) (Nat.le_of_ble_eq_true rfl) ?_
  refine W.eq (g2 := F0 m 4 ls []) rfl ?_
  have warr := hts (Cond.arrayClass .int) (List.mem_of_getElem? (i := 4) (by decide +kernel))
  refine lv_aload_n hx hb dX2_init_4 rfl (lv_at hl 0 rfl) ?_
  refine lv_bipush (v := 6) hx hb dX2_init_5 (by decide) ?_
  refine k_newI (N := 6) hx hb warr hK hP hD hS hA (by decide) (by decide) (by decide) (Nat.le_of_ble_eq_true rfl) (Nat.le_of_ble_eq_true rfl) dX2_init_7 (fun a1 H hP hD hS => ?_)
  have hP : va_P D vwCl [(b, .inr (2, [.int 0, .null, .null, .null, .null, .null, .null, .null, .null, .null, .null, .null, .int 0])), (a1, .inl (cI, 6, .inl (fun _ => 0)))] H := hP
  have hD : va_D (nA b sz) [(b, .inr (2, [.int 0, .null, .null, .null, .null, .null, .null, .null, .null, .null, .null, .null, .int 0])), (a1, .inl (cI, 6, .inl (fun _ => 0)))] := hD
  refine va_putF (D := D) (ci := 2) (v := .ref a1) (ty := .array .int) (C := RX2) (T := TX2) (N := 13) hx hb hts iX2 tyX2 tyX2_ok nmX2 hown hK hP hD hS 0 rfl rfl 1 (by decide) (hts (Cond.fieldLink RX2 9 "CoinRails$State" "diameter" "[I") (List.mem_of_getElem? (i := 5) (by decide +kernel))) (fun _ h9 => h9) rfl hin rfl (by decide +kernel) rfl rfl (Nat.le_of_ble_eq_true rfl) dX2_init_9 (fun H locs hP hD hS => ?_)
  have hP : va_P D vwCl [(b, .inr (2, [.int 0, .ref a1, .null, .null, .null, .null, .null, .null, .null, .null, .null, .null, .int 0])), (a1, .inl (cI, 6, .inl (fun _ => 0)))] H := hP
  have hD : va_D (nA b sz) [(b, .inr (2, [.int 0, .ref a1, .null, .null, .null, .null, .null, .null, .null, .null, .null, .null, .int 0])), (a1, .inl (cI, 6, .inl (fun _ => 0)))] := hD
  refine lv_aload_n hx hb dX2_init_12 rfl (lv_at hl 0 rfl) ?_
  refine lv_bipush (v := 6) hx hb dX2_init_13 (by decide) ?_
  refine k_newI (N := 6) hx hb warr hK hP hD hS hA (by decide) (by decide) (by decide) (Nat.le_of_ble_eq_true rfl) (Nat.le_of_ble_eq_true rfl) dX2_init_15 (fun a2 H hP hD hS => ?_)
  have hP : va_P D vwCl [(b, .inr (2, [.int 0, .ref a1, .null, .null, .null, .null, .null, .null, .null, .null, .null, .null, .int 0])), (a1, .inl (cI, 6, .inl (fun _ => 0))), (a2, .inl (cI, 6, .inl (fun _ => 0)))] H := hP
  have hD : va_D (nA b sz) [(b, .inr (2, [.int 0, .ref a1, .null, .null, .null, .null, .null, .null, .null, .null, .null, .null, .int 0])), (a1, .inl (cI, 6, .inl (fun _ => 0))), (a2, .inl (cI, 6, .inl (fun _ => 0)))] := hD
  refine va_putF (D := D) (ci := 2) (v := .ref a2) (ty := .array .int) (C := RX2) (T := TX2) (N := 13) hx hb hts iX2 tyX2 tyX2_ok nmX2 hown hK hP hD hS 0 rfl rfl 2 (by decide) (hts (Cond.fieldLink RX2 15 "CoinRails$State" "worth" "[I") (List.mem_of_getElem? (i := 6) (by decide +kernel))) (fun _ h9 => h9) rfl hin rfl (by decide +kernel) rfl rfl (Nat.le_of_ble_eq_true rfl) dX2_init_17 (fun H locs hP hD hS => ?_)
  have hP : va_P D vwCl [(b, .inr (2, [.int 0, .ref a1, .ref a2, .null, .null, .null, .null, .null, .null, .null, .null, .null, .int 0])), (a1, .inl (cI, 6, .inl (fun _ => 0))), (a2, .inl (cI, 6, .inl (fun _ => 0)))] H := hP
  have hD : va_D (nA b sz) [(b, .inr (2, [.int 0, .ref a1, .ref a2, .null, .null, .null, .null, .null, .null, .null, .null, .null, .int 0])), (a1, .inl (cI, 6, .inl (fun _ => 0))), (a2, .inl (cI, 6, .inl (fun _ => 0)))] := hD
  refine lv_aload_n hx hb dX2_init_20 rfl (lv_at hl 0 rfl) ?_
  refine lv_bipush (v := 6) hx hb dX2_init_21 (by decide) ?_
  refine k_newI (N := 6) hx hb warr hK hP hD hS hA (by decide) (by decide) (by decide) (Nat.le_of_ble_eq_true rfl) (Nat.le_of_ble_eq_true rfl) dX2_init_23 (fun a3 H hP hD hS => ?_)
  have hP : va_P D vwCl [(b, .inr (2, [.int 0, .ref a1, .ref a2, .null, .null, .null, .null, .null, .null, .null, .null, .null, .int 0])), (a1, .inl (cI, 6, .inl (fun _ => 0))), (a2, .inl (cI, 6, .inl (fun _ => 0))), (a3, .inl (cI, 6, .inl (fun _ => 0)))] H := hP
  have hD : va_D (nA b sz) [(b, .inr (2, [.int 0, .ref a1, .ref a2, .null, .null, .null, .null, .null, .null, .null, .null, .null, .int 0])), (a1, .inl (cI, 6, .inl (fun _ => 0))), (a2, .inl (cI, 6, .inl (fun _ => 0))), (a3, .inl (cI, 6, .inl (fun _ => 0)))] := hD
  refine va_putF (D := D) (ci := 2) (v := .ref a3) (ty := .array .int) (C := RX2) (T := TX2) (N := 13) hx hb hts iX2 tyX2 tyX2_ok nmX2 hown hK hP hD hS 0 rfl rfl 3 (by decide) (hts (Cond.fieldLink RX2 18 "CoinRails$State" "home" "[I") (List.mem_of_getElem? (i := 7) (by decide +kernel))) (fun _ h9 => h9) rfl hin rfl (by decide +kernel) rfl rfl (Nat.le_of_ble_eq_true rfl) dX2_init_25 (fun H locs hP hD hS => ?_)
  have hP : va_P D vwCl [(b, .inr (2, [.int 0, .ref a1, .ref a2, .ref a3, .null, .null, .null, .null, .null, .null, .null, .null, .int 0])), (a1, .inl (cI, 6, .inl (fun _ => 0))), (a2, .inl (cI, 6, .inl (fun _ => 0))), (a3, .inl (cI, 6, .inl (fun _ => 0)))] H := hP
  have hD : va_D (nA b sz) [(b, .inr (2, [.int 0, .ref a1, .ref a2, .ref a3, .null, .null, .null, .null, .null, .null, .null, .null, .int 0])), (a1, .inl (cI, 6, .inl (fun _ => 0))), (a2, .inl (cI, 6, .inl (fun _ => 0))), (a3, .inl (cI, 6, .inl (fun _ => 0)))] := hD
  refine lv_aload_n hx hb dX2_init_28 rfl (lv_at hl 0 rfl) ?_
  refine lv_bipush (v := 6) hx hb dX2_init_29 (by decide) ?_
  refine k_newI (N := 6) hx hb warr hK hP hD hS hA (by decide) (by decide) (by decide) (Nat.le_of_ble_eq_true rfl) (Nat.le_of_ble_eq_true rfl) dX2_init_31 (fun a4 H hP hD hS => ?_)
  have hP : va_P D vwCl [(b, .inr (2, [.int 0, .ref a1, .ref a2, .ref a3, .null, .null, .null, .null, .null, .null, .null, .null, .int 0])), (a1, .inl (cI, 6, .inl (fun _ => 0))), (a2, .inl (cI, 6, .inl (fun _ => 0))), (a3, .inl (cI, 6, .inl (fun _ => 0))), (a4, .inl (cI, 6, .inl (fun _ => 0)))] H := hP
  have hD : va_D (nA b sz) [(b, .inr (2, [.int 0, .ref a1, .ref a2, .ref a3, .null, .null, .null, .null, .null, .null, .null, .null, .int 0])), (a1, .inl (cI, 6, .inl (fun _ => 0))), (a2, .inl (cI, 6, .inl (fun _ => 0))), (a3, .inl (cI, 6, .inl (fun _ => 0))), (a4, .inl (cI, 6, .inl (fun _ => 0)))] := hD
  refine va_putF (D := D) (ci := 2) (v := .ref a4) (ty := .array .int) (C := RX2) (T := TX2) (N := 13) hx hb hts iX2 tyX2 tyX2_ok nmX2 hown hK hP hD hS 0 rfl rfl 4 (by decide) (hts (Cond.fieldLink RX2 21 "CoinRails$State" "fed" "[I") (List.mem_of_getElem? (i := 8) (by decide +kernel))) (fun _ h9 => h9) rfl hin rfl (by decide +kernel) rfl rfl (Nat.le_of_ble_eq_true rfl) dX2_init_33 (fun H locs hP hD hS => ?_)
  have hP : va_P D vwCl [(b, .inr (2, [.int 0, .ref a1, .ref a2, .ref a3, .ref a4, .null, .null, .null, .null, .null, .null, .null, .int 0])), (a1, .inl (cI, 6, .inl (fun _ => 0))), (a2, .inl (cI, 6, .inl (fun _ => 0))), (a3, .inl (cI, 6, .inl (fun _ => 0))), (a4, .inl (cI, 6, .inl (fun _ => 0)))] H := hP
  have hD : va_D (nA b sz) [(b, .inr (2, [.int 0, .ref a1, .ref a2, .ref a3, .ref a4, .null, .null, .null, .null, .null, .null, .null, .int 0])), (a1, .inl (cI, 6, .inl (fun _ => 0))), (a2, .inl (cI, 6, .inl (fun _ => 0))), (a3, .inl (cI, 6, .inl (fun _ => 0))), (a4, .inl (cI, 6, .inl (fun _ => 0)))] := hD
  refine lv_aload_n hx hb dX2_init_36 rfl (lv_at hl 0 rfl) ?_
  refine lv_bipush (v := 6) hx hb dX2_init_37 (by decide) ?_
  refine k_newI (N := 6) hx hb warr hK hP hD hS hA (by decide) (by decide) (by decide) (Nat.le_of_ble_eq_true rfl) (Nat.le_of_ble_eq_true rfl) dX2_init_39 (fun a5 H hP hD hS => ?_)
  have hP : va_P D vwCl [(b, .inr (2, [.int 0, .ref a1, .ref a2, .ref a3, .ref a4, .null, .null, .null, .null, .null, .null, .null, .int 0])), (a1, .inl (cI, 6, .inl (fun _ => 0))), (a2, .inl (cI, 6, .inl (fun _ => 0))), (a3, .inl (cI, 6, .inl (fun _ => 0))), (a4, .inl (cI, 6, .inl (fun _ => 0))), (a5, .inl (cI, 6, .inl (fun _ => 0)))] H := hP
  have hD : va_D (nA b sz) [(b, .inr (2, [.int 0, .ref a1, .ref a2, .ref a3, .ref a4, .null, .null, .null, .null, .null, .null, .null, .int 0])), (a1, .inl (cI, 6, .inl (fun _ => 0))), (a2, .inl (cI, 6, .inl (fun _ => 0))), (a3, .inl (cI, 6, .inl (fun _ => 0))), (a4, .inl (cI, 6, .inl (fun _ => 0))), (a5, .inl (cI, 6, .inl (fun _ => 0)))] := hD
  refine va_putF (D := D) (ci := 2) (v := .ref a5) (ty := .array .int) (C := RX2) (T := TX2) (N := 13) hx hb hts iX2 tyX2 tyX2_ok nmX2 hown hK hP hD hS 0 rfl rfl 5 (by decide) (hts (Cond.fieldLink RX2 24 "CoinRails$State" "rejects" "[I") (List.mem_of_getElem? (i := 9) (by decide +kernel))) (fun _ h9 => h9) rfl hin rfl (by decide +kernel) rfl rfl (Nat.le_of_ble_eq_true rfl) dX2_init_41 (fun H locs hP hD hS => ?_)
  have hP : va_P D vwCl [(b, .inr (2, [.int 0, .ref a1, .ref a2, .ref a3, .ref a4, .ref a5, .null, .null, .null, .null, .null, .null, .int 0])), (a1, .inl (cI, 6, .inl (fun _ => 0))), (a2, .inl (cI, 6, .inl (fun _ => 0))), (a3, .inl (cI, 6, .inl (fun _ => 0))), (a4, .inl (cI, 6, .inl (fun _ => 0))), (a5, .inl (cI, 6, .inl (fun _ => 0)))] H := hP
  have hD : va_D (nA b sz) [(b, .inr (2, [.int 0, .ref a1, .ref a2, .ref a3, .ref a4, .ref a5, .null, .null, .null, .null, .null, .null, .int 0])), (a1, .inl (cI, 6, .inl (fun _ => 0))), (a2, .inl (cI, 6, .inl (fun _ => 0))), (a3, .inl (cI, 6, .inl (fun _ => 0))), (a4, .inl (cI, 6, .inl (fun _ => 0))), (a5, .inl (cI, 6, .inl (fun _ => 0)))] := hD
  refine lv_aload_n hx hb dX2_init_44 rfl (lv_at hl 0 rfl) ?_
  refine lv_bipush (v := 6) hx hb dX2_init_45 (by decide) ?_
  refine k_newI (N := 6) hx hb warr hK hP hD hS hA (by decide) (by decide) (by decide) (Nat.le_of_ble_eq_true rfl) (Nat.le_of_ble_eq_true rfl) dX2_init_47 (fun a6 H hP hD hS => ?_)
  have hP : va_P D vwCl [(b, .inr (2, [.int 0, .ref a1, .ref a2, .ref a3, .ref a4, .ref a5, .null, .null, .null, .null, .null, .null, .int 0])), (a1, .inl (cI, 6, .inl (fun _ => 0))), (a2, .inl (cI, 6, .inl (fun _ => 0))), (a3, .inl (cI, 6, .inl (fun _ => 0))), (a4, .inl (cI, 6, .inl (fun _ => 0))), (a5, .inl (cI, 6, .inl (fun _ => 0))), (a6, .inl (cI, 6, .inl (fun _ => 0)))] H := hP
  have hD : va_D (nA b sz) [(b, .inr (2, [.int 0, .ref a1, .ref a2, .ref a3, .ref a4, .ref a5, .null, .null, .null, .null, .null, .null, .int 0])), (a1, .inl (cI, 6, .inl (fun _ => 0))), (a2, .inl (cI, 6, .inl (fun _ => 0))), (a3, .inl (cI, 6, .inl (fun _ => 0))), (a4, .inl (cI, 6, .inl (fun _ => 0))), (a5, .inl (cI, 6, .inl (fun _ => 0))), (a6, .inl (cI, 6, .inl (fun _ => 0)))] := hD
  refine va_putF (D := D) (ci := 2) (v := .ref a6) (ty := .array .int) (C := RX2) (T := TX2) (N := 13) hx hb hts iX2 tyX2 tyX2_ok nmX2 hown hK hP hD hS 0 rfl rfl 6 (by decide) (hts (Cond.fieldLink RX2 27 "CoinRails$State" "gap" "[I") (List.mem_of_getElem? (i := 10) (by decide +kernel))) (fun _ h9 => h9) rfl hin rfl (by decide +kernel) rfl rfl (Nat.le_of_ble_eq_true rfl) dX2_init_49 (fun H locs hP hD hS => ?_)
  have hP : va_P D vwCl [(b, .inr (2, [.int 0, .ref a1, .ref a2, .ref a3, .ref a4, .ref a5, .ref a6, .null, .null, .null, .null, .null, .int 0])), (a1, .inl (cI, 6, .inl (fun _ => 0))), (a2, .inl (cI, 6, .inl (fun _ => 0))), (a3, .inl (cI, 6, .inl (fun _ => 0))), (a4, .inl (cI, 6, .inl (fun _ => 0))), (a5, .inl (cI, 6, .inl (fun _ => 0))), (a6, .inl (cI, 6, .inl (fun _ => 0)))] H := hP
  have hD : va_D (nA b sz) [(b, .inr (2, [.int 0, .ref a1, .ref a2, .ref a3, .ref a4, .ref a5, .ref a6, .null, .null, .null, .null, .null, .int 0])), (a1, .inl (cI, 6, .inl (fun _ => 0))), (a2, .inl (cI, 6, .inl (fun _ => 0))), (a3, .inl (cI, 6, .inl (fun _ => 0))), (a4, .inl (cI, 6, .inl (fun _ => 0))), (a5, .inl (cI, 6, .inl (fun _ => 0))), (a6, .inl (cI, 6, .inl (fun _ => 0)))] := hD
  refine lv_aload_n hx hb dX2_init_52 rfl (lv_at hl 0 rfl) ?_
  refine lv_bipush (v := 6) hx hb dX2_init_53 (by decide) ?_
  refine k_newI (N := 6) hx hb warr hK hP hD hS hA (by decide) (by decide) (by decide) (Nat.le_of_ble_eq_true rfl) (Nat.le_of_ble_eq_true rfl) dX2_init_55 (fun a7 H hP hD hS => ?_)
  have hP : va_P D vwCl [(b, .inr (2, [.int 0, .ref a1, .ref a2, .ref a3, .ref a4, .ref a5, .ref a6, .null, .null, .null, .null, .null, .int 0])), (a1, .inl (cI, 6, .inl (fun _ => 0))), (a2, .inl (cI, 6, .inl (fun _ => 0))), (a3, .inl (cI, 6, .inl (fun _ => 0))), (a4, .inl (cI, 6, .inl (fun _ => 0))), (a5, .inl (cI, 6, .inl (fun _ => 0))), (a6, .inl (cI, 6, .inl (fun _ => 0))), (a7, .inl (cI, 6, .inl (fun _ => 0)))] H := hP
  have hD : va_D (nA b sz) [(b, .inr (2, [.int 0, .ref a1, .ref a2, .ref a3, .ref a4, .ref a5, .ref a6, .null, .null, .null, .null, .null, .int 0])), (a1, .inl (cI, 6, .inl (fun _ => 0))), (a2, .inl (cI, 6, .inl (fun _ => 0))), (a3, .inl (cI, 6, .inl (fun _ => 0))), (a4, .inl (cI, 6, .inl (fun _ => 0))), (a5, .inl (cI, 6, .inl (fun _ => 0))), (a6, .inl (cI, 6, .inl (fun _ => 0))), (a7, .inl (cI, 6, .inl (fun _ => 0)))] := hD
  refine va_putF (D := D) (ci := 2) (v := .ref a7) (ty := .array .int) (C := RX2) (T := TX2) (N := 13) hx hb hts iX2 tyX2 tyX2_ok nmX2 hown hK hP hD hS 0 rfl rfl 7 (by decide) (hts (Cond.fieldLink RX2 30 "CoinRails$State" "use" "[I") (List.mem_of_getElem? (i := 11) (by decide +kernel))) (fun _ h9 => h9) rfl hin rfl (by decide +kernel) rfl rfl (Nat.le_of_ble_eq_true rfl) dX2_init_57 (fun H locs hP hD hS => ?_)
  have hP : va_P D vwCl [(b, .inr (2, [.int 0, .ref a1, .ref a2, .ref a3, .ref a4, .ref a5, .ref a6, .ref a7, .null, .null, .null, .null, .int 0])), (a1, .inl (cI, 6, .inl (fun _ => 0))), (a2, .inl (cI, 6, .inl (fun _ => 0))), (a3, .inl (cI, 6, .inl (fun _ => 0))), (a4, .inl (cI, 6, .inl (fun _ => 0))), (a5, .inl (cI, 6, .inl (fun _ => 0))), (a6, .inl (cI, 6, .inl (fun _ => 0))), (a7, .inl (cI, 6, .inl (fun _ => 0)))] H := hP
  have hD : va_D (nA b sz) [(b, .inr (2, [.int 0, .ref a1, .ref a2, .ref a3, .ref a4, .ref a5, .ref a6, .ref a7, .null, .null, .null, .null, .int 0])), (a1, .inl (cI, 6, .inl (fun _ => 0))), (a2, .inl (cI, 6, .inl (fun _ => 0))), (a3, .inl (cI, 6, .inl (fun _ => 0))), (a4, .inl (cI, 6, .inl (fun _ => 0))), (a5, .inl (cI, 6, .inl (fun _ => 0))), (a6, .inl (cI, 6, .inl (fun _ => 0))), (a7, .inl (cI, 6, .inl (fun _ => 0)))] := hD
  refine lv_aload_n hx hb dX2_init_60 rfl (lv_at hl 0 rfl) ?_
  refine lv_bipush (v := 6) hx hb dX2_init_61 (by decide) ?_
  refine k_newI (N := 6) hx hb warr hK hP hD hS hA (by decide) (by decide) (by decide) (Nat.le_of_ble_eq_true rfl) (Nat.le_of_ble_eq_true rfl) dX2_init_63 (fun a8 H hP hD hS => ?_)
  have hP : va_P D vwCl [(b, .inr (2, [.int 0, .ref a1, .ref a2, .ref a3, .ref a4, .ref a5, .ref a6, .ref a7, .null, .null, .null, .null, .int 0])), (a1, .inl (cI, 6, .inl (fun _ => 0))), (a2, .inl (cI, 6, .inl (fun _ => 0))), (a3, .inl (cI, 6, .inl (fun _ => 0))), (a4, .inl (cI, 6, .inl (fun _ => 0))), (a5, .inl (cI, 6, .inl (fun _ => 0))), (a6, .inl (cI, 6, .inl (fun _ => 0))), (a7, .inl (cI, 6, .inl (fun _ => 0))), (a8, .inl (cI, 6, .inl (fun _ => 0)))] H := hP
  have hD : va_D (nA b sz) [(b, .inr (2, [.int 0, .ref a1, .ref a2, .ref a3, .ref a4, .ref a5, .ref a6, .ref a7, .null, .null, .null, .null, .int 0])), (a1, .inl (cI, 6, .inl (fun _ => 0))), (a2, .inl (cI, 6, .inl (fun _ => 0))), (a3, .inl (cI, 6, .inl (fun _ => 0))), (a4, .inl (cI, 6, .inl (fun _ => 0))), (a5, .inl (cI, 6, .inl (fun _ => 0))), (a6, .inl (cI, 6, .inl (fun _ => 0))), (a7, .inl (cI, 6, .inl (fun _ => 0))), (a8, .inl (cI, 6, .inl (fun _ => 0)))] := hD
  refine va_putF (D := D) (ci := 2) (v := .ref a8) (ty := .array .int) (C := RX2) (T := TX2) (N := 13) hx hb hts iX2 tyX2 tyX2_ok nmX2 hown hK hP hD hS 0 rfl rfl 8 (by decide) (hts (Cond.fieldLink RX2 33 "CoinRails$State" "stuckKind" "[I") (List.mem_of_getElem? (i := 12) (by decide +kernel))) (fun _ h9 => h9) rfl hin rfl (by decide +kernel) rfl rfl (Nat.le_of_ble_eq_true rfl) dX2_init_65 (fun H locs hP hD hS => ?_)
  have hP : va_P D vwCl [(b, .inr (2, [.int 0, .ref a1, .ref a2, .ref a3, .ref a4, .ref a5, .ref a6, .ref a7, .ref a8, .null, .null, .null, .int 0])), (a1, .inl (cI, 6, .inl (fun _ => 0))), (a2, .inl (cI, 6, .inl (fun _ => 0))), (a3, .inl (cI, 6, .inl (fun _ => 0))), (a4, .inl (cI, 6, .inl (fun _ => 0))), (a5, .inl (cI, 6, .inl (fun _ => 0))), (a6, .inl (cI, 6, .inl (fun _ => 0))), (a7, .inl (cI, 6, .inl (fun _ => 0))), (a8, .inl (cI, 6, .inl (fun _ => 0)))] H := hP
  have hD : va_D (nA b sz) [(b, .inr (2, [.int 0, .ref a1, .ref a2, .ref a3, .ref a4, .ref a5, .ref a6, .ref a7, .ref a8, .null, .null, .null, .int 0])), (a1, .inl (cI, 6, .inl (fun _ => 0))), (a2, .inl (cI, 6, .inl (fun _ => 0))), (a3, .inl (cI, 6, .inl (fun _ => 0))), (a4, .inl (cI, 6, .inl (fun _ => 0))), (a5, .inl (cI, 6, .inl (fun _ => 0))), (a6, .inl (cI, 6, .inl (fun _ => 0))), (a7, .inl (cI, 6, .inl (fun _ => 0))), (a8, .inl (cI, 6, .inl (fun _ => 0)))] := hD
  refine lv_aload_n hx hb dX2_init_68 rfl (lv_at hl 0 rfl) ?_
  refine lv_bipush (v := 6) hx hb dX2_init_69 (by decide) ?_
  refine k_newI (N := 6) hx hb warr hK hP hD hS hA (by decide) (by decide) (by decide) (Nat.le_of_ble_eq_true rfl) (Nat.le_of_ble_eq_true rfl) dX2_init_71 (fun a9 H hP hD hS => ?_)
  have hP : va_P D vwCl [(b, .inr (2, [.int 0, .ref a1, .ref a2, .ref a3, .ref a4, .ref a5, .ref a6, .ref a7, .ref a8, .null, .null, .null, .int 0])), (a1, .inl (cI, 6, .inl (fun _ => 0))), (a2, .inl (cI, 6, .inl (fun _ => 0))), (a3, .inl (cI, 6, .inl (fun _ => 0))), (a4, .inl (cI, 6, .inl (fun _ => 0))), (a5, .inl (cI, 6, .inl (fun _ => 0))), (a6, .inl (cI, 6, .inl (fun _ => 0))), (a7, .inl (cI, 6, .inl (fun _ => 0))), (a8, .inl (cI, 6, .inl (fun _ => 0))), (a9, .inl (cI, 6, .inl (fun _ => 0)))] H := hP
  have hD : va_D (nA b sz) [(b, .inr (2, [.int 0, .ref a1, .ref a2, .ref a3, .ref a4, .ref a5, .ref a6, .ref a7, .ref a8, .null, .null, .null, .int 0])), (a1, .inl (cI, 6, .inl (fun _ => 0))), (a2, .inl (cI, 6, .inl (fun _ => 0))), (a3, .inl (cI, 6, .inl (fun _ => 0))), (a4, .inl (cI, 6, .inl (fun _ => 0))), (a5, .inl (cI, 6, .inl (fun _ => 0))), (a6, .inl (cI, 6, .inl (fun _ => 0))), (a7, .inl (cI, 6, .inl (fun _ => 0))), (a8, .inl (cI, 6, .inl (fun _ => 0))), (a9, .inl (cI, 6, .inl (fun _ => 0)))] := hD
  refine va_putF (D := D) (ci := 2) (v := .ref a9) (ty := .array .int) (C := RX2) (T := TX2) (N := 13) hx hb hts iX2 tyX2 tyX2_ok nmX2 hown hK hP hD hS 0 rfl rfl 9 (by decide) (hts (Cond.fieldLink RX2 36 "CoinRails$State" "stuckWear" "[I") (List.mem_of_getElem? (i := 13) (by decide +kernel))) (fun _ h9 => h9) rfl hin rfl (by decide +kernel) rfl rfl (Nat.le_of_ble_eq_true rfl) dX2_init_73 (fun H locs hP hD hS => ?_)
  have hP : va_P D vwCl [(b, .inr (2, [.int 0, .ref a1, .ref a2, .ref a3, .ref a4, .ref a5, .ref a6, .ref a7, .ref a8, .ref a9, .null, .null, .int 0])), (a1, .inl (cI, 6, .inl (fun _ => 0))), (a2, .inl (cI, 6, .inl (fun _ => 0))), (a3, .inl (cI, 6, .inl (fun _ => 0))), (a4, .inl (cI, 6, .inl (fun _ => 0))), (a5, .inl (cI, 6, .inl (fun _ => 0))), (a6, .inl (cI, 6, .inl (fun _ => 0))), (a7, .inl (cI, 6, .inl (fun _ => 0))), (a8, .inl (cI, 6, .inl (fun _ => 0))), (a9, .inl (cI, 6, .inl (fun _ => 0)))] H := hP
  have hD : va_D (nA b sz) [(b, .inr (2, [.int 0, .ref a1, .ref a2, .ref a3, .ref a4, .ref a5, .ref a6, .ref a7, .ref a8, .ref a9, .null, .null, .int 0])), (a1, .inl (cI, 6, .inl (fun _ => 0))), (a2, .inl (cI, 6, .inl (fun _ => 0))), (a3, .inl (cI, 6, .inl (fun _ => 0))), (a4, .inl (cI, 6, .inl (fun _ => 0))), (a5, .inl (cI, 6, .inl (fun _ => 0))), (a6, .inl (cI, 6, .inl (fun _ => 0))), (a7, .inl (cI, 6, .inl (fun _ => 0))), (a8, .inl (cI, 6, .inl (fun _ => 0))), (a9, .inl (cI, 6, .inl (fun _ => 0)))] := hD
  refine lv_aload_n hx hb dX2_init_76 rfl (lv_at hl 0 rfl) ?_
  refine lv_bipush (v := 6) hx hb dX2_init_77 (by decide) ?_
  refine k_newI (N := 6) hx hb warr hK hP hD hS hA (by decide) (by decide) (by decide) (Nat.le_of_ble_eq_true rfl) (Nat.le_of_ble_eq_true rfl) dX2_init_79 (fun a10 H hP hD hS => ?_)
  have hP : va_P D vwCl [(b, .inr (2, [.int 0, .ref a1, .ref a2, .ref a3, .ref a4, .ref a5, .ref a6, .ref a7, .ref a8, .ref a9, .null, .null, .int 0])), (a1, .inl (cI, 6, .inl (fun _ => 0))), (a2, .inl (cI, 6, .inl (fun _ => 0))), (a3, .inl (cI, 6, .inl (fun _ => 0))), (a4, .inl (cI, 6, .inl (fun _ => 0))), (a5, .inl (cI, 6, .inl (fun _ => 0))), (a6, .inl (cI, 6, .inl (fun _ => 0))), (a7, .inl (cI, 6, .inl (fun _ => 0))), (a8, .inl (cI, 6, .inl (fun _ => 0))), (a9, .inl (cI, 6, .inl (fun _ => 0))), (a10, .inl (cI, 6, .inl (fun _ => 0)))] H := hP
  have hD : va_D (nA b sz) [(b, .inr (2, [.int 0, .ref a1, .ref a2, .ref a3, .ref a4, .ref a5, .ref a6, .ref a7, .ref a8, .ref a9, .null, .null, .int 0])), (a1, .inl (cI, 6, .inl (fun _ => 0))), (a2, .inl (cI, 6, .inl (fun _ => 0))), (a3, .inl (cI, 6, .inl (fun _ => 0))), (a4, .inl (cI, 6, .inl (fun _ => 0))), (a5, .inl (cI, 6, .inl (fun _ => 0))), (a6, .inl (cI, 6, .inl (fun _ => 0))), (a7, .inl (cI, 6, .inl (fun _ => 0))), (a8, .inl (cI, 6, .inl (fun _ => 0))), (a9, .inl (cI, 6, .inl (fun _ => 0))), (a10, .inl (cI, 6, .inl (fun _ => 0)))] := hD
  refine va_putF (D := D) (ci := 2) (v := .ref a10) (ty := .array .int) (C := RX2) (T := TX2) (N := 13) hx hb hts iX2 tyX2 tyX2_ok nmX2 hown hK hP hD hS 0 rfl rfl 10 (by decide) (hts (Cond.fieldLink RX2 39 "CoinRails$State" "rolled" "[I") (List.mem_of_getElem? (i := 14) (by decide +kernel))) (fun _ h9 => h9) rfl hin rfl (by decide +kernel) rfl rfl (Nat.le_of_ble_eq_true rfl) dX2_init_81 (fun H locs hP hD hS => ?_)
  have hP : va_P D vwCl [(b, .inr (2, [.int 0, .ref a1, .ref a2, .ref a3, .ref a4, .ref a5, .ref a6, .ref a7, .ref a8, .ref a9, .ref a10, .null, .int 0])), (a1, .inl (cI, 6, .inl (fun _ => 0))), (a2, .inl (cI, 6, .inl (fun _ => 0))), (a3, .inl (cI, 6, .inl (fun _ => 0))), (a4, .inl (cI, 6, .inl (fun _ => 0))), (a5, .inl (cI, 6, .inl (fun _ => 0))), (a6, .inl (cI, 6, .inl (fun _ => 0))), (a7, .inl (cI, 6, .inl (fun _ => 0))), (a8, .inl (cI, 6, .inl (fun _ => 0))), (a9, .inl (cI, 6, .inl (fun _ => 0))), (a10, .inl (cI, 6, .inl (fun _ => 0)))] H := hP
  have hD : va_D (nA b sz) [(b, .inr (2, [.int 0, .ref a1, .ref a2, .ref a3, .ref a4, .ref a5, .ref a6, .ref a7, .ref a8, .ref a9, .ref a10, .null, .int 0])), (a1, .inl (cI, 6, .inl (fun _ => 0))), (a2, .inl (cI, 6, .inl (fun _ => 0))), (a3, .inl (cI, 6, .inl (fun _ => 0))), (a4, .inl (cI, 6, .inl (fun _ => 0))), (a5, .inl (cI, 6, .inl (fun _ => 0))), (a6, .inl (cI, 6, .inl (fun _ => 0))), (a7, .inl (cI, 6, .inl (fun _ => 0))), (a8, .inl (cI, 6, .inl (fun _ => 0))), (a9, .inl (cI, 6, .inl (fun _ => 0))), (a10, .inl (cI, 6, .inl (fun _ => 0)))] := hD
  refine lv_aload_n hx hb dX2_init_84 rfl (lv_at hl 0 rfl) ?_
  refine lv_bipush (v := 36) hx hb dX2_init_85 (by decide) ?_
  refine k_newI (N := 36) hx hb warr hK hP hD hS hA (by decide) (by decide) (by decide) (Nat.le_of_ble_eq_true rfl) (Nat.le_of_ble_eq_true rfl) dX2_init_87 (fun a11 H hP hD hS => ?_)
  have hP : va_P D vwCl [(b, .inr (2, [.int 0, .ref a1, .ref a2, .ref a3, .ref a4, .ref a5, .ref a6, .ref a7, .ref a8, .ref a9, .ref a10, .null, .int 0])), (a1, .inl (cI, 6, .inl (fun _ => 0))), (a2, .inl (cI, 6, .inl (fun _ => 0))), (a3, .inl (cI, 6, .inl (fun _ => 0))), (a4, .inl (cI, 6, .inl (fun _ => 0))), (a5, .inl (cI, 6, .inl (fun _ => 0))), (a6, .inl (cI, 6, .inl (fun _ => 0))), (a7, .inl (cI, 6, .inl (fun _ => 0))), (a8, .inl (cI, 6, .inl (fun _ => 0))), (a9, .inl (cI, 6, .inl (fun _ => 0))), (a10, .inl (cI, 6, .inl (fun _ => 0))), (a11, .inl (cI, 36, .inl (fun _ => 0)))] H := hP
  have hD : va_D (nA b sz) [(b, .inr (2, [.int 0, .ref a1, .ref a2, .ref a3, .ref a4, .ref a5, .ref a6, .ref a7, .ref a8, .ref a9, .ref a10, .null, .int 0])), (a1, .inl (cI, 6, .inl (fun _ => 0))), (a2, .inl (cI, 6, .inl (fun _ => 0))), (a3, .inl (cI, 6, .inl (fun _ => 0))), (a4, .inl (cI, 6, .inl (fun _ => 0))), (a5, .inl (cI, 6, .inl (fun _ => 0))), (a6, .inl (cI, 6, .inl (fun _ => 0))), (a7, .inl (cI, 6, .inl (fun _ => 0))), (a8, .inl (cI, 6, .inl (fun _ => 0))), (a9, .inl (cI, 6, .inl (fun _ => 0))), (a10, .inl (cI, 6, .inl (fun _ => 0))), (a11, .inl (cI, 36, .inl (fun _ => 0)))] := hD
  refine va_putF (D := D) (ci := 2) (v := .ref a11) (ty := .array .int) (C := RX2) (T := TX2) (N := 13) hx hb hts iX2 tyX2 tyX2_ok nmX2 hown hK hP hD hS 0 rfl rfl 11 (by decide) (hts (Cond.fieldLink RX2 42 "CoinRails$State" "bags" "[I") (List.mem_of_getElem? (i := 15) (by decide +kernel))) (fun _ h9 => h9) rfl hin rfl (by decide +kernel) rfl rfl (Nat.le_of_ble_eq_true rfl) dX2_init_89 (fun H locs hP hD hS => ?_)
  have hP : va_P D vwCl [(b, .inr (2, [.int 0, .ref a1, .ref a2, .ref a3, .ref a4, .ref a5, .ref a6, .ref a7, .ref a8, .ref a9, .ref a10, .ref a11, .int 0])), (a1, .inl (cI, 6, .inl (fun _ => 0))), (a2, .inl (cI, 6, .inl (fun _ => 0))), (a3, .inl (cI, 6, .inl (fun _ => 0))), (a4, .inl (cI, 6, .inl (fun _ => 0))), (a5, .inl (cI, 6, .inl (fun _ => 0))), (a6, .inl (cI, 6, .inl (fun _ => 0))), (a7, .inl (cI, 6, .inl (fun _ => 0))), (a8, .inl (cI, 6, .inl (fun _ => 0))), (a9, .inl (cI, 6, .inl (fun _ => 0))), (a10, .inl (cI, 6, .inl (fun _ => 0))), (a11, .inl (cI, 36, .inl (fun _ => 0)))] H := hP
  have hD : va_D (nA b sz) [(b, .inr (2, [.int 0, .ref a1, .ref a2, .ref a3, .ref a4, .ref a5, .ref a6, .ref a7, .ref a8, .ref a9, .ref a10, .ref a11, .int 0])), (a1, .inl (cI, 6, .inl (fun _ => 0))), (a2, .inl (cI, 6, .inl (fun _ => 0))), (a3, .inl (cI, 6, .inl (fun _ => 0))), (a4, .inl (cI, 6, .inl (fun _ => 0))), (a5, .inl (cI, 6, .inl (fun _ => 0))), (a6, .inl (cI, 6, .inl (fun _ => 0))), (a7, .inl (cI, 6, .inl (fun _ => 0))), (a8, .inl (cI, 6, .inl (fun _ => 0))), (a9, .inl (cI, 6, .inl (fun _ => 0))), (a10, .inl (cI, 6, .inl (fun _ => 0))), (a11, .inl (cI, 36, .inl (fun _ => 0)))] := hD
  have hM : MW D cI cR (lq [b, a1, a2, a3, a4, a5, a6, a7, a8, a9, a10, a11]) (tmS 0) zG H := hP
  have hD2 : va_D (nA b sz) (mwL cI cR (lq [b, a1, a2, a3, a4, a5, a6, a7, a8, a9, a10, a11]) (tmS 0) zG) := hD
  have hJ : MJ (tmS 0) (lq [b, a1, a2, a3, a4, a5, a6, a7, a8, a9, a10, a11]) := MJ_of hD2
  have hA2 : ∀ a, MA (tmS 0) (lq [b, a1, a2, a3, a4, a5, a6, a7, a8, a9, a10, a11]) a → nA b sz a := MA_of hD2
  have h0 : (lq [b, a1, a2, a3, a4, a5, a6, a7, a8, a9, a10, a11]) 0 = b := rfl
  generalize (lq [b, a1, a2, a3, a4, a5, a6, a7, a8, a9, a10, a11]) = q at hM hJ hA2 h0
  subst h0
  refine lv_iconst (v := 0) hx hb dX2_init_92 (by decide) ?_
  refine lv_istore_n (lv' := [(1, .int (0 : Int32)), (0, .ref (q 0))]) hx hb dX2_init_93 rfl hl (by decide) rfl (fun ls hl => ?_)
  have w5 := (hts (Cond.fieldLink RX2 27 "CoinRails$State" "gap" "[I") (List.mem_of_getElem? (i := 10) (by decide +kernel)))
  have w7 := (hts (Cond.fieldLink RX2 33 "CoinRails$State" "stuckKind" "[I") (List.mem_of_getElem? (i := 12) (by decide +kernel)))
  have w8 := (hts (Cond.fieldLink RX2 36 "CoinRails$State" "stuckWear" "[I") (List.mem_of_getElem? (i := 13) (by decide +kernel)))
  have key : ∀ (k i : Nat) (H : Heap) (locs : List Loc) (ls : Array Slot), i + k = 6 → MW D cI cR q (tmS 0) (iS i) H → va_S (nA (q 0) sz) s.heap H locs → lv_has ls 2 [(1, .int (nI i)), (0, .ref (q 0))] → W p l e ({ frames := 1, cells := 11, slots := 96, locals := 21 } : Room) s m ([Value.ref (q 0)] : List Value).toArray below meth c H locs 11 96 (MQ below (nPost D cI cR (q 0) sz (tmS 0) (iS 6)) ([Value.ref (q 0)] : List Value).toArray s 11 96 (nA (q 0) sz)) (F0 m 94 ls []) := by
    intro k
    induction k with
    | zero =>
      intro i H locs ls hi hM hS hl
      obtain rfl : i = 6 := by omega
      refine lv_iload_n hx hb dX2_init_94 rfl (lv_at hl 0 rfl) ?_
      refine lv_bipush (v := 6) hx hb dX2_init_95 (by decide) ?_
      refine lv_icmp_ge (tgt := 135) hx hb dX2_init_97 (by decide) (fun _ => ?_) (fun c9 => absurd y6 c9)
      exact W.vret hx hb hr (fun t ht hW => ⟨⟨q, rfl, nOk_of rfl (by decide) hJ hA2, w_end ht hM rfl⟩, hS.F ht⟩) hS.2.2 dX2_init_135
    | succ k ih =>
      intro i H locs ls hi hM hS hl
      have hi6 : i < 6 := by omega
      refine lv_iload_n hx hb dX2_init_94 rfl (lv_at hl 0 rfl) ?_
      refine lv_bipush (v := 6) hx hb dX2_init_95 (by decide) ?_
      refine lv_icmp_ge (tgt := 135) hx hb dX2_init_97 (by decide) (fun c9 => absurd c9 (n6 hi6)) (fun _ => ?_)
      refine lv_aload_n hx hb dX2_init_100 rfl (lv_at hl 1 rfl) ?_
      refine k_getR (C := RX2) (T := TX2) (N := 13) hx hb hts iX2 hown hK hM 0 rfl rfl 6 (by decide) rfl w5 (fun _ h9 => h9) dX2_init_101 ?_
      refine lv_iload_n hx hb dX2_init_104 rfl (lv_at hl 0 rfl) ?_
      refine lv_sipush (v := 1500) hx hb dX2_init_105 (by decide) ?_
      refine lv_sipush (v := 400) hx hb dX2_init_108 (by decide) ?_
      refine lv_iload_n hx hb dX2_init_111 rfl (lv_at hl 0 rfl) ?_
      refine lv_imul hx hb dX2_init_112 ?_
      refine lv_iadd hx hb dX2_init_113 ?_
      rw [show (1500 : Int32) + 400 * nI i = nI (1500 + 400 * i) by rw [show (400 : Int32) * nI i = nI (400 * i) from pk_mul 400 i]; exact nI_add 1500 _]
      refine k_iast hx hb hK hM hJ hA2 hS 6 rfl (inb_nI hi6 (by decide)) dX2_init_114 (fun H locs hM hS => ?_)
      rw [tnI (by omega)] at hM
      refine lv_aload_n hx hb dX2_init_115 rfl (lv_at hl 1 rfl) ?_
      refine k_getR (C := RX2) (T := TX2) (N := 13) hx hb hts iX2 hown hK hM 0 rfl rfl 8 (by decide) rfl w7 (fun _ h9 => h9) dX2_init_116 ?_
      refine lv_iload_n hx hb dX2_init_119 rfl (lv_at hl 0 rfl) ?_
      refine lv_iconst (v := -1) hx hb dX2_init_120 (by decide) ?_
      refine k_iast hx hb hK hM hJ hA2 hS 8 rfl (inb_nI hi6 (by decide)) dX2_init_121 (fun H locs hM hS => ?_)
      rw [tnI (by omega)] at hM
      refine lv_aload_n hx hb dX2_init_122 rfl (lv_at hl 1 rfl) ?_
      refine k_getR (C := RX2) (T := TX2) (N := 13) hx hb hts iX2 hown hK hM 0 rfl rfl 9 (by decide) rfl w8 (fun _ h9 => h9) dX2_init_123 ?_
      refine lv_iload_n hx hb dX2_init_126 rfl (lv_at hl 0 rfl) ?_
      refine lv_iconst (v := -1) hx hb dX2_init_127 (by decide) ?_
      refine k_iast hx hb hK hM hJ hA2 hS 9 rfl (inb_nI hi6 (by decide)) dX2_init_128 (fun H locs hM hS => ?_)
      rw [tnI (by omega)] at hM
      refine lv_iinc (v := nI (i + 1)) (lv' := [(1, .int (nI (i + 1))), (0, .ref (q 0))]) hx hb dX2_init_129 hl (k := 0) rfl (by rw [show Int32.ofInt (1) = 1 by decide]; exact nI1 i) (by decide) rfl (fun ls hl => ?_)
      refine lv_goto (tgt := 94) hx hb dX2_init_132 (by decide) ?_
      exact ih (i + 1) _ _ _ (by omega) hM hS hl
  exact key 6 0 _ _ _ (by omega) hM hS hl
def iM : Nat → Nat → Nat → Int32
  | 0 => zG
  | i + 1 => up2 (up2 (up2 (iM i) 1 (33 + 5 * i) (nI (1500 + 400 * i))) 1 (35 + 5 * i) (-1)) 1 (36 + 5 * i) (-1)
