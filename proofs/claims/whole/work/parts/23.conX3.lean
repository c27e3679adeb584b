set_option maxHeartbeats 4000000 in
set_option maxRecDepth 100000 in
theorem kX3_checkArgument (l : Launch) (hfl : l.flags = flags0) (D : va_G) (cI cR : ClassId) (q : Nat → Nat) (G : Nat → Nat → Int32) (K : Nat) (p1 : Int32) (p2 : Int32) (p3 : Int32) (sz : Nat) (r : (String ⊕ Unit)) (hs : sX3_checkArgument K G p1 p2 p3 = some r) : vx_Met l yX3_checkArgument wsX3_checkArgument ({ frames := 6, cells := 1, slots := 6, locals := 90 } : Room) (mPreT [.int p1, .int p2, .int p3] D cI cR q tmC G sz) (tV D cI cR q tmC G r sz) (tX D cI cR q tmC G r sz) 1 6 (MN tmC q sz) := by
  refine vx_ofW (cc := cX3_checkArgument) (maxL := 3) (ret := none) (by decide) rfl ?_
  intro p e s m args below meth c s₁ B hml hemp hv
  have hout : ∀ (k : Nat), ∀ x ∈ c.exceptionTable.toList, covers x k = false := fun k x hx => (hemp x hx).elim
  obtain ⟨hargs, hsz0, hM, hK, hth⟩ := hv
  have hx := B.exec
  have hb := B.bytes
  have hr := B.returns
  have hts := atoms_spec (ws := wsX3_checkArgument) B.pre
  have hown : s.vm.findClass RX3 = some m.cls := findClass_of_methodNamed B.named
  have hlocks := B.notSynchronized
  have hst : l.stackTraces = false := by unfold Launch.stackTraces; rw [hfl]; decide +kernel
  have hA : ∀ a, MA tmC q a → MN tmC q sz a := fun _ h => Or.inl h
  have hsz : s.heap.size = sz := hsz0
  have hS : va_S (MN tmC q sz) s.heap s.heap [] := va_S.rf
  have w0 := hts (Cond.classLink RX3 182 "java/lang/IllegalArgumentException") (List.mem_of_getElem? (i := 1) (by decide +kernel))
  have w1 := hts (Cond.initialized "java/lang/IllegalArgumentException") (List.mem_of_getElem? (i := 2) (by decide +kernel))
  subst hargs
  have hl := lv_entry ([.int p1, .int p2, .int p3]) (n := 3) (Nat.le_of_ble_eq_true rfl)
  rw [lg_entry_eq]
  generalize (lg_sl ([.int p1, .int p2, .int p3]) ++ List.replicate (3 - (lg_sl ([.int p1, .int p2, .int p3])).length) Slot.unset).toArray = ls at hl ⊢
  have hl : lv_has ls 3 [(0, .int p1), (1, .int p2), (2, .int p3)] := hl
  have h := hs
  unfold sX3_checkArgument at h
  have hM0 := hM
  refine lv_iload_n hx hb dX3_checkArgument_0 rfl (lv_at hl 0 rfl) ?_
  refine lv_iload_n hx hb dX3_checkArgument_1 rfl (lv_at hl 1 rfl) ?_
  refine lv_icmp_lt (tgt := 10) hx hb dX3_checkArgument_2 (by decide) (fun c2 => ?_) (fun c2 => ?_)
  · replace h := ite_t h c2
    obtain ⟨sa10, hsa10⟩ := hth.2.2.1 (184, "an argument is out of range") (by decide +kernel)
    refine t_throw (names := ["java/lang/RuntimeException", "java/lang/Exception"]) (text := "an argument is out of range") hx hb hst hown (by decide +kernel) (by decide +kernel) w0 w1 hsa10 (vx_hat (fun w h => hts w (List.mem_cons_of_mem _ (List.mem_append_right _ (h)))) (by decide +kernel) (vx_c (va_Nw.use rfl (hth.2.2.2.1 "java/lang/IllegalArgumentException" (by decide +kernel))) (vx_c (va_Nw.use rfl (hth.2.2.2.2 "java/lang/RuntimeException" (by decide +kernel))) (vx_c (va_Nw.use rfl (hth.2.2.2.2 "java/lang/Exception" (by decide +kernel))) (vx_c (va_Nw.use rfl (hth.2.2.2.2 Bundle.tN (by decide +kernel))) vx_n))))) (by decide +kernel) hth hsz hS (hl.1.trans hml.symm) dX3_checkArgument_10 dX3_checkArgument_13 dX3_checkArgument_14 dX3_checkArgument_16 dX3_checkArgument_19 hout (Nat.le_of_ble_eq_true rfl) (Nat.le_of_ble_eq_true rfl) (Nat.le_of_ble_eq_true rfl) (Nat.le_of_ble_eq_true rfl) hlocks hM h (Nat.le_of_ble_eq_true rfl) (Nat.le_of_ble_eq_true rfl)
  · replace h := ite_f h c2
    refine lv_iload_n hx hb dX3_checkArgument_5 rfl (lv_at hl 0 rfl) ?_
    refine lv_iload_n hx hb dX3_checkArgument_6 rfl (lv_at hl 2 rfl) ?_
    refine lv_icmp_le (tgt := 20) hx hb dX3_checkArgument_7 (by decide) (fun c7 => ?_) (fun c7 => ?_)
    · replace h := ite_t h c7
      refine W.widen (k := 1) (n := 6) (Nat.le_of_ble_eq_true rfl) (Nat.le_of_ble_eq_true rfl) ?_
      have h := Option.some.inj h
      exact vx_ret (W.vret hx hb hr (fun t ht hW => ⟨⟨(), rfl, h.symm, w_end ht hM rfl⟩, hS.F ht⟩) hS.2.2 dX3_checkArgument_20)
    · replace h := ite_f h c7
      obtain ⟨sa10, hsa10⟩ := hth.2.2.1 (184, "an argument is out of range") (by decide +kernel)
      refine t_throw (names := ["java/lang/RuntimeException", "java/lang/Exception"]) (text := "an argument is out of range") hx hb hst hown (by decide +kernel) (by decide +kernel) w0 w1 hsa10 (vx_hat (fun w h => hts w (List.mem_cons_of_mem _ (List.mem_append_right _ (h)))) (by decide +kernel) (vx_c (va_Nw.use rfl (hth.2.2.2.1 "java/lang/IllegalArgumentException" (by decide +kernel))) (vx_c (va_Nw.use rfl (hth.2.2.2.2 "java/lang/RuntimeException" (by decide +kernel))) (vx_c (va_Nw.use rfl (hth.2.2.2.2 "java/lang/Exception" (by decide +kernel))) (vx_c (va_Nw.use rfl (hth.2.2.2.2 Bundle.tN (by decide +kernel))) vx_n))))) (by decide +kernel) hth hsz hS (hl.1.trans hml.symm) dX3_checkArgument_10 dX3_checkArgument_13 dX3_checkArgument_14 dX3_checkArgument_16 dX3_checkArgument_19 hout (Nat.le_of_ble_eq_true rfl) (Nat.le_of_ble_eq_true rfl) (Nat.le_of_ble_eq_true rfl) (Nat.le_of_ble_eq_true rfl) hlocks hM h (Nat.le_of_ble_eq_true rfl) (Nat.le_of_ble_eq_true rfl)
set_option maxHeartbeats 4000000 in
set_option maxRecDepth 100000 in
theorem kX3_addKind (l : Launch) (hfl : l.flags = flags0) (D : va_G) (cI cR : ClassId) (q : Nat → Nat) (G : Nat → Nat → Int32) (K : Nat) (p1 : Int32) (p2 : Int32) (p3 : Int32) (hJ : MJ tmC q) (sz : Nat) (r : (String ⊕ (Int32 × (Nat → Nat → Int32)))) (hs : sX3_addKind K G p1 p2 p3 = some r) : vx_Met l yX3_addKind wsX3_addKind ({ frames := 7, cells := 4, slots := 24, locals := 112 } : Room) (mPreT [.ref (q 0), .int p1, .int p2, .int p3] D cI cR q tmC G sz) (tIW D cI cR q tmC r sz) (tX D cI cR q tmC G r sz) 4 24 (MN tmC q sz) := by
  refine vx_ofW (cc := cX3_addKind) (maxL := 4) (ret := (some .int)) (by decide) rfl ?_
  intro p e s m args below meth c s₁ B hml hemp hv
  have hout : ∀ (k : Nat), ∀ x ∈ c.exceptionTable.toList, covers x k = false := fun k x hx => (hemp x hx).elim
  obtain ⟨hargs, hsz0, hM, hK, hth⟩ := hv
  have hx := B.exec
  have hb := B.bytes
  have hr := B.returns
  have hts := atoms_spec (ws := wsX3_addKind) B.pre
  have hown : s.vm.findClass RX3 = some m.cls := findClass_of_methodNamed B.named
  have hlocks := B.notSynchronized
  have hst : l.stackTraces = false := by unfold Launch.stackTraces; rw [hfl]; decide +kernel
  have hA : ∀ a, MA tmC q a → MN tmC q sz a := fun _ h => Or.inl h
  have hsz : s.heap.size = sz := hsz0
  have hS : va_S (MN tmC q sz) s.heap s.heap [] := va_S.rf
  have w0 := hts (Cond.fieldLink RX3 12 "CoinRails" "now" "LCoinRails$State;") (List.mem_of_getElem? (i := 3) (by decide +kernel))
  have iX3 : ∀ w ∈ wsX30, w ∈ wsX3_addKind := fun _ h => List.mem_cons_of_mem _ (List.mem_append_left _ (List.mem_append_left _ (List.mem_append_left _ (List.mem_append_left _ (List.mem_append_right _ (h))))))
  have w2 := hts (Cond.fieldLink RX3 34 "CoinRails$State" "kinds" "I") (List.mem_of_getElem? (i := 4) (by decide +kernel))
  have iX2 : ∀ w ∈ wsX20, w ∈ wsX3_addKind := fun _ h => List.mem_cons_of_mem _ (List.mem_append_left _ (List.mem_append_left _ (List.mem_append_left _ (List.mem_append_right _ (h)))))
  have w4 := hts (Cond.fieldLink RX3 19 "CoinRails" "history" "LCoinRails$History;") (List.mem_of_getElem? (i := 5) (by decide +kernel))
  have w5 := hts (Cond.classLink RX3 38 "java/lang/IllegalStateException") (List.mem_of_getElem? (i := 1) (by decide +kernel))
  have w6 := hts (Cond.initialized "java/lang/IllegalStateException") (List.mem_of_getElem? (i := 2) (by decide +kernel))
  subst hargs
  have hl := lv_entry ([.ref (q 0), .int p1, .int p2, .int p3]) (n := 4) (Nat.le_of_ble_eq_true rfl)
  rw [lg_entry_eq]
  generalize (lg_sl ([.ref (q 0), .int p1, .int p2, .int p3]) ++ List.replicate (4 - (lg_sl ([.ref (q 0), .int p1, .int p2, .int p3])).length) Slot.unset).toArray = ls at hl ⊢
  have hl : lv_has ls 4 [(0, .ref (q 0)), (1, .int p1), (2, .int p2), (3, .int p3)] := hl
  have h := hs
  unfold sX3_addKind at h
  have hM0 := hM
  refine lv_iload_n hx hb dX3_addKind_0 rfl (lv_at hl 1 rfl) ?_
  refine lv_sipush (v := 1000) hx hb dX3_addKind_1 (by decide) ?_
  refine lv_sipush (v := 4000) hx hb dX3_addKind_4 (by decide) ?_
  obtain ⟨r7, e7, h⟩ := othr_s h
  refine t_cV (vx_runS (As := [.int p1, .int (1000 : Int32), .int (4000 : Int32)]) (rest := []) ⟨hx, hb, hml, hown, hts⟩ (kX3_checkArgument l hfl D cI cR q G K p1 (1000 : Int32) (4000 : Int32) _ r7 e7) (va_cwS 3 hts gX3_addKind_X3_checkArgument rfl rfl rfl (by decide +kernel) ⟨Nat.le_of_ble_eq_true rfl, Nat.le_of_ble_eq_true rfl⟩) (mPreST hK hM hS hsz hth) rfl rfl hl.1 rfl (lv_room (Nat.le_of_ble_eq_true rfl)) dX3_addKind_7 ⟨Nat.le_of_ble_eq_true rfl, Nat.le_of_ble_eq_true rfl⟩) hS hM hsz h hout hlocks (Nat.le_of_ble_eq_true rfl) (Nat.le_of_ble_eq_true rfl) (fun a7 H locs hM hS h => ?_)
  refine W.widen (k := 1) (n := 6) (Nat.le_of_ble_eq_true rfl) (Nat.le_of_ble_eq_true rfl) ?_
  refine lv_iload_n hx hb dX3_addKind_10 rfl (lv_at hl 2 rfl) ?_
  refine lv_iconst (v := 1) hx hb dX3_addKind_11 (by decide) ?_
  refine lv_sipush (v := 500) hx hb dX3_addKind_12 (by decide) ?_
  obtain ⟨r15, e15, h⟩ := othr_s h
  refine t_cV (vx_runS (As := [.int p2, .int (1 : Int32), .int (500 : Int32)]) (rest := []) ⟨hx, hb, hml, hown, hts⟩ (kX3_checkArgument l hfl D cI cR q G K p2 (1 : Int32) (500 : Int32) _ r15 e15) (va_cwS 3 hts gX3_addKind_X3_checkArgument rfl rfl rfl (by decide +kernel) ⟨Nat.le_of_ble_eq_true rfl, Nat.le_of_ble_eq_true rfl⟩) (mPreST hK hM hS hsz hth) rfl rfl hl.1 rfl (lv_room (Nat.le_of_ble_eq_true rfl)) dX3_addKind_15 ⟨Nat.le_of_ble_eq_true rfl, Nat.le_of_ble_eq_true rfl⟩) hS hM hsz h hout hlocks (Nat.le_of_ble_eq_true rfl) (Nat.le_of_ble_eq_true rfl) (fun a15 H locs hM hS h => ?_)
  refine W.widen (k := 2) (n := 12) (Nat.le_of_ble_eq_true rfl) (Nat.le_of_ble_eq_true rfl) ?_
  refine lv_iload_n hx hb dX3_addKind_18 rfl (lv_at hl 3 rfl) ?_
  refine lv_iconst (v := 0) hx hb dX3_addKind_19 (by decide) ?_
  refine lv_iconst (v := 5) hx hb dX3_addKind_20 (by decide) ?_
  obtain ⟨r21, e21, h⟩ := othr_s h
  refine t_cV (vx_runS (As := [.int p3, .int (0 : Int32), .int (5 : Int32)]) (rest := []) ⟨hx, hb, hml, hown, hts⟩ (kX3_checkArgument l hfl D cI cR q G K p3 (0 : Int32) (5 : Int32) _ r21 e21) (va_cwS 3 hts gX3_addKind_X3_checkArgument rfl rfl rfl (by decide +kernel) ⟨Nat.le_of_ble_eq_true rfl, Nat.le_of_ble_eq_true rfl⟩) (mPreST hK hM hS hsz hth) rfl rfl hl.1 rfl (lv_room (Nat.le_of_ble_eq_true rfl)) dX3_addKind_21 ⟨Nat.le_of_ble_eq_true rfl, Nat.le_of_ble_eq_true rfl⟩) hS hM hsz h hout hlocks (Nat.le_of_ble_eq_true rfl) (Nat.le_of_ble_eq_true rfl) (fun a21 H locs hM hS h => ?_)
  refine W.widen (k := 3) (n := 18) (Nat.le_of_ble_eq_true rfl) (Nat.le_of_ble_eq_true rfl) ?_
  refine lv_aload_n hx hb dX3_addKind_24 rfl (lv_at hl 0 rfl) ?_
  refine k_getR (C := RX3) (T := TX3) (N := 3) hx hb hts iX3 hown hK hM 0 rfl rfl 0 (by decide) rfl w0 (fun _ h9 => h9) dX3_addKind_25 ?_
  refine k_getI (C := RX2) (T := TX2) (N := 13) hx hb hts iX2 hown hK hM 1 rfl rfl 0 (by decide) rfl w2 (fun _ h9 => h9) dX3_addKind_28 ?_
  refine lv_bipush (v := 6) hx hb dX3_addKind_31 (by decide) ?_
  refine lv_icmp_lt (tgt := 46) hx hb dX3_addKind_33 (by decide) (fun c33 => ?_) (fun c33 => ?_)
  · replace h := ite_t h c33
    refine lv_aload_n hx hb dX3_addKind_46 rfl (lv_at hl 0 rfl) ?_
    refine k_getR (C := RX3) (T := TX3) (N := 3) hx hb hts iX3 hown hK hM 0 rfl rfl 1 (by decide) rfl w4 (fun _ h9 => h9) dX3_addKind_47 ?_
    refine lv_aload_n hx hb dX3_addKind_50 rfl (lv_at hl 0 rfl) ?_
    refine k_getR (C := RX3) (T := TX3) (N := 3) hx hb hts iX3 hown hK hM 0 rfl rfl 0 (by decide) rfl w0 (fun _ h9 => h9) dX3_addKind_51 ?_
    obtain ⟨r54, e54, h⟩ := bind_s h
    refine k_cVW (va_runV (As := [.ref (q 1)]) (rest := []) ⟨hx, hb, hml, hown, hts⟩ (kX1_save l D cI cR q G K hJ r54 e54) (cwV 1 hts gX3_addKind_X1_save rfl rfl rfl (by decide +kernel) ⟨Nat.le_of_ble_eq_true rfl, Nat.le_of_ble_eq_true rfl⟩) (mPreV hK hM 13 rfl rfl) rfl rfl hl.1 rfl (lv_room (Nat.le_of_ble_eq_true rfl)) dX3_addKind_54 ⟨Nat.le_of_ble_eq_true rfl, Nat.le_of_ble_eq_true rfl⟩) hS hA (fun H locs hM hS => ?_)
    refine lv_aload_n hx hb dX3_addKind_57 rfl (lv_at hl 0 rfl) ?_
    refine k_getR (C := RX3) (T := TX3) (N := 3) hx hb hts iX3 hown hK hM 0 rfl rfl 0 (by decide) rfl w0 (fun _ h9 => h9) dX3_addKind_58 ?_
    refine lv_iload_n hx hb dX3_addKind_61 rfl (lv_at hl 1 rfl) ?_
    refine lv_iload_n hx hb dX3_addKind_62 rfl (lv_at hl 2 rfl) ?_
    refine lv_iload_n hx hb dX3_addKind_63 rfl (lv_at hl 3 rfl) ?_
    obtain ⟨r64, e64, h⟩ := bind_s h
    refine k_cIW (va_runV (As := [.int p1, .int p2, .int p3]) (rest := []) ⟨hx, hb, hml, hown, hts⟩ (kX2_putKind l D cI cR q r54 K p1 p2 p3 hJ r64 e64) (cwV 3 hts gX3_addKind_X2_putKind rfl rfl rfl (by decide +kernel) ⟨Nat.le_of_ble_eq_true rfl, Nat.le_of_ble_eq_true rfl⟩) (mPreV hK hM 1 rfl rfl) rfl rfl hl.1 rfl (lv_room (Nat.le_of_ble_eq_true rfl)) dX3_addKind_64 ⟨Nat.le_of_ble_eq_true rfl, Nat.le_of_ble_eq_true rfl⟩) hS hA (fun H locs hM hS => ?_)
    refine W.widen (k := 4) (n := 24) (Nat.le_of_ble_eq_true rfl) (Nat.le_of_ble_eq_true rfl) ?_
    have h := Option.some.inj h
    exact vx_ret (W.iret (v := r64.1) hx hb hr (fun t ht hW => ⟨⟨r64.1, r64.2, rfl, h.symm, w_end ht hM rfl⟩, hS.F ht⟩) hS.2.2 dX3_addKind_67)
  · replace h := ite_f h c33
    obtain ⟨sa36, hsa36⟩ := hth.2.2.1 (40, "no room for another kind") (by decide +kernel)
    refine t_throw (names := ["java/lang/RuntimeException", "java/lang/Exception"]) (text := "no room for another kind") hx hb hst hown (by decide +kernel) (by decide +kernel) w5 w6 hsa36 (vx_hat (fun w h => hts w (List.mem_cons_of_mem _ (List.mem_append_left _ (List.mem_append_right _ (h))))) (by decide +kernel) (vx_c (va_Nw.use rfl (hth.2.2.2.1 "java/lang/IllegalStateException" (by decide +kernel))) (vx_c (va_Nw.use rfl (hth.2.2.2.2 "java/lang/RuntimeException" (by decide +kernel))) (vx_c (va_Nw.use rfl (hth.2.2.2.2 "java/lang/Exception" (by decide +kernel))) (vx_c (va_Nw.use rfl (hth.2.2.2.2 Bundle.tN (by decide +kernel))) vx_n))))) (by decide +kernel) hth hsz hS (hl.1.trans hml.symm) dX3_addKind_36 dX3_addKind_39 dX3_addKind_40 dX3_addKind_42 dX3_addKind_45 hout (Nat.le_of_ble_eq_true rfl) (Nat.le_of_ble_eq_true rfl) (Nat.le_of_ble_eq_true rfl) (Nat.le_of_ble_eq_true rfl) hlocks hM h (Nat.le_of_ble_eq_true rfl) (Nat.le_of_ble_eq_true rfl)
set_option maxHeartbeats 4000000 in
set_option maxRecDepth 100000 in
theorem kX3_checkKind (l : Launch) (hfl : l.flags = flags0) (D : va_G) (cI cR : ClassId) (q : Nat → Nat) (G : Nat → Nat → Int32) (K : Nat) (p1 : Int32) (sz : Nat) (r : (String ⊕ Unit)) (hs : sX3_checkKind K G p1 = some r) : vx_Met l yX3_checkKind wsX3_checkKind ({ frames := 6, cells := 1, slots := 6, locals := 90 } : Room) (mPreT [.ref (q 0), .int p1] D cI cR q tmC G sz) (tV D cI cR q tmC G r sz) (tX D cI cR q tmC G r sz) 1 6 (MN tmC q sz) := by
  refine vx_ofW (cc := cX3_checkKind) (maxL := 2) (ret := none) (by decide) rfl ?_
  intro p e s m args below meth c s₁ B hml hemp hv
  have hout : ∀ (k : Nat), ∀ x ∈ c.exceptionTable.toList, covers x k = false := fun k x hx => (hemp x hx).elim
  obtain ⟨hargs, hsz0, hM, hK, hth⟩ := hv
  have hx := B.exec
  have hb := B.bytes
  have hr := B.returns
  have hts := atoms_spec (ws := wsX3_checkKind) B.pre
  have hown : s.vm.findClass RX3 = some m.cls := findClass_of_methodNamed B.named
  have hlocks := B.notSynchronized
  have hst : l.stackTraces = false := by unfold Launch.stackTraces; rw [hfl]; decide +kernel
  have hA : ∀ a, MA tmC q a → MN tmC q sz a := fun _ h => Or.inl h
  have hsz : s.heap.size = sz := hsz0
  have hS : va_S (MN tmC q sz) s.heap s.heap [] := va_S.rf
  have w0 := hts (Cond.classLink RX3 175 "java/lang/IndexOutOfBoundsException") (List.mem_of_getElem? (i := 1) (by decide +kernel))
  have w1 := hts (Cond.initialized "java/lang/IndexOutOfBoundsException") (List.mem_of_getElem? (i := 2) (by decide +kernel))
  have w2 := hts (Cond.fieldLink RX3 12 "CoinRails" "now" "LCoinRails$State;") (List.mem_of_getElem? (i := 3) (by decide +kernel))
  have iX3 : ∀ w ∈ wsX30, w ∈ wsX3_checkKind := fun _ h => List.mem_cons_of_mem _ (List.mem_append_left _ (List.mem_append_left _ (List.mem_append_right _ (h))))
  have w4 := hts (Cond.fieldLink RX3 34 "CoinRails$State" "kinds" "I") (List.mem_of_getElem? (i := 4) (by decide +kernel))
  have iX2 : ∀ w ∈ wsX20, w ∈ wsX3_checkKind := fun _ h => List.mem_cons_of_mem _ (List.mem_append_left _ (List.mem_append_right _ (h)))
  subst hargs
  have hl := lv_entry ([.ref (q 0), .int p1]) (n := 2) (Nat.le_of_ble_eq_true rfl)
  rw [lg_entry_eq]
  generalize (lg_sl ([.ref (q 0), .int p1]) ++ List.replicate (2 - (lg_sl ([.ref (q 0), .int p1])).length) Slot.unset).toArray = ls at hl ⊢
  have hl : lv_has ls 2 [(0, .ref (q 0)), (1, .int p1)] := hl
  have h := hs
  unfold sX3_checkKind at h
  have hM0 := hM
  refine lv_iload_n hx hb dX3_checkKind_0 rfl (lv_at hl 1 rfl) ?_
  refine lv_if_lt (tgt := 15) hx hb dX3_checkKind_1 (by decide) (fun c1 => ?_) (fun c1 => ?_)
  · replace h := ite_t h c1
    obtain ⟨sa15, hsa15⟩ := hth.2.2.1 (177, "no such kind") (by decide +kernel)
    refine t_throw (names := ["java/lang/RuntimeException", "java/lang/Exception"]) (text := "no such kind") hx hb hst hown (by decide +kernel) (by decide +kernel) w0 w1 hsa15 (vx_hat (fun w h => hts w (List.mem_cons_of_mem _ (List.mem_append_right _ (h)))) (by decide +kernel) (vx_c (va_Nw.use rfl (hth.2.2.2.1 "java/lang/IndexOutOfBoundsException" (by decide +kernel))) (vx_c (va_Nw.use rfl (hth.2.2.2.2 "java/lang/RuntimeException" (by decide +kernel))) (vx_c (va_Nw.use rfl (hth.2.2.2.2 "java/lang/Exception" (by decide +kernel))) (vx_c (va_Nw.use rfl (hth.2.2.2.2 Bundle.tN (by decide +kernel))) vx_n))))) (by decide +kernel) hth hsz hS (hl.1.trans hml.symm) dX3_checkKind_15 dX3_checkKind_18 dX3_checkKind_19 dX3_checkKind_21 dX3_checkKind_24 hout (Nat.le_of_ble_eq_true rfl) (Nat.le_of_ble_eq_true rfl) (Nat.le_of_ble_eq_true rfl) (Nat.le_of_ble_eq_true rfl) hlocks hM h (Nat.le_of_ble_eq_true rfl) (Nat.le_of_ble_eq_true rfl)
  · replace h := ite_f h c1
    refine lv_iload_n hx hb dX3_checkKind_4 rfl (lv_at hl 1 rfl) ?_
    refine lv_aload_n hx hb dX3_checkKind_5 rfl (lv_at hl 0 rfl) ?_
    refine k_getR (C := RX3) (T := TX3) (N := 3) hx hb hts iX3 hown hK hM 0 rfl rfl 0 (by decide) rfl w2 (fun _ h9 => h9) dX3_checkKind_6 ?_
    refine k_getI (C := RX2) (T := TX2) (N := 13) hx hb hts iX2 hown hK hM 1 rfl rfl 0 (by decide) rfl w4 (fun _ h9 => h9) dX3_checkKind_9 ?_
    refine lv_icmp_lt (tgt := 25) hx hb dX3_checkKind_12 (by decide) (fun c12 => ?_) (fun c12 => ?_)
    · replace h := ite_t h c12
      refine W.widen (k := 1) (n := 6) (Nat.le_of_ble_eq_true rfl) (Nat.le_of_ble_eq_true rfl) ?_
      have h := Option.some.inj h
      exact vx_ret (W.vret hx hb hr (fun t ht hW => ⟨⟨(), rfl, h.symm, w_end ht hM rfl⟩, hS.F ht⟩) hS.2.2 dX3_checkKind_25)
    · replace h := ite_f h c12
      obtain ⟨sa15, hsa15⟩ := hth.2.2.1 (177, "no such kind") (by decide +kernel)
      refine t_throw (names := ["java/lang/RuntimeException", "java/lang/Exception"]) (text := "no such kind") hx hb hst hown (by decide +kernel) (by decide +kernel) w0 w1 hsa15 (vx_hat (fun w h => hts w (List.mem_cons_of_mem _ (List.mem_append_right _ (h)))) (by decide +kernel) (vx_c (va_Nw.use rfl (hth.2.2.2.1 "java/lang/IndexOutOfBoundsException" (by decide +kernel))) (vx_c (va_Nw.use rfl (hth.2.2.2.2 "java/lang/RuntimeException" (by decide +kernel))) (vx_c (va_Nw.use rfl (hth.2.2.2.2 "java/lang/Exception" (by decide +kernel))) (vx_c (va_Nw.use rfl (hth.2.2.2.2 Bundle.tN (by decide +kernel))) vx_n))))) (by decide +kernel) hth hsz hS (hl.1.trans hml.symm) dX3_checkKind_15 dX3_checkKind_18 dX3_checkKind_19 dX3_checkKind_21 dX3_checkKind_24 hout (Nat.le_of_ble_eq_true rfl) (Nat.le_of_ble_eq_true rfl) (Nat.le_of_ble_eq_true rfl) (Nat.le_of_ble_eq_true rfl) hlocks hM h (Nat.le_of_ble_eq_true rfl) (Nat.le_of_ble_eq_true rfl)
set_option maxHeartbeats 4000000 in
set_option maxRecDepth 100000 in
theorem kX3_setHome (l : Launch) (hfl : l.flags = flags0) (D : va_G) (cI cR : ClassId) (q : Nat → Nat) (G : Nat → Nat → Int32) (K : Nat) (p1 : Int32) (p2 : Int32) (hJ : MJ tmC q) (sz : Nat) (r : (String ⊕ (Int32 × (Nat → Nat → Int32)))) (hs : sX3_setHome K G p1 p2 = some r) : vx_Met l yX3_setHome wsX3_setHome ({ frames := 7, cells := 2, slots := 12, locals := 112 } : Room) (mPreT [.ref (q 0), .int p1, .int p2] D cI cR q tmC G sz) (tIW D cI cR q tmC r sz) (tX D cI cR q tmC G r sz) 2 12 (MN tmC q sz) := by
  refine vx_ofW (cc := cX3_setHome) (maxL := 4) (ret := (some .int)) (by decide) rfl ?_
  intro p e s m args below meth c s₁ B hml hemp hv
  have hout : ∀ (k : Nat), ∀ x ∈ c.exceptionTable.toList, covers x k = false := fun k x hx => (hemp x hx).elim
  obtain ⟨hargs, hsz0, hM, hK, hth⟩ := hv
  have hx := B.exec
  have hb := B.bytes
  have hr := B.returns
  have hts := atoms_spec (ws := wsX3_setHome) B.pre
  have hown : s.vm.findClass RX3 = some m.cls := findClass_of_methodNamed B.named
  have hlocks := B.notSynchronized
  have hst : l.stackTraces = false := by unfold Launch.stackTraces; rw [hfl]; decide +kernel
  have hA : ∀ a, MA tmC q a → MN tmC q sz a := fun _ h => Or.inl h
  have hsz : s.heap.size = sz := hsz0
  have hS : va_S (MN tmC q sz) s.heap s.heap [] := va_S.rf
  have w0 := hts (Cond.fieldLink RX3 19 "CoinRails" "history" "LCoinRails$History;") (List.mem_of_getElem? (i := 1) (by decide +kernel))
  have iX3 : ∀ w ∈ wsX30, w ∈ wsX3_setHome := fun _ h => List.mem_cons_of_mem _ (List.mem_append_left _ (List.mem_append_left _ (List.mem_append_left _ (List.mem_append_left _ (List.mem_append_right _ (h))))))
  have w2 := hts (Cond.fieldLink RX3 12 "CoinRails" "now" "LCoinRails$State;") (List.mem_of_getElem? (i := 2) (by decide +kernel))
  have w3 := hts (Cond.fieldLink RX3 57 "CoinRails$State" "home" "[I") (List.mem_of_getElem? (i := 3) (by decide +kernel))
  have iX2 : ∀ w ∈ wsX20, w ∈ wsX3_setHome := fun _ h => List.mem_cons_of_mem _ (List.mem_append_left _ (List.mem_append_left _ (List.mem_append_left _ (List.mem_append_right _ (h)))))
  subst hargs
  have hl := lv_entry ([.ref (q 0), .int p1, .int p2]) (n := 4) (Nat.le_of_ble_eq_true rfl)
  rw [lg_entry_eq]
  generalize (lg_sl ([.ref (q 0), .int p1, .int p2]) ++ List.replicate (4 - (lg_sl ([.ref (q 0), .int p1, .int p2])).length) Slot.unset).toArray = ls at hl ⊢
  have hl : lv_has ls 4 [(0, .ref (q 0)), (1, .int p1), (2, .int p2)] := hl
  have h := hs
  unfold sX3_setHome at h
  have hM0 := hM
  refine lv_aload_n hx hb dX3_setHome_0 rfl (lv_at hl 0 rfl) ?_
  refine lv_iload_n hx hb dX3_setHome_1 rfl (lv_at hl 1 rfl) ?_
  obtain ⟨r2, e2, h⟩ := othr_s h
  refine t_cV (vx_runV (As := [.int p1]) (rest := []) ⟨hx, hb, hml, hown, hts⟩ (kX3_checkKind l hfl D cI cR q G K p1 _ r2 e2) (cwV 1 hts gX3_setHome_X3_checkKind rfl rfl rfl (by decide +kernel) ⟨Nat.le_of_ble_eq_true rfl, Nat.le_of_ble_eq_true rfl⟩) (mPreVT hK hM hS hsz hth 0 rfl rfl) rfl rfl hl.1 rfl (lv_room (Nat.le_of_ble_eq_true rfl)) dX3_setHome_2 ⟨Nat.le_of_ble_eq_true rfl, Nat.le_of_ble_eq_true rfl⟩) hS hM hsz h hout hlocks (Nat.le_of_ble_eq_true rfl) (Nat.le_of_ble_eq_true rfl) (fun a2 H locs hM hS h => ?_)
  refine W.widen (k := 1) (n := 6) (Nat.le_of_ble_eq_true rfl) (Nat.le_of_ble_eq_true rfl) ?_
  refine lv_iload_n hx hb dX3_setHome_5 rfl (lv_at hl 2 rfl) ?_
  refine lv_iconst (v := 0) hx hb dX3_setHome_6 (by decide) ?_
  refine lv_iconst (v := 5) hx hb dX3_setHome_7 (by decide) ?_
  obtain ⟨r8, e8, h⟩ := othr_s h
  refine t_cV (vx_runS (As := [.int p2, .int (0 : Int32), .int (5 : Int32)]) (rest := []) ⟨hx, hb, hml, hown, hts⟩ (kX3_checkArgument l hfl D cI cR q G K p2 (0 : Int32) (5 : Int32) _ r8 e8) (va_cwS 3 hts gX3_setHome_X3_checkArgument rfl rfl rfl (by decide +kernel) ⟨Nat.le_of_ble_eq_true rfl, Nat.le_of_ble_eq_true rfl⟩) (mPreST hK hM hS hsz hth) rfl rfl hl.1 rfl (lv_room (Nat.le_of_ble_eq_true rfl)) dX3_setHome_8 ⟨Nat.le_of_ble_eq_true rfl, Nat.le_of_ble_eq_true rfl⟩) hS hM hsz h hout hlocks (Nat.le_of_ble_eq_true rfl) (Nat.le_of_ble_eq_true rfl) (fun a8 H locs hM hS h => ?_)
  refine W.widen (k := 2) (n := 12) (Nat.le_of_ble_eq_true rfl) (Nat.le_of_ble_eq_true rfl) ?_
  refine lv_aload_n hx hb dX3_setHome_11 rfl (lv_at hl 0 rfl) ?_
  refine k_getR (C := RX3) (T := TX3) (N := 3) hx hb hts iX3 hown hK hM 0 rfl rfl 1 (by decide) rfl w0 (fun _ h9 => h9) dX3_setHome_12 ?_
  refine lv_aload_n hx hb dX3_setHome_15 rfl (lv_at hl 0 rfl) ?_
  refine k_getR (C := RX3) (T := TX3) (N := 3) hx hb hts iX3 hown hK hM 0 rfl rfl 0 (by decide) rfl w2 (fun _ h9 => h9) dX3_setHome_16 ?_
  obtain ⟨r19, e19, h⟩ := bind_s h
  refine k_cVW (va_runV (As := [.ref (q 1)]) (rest := []) ⟨hx, hb, hml, hown, hts⟩ (kX1_save l D cI cR q G K hJ r19 e19) (cwV 1 hts gX3_setHome_X1_save rfl rfl rfl (by decide +kernel) ⟨Nat.le_of_ble_eq_true rfl, Nat.le_of_ble_eq_true rfl⟩) (mPreV hK hM 13 rfl rfl) rfl rfl hl.1 rfl (lv_room (Nat.le_of_ble_eq_true rfl)) dX3_setHome_19 ⟨Nat.le_of_ble_eq_true rfl, Nat.le_of_ble_eq_true rfl⟩) hS hA (fun H locs hM hS => ?_)
  refine lv_aload_n hx hb dX3_setHome_22 rfl (lv_at hl 0 rfl) ?_
  refine k_getR (C := RX3) (T := TX3) (N := 3) hx hb hts iX3 hown hK hM 0 rfl rfl 0 (by decide) rfl w2 (fun _ h9 => h9) dX3_setHome_23 ?_
  refine k_getR (C := RX2) (T := TX2) (N := 13) hx hb hts iX2 hown hK hM 1 rfl rfl 3 (by decide) rfl w3 (fun _ h9 => h9) dX3_setHome_26 ?_
  refine lv_iload_n hx hb dX3_setHome_29 rfl (lv_at hl 1 rfl) ?_
  obtain ⟨g30, h⟩ := grd_s h
  refine k_iald hx hb hK hM 4 rfl g30 dX3_setHome_30 ?_
  refine lv_istore_n (lv' := [(3, .int (r19 4 p1.toNatClampNeg)), (0, .ref (q 0)), (1, .int p1), (2, .int p2)]) hx hb dX3_setHome_31 rfl hl (by decide) rfl (fun ls hl => ?_)
  refine lv_aload_n hx hb dX3_setHome_32 rfl (lv_at hl 1 rfl) ?_
  refine k_getR (C := RX3) (T := TX3) (N := 3) hx hb hts iX3 hown hK hM 0 rfl rfl 0 (by decide) rfl w2 (fun _ h9 => h9) dX3_setHome_33 ?_
  refine k_getR (C := RX2) (T := TX2) (N := 13) hx hb hts iX2 hown hK hM 1 rfl rfl 3 (by decide) rfl w3 (fun _ h9 => h9) dX3_setHome_36 ?_
  refine lv_iload_n hx hb dX3_setHome_39 rfl (lv_at hl 2 rfl) ?_
  refine lv_iload_n hx hb dX3_setHome_40 rfl (lv_at hl 3 rfl) ?_
  obtain ⟨g41, h⟩ := grd_s h
  refine k_iast (v := p2) hx hb hK hM hJ hA hS 4 rfl g41 dX3_setHome_41 (fun H locs hM hS => ?_)
  obtain ⟨G43, eG43, h⟩ := olet_s h
  rw [eG43] at hM
  refine lv_iload_n hx hb dX3_setHome_42 rfl (lv_at hl 0 rfl) ?_
  refine W.widen (k := 2) (n := 12) (Nat.le_of_ble_eq_true rfl) (Nat.le_of_ble_eq_true rfl) ?_
  have h := Option.some.inj h
  exact vx_ret (W.iret (v := (r19 4 p1.toNatClampNeg)) hx hb hr (fun t ht hW => ⟨⟨(r19 4 p1.toNatClampNeg), G43, rfl, h.symm, w_end ht hM rfl⟩, hS.F ht⟩) hS.2.2 dX3_setHome_43)
set_option maxHeartbeats 4000000 in
set_option maxRecDepth 100000 in
theorem kX3_isRail (l : Launch) (D : va_G) (cI cR : ClassId) (q : Nat → Nat) (G : Nat → Nat → Int32) (K : Nat) (p1 : Int32) (r : Int32) (hs : sX3_isRail K G p1 = some r) : Met l yX3_isRail wsX3_isRail ({ frames := 0, cells := 0, slots := 0, locals := 0 } : Room) (mPre [.int p1] D cI cR q tmC G) (mI r) 0 0 (fun _ => False) := by
  refine Met.ofW (cc := cX3_isRail) (maxL := 1) (ret := (some .boolean)) (by decide) rfl ?_
  intro p e s m args below meth c s₁ B hml hv
  obtain ⟨hargs, hM, hK⟩ := hv
  have hx := B.exec
  have hb := B.bytes
  have hr := B.returns
  have hts := atoms_spec (ws := wsX3_isRail) B.pre
  have hown : s.vm.findClass RX3 = some m.cls := findClass_of_methodNamed B.named
  have hlocks := B.notSynchronized
  have hS : va_S (fun _ => False) s.heap s.heap [] := va_S.rf
  subst hargs
  have hl := lv_entry ([.int p1]) (n := 1) (Nat.le_of_ble_eq_true rfl)
  rw [lg_entry_eq]
  generalize (lg_sl ([.int p1]) ++ List.replicate (1 - (lg_sl ([.int p1])).length) Slot.unset).toArray = ls at hl ⊢
  have hl : lv_has ls 1 [(0, .int p1)] := hl
  have h := hs
  unfold sX3_isRail at h
  have hM0 := hM
  refine lv_iload_n hx hb dX3_isRail_0 rfl (lv_at hl 0 rfl) ?_
  refine lv_if_lt (tgt := 14) hx hb dX3_isRail_1 (by decide) (fun c1 => ?_) (fun c1 => ?_)
  · replace h := ite_t h c1
    refine lv_iconst (v := 0) hx hb dX3_isRail_14 (by decide) ?_
    exact W.zret (ty := .boolean) (v := (0 : Int32)) hx hb hr rfl (fun t ht hW => ⟨⟨(0 : Int32), (), rfl, Option.some.inj h, trivial⟩, hS.F ht⟩) hS.2.2 dX3_isRail_15
  · replace h := ite_f h c1
    refine lv_iload_n hx hb dX3_isRail_4 rfl (lv_at hl 0 rfl) ?_
    refine lv_bipush (v := 6) hx hb dX3_isRail_5 (by decide) ?_
    refine lv_icmp_ge (tgt := 14) hx hb dX3_isRail_7 (by decide) (fun c7 => ?_) (fun c7 => ?_)
    · replace h := ite_t h c7
      refine lv_iconst (v := 0) hx hb dX3_isRail_14 (by decide) ?_
      exact W.zret (ty := .boolean) (v := (0 : Int32)) hx hb hr rfl (fun t ht hW => ⟨⟨(0 : Int32), (), rfl, Option.some.inj h, trivial⟩, hS.F ht⟩) hS.2.2 dX3_isRail_15
    · replace h := ite_f h c7
      refine lv_iconst (v := 1) hx hb dX3_isRail_10 (by decide) ?_
      refine lv_goto (tgt := 15) hx hb dX3_isRail_11 (by decide) ?_
      exact W.zret (ty := .boolean) (v := (1 : Int32)) hx hb hr rfl (fun t ht hW => ⟨⟨(1 : Int32), (), rfl, Option.some.inj h, trivial⟩, hS.F ht⟩) hS.2.2 dX3_isRail_15
set_option maxHeartbeats 4000000 in
set_option maxRecDepth 100000 in
theorem kX3_checkRail (l : Launch) (hfl : l.flags = flags0) (D : va_G) (cI cR : ClassId) (q : Nat → Nat) (G : Nat → Nat → Int32) (K : Nat) (p1 : Int32) (sz : Nat) (r : (String ⊕ Unit)) (hs : sX3_checkRail K G p1 = some r) : vx_Met l yX3_checkRail wsX3_checkRail ({ frames := 6, cells := 1, slots := 6, locals := 90 } : Room) (mPreT [.int p1] D cI cR q tmC G sz) (tV D cI cR q tmC G r sz) (tX D cI cR q tmC G r sz) 1 6 (MN tmC q sz) := by
  refine vx_ofW (cc := cX3_checkRail) (maxL := 1) (ret := none) (by decide) rfl ?_
  intro p e s m args below meth c s₁ B hml hemp hv
  have hout : ∀ (k : Nat), ∀ x ∈ c.exceptionTable.toList, covers x k = false := fun k x hx => (hemp x hx).elim
  obtain ⟨hargs, hsz0, hM, hK, hth⟩ := hv
  have hx := B.exec
  have hb := B.bytes
  have hr := B.returns
  have hts := atoms_spec (ws := wsX3_checkRail) B.pre
  have hown : s.vm.findClass RX3 = some m.cls := findClass_of_methodNamed B.named
  have hlocks := B.notSynchronized
  have hst : l.stackTraces = false := by unfold Launch.stackTraces; rw [hfl]; decide +kernel
  have hA : ∀ a, MA tmC q a → MN tmC q sz a := fun _ h => Or.inl h
  have hsz : s.heap.size = sz := hsz0
  have hS : va_S (MN tmC q sz) s.heap s.heap [] := va_S.rf
  have w0 := hts (Cond.classLink RX3 175 "java/lang/IndexOutOfBoundsException") (List.mem_of_getElem? (i := 1) (by decide +kernel))
  have w1 := hts (Cond.initialized "java/lang/IndexOutOfBoundsException") (List.mem_of_getElem? (i := 2) (by decide +kernel))
  subst hargs
  have hl := lv_entry ([.int p1]) (n := 1) (Nat.le_of_ble_eq_true rfl)
  rw [lg_entry_eq]
  generalize (lg_sl ([.int p1]) ++ List.replicate (1 - (lg_sl ([.int p1])).length) Slot.unset).toArray = ls at hl ⊢
  have hl : lv_has ls 1 [(0, .int p1)] := hl
  have h := hs
  unfold sX3_checkRail at h
  have hM0 := hM
  refine lv_iload_n hx hb dX3_checkRail_0 rfl (lv_at hl 0 rfl) ?_
  obtain ⟨r1, e1, h⟩ := bind_s h
  refine k_cI (va_runS (As := [.int p1]) (rest := []) ⟨hx, hb, hml, hown, hts⟩ (kX3_isRail l D cI cR q G K p1 r1 e1) (va_cwS 1 hts gX3_checkRail_X3_isRail rfl rfl rfl (by decide +kernel) ⟨Nat.le_of_ble_eq_true rfl, Nat.le_of_ble_eq_true rfl⟩) (mPreS hK hM) rfl rfl hl.1 rfl (lv_room (Nat.le_of_ble_eq_true rfl)) dX3_checkRail_1 ⟨Nat.le_of_ble_eq_true rfl, Nat.le_of_ble_eq_true rfl⟩) hS hM (fun H locs hM hS => ?_)
  refine lv_if_ne (tgt := 17) hx hb dX3_checkRail_4 (by decide) (fun c4 => ?_) (fun c4 => ?_)
  · replace h := ite_f h c4
    refine W.widen (k := 1) (n := 6) (Nat.le_of_ble_eq_true rfl) (Nat.le_of_ble_eq_true rfl) ?_
    have h := Option.some.inj h
    exact vx_ret (W.vret hx hb hr (fun t ht hW => ⟨⟨(), rfl, h.symm, w_end ht hM rfl⟩, hS.F ht⟩) hS.2.2 dX3_checkRail_17)
  · replace h := ite_t h c4
    obtain ⟨sa7, hsa7⟩ := hth.2.2.1 (180, "no such rail") (by decide +kernel)
    refine t_throw (names := ["java/lang/RuntimeException", "java/lang/Exception"]) (text := "no such rail") hx hb hst hown (by decide +kernel) (by decide +kernel) w0 w1 hsa7 (vx_hat (fun w h => hts w (List.mem_cons_of_mem _ (List.mem_append_right _ (h)))) (by decide +kernel) (vx_c (va_Nw.use rfl (hth.2.2.2.1 "java/lang/IndexOutOfBoundsException" (by decide +kernel))) (vx_c (va_Nw.use rfl (hth.2.2.2.2 "java/lang/RuntimeException" (by decide +kernel))) (vx_c (va_Nw.use rfl (hth.2.2.2.2 "java/lang/Exception" (by decide +kernel))) (vx_c (va_Nw.use rfl (hth.2.2.2.2 Bundle.tN (by decide +kernel))) vx_n))))) (by decide +kernel) hth hsz hS (hl.1.trans hml.symm) dX3_checkRail_7 dX3_checkRail_10 dX3_checkRail_11 dX3_checkRail_13 dX3_checkRail_16 hout (Nat.le_of_ble_eq_true rfl) (Nat.le_of_ble_eq_true rfl) (Nat.le_of_ble_eq_true rfl) (Nat.le_of_ble_eq_true rfl) hlocks hM h (Nat.le_of_ble_eq_true rfl) (Nat.le_of_ble_eq_true rfl)
set_option maxHeartbeats 4000000 in
set_option maxRecDepth 100000 in
theorem kX3_setGap (l : Launch) (hfl : l.flags = flags0) (D : va_G) (cI cR : ClassId) (q : Nat → Nat) (G : Nat → Nat → Int32) (K : Nat) (p1 : Int32) (p2 : Int32) (hJ : MJ tmC q) (sz : Nat) (r : (String ⊕ (Int32 × (Nat → Nat → Int32)))) (hs : sX3_setGap K G p1 p2 = some r) : vx_Met l yX3_setGap wsX3_setGap ({ frames := 7, cells := 3, slots := 18, locals := 112 } : Room) (mPreT [.ref (q 0), .int p1, .int p2] D cI cR q tmC G sz) (tIW D cI cR q tmC r sz) (tX D cI cR q tmC G r sz) 3 18 (MN tmC q sz) := by
  refine vx_ofW (cc := cX3_setGap) (maxL := 4) (ret := (some .int)) (by decide) rfl ?_
  intro p e s m args below meth c s₁ B hml hemp hv
  have hout : ∀ (k : Nat), ∀ x ∈ c.exceptionTable.toList, covers x k = false := fun k x hx => (hemp x hx).elim
  obtain ⟨hargs, hsz0, hM, hK, hth⟩ := hv
  have hx := B.exec
  have hb := B.bytes
  have hr := B.returns
  have hts := atoms_spec (ws := wsX3_setGap) B.pre
  have hown : s.vm.findClass RX3 = some m.cls := findClass_of_methodNamed B.named
  have hlocks := B.notSynchronized
  have hst : l.stackTraces = false := by unfold Launch.stackTraces; rw [hfl]; decide +kernel
  have hA : ∀ a, MA tmC q a → MN tmC q sz a := fun _ h => Or.inl h
  have hsz : s.heap.size = sz := hsz0
  have hS : va_S (MN tmC q sz) s.heap s.heap [] := va_S.rf
  have w0 := hts (Cond.fieldLink RX3 12 "CoinRails" "now" "LCoinRails$State;") (List.mem_of_getElem? (i := 3) (by decide +kernel))
  have iX3 : ∀ w ∈ wsX30, w ∈ wsX3_setGap := fun _ h => List.mem_cons_of_mem _ (List.mem_append_left _ (List.mem_append_left _ (List.mem_append_left _ (List.mem_append_left _ (List.mem_append_left _ (List.mem_append_right _ (h)))))))
  have w2 := hts (Cond.fieldLink RX3 19 "CoinRails" "history" "LCoinRails$History;") (List.mem_of_getElem? (i := 4) (by decide +kernel))
  have w3 := hts (Cond.fieldLink RX3 70 "CoinRails$State" "gap" "[I") (List.mem_of_getElem? (i := 5) (by decide +kernel))
  have iX2 : ∀ w ∈ wsX20, w ∈ wsX3_setGap := fun _ h => List.mem_cons_of_mem _ (List.mem_append_left _ (List.mem_append_left _ (List.mem_append_left _ (List.mem_append_left _ (List.mem_append_right _ (h))))))
  have w5 := hts (Cond.fieldLink RX3 73 "CoinRails$State" "use" "[I") (List.mem_of_getElem? (i := 6) (by decide +kernel))
  have w6 := hts (Cond.classLink RX3 38 "java/lang/IllegalStateException") (List.mem_of_getElem? (i := 1) (by decide +kernel))
  have w7 := hts (Cond.initialized "java/lang/IllegalStateException") (List.mem_of_getElem? (i := 2) (by decide +kernel))
  subst hargs
  have hl := lv_entry ([.ref (q 0), .int p1, .int p2]) (n := 4) (Nat.le_of_ble_eq_true rfl)
  rw [lg_entry_eq]
  generalize (lg_sl ([.ref (q 0), .int p1, .int p2]) ++ List.replicate (4 - (lg_sl ([.ref (q 0), .int p1, .int p2])).length) Slot.unset).toArray = ls at hl ⊢
  have hl : lv_has ls 4 [(0, .ref (q 0)), (1, .int p1), (2, .int p2)] := hl
  have h := hs
  unfold sX3_setGap at h
  have hM0 := hM
  refine lv_iload_n hx hb dX3_setGap_0 rfl (lv_at hl 1 rfl) ?_
  obtain ⟨r1, e1, h⟩ := othr_s h
  refine t_cV (vx_runS (As := [.int p1]) (rest := []) ⟨hx, hb, hml, hown, hts⟩ (kX3_checkRail l hfl D cI cR q G K p1 _ r1 e1) (va_cwS 1 hts gX3_setGap_X3_checkRail rfl rfl rfl (by decide +kernel) ⟨Nat.le_of_ble_eq_true rfl, Nat.le_of_ble_eq_true rfl⟩) (mPreST hK hM hS hsz hth) rfl rfl hl.1 rfl (lv_room (Nat.le_of_ble_eq_true rfl)) dX3_setGap_1 ⟨Nat.le_of_ble_eq_true rfl, Nat.le_of_ble_eq_true rfl⟩) hS hM hsz h hout hlocks (Nat.le_of_ble_eq_true rfl) (Nat.le_of_ble_eq_true rfl) (fun a1 H locs hM hS h => ?_)
  refine W.widen (k := 1) (n := 6) (Nat.le_of_ble_eq_true rfl) (Nat.le_of_ble_eq_true rfl) ?_
  refine lv_iload_n hx hb dX3_setGap_4 rfl (lv_at hl 2 rfl) ?_
  refine lv_sipush (v := 900) hx hb dX3_setGap_5 (by decide) ?_
  refine lv_sipush (v := 4100) hx hb dX3_setGap_8 (by decide) ?_
  obtain ⟨r11, e11, h⟩ := othr_s h
  refine t_cV (vx_runS (As := [.int p2, .int (900 : Int32), .int (4100 : Int32)]) (rest := []) ⟨hx, hb, hml, hown, hts⟩ (kX3_checkArgument l hfl D cI cR q G K p2 (900 : Int32) (4100 : Int32) _ r11 e11) (va_cwS 3 hts gX3_setGap_X3_checkArgument rfl rfl rfl (by decide +kernel) ⟨Nat.le_of_ble_eq_true rfl, Nat.le_of_ble_eq_true rfl⟩) (mPreST hK hM hS hsz hth) rfl rfl hl.1 rfl (lv_room (Nat.le_of_ble_eq_true rfl)) dX3_setGap_11 ⟨Nat.le_of_ble_eq_true rfl, Nat.le_of_ble_eq_true rfl⟩) hS hM hsz h hout hlocks (Nat.le_of_ble_eq_true rfl) (Nat.le_of_ble_eq_true rfl) (fun a11 H locs hM hS h => ?_)
  refine W.widen (k := 2) (n := 12) (Nat.le_of_ble_eq_true rfl) (Nat.le_of_ble_eq_true rfl) ?_
  refine lv_aload_n hx hb dX3_setGap_14 rfl (lv_at hl 0 rfl) ?_
  refine k_getR (C := RX3) (T := TX3) (N := 3) hx hb hts iX3 hown hK hM 0 rfl rfl 0 (by decide) rfl w0 (fun _ h9 => h9) dX3_setGap_15 ?_
  refine lv_iload_n hx hb dX3_setGap_18 rfl (lv_at hl 1 rfl) ?_
  obtain ⟨r19, e19, h⟩ := bind_s h
  refine k_cI (va_runV (As := [.int p1]) (rest := []) ⟨hx, hb, hml, hown, hts⟩ (kX2_isStuck l D cI cR q G K p1 r19 e19) (cwV 1 hts gX3_setGap_X2_isStuck rfl rfl rfl (by decide +kernel) ⟨Nat.le_of_ble_eq_true rfl, Nat.le_of_ble_eq_true rfl⟩) (mPreV hK hM 1 rfl rfl) rfl rfl hl.1 rfl (lv_room (Nat.le_of_ble_eq_true rfl)) dX3_setGap_19 ⟨Nat.le_of_ble_eq_true rfl, Nat.le_of_ble_eq_true rfl⟩) hS hM (fun H locs hM hS => ?_)
  refine lv_if_eq (tgt := 35) hx hb dX3_setGap_22 (by decide) (fun c22 => ?_) (fun c22 => ?_)
  · replace h := ite_t h c22
    refine lv_aload_n hx hb dX3_setGap_35 rfl (lv_at hl 0 rfl) ?_
    refine k_getR (C := RX3) (T := TX3) (N := 3) hx hb hts iX3 hown hK hM 0 rfl rfl 1 (by decide) rfl w2 (fun _ h9 => h9) dX3_setGap_36 ?_
    refine lv_aload_n hx hb dX3_setGap_39 rfl (lv_at hl 0 rfl) ?_
    refine k_getR (C := RX3) (T := TX3) (N := 3) hx hb hts iX3 hown hK hM 0 rfl rfl 0 (by decide) rfl w0 (fun _ h9 => h9) dX3_setGap_40 ?_
    obtain ⟨r43, e43, h⟩ := bind_s h
    refine k_cVW (va_runV (As := [.ref (q 1)]) (rest := []) ⟨hx, hb, hml, hown, hts⟩ (kX1_save l D cI cR q G K hJ r43 e43) (cwV 1 hts gX3_setGap_X1_save rfl rfl rfl (by decide +kernel) ⟨Nat.le_of_ble_eq_true rfl, Nat.le_of_ble_eq_true rfl⟩) (mPreV hK hM 13 rfl rfl) rfl rfl hl.1 rfl (lv_room (Nat.le_of_ble_eq_true rfl)) dX3_setGap_43 ⟨Nat.le_of_ble_eq_true rfl, Nat.le_of_ble_eq_true rfl⟩) hS hA (fun H locs hM hS => ?_)
    refine lv_aload_n hx hb dX3_setGap_46 rfl (lv_at hl 0 rfl) ?_
    refine k_getR (C := RX3) (T := TX3) (N := 3) hx hb hts iX3 hown hK hM 0 rfl rfl 0 (by decide) rfl w0 (fun _ h9 => h9) dX3_setGap_47 ?_
    refine k_getR (C := RX2) (T := TX2) (N := 13) hx hb hts iX2 hown hK hM 1 rfl rfl 6 (by decide) rfl w3 (fun _ h9 => h9) dX3_setGap_50 ?_
    refine lv_iload_n hx hb dX3_setGap_53 rfl (lv_at hl 1 rfl) ?_
    obtain ⟨g54, h⟩ := grd_s h
    refine k_iald hx hb hK hM 7 rfl g54 dX3_setGap_54 ?_
    refine lv_istore_n (lv' := [(3, .int (r43 7 p1.toNatClampNeg)), (0, .ref (q 0)), (1, .int p1), (2, .int p2)]) hx hb dX3_setGap_55 rfl hl (by decide) rfl (fun ls hl => ?_)
    refine lv_aload_n hx hb dX3_setGap_56 rfl (lv_at hl 1 rfl) ?_
    refine k_getR (C := RX3) (T := TX3) (N := 3) hx hb hts iX3 hown hK hM 0 rfl rfl 0 (by decide) rfl w0 (fun _ h9 => h9) dX3_setGap_57 ?_
    refine k_getR (C := RX2) (T := TX2) (N := 13) hx hb hts iX2 hown hK hM 1 rfl rfl 6 (by decide) rfl w3 (fun _ h9 => h9) dX3_setGap_60 ?_
    refine lv_iload_n hx hb dX3_setGap_63 rfl (lv_at hl 2 rfl) ?_
    refine lv_iload_n hx hb dX3_setGap_64 rfl (lv_at hl 3 rfl) ?_
    obtain ⟨g65, h⟩ := grd_s h
    refine k_iast (v := p2) hx hb hK hM hJ hA hS 7 rfl g65 dX3_setGap_65 (fun H locs hM hS => ?_)
    obtain ⟨G67, eG67, h⟩ := olet_s h
    rw [eG67] at hM
    refine lv_aload_n hx hb dX3_setGap_66 rfl (lv_at hl 1 rfl) ?_
    refine k_getR (C := RX3) (T := TX3) (N := 3) hx hb hts iX3 hown hK hM 0 rfl rfl 0 (by decide) rfl w0 (fun _ h9 => h9) dX3_setGap_67 ?_
    refine k_getR (C := RX2) (T := TX2) (N := 13) hx hb hts iX2 hown hK hM 1 rfl rfl 7 (by decide) rfl w5 (fun _ h9 => h9) dX3_setGap_70 ?_
    refine lv_iload_n hx hb dX3_setGap_73 rfl (lv_at hl 2 rfl) ?_
    refine lv_iconst (v := 0) hx hb dX3_setGap_74 (by decide) ?_
    obtain ⟨g75, h⟩ := grd_s h
    refine k_iast (v := (0 : Int32)) hx hb hK hM hJ hA hS 8 rfl g75 dX3_setGap_75 (fun H locs hM hS => ?_)
    obtain ⟨G77, eG77, h⟩ := olet_s h
    rw [eG77] at hM
    refine lv_iload_n hx hb dX3_setGap_76 rfl (lv_at hl 0 rfl) ?_
    refine W.widen (k := 3) (n := 18) (Nat.le_of_ble_eq_true rfl) (Nat.le_of_ble_eq_true rfl) ?_
    have h := Option.some.inj h
    exact vx_ret (W.iret (v := (r43 7 p1.toNatClampNeg)) hx hb hr (fun t ht hW => ⟨⟨(r43 7 p1.toNatClampNeg), G77, rfl, h.symm, w_end ht hM rfl⟩, hS.F ht⟩) hS.2.2 dX3_setGap_77)
  · replace h := ite_f h c22
    obtain ⟨sa25, hsa25⟩ := hth.2.2.1 (68, "the rail is stuck") (by decide +kernel)
    refine t_throw (names := ["java/lang/RuntimeException", "java/lang/Exception"]) (text := "the rail is stuck") hx hb hst hown (by decide +kernel) (by decide +kernel) w6 w7 hsa25 (vx_hat (fun w h => hts w (List.mem_cons_of_mem _ (List.mem_append_left _ (List.mem_append_left _ (List.mem_append_right _ (h)))))) (by decide +kernel) (vx_c (va_Nw.use rfl (hth.2.2.2.1 "java/lang/IllegalStateException" (by decide +kernel))) (vx_c (va_Nw.use rfl (hth.2.2.2.2 "java/lang/RuntimeException" (by decide +kernel))) (vx_c (va_Nw.use rfl (hth.2.2.2.2 "java/lang/Exception" (by decide +kernel))) (vx_c (va_Nw.use rfl (hth.2.2.2.2 Bundle.tN (by decide +kernel))) vx_n))))) (by decide +kernel) hth hsz hS (hl.1.trans hml.symm) dX3_setGap_25 dX3_setGap_28 dX3_setGap_29 dX3_setGap_31 dX3_setGap_34 hout (Nat.le_of_ble_eq_true rfl) (Nat.le_of_ble_eq_true rfl) (Nat.le_of_ble_eq_true rfl) (Nat.le_of_ble_eq_true rfl) hlocks hM h (Nat.le_of_ble_eq_true rfl) (Nat.le_of_ble_eq_true rfl)
set_option maxHeartbeats 4000000 in
set_option maxRecDepth 100000 in
theorem kX3_feed (l : Launch) (hfl : l.flags = flags0) (D : va_G) (cI cR : ClassId) (q : Nat → Nat) (G : Nat → Nat → Int32) (K : Nat) (p1 : Int32) (p2 : Int32) (hJ : MJ tmC q) (sz : Nat) (r : (String ⊕ (Int32 × (Nat → Nat → Int32)))) (hs : sX3_feed K G p1 p2 = some r) : vx_Met l yX3_feed wsX3_feed ({ frames := 7, cells := 2, slots := 12, locals := 112 } : Room) (mPreT [.ref (q 0), .int p1, .int p2] D cI cR q tmC G sz) (tIW D cI cR q tmC r sz) (tX D cI cR q tmC G r sz) 2 12 (MN tmC q sz) := by
  refine vx_ofW (cc := cX3_feed) (maxL := 3) (ret := (some .int)) (by decide) rfl ?_
  intro p e s m args below meth c s₁ B hml hemp hv
  have hout : ∀ (k : Nat), ∀ x ∈ c.exceptionTable.toList, covers x k = false := fun k x hx => (hemp x hx).elim
  obtain ⟨hargs, hsz0, hM, hK, hth⟩ := hv
  have hx := B.exec
  have hb := B.bytes
  have hr := B.returns
  have hts := atoms_spec (ws := wsX3_feed) B.pre
  have hown : s.vm.findClass RX3 = some m.cls := findClass_of_methodNamed B.named
  have hlocks := B.notSynchronized
  have hst : l.stackTraces = false := by unfold Launch.stackTraces; rw [hfl]; decide +kernel
  have hA : ∀ a, MA tmC q a → MN tmC q sz a := fun _ h => Or.inl h
  have hsz : s.heap.size = sz := hsz0
  have hS : va_S (MN tmC q sz) s.heap s.heap [] := va_S.rf
  have w0 := hts (Cond.fieldLink RX3 19 "CoinRails" "history" "LCoinRails$History;") (List.mem_of_getElem? (i := 1) (by decide +kernel))
  have iX3 : ∀ w ∈ wsX30, w ∈ wsX3_feed := fun _ h => List.mem_cons_of_mem _ (List.mem_append_left _ (List.mem_append_left _ (List.mem_append_left _ (List.mem_append_left _ (List.mem_append_right _ (h))))))
  have w2 := hts (Cond.fieldLink RX3 12 "CoinRails" "now" "LCoinRails$State;") (List.mem_of_getElem? (i := 2) (by decide +kernel))
  subst hargs
  have hl := lv_entry ([.ref (q 0), .int p1, .int p2]) (n := 3) (Nat.le_of_ble_eq_true rfl)
  rw [lg_entry_eq]
  generalize (lg_sl ([.ref (q 0), .int p1, .int p2]) ++ List.replicate (3 - (lg_sl ([.ref (q 0), .int p1, .int p2])).length) Slot.unset).toArray = ls at hl ⊢
  have hl : lv_has ls 3 [(0, .ref (q 0)), (1, .int p1), (2, .int p2)] := hl
  have h := hs
  unfold sX3_feed at h
  have hM0 := hM
  refine lv_aload_n hx hb dX3_feed_0 rfl (lv_at hl 0 rfl) ?_
  refine lv_iload_n hx hb dX3_feed_1 rfl (lv_at hl 1 rfl) ?_
  obtain ⟨r2, e2, h⟩ := othr_s h
  refine t_cV (vx_runV (As := [.int p1]) (rest := []) ⟨hx, hb, hml, hown, hts⟩ (kX3_checkKind l hfl D cI cR q G K p1 _ r2 e2) (cwV 1 hts gX3_feed_X3_checkKind rfl rfl rfl (by decide +kernel) ⟨Nat.le_of_ble_eq_true rfl, Nat.le_of_ble_eq_true rfl⟩) (mPreVT hK hM hS hsz hth 0 rfl rfl) rfl rfl hl.1 rfl (lv_room (Nat.le_of_ble_eq_true rfl)) dX3_feed_2 ⟨Nat.le_of_ble_eq_true rfl, Nat.le_of_ble_eq_true rfl⟩) hS hM hsz h hout hlocks (Nat.le_of_ble_eq_true rfl) (Nat.le_of_ble_eq_true rfl) (fun a2 H locs hM hS h => ?_)
  refine W.widen (k := 1) (n := 6) (Nat.le_of_ble_eq_true rfl) (Nat.le_of_ble_eq_true rfl) ?_
  refine lv_iload_n hx hb dX3_feed_5 rfl (lv_at hl 2 rfl) ?_
  refine lv_iconst (v := 0) hx hb dX3_feed_6 (by decide) ?_
  refine lv_sipush (v := 999) hx hb dX3_feed_7 (by decide) ?_
  obtain ⟨r10, e10, h⟩ := othr_s h
  refine t_cV (vx_runS (As := [.int p2, .int (0 : Int32), .int (999 : Int32)]) (rest := []) ⟨hx, hb, hml, hown, hts⟩ (kX3_checkArgument l hfl D cI cR q G K p2 (0 : Int32) (999 : Int32) _ r10 e10) (va_cwS 3 hts gX3_feed_X3_checkArgument rfl rfl rfl (by decide +kernel) ⟨Nat.le_of_ble_eq_true rfl, Nat.le_of_ble_eq_true rfl⟩) (mPreST hK hM hS hsz hth) rfl rfl hl.1 rfl (lv_room (Nat.le_of_ble_eq_true rfl)) dX3_feed_10 ⟨Nat.le_of_ble_eq_true rfl, Nat.le_of_ble_eq_true rfl⟩) hS hM hsz h hout hlocks (Nat.le_of_ble_eq_true rfl) (Nat.le_of_ble_eq_true rfl) (fun a10 H locs hM hS h => ?_)
  refine W.widen (k := 2) (n := 12) (Nat.le_of_ble_eq_true rfl) (Nat.le_of_ble_eq_true rfl) ?_
  refine lv_aload_n hx hb dX3_feed_13 rfl (lv_at hl 0 rfl) ?_
  refine k_getR (C := RX3) (T := TX3) (N := 3) hx hb hts iX3 hown hK hM 0 rfl rfl 1 (by decide) rfl w0 (fun _ h9 => h9) dX3_feed_14 ?_
  refine lv_aload_n hx hb dX3_feed_17 rfl (lv_at hl 0 rfl) ?_
  refine k_getR (C := RX3) (T := TX3) (N := 3) hx hb hts iX3 hown hK hM 0 rfl rfl 0 (by decide) rfl w2 (fun _ h9 => h9) dX3_feed_18 ?_
  obtain ⟨r21, e21, h⟩ := bind_s h
  refine k_cVW (va_runV (As := [.ref (q 1)]) (rest := []) ⟨hx, hb, hml, hown, hts⟩ (kX1_save l D cI cR q G K hJ r21 e21) (cwV 1 hts gX3_feed_X1_save rfl rfl rfl (by decide +kernel) ⟨Nat.le_of_ble_eq_true rfl, Nat.le_of_ble_eq_true rfl⟩) (mPreV hK hM 13 rfl rfl) rfl rfl hl.1 rfl (lv_room (Nat.le_of_ble_eq_true rfl)) dX3_feed_21 ⟨Nat.le_of_ble_eq_true rfl, Nat.le_of_ble_eq_true rfl⟩) hS hA (fun H locs hM hS => ?_)
  refine lv_aload_n hx hb dX3_feed_24 rfl (lv_at hl 0 rfl) ?_
  refine k_getR (C := RX3) (T := TX3) (N := 3) hx hb hts iX3 hown hK hM 0 rfl rfl 0 (by decide) rfl w2 (fun _ h9 => h9) dX3_feed_25 ?_
  refine lv_iload_n hx hb dX3_feed_28 rfl (lv_at hl 1 rfl) ?_
  refine lv_iload_n hx hb dX3_feed_29 rfl (lv_at hl 2 rfl) ?_
  obtain ⟨r30, e30, h⟩ := bind_s h
  refine k_cIW (va_runV (As := [.int p1, .int p2]) (rest := []) ⟨hx, hb, hml, hown, hts⟩ (kX2_putCoin l D cI cR q r21 K p1 p2 hJ r30 e30) (cwV 2 hts gX3_feed_X2_putCoin rfl rfl rfl (by decide +kernel) ⟨Nat.le_of_ble_eq_true rfl, Nat.le_of_ble_eq_true rfl⟩) (mPreV hK hM 1 rfl rfl) rfl rfl hl.1 rfl (lv_room (Nat.le_of_ble_eq_true rfl)) dX3_feed_30 ⟨Nat.le_of_ble_eq_true rfl, Nat.le_of_ble_eq_true rfl⟩) hS hA (fun H locs hM hS => ?_)
  refine W.widen (k := 2) (n := 12) (Nat.le_of_ble_eq_true rfl) (Nat.le_of_ble_eq_true rfl) ?_
  have h := Option.some.inj h
  exact vx_ret (W.iret (v := r30.1) hx hb hr (fun t ht hW => ⟨⟨r30.1, r30.2, rfl, h.symm, w_end ht hM rfl⟩, hS.F ht⟩) hS.2.2 dX3_feed_33)
set_option maxHeartbeats 4000000 in
set_option maxRecDepth 100000 in
theorem kX3_feedSome (l : Launch) (hfl : l.flags = flags0) (D : va_G) (cI cR : ClassId) (q : Nat → Nat) (G : Nat → Nat → Int32) (K : Nat) (p1 : Int32) (p2 : Int32) (hJ : MJ tmC q) (sz : Nat) (r : (String ⊕ (Int32 × (Nat → Nat → Int32)))) (hs : sX3_feedSome K G p1 p2 = some r) : vx_Met l yX3_feedSome wsX3_feedSome ({ frames := 7, cells := 3, slots := 18, locals := 121 } : Room) (mPreT [.ref (q 0), .int p1, .int p2] D cI cR q tmC G sz) (tIW D cI cR q tmC r sz) (tX D cI cR q tmC G r sz) 3 18 (MN tmC q sz) := by
  refine vx_ofW (cc := cX3_feedSome) (maxL := 3) (ret := (some .int)) (by decide) rfl ?_
  intro p e s m args below meth c s₁ B hml hemp hv
  have hout : ∀ (k : Nat), ∀ x ∈ c.exceptionTable.toList, covers x k = false := fun k x hx => (hemp x hx).elim
  obtain ⟨hargs, hsz0, hM, hK, hth⟩ := hv
  have hx := B.exec
  have hb := B.bytes
  have hr := B.returns
  have hts := atoms_spec (ws := wsX3_feedSome) B.pre
  have hown : s.vm.findClass RX3 = some m.cls := findClass_of_methodNamed B.named
  have hlocks := B.notSynchronized
  have hst : l.stackTraces = false := by unfold Launch.stackTraces; rw [hfl]; decide +kernel
  have hA : ∀ a, MA tmC q a → MN tmC q sz a := fun _ h => Or.inl h
  have hsz : s.heap.size = sz := hsz0
  have hS : va_S (MN tmC q sz) s.heap s.heap [] := va_S.rf
  have w0 := hts (Cond.constant RX3 80 (999999)) (List.mem_of_getElem? (i := 3) (by decide +kernel))
  have w1 := hts (Cond.fieldLink RX3 12 "CoinRails" "now" "LCoinRails$State;") (List.mem_of_getElem? (i := 4) (by decide +kernel))
  have iX3 : ∀ w ∈ wsX30, w ∈ wsX3_feedSome := fun _ h => List.mem_cons_of_mem _ (List.mem_append_left _ (List.mem_append_left _ (List.mem_append_left _ (List.mem_append_left _ (List.mem_append_right _ (h))))))
  have w3 := hts (Cond.fieldLink RX3 34 "CoinRails$State" "kinds" "I") (List.mem_of_getElem? (i := 5) (by decide +kernel))
  have iX2 : ∀ w ∈ wsX20, w ∈ wsX3_feedSome := fun _ h => List.mem_cons_of_mem _ (List.mem_append_left _ (List.mem_append_left _ (List.mem_append_left _ (List.mem_append_right _ (h)))))
  have w5 := hts (Cond.fieldLink RX3 19 "CoinRails" "history" "LCoinRails$History;") (List.mem_of_getElem? (i := 6) (by decide +kernel))
  have w6 := hts (Cond.classLink RX3 38 "java/lang/IllegalStateException") (List.mem_of_getElem? (i := 1) (by decide +kernel))
  have w7 := hts (Cond.initialized "java/lang/IllegalStateException") (List.mem_of_getElem? (i := 2) (by decide +kernel))
  subst hargs
  have hl := lv_entry ([.ref (q 0), .int p1, .int p2]) (n := 3) (Nat.le_of_ble_eq_true rfl)
  rw [lg_entry_eq]
  generalize (lg_sl ([.ref (q 0), .int p1, .int p2]) ++ List.replicate (3 - (lg_sl ([.ref (q 0), .int p1, .int p2])).length) Slot.unset).toArray = ls at hl ⊢
  have hl : lv_has ls 3 [(0, .ref (q 0)), (1, .int p1), (2, .int p2)] := hl
  have h := hs
  unfold sX3_feedSome at h
  have hM0 := hM
  refine lv_iload_n hx hb dX3_feedSome_0 rfl (lv_at hl 1 rfl) ?_
  refine lv_iconst (v := 0) hx hb dX3_feedSome_1 (by decide) ?_
  refine lv_sipush (v := 200) hx hb dX3_feedSome_2 (by decide) ?_
  obtain ⟨r5, e5, h⟩ := othr_s h
  refine t_cV (vx_runS (As := [.int p1, .int (0 : Int32), .int (200 : Int32)]) (rest := []) ⟨hx, hb, hml, hown, hts⟩ (kX3_checkArgument l hfl D cI cR q G K p1 (0 : Int32) (200 : Int32) _ r5 e5) (va_cwS 3 hts gX3_feedSome_X3_checkArgument rfl rfl rfl (by decide +kernel) ⟨Nat.le_of_ble_eq_true rfl, Nat.le_of_ble_eq_true rfl⟩) (mPreST hK hM hS hsz hth) rfl rfl hl.1 rfl (lv_room (Nat.le_of_ble_eq_true rfl)) dX3_feedSome_5 ⟨Nat.le_of_ble_eq_true rfl, Nat.le_of_ble_eq_true rfl⟩) hS hM hsz h hout hlocks (Nat.le_of_ble_eq_true rfl) (Nat.le_of_ble_eq_true rfl) (fun a5 H locs hM hS h => ?_)
  refine W.widen (k := 1) (n := 6) (Nat.le_of_ble_eq_true rfl) (Nat.le_of_ble_eq_true rfl) ?_
  refine lv_iload_n hx hb dX3_feedSome_8 rfl (lv_at hl 2 rfl) ?_
  refine lv_iconst (v := 0) hx hb dX3_feedSome_9 (by decide) ?_
  refine lv_ldc hx hb hown w0 dX3_feedSome_10 ?_
  obtain ⟨r12, e12, h⟩ := othr_s h
  refine t_cV (vx_runS (As := [.int p2, .int (0 : Int32), .int (999999 : Int32)]) (rest := []) ⟨hx, hb, hml, hown, hts⟩ (kX3_checkArgument l hfl D cI cR q G K p2 (0 : Int32) (999999 : Int32) _ r12 e12) (va_cwS 3 hts gX3_feedSome_X3_checkArgument rfl rfl rfl (by decide +kernel) ⟨Nat.le_of_ble_eq_true rfl, Nat.le_of_ble_eq_true rfl⟩) (mPreST hK hM hS hsz hth) rfl rfl hl.1 rfl (lv_room (Nat.le_of_ble_eq_true rfl)) dX3_feedSome_12 ⟨Nat.le_of_ble_eq_true rfl, Nat.le_of_ble_eq_true rfl⟩) hS hM hsz h hout hlocks (Nat.le_of_ble_eq_true rfl) (Nat.le_of_ble_eq_true rfl) (fun a12 H locs hM hS h => ?_)
  refine W.widen (k := 2) (n := 12) (Nat.le_of_ble_eq_true rfl) (Nat.le_of_ble_eq_true rfl) ?_
  refine lv_aload_n hx hb dX3_feedSome_15 rfl (lv_at hl 0 rfl) ?_
  refine k_getR (C := RX3) (T := TX3) (N := 3) hx hb hts iX3 hown hK hM 0 rfl rfl 0 (by decide) rfl w1 (fun _ h9 => h9) dX3_feedSome_16 ?_
  refine k_getI (C := RX2) (T := TX2) (N := 13) hx hb hts iX2 hown hK hM 1 rfl rfl 0 (by decide) rfl w3 (fun _ h9 => h9) dX3_feedSome_19 ?_
  refine lv_if_ne (tgt := 35) hx hb dX3_feedSome_22 (by decide) (fun c22 => ?_) (fun c22 => ?_)
  · replace h := ite_f h c22
    refine lv_aload_n hx hb dX3_feedSome_35 rfl (lv_at hl 0 rfl) ?_
    refine k_getR (C := RX3) (T := TX3) (N := 3) hx hb hts iX3 hown hK hM 0 rfl rfl 1 (by decide) rfl w5 (fun _ h9 => h9) dX3_feedSome_36 ?_
    refine lv_aload_n hx hb dX3_feedSome_39 rfl (lv_at hl 0 rfl) ?_
    refine k_getR (C := RX3) (T := TX3) (N := 3) hx hb hts iX3 hown hK hM 0 rfl rfl 0 (by decide) rfl w1 (fun _ h9 => h9) dX3_feedSome_40 ?_
    obtain ⟨r43, e43, h⟩ := bind_s h
    refine k_cVW (va_runV (As := [.ref (q 1)]) (rest := []) ⟨hx, hb, hml, hown, hts⟩ (kX1_save l D cI cR q G K hJ r43 e43) (cwV 1 hts gX3_feedSome_X1_save rfl rfl rfl (by decide +kernel) ⟨Nat.le_of_ble_eq_true rfl, Nat.le_of_ble_eq_true rfl⟩) (mPreV hK hM 13 rfl rfl) rfl rfl hl.1 rfl (lv_room (Nat.le_of_ble_eq_true rfl)) dX3_feedSome_43 ⟨Nat.le_of_ble_eq_true rfl, Nat.le_of_ble_eq_true rfl⟩) hS hA (fun H locs hM hS => ?_)
    refine lv_aload_n hx hb dX3_feedSome_46 rfl (lv_at hl 0 rfl) ?_
    refine k_getR (C := RX3) (T := TX3) (N := 3) hx hb hts iX3 hown hK hM 0 rfl rfl 0 (by decide) rfl w1 (fun _ h9 => h9) dX3_feedSome_47 ?_
    refine lv_iload_n hx hb dX3_feedSome_50 rfl (lv_at hl 1 rfl) ?_
    refine lv_iload_n hx hb dX3_feedSome_51 rfl (lv_at hl 2 rfl) ?_
    obtain ⟨r52, e52, h⟩ := bind_s h
    refine k_cIW (va_runV (As := [.int p1, .int p2]) (rest := []) ⟨hx, hb, hml, hown, hts⟩ (kX2_putCoinsByChance l D cI cR q r43 K p1 p2 hJ r52 e52) (cwV 2 hts gX3_feedSome_X2_putCoinsByChance rfl rfl rfl (by decide +kernel) ⟨Nat.le_of_ble_eq_true rfl, Nat.le_of_ble_eq_true rfl⟩) (mPreV hK hM 1 rfl rfl) rfl rfl hl.1 rfl (lv_room (Nat.le_of_ble_eq_true rfl)) dX3_feedSome_52 ⟨Nat.le_of_ble_eq_true rfl, Nat.le_of_ble_eq_true rfl⟩) hS hA (fun H locs hM hS => ?_)
    refine W.widen (k := 3) (n := 18) (Nat.le_of_ble_eq_true rfl) (Nat.le_of_ble_eq_true rfl) ?_
    have h := Option.some.inj h
    exact vx_ret (W.iret (v := r52.1) hx hb hr (fun t ht hW => ⟨⟨r52.1, r52.2, rfl, h.symm, w_end ht hM rfl⟩, hS.F ht⟩) hS.2.2 dX3_feedSome_55)
  · replace h := ite_t h c22
    obtain ⟨sa25, hsa25⟩ := hth.2.2.1 (81, "there are no kinds") (by decide +kernel)
    refine t_throw (names := ["java/lang/RuntimeException", "java/lang/Exception"]) (text := "there are no kinds") hx hb hst hown (by decide +kernel) (by decide +kernel) w6 w7 hsa25 (vx_hat (fun w h => hts w (List.mem_cons_of_mem _ (List.mem_append_left _ (List.mem_append_right _ (h))))) (by decide +kernel) (vx_c (va_Nw.use rfl (hth.2.2.2.1 "java/lang/IllegalStateException" (by decide +kernel))) (vx_c (va_Nw.use rfl (hth.2.2.2.2 "java/lang/RuntimeException" (by decide +kernel))) (vx_c (va_Nw.use rfl (hth.2.2.2.2 "java/lang/Exception" (by decide +kernel))) (vx_c (va_Nw.use rfl (hth.2.2.2.2 Bundle.tN (by decide +kernel))) vx_n))))) (by decide +kernel) hth hsz hS (hl.1.trans hml.symm) dX3_feedSome_25 dX3_feedSome_28 dX3_feedSome_29 dX3_feedSome_31 dX3_feedSome_34 hout (Nat.le_of_ble_eq_true rfl) (Nat.le_of_ble_eq_true rfl) (Nat.le_of_ble_eq_true rfl) (Nat.le_of_ble_eq_true rfl) hlocks hM h (Nat.le_of_ble_eq_true rfl) (Nat.le_of_ble_eq_true rfl)
set_option maxHeartbeats 4000000 in
set_option maxRecDepth 100000 in
theorem kX3_free (l : Launch) (hfl : l.flags = flags0) (D : va_G) (cI cR : ClassId) (q : Nat → Nat) (G : Nat → Nat → Int32) (K : Nat) (p1 : Int32) (hJ : MJ tmC q) (sz : Nat) (r : (String ⊕ (Int32 × (Nat → Nat → Int32)))) (hs : sX3_free K G p1 = some r) : vx_Met l yX3_free wsX3_free ({ frames := 7, cells := 2, slots := 12, locals := 110 } : Room) (mPreT [.ref (q 0), .int p1] D cI cR q tmC G sz) (tIW D cI cR q tmC r sz) (tX D cI cR q tmC G r sz) 2 12 (MN tmC q sz) := by
  refine vx_ofW (cc := cX3_free) (maxL := 2) (ret := (some .int)) (by decide) rfl ?_
  intro p e s m args below meth c s₁ B hml hemp hv
  have hout : ∀ (k : Nat), ∀ x ∈ c.exceptionTable.toList, covers x k = false := fun k x hx => (hemp x hx).elim
  obtain ⟨hargs, hsz0, hM, hK, hth⟩ := hv
  have hx := B.exec
  have hb := B.bytes
  have hr := B.returns
  have hts := atoms_spec (ws := wsX3_free) B.pre
  have hown : s.vm.findClass RX3 = some m.cls := findClass_of_methodNamed B.named
  have hlocks := B.notSynchronized
  have hst : l.stackTraces = false := by unfold Launch.stackTraces; rw [hfl]; decide +kernel
  have hA : ∀ a, MA tmC q a → MN tmC q sz a := fun _ h => Or.inl h
  have hsz : s.heap.size = sz := hsz0
  have hS : va_S (MN tmC q sz) s.heap s.heap [] := va_S.rf
  have w0 := hts (Cond.fieldLink RX3 12 "CoinRails" "now" "LCoinRails$State;") (List.mem_of_getElem? (i := 3) (by decide +kernel))
  have iX3 : ∀ w ∈ wsX30, w ∈ wsX3_free := fun _ h => List.mem_cons_of_mem _ (List.mem_append_left _ (List.mem_append_left _ (List.mem_append_left _ (List.mem_append_left _ (List.mem_append_right _ (h))))))
  have w2 := hts (Cond.fieldLink RX3 19 "CoinRails" "history" "LCoinRails$History;") (List.mem_of_getElem? (i := 4) (by decide +kernel))
  have w3 := hts (Cond.classLink RX3 38 "java/lang/IllegalStateException") (List.mem_of_getElem? (i := 1) (by decide +kernel))
  have w4 := hts (Cond.initialized "java/lang/IllegalStateException") (List.mem_of_getElem? (i := 2) (by decide +kernel))
  subst hargs
  have hl := lv_entry ([.ref (q 0), .int p1]) (n := 2) (Nat.le_of_ble_eq_true rfl)
  rw [lg_entry_eq]
  generalize (lg_sl ([.ref (q 0), .int p1]) ++ List.replicate (2 - (lg_sl ([.ref (q 0), .int p1])).length) Slot.unset).toArray = ls at hl ⊢
  have hl : lv_has ls 2 [(0, .ref (q 0)), (1, .int p1)] := hl
  have h := hs
  unfold sX3_free at h
  have hM0 := hM
  refine lv_iload_n hx hb dX3_free_0 rfl (lv_at hl 1 rfl) ?_
  obtain ⟨r1, e1, h⟩ := othr_s h
  refine t_cV (vx_runS (As := [.int p1]) (rest := []) ⟨hx, hb, hml, hown, hts⟩ (kX3_checkRail l hfl D cI cR q G K p1 _ r1 e1) (va_cwS 1 hts gX3_free_X3_checkRail rfl rfl rfl (by decide +kernel) ⟨Nat.le_of_ble_eq_true rfl, Nat.le_of_ble_eq_true rfl⟩) (mPreST hK hM hS hsz hth) rfl rfl hl.1 rfl (lv_room (Nat.le_of_ble_eq_true rfl)) dX3_free_1 ⟨Nat.le_of_ble_eq_true rfl, Nat.le_of_ble_eq_true rfl⟩) hS hM hsz h hout hlocks (Nat.le_of_ble_eq_true rfl) (Nat.le_of_ble_eq_true rfl) (fun a1 H locs hM hS h => ?_)
  refine W.widen (k := 1) (n := 6) (Nat.le_of_ble_eq_true rfl) (Nat.le_of_ble_eq_true rfl) ?_
  refine lv_aload_n hx hb dX3_free_4 rfl (lv_at hl 0 rfl) ?_
  refine k_getR (C := RX3) (T := TX3) (N := 3) hx hb hts iX3 hown hK hM 0 rfl rfl 0 (by decide) rfl w0 (fun _ h9 => h9) dX3_free_5 ?_
  refine lv_iload_n hx hb dX3_free_8 rfl (lv_at hl 1 rfl) ?_
  obtain ⟨r9, e9, h⟩ := bind_s h
  refine k_cI (va_runV (As := [.int p1]) (rest := []) ⟨hx, hb, hml, hown, hts⟩ (kX2_isStuck l D cI cR q G K p1 r9 e9) (cwV 1 hts gX3_free_X2_isStuck rfl rfl rfl (by decide +kernel) ⟨Nat.le_of_ble_eq_true rfl, Nat.le_of_ble_eq_true rfl⟩) (mPreV hK hM 1 rfl rfl) rfl rfl hl.1 rfl (lv_room (Nat.le_of_ble_eq_true rfl)) dX3_free_9 ⟨Nat.le_of_ble_eq_true rfl, Nat.le_of_ble_eq_true rfl⟩) hS hM (fun H locs hM hS => ?_)
  refine lv_if_ne (tgt := 25) hx hb dX3_free_12 (by decide) (fun c12 => ?_) (fun c12 => ?_)
  · replace h := ite_f h c12
    refine lv_aload_n hx hb dX3_free_25 rfl (lv_at hl 0 rfl) ?_
    refine k_getR (C := RX3) (T := TX3) (N := 3) hx hb hts iX3 hown hK hM 0 rfl rfl 1 (by decide) rfl w2 (fun _ h9 => h9) dX3_free_26 ?_
    refine lv_aload_n hx hb dX3_free_29 rfl (lv_at hl 0 rfl) ?_
    refine k_getR (C := RX3) (T := TX3) (N := 3) hx hb hts iX3 hown hK hM 0 rfl rfl 0 (by decide) rfl w0 (fun _ h9 => h9) dX3_free_30 ?_
    obtain ⟨r33, e33, h⟩ := bind_s h
    refine k_cVW (va_runV (As := [.ref (q 1)]) (rest := []) ⟨hx, hb, hml, hown, hts⟩ (kX1_save l D cI cR q G K hJ r33 e33) (cwV 1 hts gX3_free_X1_save rfl rfl rfl (by decide +kernel) ⟨Nat.le_of_ble_eq_true rfl, Nat.le_of_ble_eq_true rfl⟩) (mPreV hK hM 13 rfl rfl) rfl rfl hl.1 rfl (lv_room (Nat.le_of_ble_eq_true rfl)) dX3_free_33 ⟨Nat.le_of_ble_eq_true rfl, Nat.le_of_ble_eq_true rfl⟩) hS hA (fun H locs hM hS => ?_)
    refine lv_aload_n hx hb dX3_free_36 rfl (lv_at hl 0 rfl) ?_
    refine k_getR (C := RX3) (T := TX3) (N := 3) hx hb hts iX3 hown hK hM 0 rfl rfl 0 (by decide) rfl w0 (fun _ h9 => h9) dX3_free_37 ?_
    refine lv_iload_n hx hb dX3_free_40 rfl (lv_at hl 1 rfl) ?_
    obtain ⟨r41, e41, h⟩ := bind_s h
    refine k_cIW (va_runV (As := [.int p1]) (rest := []) ⟨hx, hb, hml, hown, hts⟩ (kX2_loosen l D cI cR q r33 K p1 hJ r41 e41) (cwV 1 hts gX3_free_X2_loosen rfl rfl rfl (by decide +kernel) ⟨Nat.le_of_ble_eq_true rfl, Nat.le_of_ble_eq_true rfl⟩) (mPreV hK hM 1 rfl rfl) rfl rfl hl.1 rfl (lv_room (Nat.le_of_ble_eq_true rfl)) dX3_free_41 ⟨Nat.le_of_ble_eq_true rfl, Nat.le_of_ble_eq_true rfl⟩) hS hA (fun H locs hM hS => ?_)
    refine W.widen (k := 2) (n := 12) (Nat.le_of_ble_eq_true rfl) (Nat.le_of_ble_eq_true rfl) ?_
    have h := Option.some.inj h
    exact vx_ret (W.iret (v := r41.1) hx hb hr (fun t ht hW => ⟨⟨r41.1, r41.2, rfl, h.symm, w_end ht hM rfl⟩, hS.F ht⟩) hS.2.2 dX3_free_44)
  · replace h := ite_t h c12
    obtain ⟨sa15, hsa15⟩ := hth.2.2.1 (86, "the rail is not stuck") (by decide +kernel)
    refine t_throw (names := ["java/lang/RuntimeException", "java/lang/Exception"]) (text := "the rail is not stuck") hx hb hst hown (by decide +kernel) (by decide +kernel) w3 w4 hsa15 (vx_hat (fun w h => hts w (List.mem_cons_of_mem _ (List.mem_append_left _ (List.mem_append_right _ (h))))) (by decide +kernel) (vx_c (va_Nw.use rfl (hth.2.2.2.1 "java/lang/IllegalStateException" (by decide +kernel))) (vx_c (va_Nw.use rfl (hth.2.2.2.2 "java/lang/RuntimeException" (by decide +kernel))) (vx_c (va_Nw.use rfl (hth.2.2.2.2 "java/lang/Exception" (by decide +kernel))) (vx_c (va_Nw.use rfl (hth.2.2.2.2 Bundle.tN (by decide +kernel))) vx_n))))) (by decide +kernel) hth hsz hS (hl.1.trans hml.symm) dX3_free_15 dX3_free_18 dX3_free_19 dX3_free_21 dX3_free_24 hout (Nat.le_of_ble_eq_true rfl) (Nat.le_of_ble_eq_true rfl) (Nat.le_of_ble_eq_true rfl) (Nat.le_of_ble_eq_true rfl) hlocks hM h (Nat.le_of_ble_eq_true rfl) (Nat.le_of_ble_eq_true rfl)
set_option maxHeartbeats 4000000 in
set_option maxRecDepth 100000 in
theorem kX3_takeBag (l : Launch) (hfl : l.flags = flags0) (D : va_G) (cI cR : ClassId) (q : Nat → Nat) (G : Nat → Nat → Int32) (K : Nat) (p1 : Int32) (hJ : MJ tmC q) (sz : Nat) (r : (String ⊕ (Int32 × (Nat → Nat → Int32)))) (hs : sX3_takeBag K G p1 = some r) : vx_Met l yX3_takeBag wsX3_takeBag ({ frames := 7, cells := 1, slots := 6, locals := 110 } : Room) (mPreT [.ref (q 0), .int p1] D cI cR q tmC G sz) (tIW D cI cR q tmC r sz) (tX D cI cR q tmC G r sz) 1 6 (MN tmC q sz) := by
  refine vx_ofW (cc := cX3_takeBag) (maxL := 2) (ret := (some .int)) (by decide) rfl ?_
  intro p e s m args below meth c s₁ B hml hemp hv
  have hout : ∀ (k : Nat), ∀ x ∈ c.exceptionTable.toList, covers x k = false := fun k x hx => (hemp x hx).elim
  obtain ⟨hargs, hsz0, hM, hK, hth⟩ := hv
  have hx := B.exec
  have hb := B.bytes
  have hr := B.returns
  have hts := atoms_spec (ws := wsX3_takeBag) B.pre
  have hown : s.vm.findClass RX3 = some m.cls := findClass_of_methodNamed B.named
  have hlocks := B.notSynchronized
  have hst : l.stackTraces = false := by unfold Launch.stackTraces; rw [hfl]; decide +kernel
  have hA : ∀ a, MA tmC q a → MN tmC q sz a := fun _ h => Or.inl h
  have hsz : s.heap.size = sz := hsz0
  have hS : va_S (MN tmC q sz) s.heap s.heap [] := va_S.rf
  have w0 := hts (Cond.fieldLink RX3 19 "CoinRails" "history" "LCoinRails$History;") (List.mem_of_getElem? (i := 1) (by decide +kernel))
  have iX3 : ∀ w ∈ wsX30, w ∈ wsX3_takeBag := fun _ h => List.mem_cons_of_mem _ (List.mem_append_left _ (List.mem_append_left _ (List.mem_append_left _ (List.mem_append_right _ (h)))))
  have w2 := hts (Cond.fieldLink RX3 12 "CoinRails" "now" "LCoinRails$State;") (List.mem_of_getElem? (i := 2) (by decide +kernel))
  subst hargs
  have hl := lv_entry ([.ref (q 0), .int p1]) (n := 2) (Nat.le_of_ble_eq_true rfl)
  rw [lg_entry_eq]
  generalize (lg_sl ([.ref (q 0), .int p1]) ++ List.replicate (2 - (lg_sl ([.ref (q 0), .int p1])).length) Slot.unset).toArray = ls at hl ⊢
  have hl : lv_has ls 2 [(0, .ref (q 0)), (1, .int p1)] := hl
  have h := hs
  unfold sX3_takeBag at h
  have hM0 := hM
  refine lv_iload_n hx hb dX3_takeBag_0 rfl (lv_at hl 1 rfl) ?_
  obtain ⟨r1, e1, h⟩ := othr_s h
  refine t_cV (vx_runS (As := [.int p1]) (rest := []) ⟨hx, hb, hml, hown, hts⟩ (kX3_checkRail l hfl D cI cR q G K p1 _ r1 e1) (va_cwS 1 hts gX3_takeBag_X3_checkRail rfl rfl rfl (by decide +kernel) ⟨Nat.le_of_ble_eq_true rfl, Nat.le_of_ble_eq_true rfl⟩) (mPreST hK hM hS hsz hth) rfl rfl hl.1 rfl (lv_room (Nat.le_of_ble_eq_true rfl)) dX3_takeBag_1 ⟨Nat.le_of_ble_eq_true rfl, Nat.le_of_ble_eq_true rfl⟩) hS hM hsz h hout hlocks (Nat.le_of_ble_eq_true rfl) (Nat.le_of_ble_eq_true rfl) (fun a1 H locs hM hS h => ?_)
  refine W.widen (k := 1) (n := 6) (Nat.le_of_ble_eq_true rfl) (Nat.le_of_ble_eq_true rfl) ?_
  refine lv_aload_n hx hb dX3_takeBag_4 rfl (lv_at hl 0 rfl) ?_
  refine k_getR (C := RX3) (T := TX3) (N := 3) hx hb hts iX3 hown hK hM 0 rfl rfl 1 (by decide) rfl w0 (fun _ h9 => h9) dX3_takeBag_5 ?_
  refine lv_aload_n hx hb dX3_takeBag_8 rfl (lv_at hl 0 rfl) ?_
  refine k_getR (C := RX3) (T := TX3) (N := 3) hx hb hts iX3 hown hK hM 0 rfl rfl 0 (by decide) rfl w2 (fun _ h9 => h9) dX3_takeBag_9 ?_
  obtain ⟨r12, e12, h⟩ := bind_s h
  refine k_cVW (va_runV (As := [.ref (q 1)]) (rest := []) ⟨hx, hb, hml, hown, hts⟩ (kX1_save l D cI cR q G K hJ r12 e12) (cwV 1 hts gX3_takeBag_X1_save rfl rfl rfl (by decide +kernel) ⟨Nat.le_of_ble_eq_true rfl, Nat.le_of_ble_eq_true rfl⟩) (mPreV hK hM 13 rfl rfl) rfl rfl hl.1 rfl (lv_room (Nat.le_of_ble_eq_true rfl)) dX3_takeBag_12 ⟨Nat.le_of_ble_eq_true rfl, Nat.le_of_ble_eq_true rfl⟩) hS hA (fun H locs hM hS => ?_)
  refine lv_aload_n hx hb dX3_takeBag_15 rfl (lv_at hl 0 rfl) ?_
  refine k_getR (C := RX3) (T := TX3) (N := 3) hx hb hts iX3 hown hK hM 0 rfl rfl 0 (by decide) rfl w2 (fun _ h9 => h9) dX3_takeBag_16 ?_
  refine lv_iload_n hx hb dX3_takeBag_19 rfl (lv_at hl 1 rfl) ?_
  obtain ⟨r20, e20, h⟩ := bind_s h
  refine k_cIW (va_runV (As := [.int p1]) (rest := []) ⟨hx, hb, hml, hown, hts⟩ (kX2_emptyBag l D cI cR q r12 K p1 hJ r20 e20) (cwV 1 hts gX3_takeBag_X2_emptyBag rfl rfl rfl (by decide +kernel) ⟨Nat.le_of_ble_eq_true rfl, Nat.le_of_ble_eq_true rfl⟩) (mPreV hK hM 1 rfl rfl) rfl rfl hl.1 rfl (lv_room (Nat.le_of_ble_eq_true rfl)) dX3_takeBag_20 ⟨Nat.le_of_ble_eq_true rfl, Nat.le_of_ble_eq_true rfl⟩) hS hA (fun H locs hM hS => ?_)
  refine W.widen (k := 1) (n := 6) (Nat.le_of_ble_eq_true rfl) (Nat.le_of_ble_eq_true rfl) ?_
  have h := Option.some.inj h
  exact vx_ret (W.iret (v := r20.1) hx hb hr (fun t ht hW => ⟨⟨r20.1, r20.2, rfl, h.symm, w_end ht hM rfl⟩, hS.F ht⟩) hS.2.2 dX3_takeBag_23)
set_option maxHeartbeats 4000000 in
set_option maxRecDepth 100000 in
theorem kX3_takeRejects (l : Launch) (D : va_G) (cI cR : ClassId) (q : Nat → Nat) (G : Nat → Nat → Int32) (K : Nat) (hJ : MJ tmC q) (r : (Int32 × (Nat → Nat → Int32))) (hs : sX3_takeRejects K G  = some r) : Met l yX3_takeRejects wsX3_takeRejects ({ frames := 3, cells := 0, slots := 0, locals := 110 } : Room) (mPre [.ref (q 0)] D cI cR q tmC G) (mIW D cI cR q tmC r) 0 0 (MA tmC q) := by
  refine Met.ofW (cc := cX3_takeRejects) (maxL := 1) (ret := (some .int)) (by decide) rfl ?_
  intro p e s m args below meth c s₁ B hml hv
  obtain ⟨hargs, hM, hK⟩ := hv
  have hx := B.exec
  have hb := B.bytes
  have hr := B.returns
  have hts := atoms_spec (ws := wsX3_takeRejects) B.pre
  have hown : s.vm.findClass RX3 = some m.cls := findClass_of_methodNamed B.named
  have hlocks := B.notSynchronized
  have hA : ∀ a, MA tmC q a → MA tmC q a := fun _ h => h
  have hS : va_S (MA tmC q) s.heap s.heap [] := va_S.rf
  have w0 := hts (Cond.fieldLink RX3 19 "CoinRails" "history" "LCoinRails$History;") (List.mem_of_getElem? (i := 1) (by decide +kernel))
  have iX3 : ∀ w ∈ wsX30, w ∈ wsX3_takeRejects := fun _ h => List.mem_cons_of_mem _ (List.mem_append_left _ (List.mem_append_left _ (List.mem_append_right _ (h))))
  have w2 := hts (Cond.fieldLink RX3 12 "CoinRails" "now" "LCoinRails$State;") (List.mem_of_getElem? (i := 2) (by decide +kernel))
  subst hargs
  have hl := lv_entry ([.ref (q 0)]) (n := 1) (Nat.le_of_ble_eq_true rfl)
  rw [lg_entry_eq]
  generalize (lg_sl ([.ref (q 0)]) ++ List.replicate (1 - (lg_sl ([.ref (q 0)])).length) Slot.unset).toArray = ls at hl ⊢
  have hl : lv_has ls 1 [(0, .ref (q 0))] := hl
  have h := hs
  unfold sX3_takeRejects at h
  have hM0 := hM
  refine lv_aload_n hx hb dX3_takeRejects_0 rfl (lv_at hl 0 rfl) ?_
  refine k_getR (C := RX3) (T := TX3) (N := 3) hx hb hts iX3 hown hK hM 0 rfl rfl 1 (by decide) rfl w0 (fun _ h9 => h9) dX3_takeRejects_1 ?_
  refine lv_aload_n hx hb dX3_takeRejects_4 rfl (lv_at hl 0 rfl) ?_
  refine k_getR (C := RX3) (T := TX3) (N := 3) hx hb hts iX3 hown hK hM 0 rfl rfl 0 (by decide) rfl w2 (fun _ h9 => h9) dX3_takeRejects_5 ?_
  obtain ⟨r8, e8, h⟩ := bind_s h
  refine k_cVW (va_runV (As := [.ref (q 1)]) (rest := []) ⟨hx, hb, hml, hown, hts⟩ (kX1_save l D cI cR q G K hJ r8 e8) (cwV 1 hts gX3_takeRejects_X1_save rfl rfl rfl (by decide +kernel) ⟨Nat.le_of_ble_eq_true rfl, Nat.le_of_ble_eq_true rfl⟩) (mPreV hK hM 13 rfl rfl) rfl rfl hl.1 rfl (lv_room (Nat.le_of_ble_eq_true rfl)) dX3_takeRejects_8 ⟨Nat.le_of_ble_eq_true rfl, Nat.le_of_ble_eq_true rfl⟩) hS hA (fun H locs hM hS => ?_)
  refine lv_aload_n hx hb dX3_takeRejects_11 rfl (lv_at hl 0 rfl) ?_
  refine k_getR (C := RX3) (T := TX3) (N := 3) hx hb hts iX3 hown hK hM 0 rfl rfl 0 (by decide) rfl w2 (fun _ h9 => h9) dX3_takeRejects_12 ?_
  obtain ⟨r15, e15, h⟩ := bind_s h
  refine k_cIW (va_runV (As := []) (rest := []) ⟨hx, hb, hml, hown, hts⟩ (kX2_removeRejects l D cI cR q r8 K hJ r15 e15) (cwV 0 hts gX3_takeRejects_X2_removeRejects rfl rfl rfl (by decide +kernel) ⟨Nat.le_of_ble_eq_true rfl, Nat.le_of_ble_eq_true rfl⟩) (mPreV hK hM 1 rfl rfl) rfl rfl hl.1 rfl (lv_room (Nat.le_of_ble_eq_true rfl)) dX3_takeRejects_15 ⟨Nat.le_of_ble_eq_true rfl, Nat.le_of_ble_eq_true rfl⟩) hS hA (fun H locs hM hS => ?_)
  have h := Option.some.inj h
  exact W.iret (v := r15.1) hx hb hr (fun t ht hW => ⟨⟨r15.1, (), rfl, p_fst h, w_end ht hM (p_snd h)⟩, hS.F ht⟩) hS.2.2 dX3_takeRejects_18
set_option maxHeartbeats 4000000 in
set_option maxRecDepth 100000 in
theorem kX3_kind (l : Launch) (hfl : l.flags = flags0) (D : va_G) (cI cR : ClassId) (q : Nat → Nat) (G : Nat → Nat → Int32) (K : Nat) (p1 : Int32) (p2 : Int32) (sz : Nat) (r : (String ⊕ Int32)) (hs : sX3_kind K G p1 p2 = some r) : vx_Met l yX3_kind wsX3_kind ({ frames := 7, cells := 2, slots := 12, locals := 112 } : Room) (mPreT [.ref (q 0), .int p1, .int p2] D cI cR q tmC G sz) (tI D cI cR q tmC G r sz) (tX D cI cR q tmC G r sz) 2 12 (MN tmC q sz) := by
  refine vx_ofW (cc := cX3_kind) (maxL := 3) (ret := (some .int)) (by decide) rfl ?_
  intro p e s m args below meth c s₁ B hml hemp hv
  have hout : ∀ (k : Nat), ∀ x ∈ c.exceptionTable.toList, covers x k = false := fun k x hx => (hemp x hx).elim
  obtain ⟨hargs, hsz0, hM, hK, hth⟩ := hv
  have hx := B.exec
  have hb := B.bytes
  have hr := B.returns
  have hts := atoms_spec (ws := wsX3_kind) B.pre
  have hown : s.vm.findClass RX3 = some m.cls := findClass_of_methodNamed B.named
  have hlocks := B.notSynchronized
  have hst : l.stackTraces = false := by unfold Launch.stackTraces; rw [hfl]; decide +kernel
  have hA : ∀ a, MA tmC q a → MN tmC q sz a := fun _ h => Or.inl h
  have hsz : s.heap.size = sz := hsz0
  have hS : va_S (MN tmC q sz) s.heap s.heap [] := va_S.rf
  have w0 := hts (Cond.fieldLink RX3 12 "CoinRails" "now" "LCoinRails$State;") (List.mem_of_getElem? (i := 1) (by decide +kernel))
  have iX3 : ∀ w ∈ wsX30, w ∈ wsX3_kind := fun _ h => List.mem_cons_of_mem _ (List.mem_append_left _ (List.mem_append_left _ (List.mem_append_left _ (List.mem_append_right _ (h)))))
  subst hargs
  have hl := lv_entry ([.ref (q 0), .int p1, .int p2]) (n := 3) (Nat.le_of_ble_eq_true rfl)
  rw [lg_entry_eq]
  generalize (lg_sl ([.ref (q 0), .int p1, .int p2]) ++ List.replicate (3 - (lg_sl ([.ref (q 0), .int p1, .int p2])).length) Slot.unset).toArray = ls at hl ⊢
  have hl : lv_has ls 3 [(0, .ref (q 0)), (1, .int p1), (2, .int p2)] := hl
  have h := hs
  unfold sX3_kind at h
  have hM0 := hM
  refine lv_aload_n hx hb dX3_kind_0 rfl (lv_at hl 0 rfl) ?_
  refine lv_iload_n hx hb dX3_kind_1 rfl (lv_at hl 1 rfl) ?_
  obtain ⟨r2, e2, h⟩ := othr_s h
  refine t_cV (vx_runV (As := [.int p1]) (rest := []) ⟨hx, hb, hml, hown, hts⟩ (kX3_checkKind l hfl D cI cR q G K p1 _ r2 e2) (cwV 1 hts gX3_kind_X3_checkKind rfl rfl rfl (by decide +kernel) ⟨Nat.le_of_ble_eq_true rfl, Nat.le_of_ble_eq_true rfl⟩) (mPreVT hK hM hS hsz hth 0 rfl rfl) rfl rfl hl.1 rfl (lv_room (Nat.le_of_ble_eq_true rfl)) dX3_kind_2 ⟨Nat.le_of_ble_eq_true rfl, Nat.le_of_ble_eq_true rfl⟩) hS hM hsz h hout hlocks (Nat.le_of_ble_eq_true rfl) (Nat.le_of_ble_eq_true rfl) (fun a2 H locs hM hS h => ?_)
  refine W.widen (k := 1) (n := 6) (Nat.le_of_ble_eq_true rfl) (Nat.le_of_ble_eq_true rfl) ?_
  refine lv_iload_n hx hb dX3_kind_5 rfl (lv_at hl 2 rfl) ?_
  refine lv_iconst (v := 0) hx hb dX3_kind_6 (by decide) ?_
  refine lv_bipush (v := 6) hx hb dX3_kind_7 (by decide) ?_
  obtain ⟨r9, e9, h⟩ := othr_s h
  refine t_cV (vx_runS (As := [.int p2, .int (0 : Int32), .int (6 : Int32)]) (rest := []) ⟨hx, hb, hml, hown, hts⟩ (kX3_checkArgument l hfl D cI cR q G K p2 (0 : Int32) (6 : Int32) _ r9 e9) (va_cwS 3 hts gX3_kind_X3_checkArgument rfl rfl rfl (by decide +kernel) ⟨Nat.le_of_ble_eq_true rfl, Nat.le_of_ble_eq_true rfl⟩) (mPreST hK hM hS hsz hth) rfl rfl hl.1 rfl (lv_room (Nat.le_of_ble_eq_true rfl)) dX3_kind_9 ⟨Nat.le_of_ble_eq_true rfl, Nat.le_of_ble_eq_true rfl⟩) hS hM hsz h hout hlocks (Nat.le_of_ble_eq_true rfl) (Nat.le_of_ble_eq_true rfl) (fun a9 H locs hM hS h => ?_)
  refine W.widen (k := 2) (n := 12) (Nat.le_of_ble_eq_true rfl) (Nat.le_of_ble_eq_true rfl) ?_
  refine lv_aload_n hx hb dX3_kind_12 rfl (lv_at hl 0 rfl) ?_
  refine k_getR (C := RX3) (T := TX3) (N := 3) hx hb hts iX3 hown hK hM 0 rfl rfl 0 (by decide) rfl w0 (fun _ h9 => h9) dX3_kind_13 ?_
  refine lv_iload_n hx hb dX3_kind_16 rfl (lv_at hl 1 rfl) ?_
  refine lv_iload_n hx hb dX3_kind_17 rfl (lv_at hl 2 rfl) ?_
  obtain ⟨r18, e18, h⟩ := bind_s h
  refine k_cI (va_runV (As := [.int p1, .int p2]) (rest := []) ⟨hx, hb, hml, hown, hts⟩ (kX2_aboutKind l D cI cR q G K p1 p2 r18 e18) (cwV 2 hts gX3_kind_X2_aboutKind rfl rfl rfl (by decide +kernel) ⟨Nat.le_of_ble_eq_true rfl, Nat.le_of_ble_eq_true rfl⟩) (mPreV hK hM 1 rfl rfl) rfl rfl hl.1 rfl (lv_room (Nat.le_of_ble_eq_true rfl)) dX3_kind_18 ⟨Nat.le_of_ble_eq_true rfl, Nat.le_of_ble_eq_true rfl⟩) hS hM (fun H locs hM hS => ?_)
  refine W.widen (k := 2) (n := 12) (Nat.le_of_ble_eq_true rfl) (Nat.le_of_ble_eq_true rfl) ?_
  have h := Option.some.inj h
  exact vx_ret (W.iret (v := r18) hx hb hr (fun t ht hW => ⟨⟨r18, (), rfl, h.symm, w_end ht hM rfl⟩, hS.F ht⟩) hS.2.2 dX3_kind_21)
set_option maxHeartbeats 4000000 in
set_option maxRecDepth 100000 in
theorem kX3_rail (l : Launch) (hfl : l.flags = flags0) (D : va_G) (cI cR : ClassId) (q : Nat → Nat) (G : Nat → Nat → Int32) (K : Nat) (p1 : Int32) (p2 : Int32) (sz : Nat) (r : (String ⊕ Int32)) (hs : sX3_rail K G p1 p2 = some r) : vx_Met l yX3_rail wsX3_rail ({ frames := 7, cells := 2, slots := 12, locals := 112 } : Room) (mPreT [.ref (q 0), .int p1, .int p2] D cI cR q tmC G sz) (tI D cI cR q tmC G r sz) (tX D cI cR q tmC G r sz) 2 12 (MN tmC q sz) := by
  refine vx_ofW (cc := cX3_rail) (maxL := 3) (ret := (some .int)) (by decide) rfl ?_
  intro p e s m args below meth c s₁ B hml hemp hv
  have hout : ∀ (k : Nat), ∀ x ∈ c.exceptionTable.toList, covers x k = false := fun k x hx => (hemp x hx).elim
  obtain ⟨hargs, hsz0, hM, hK, hth⟩ := hv
  have hx := B.exec
  have hb := B.bytes
  have hr := B.returns
  have hts := atoms_spec (ws := wsX3_rail) B.pre
  have hown : s.vm.findClass RX3 = some m.cls := findClass_of_methodNamed B.named
  have hlocks := B.notSynchronized
  have hst : l.stackTraces = false := by unfold Launch.stackTraces; rw [hfl]; decide +kernel
  have hA : ∀ a, MA tmC q a → MN tmC q sz a := fun _ h => Or.inl h
  have hsz : s.heap.size = sz := hsz0
  have hS : va_S (MN tmC q sz) s.heap s.heap [] := va_S.rf
  have w0 := hts (Cond.fieldLink RX3 12 "CoinRails" "now" "LCoinRails$State;") (List.mem_of_getElem? (i := 1) (by decide +kernel))
  have iX3 : ∀ w ∈ wsX30, w ∈ wsX3_rail := fun _ h => List.mem_cons_of_mem _ (List.mem_append_left _ (List.mem_append_left _ (List.mem_append_left _ (List.mem_append_right _ (h)))))
  subst hargs
  have hl := lv_entry ([.ref (q 0), .int p1, .int p2]) (n := 3) (Nat.le_of_ble_eq_true rfl)
  rw [lg_entry_eq]
  generalize (lg_sl ([.ref (q 0), .int p1, .int p2]) ++ List.replicate (3 - (lg_sl ([.ref (q 0), .int p1, .int p2])).length) Slot.unset).toArray = ls at hl ⊢
  have hl : lv_has ls 3 [(0, .ref (q 0)), (1, .int p1), (2, .int p2)] := hl
  have h := hs
  unfold sX3_rail at h
  have hM0 := hM
  refine lv_iload_n hx hb dX3_rail_0 rfl (lv_at hl 1 rfl) ?_
  obtain ⟨r1, e1, h⟩ := othr_s h
  refine t_cV (vx_runS (As := [.int p1]) (rest := []) ⟨hx, hb, hml, hown, hts⟩ (kX3_checkRail l hfl D cI cR q G K p1 _ r1 e1) (va_cwS 1 hts gX3_rail_X3_checkRail rfl rfl rfl (by decide +kernel) ⟨Nat.le_of_ble_eq_true rfl, Nat.le_of_ble_eq_true rfl⟩) (mPreST hK hM hS hsz hth) rfl rfl hl.1 rfl (lv_room (Nat.le_of_ble_eq_true rfl)) dX3_rail_1 ⟨Nat.le_of_ble_eq_true rfl, Nat.le_of_ble_eq_true rfl⟩) hS hM hsz h hout hlocks (Nat.le_of_ble_eq_true rfl) (Nat.le_of_ble_eq_true rfl) (fun a1 H locs hM hS h => ?_)
  refine W.widen (k := 1) (n := 6) (Nat.le_of_ble_eq_true rfl) (Nat.le_of_ble_eq_true rfl) ?_
  refine lv_iload_n hx hb dX3_rail_4 rfl (lv_at hl 2 rfl) ?_
  refine lv_iconst (v := 0) hx hb dX3_rail_5 (by decide) ?_
  refine lv_bipush (v := 9) hx hb dX3_rail_6 (by decide) ?_
  obtain ⟨r8, e8, h⟩ := othr_s h
  refine t_cV (vx_runS (As := [.int p2, .int (0 : Int32), .int (9 : Int32)]) (rest := []) ⟨hx, hb, hml, hown, hts⟩ (kX3_checkArgument l hfl D cI cR q G K p2 (0 : Int32) (9 : Int32) _ r8 e8) (va_cwS 3 hts gX3_rail_X3_checkArgument rfl rfl rfl (by decide +kernel) ⟨Nat.le_of_ble_eq_true rfl, Nat.le_of_ble_eq_true rfl⟩) (mPreST hK hM hS hsz hth) rfl rfl hl.1 rfl (lv_room (Nat.le_of_ble_eq_true rfl)) dX3_rail_8 ⟨Nat.le_of_ble_eq_true rfl, Nat.le_of_ble_eq_true rfl⟩) hS hM hsz h hout hlocks (Nat.le_of_ble_eq_true rfl) (Nat.le_of_ble_eq_true rfl) (fun a8 H locs hM hS h => ?_)
  refine W.widen (k := 2) (n := 12) (Nat.le_of_ble_eq_true rfl) (Nat.le_of_ble_eq_true rfl) ?_
  refine lv_aload_n hx hb dX3_rail_11 rfl (lv_at hl 0 rfl) ?_
  refine k_getR (C := RX3) (T := TX3) (N := 3) hx hb hts iX3 hown hK hM 0 rfl rfl 0 (by decide) rfl w0 (fun _ h9 => h9) dX3_rail_12 ?_
  refine lv_iload_n hx hb dX3_rail_15 rfl (lv_at hl 1 rfl) ?_
  refine lv_iload_n hx hb dX3_rail_16 rfl (lv_at hl 2 rfl) ?_
  obtain ⟨r17, e17, h⟩ := bind_s h
  refine k_cI (va_runV (As := [.int p1, .int p2]) (rest := []) ⟨hx, hb, hml, hown, hts⟩ (kX2_aboutRail l D cI cR q G K p1 p2 r17 e17) (cwV 2 hts gX3_rail_X2_aboutRail rfl rfl rfl (by decide +kernel) ⟨Nat.le_of_ble_eq_true rfl, Nat.le_of_ble_eq_true rfl⟩) (mPreV hK hM 1 rfl rfl) rfl rfl hl.1 rfl (lv_room (Nat.le_of_ble_eq_true rfl)) dX3_rail_17 ⟨Nat.le_of_ble_eq_true rfl, Nat.le_of_ble_eq_true rfl⟩) hS hM (fun H locs hM hS => ?_)
  refine W.widen (k := 2) (n := 12) (Nat.le_of_ble_eq_true rfl) (Nat.le_of_ble_eq_true rfl) ?_
  have h := Option.some.inj h
  exact vx_ret (W.iret (v := r17) hx hb hr (fun t ht hW => ⟨⟨r17, (), rfl, h.symm, w_end ht hM rfl⟩, hS.F ht⟩) hS.2.2 dX3_rail_20)
set_option maxHeartbeats 4000000 in
set_option maxRecDepth 100000 in
theorem kX3_count (l : Launch) (hfl : l.flags = flags0) (D : va_G) (cI cR : ClassId) (q : Nat → Nat) (G : Nat → Nat → Int32) (K : Nat) (p1 : Int32) (p2 : Int32) (sz : Nat) (r : (String ⊕ Int32)) (hs : sX3_count K G p1 p2 = some r) : vx_Met l yX3_count wsX3_count ({ frames := 7, cells := 2, slots := 12, locals := 111 } : Room) (mPreT [.ref (q 0), .int p1, .int p2] D cI cR q tmC G sz) (tI D cI cR q tmC G r sz) (tX D cI cR q tmC G r sz) 2 12 (MN tmC q sz) := by
  refine vx_ofW (cc := cX3_count) (maxL := 3) (ret := (some .int)) (by decide) rfl ?_
  intro p e s m args below meth c s₁ B hml hemp hv
  have hout : ∀ (k : Nat), ∀ x ∈ c.exceptionTable.toList, covers x k = false := fun k x hx => (hemp x hx).elim
  obtain ⟨hargs, hsz0, hM, hK, hth⟩ := hv
  have hx := B.exec
  have hb := B.bytes
  have hr := B.returns
  have hts := atoms_spec (ws := wsX3_count) B.pre
  have hown : s.vm.findClass RX3 = some m.cls := findClass_of_methodNamed B.named
  have hlocks := B.notSynchronized
  have hst : l.stackTraces = false := by unfold Launch.stackTraces; rw [hfl]; decide +kernel
  have hA : ∀ a, MA tmC q a → MN tmC q sz a := fun _ h => Or.inl h
  have hsz : s.heap.size = sz := hsz0
  have hS : va_S (MN tmC q sz) s.heap s.heap [] := va_S.rf
  have w0 := hts (Cond.fieldLink RX3 12 "CoinRails" "now" "LCoinRails$State;") (List.mem_of_getElem? (i := 1) (by decide +kernel))
  have iX3 : ∀ w ∈ wsX30, w ∈ wsX3_count := fun _ h => List.mem_cons_of_mem _ (List.mem_append_left _ (List.mem_append_left _ (List.mem_append_right _ (h))))
  subst hargs
  have hl := lv_entry ([.ref (q 0), .int p1, .int p2]) (n := 3) (Nat.le_of_ble_eq_true rfl)
  rw [lg_entry_eq]
  generalize (lg_sl ([.ref (q 0), .int p1, .int p2]) ++ List.replicate (3 - (lg_sl ([.ref (q 0), .int p1, .int p2])).length) Slot.unset).toArray = ls at hl ⊢
  have hl : lv_has ls 3 [(0, .ref (q 0)), (1, .int p1), (2, .int p2)] := hl
  have h := hs
  unfold sX3_count at h
  have hM0 := hM
  refine lv_iload_n hx hb dX3_count_0 rfl (lv_at hl 1 rfl) ?_
  obtain ⟨r1, e1, h⟩ := othr_s h
  refine t_cV (vx_runS (As := [.int p1]) (rest := []) ⟨hx, hb, hml, hown, hts⟩ (kX3_checkRail l hfl D cI cR q G K p1 _ r1 e1) (va_cwS 1 hts gX3_count_X3_checkRail rfl rfl rfl (by decide +kernel) ⟨Nat.le_of_ble_eq_true rfl, Nat.le_of_ble_eq_true rfl⟩) (mPreST hK hM hS hsz hth) rfl rfl hl.1 rfl (lv_room (Nat.le_of_ble_eq_true rfl)) dX3_count_1 ⟨Nat.le_of_ble_eq_true rfl, Nat.le_of_ble_eq_true rfl⟩) hS hM hsz h hout hlocks (Nat.le_of_ble_eq_true rfl) (Nat.le_of_ble_eq_true rfl) (fun a1 H locs hM hS h => ?_)
  refine W.widen (k := 1) (n := 6) (Nat.le_of_ble_eq_true rfl) (Nat.le_of_ble_eq_true rfl) ?_
  refine lv_aload_n hx hb dX3_count_4 rfl (lv_at hl 0 rfl) ?_
  refine lv_iload_n hx hb dX3_count_5 rfl (lv_at hl 2 rfl) ?_
  obtain ⟨r6, e6, h⟩ := othr_s h
  refine t_cV (vx_runV (As := [.int p2]) (rest := []) ⟨hx, hb, hml, hown, hts⟩ (kX3_checkKind l hfl D cI cR q G K p2 _ r6 e6) (cwV 1 hts gX3_count_X3_checkKind rfl rfl rfl (by decide +kernel) ⟨Nat.le_of_ble_eq_true rfl, Nat.le_of_ble_eq_true rfl⟩) (mPreVT hK hM hS hsz hth 0 rfl rfl) rfl rfl hl.1 rfl (lv_room (Nat.le_of_ble_eq_true rfl)) dX3_count_6 ⟨Nat.le_of_ble_eq_true rfl, Nat.le_of_ble_eq_true rfl⟩) hS hM hsz h hout hlocks (Nat.le_of_ble_eq_true rfl) (Nat.le_of_ble_eq_true rfl) (fun a6 H locs hM hS h => ?_)
  refine W.widen (k := 2) (n := 12) (Nat.le_of_ble_eq_true rfl) (Nat.le_of_ble_eq_true rfl) ?_
  refine lv_aload_n hx hb dX3_count_9 rfl (lv_at hl 0 rfl) ?_
  refine k_getR (C := RX3) (T := TX3) (N := 3) hx hb hts iX3 hown hK hM 0 rfl rfl 0 (by decide) rfl w0 (fun _ h9 => h9) dX3_count_10 ?_
  refine lv_iload_n hx hb dX3_count_13 rfl (lv_at hl 1 rfl) ?_
  refine lv_iload_n hx hb dX3_count_14 rfl (lv_at hl 2 rfl) ?_
  obtain ⟨r15, e15, h⟩ := bind_s h
  refine k_cI (va_runV (As := [.int p1, .int p2]) (rest := []) ⟨hx, hb, hml, hown, hts⟩ (kX2_coinsOfKind l D cI cR q G K p1 p2 r15 e15) (cwV 2 hts gX3_count_X2_coinsOfKind rfl rfl rfl (by decide +kernel) ⟨Nat.le_of_ble_eq_true rfl, Nat.le_of_ble_eq_true rfl⟩) (mPreV hK hM 1 rfl rfl) rfl rfl hl.1 rfl (lv_room (Nat.le_of_ble_eq_true rfl)) dX3_count_15 ⟨Nat.le_of_ble_eq_true rfl, Nat.le_of_ble_eq_true rfl⟩) hS hM (fun H locs hM hS => ?_)
  refine W.widen (k := 2) (n := 12) (Nat.le_of_ble_eq_true rfl) (Nat.le_of_ble_eq_true rfl) ?_
  have h := Option.some.inj h
  exact vx_ret (W.iret (v := r15) hx hb hr (fun t ht hW => ⟨⟨r15, (), rfl, h.symm, w_end ht hM rfl⟩, hS.F ht⟩) hS.2.2 dX3_count_18)
set_option maxHeartbeats 4000000 in
set_option maxRecDepth 100000 in
theorem kX3_value (l : Launch) (hfl : l.flags = flags0) (D : va_G) (cI cR : ClassId) (q : Nat → Nat) (G : Nat → Nat → Int32) (K : Nat) (p1 : Int32) (sz : Nat) (r : (String ⊕ Int32)) (hs : sX3_value K G p1 = some r) : vx_Met l yX3_value wsX3_value ({ frames := 7, cells := 1, slots := 6, locals := 112 } : Room) (mPreT [.ref (q 0), .int p1] D cI cR q tmC G sz) (tI D cI cR q tmC G r sz) (tX D cI cR q tmC G r sz) 1 6 (MN tmC q sz) := by
  refine vx_ofW (cc := cX3_value) (maxL := 2) (ret := (some .int)) (by decide) rfl ?_
  intro p e s m args below meth c s₁ B hml hemp hv
  have hout : ∀ (k : Nat), ∀ x ∈ c.exceptionTable.toList, covers x k = false := fun k x hx => (hemp x hx).elim
  obtain ⟨hargs, hsz0, hM, hK, hth⟩ := hv
  have hx := B.exec
  have hb := B.bytes
  have hr := B.returns
  have hts := atoms_spec (ws := wsX3_value) B.pre
  have hown : s.vm.findClass RX3 = some m.cls := findClass_of_methodNamed B.named
  have hlocks := B.notSynchronized
  have hst : l.stackTraces = false := by unfold Launch.stackTraces; rw [hfl]; decide +kernel
  have hA : ∀ a, MA tmC q a → MN tmC q sz a := fun _ h => Or.inl h
  have hsz : s.heap.size = sz := hsz0
  have hS : va_S (MN tmC q sz) s.heap s.heap [] := va_S.rf
  have w0 := hts (Cond.fieldLink RX3 12 "CoinRails" "now" "LCoinRails$State;") (List.mem_of_getElem? (i := 1) (by decide +kernel))
  have iX3 : ∀ w ∈ wsX30, w ∈ wsX3_value := fun _ h => List.mem_cons_of_mem _ (List.mem_append_left _ (List.mem_append_left _ (List.mem_append_right _ (h))))
  subst hargs
  have hl := lv_entry ([.ref (q 0), .int p1]) (n := 2) (Nat.le_of_ble_eq_true rfl)
  rw [lg_entry_eq]
  generalize (lg_sl ([.ref (q 0), .int p1]) ++ List.replicate (2 - (lg_sl ([.ref (q 0), .int p1])).length) Slot.unset).toArray = ls at hl ⊢
  have hl : lv_has ls 2 [(0, .ref (q 0)), (1, .int p1)] := hl
  have h := hs
  unfold sX3_value at h
  have hM0 := hM
  refine lv_iload_n hx hb dX3_value_0 rfl (lv_at hl 1 rfl) ?_
  refine lv_iconst (v := 0) hx hb dX3_value_1 (by decide) ?_
  refine lv_bipush (v := 9) hx hb dX3_value_2 (by decide) ?_
  obtain ⟨r4, e4, h⟩ := othr_s h
  refine t_cV (vx_runS (As := [.int p1, .int (0 : Int32), .int (9 : Int32)]) (rest := []) ⟨hx, hb, hml, hown, hts⟩ (kX3_checkArgument l hfl D cI cR q G K p1 (0 : Int32) (9 : Int32) _ r4 e4) (va_cwS 3 hts gX3_value_X3_checkArgument rfl rfl rfl (by decide +kernel) ⟨Nat.le_of_ble_eq_true rfl, Nat.le_of_ble_eq_true rfl⟩) (mPreST hK hM hS hsz hth) rfl rfl hl.1 rfl (lv_room (Nat.le_of_ble_eq_true rfl)) dX3_value_4 ⟨Nat.le_of_ble_eq_true rfl, Nat.le_of_ble_eq_true rfl⟩) hS hM hsz h hout hlocks (Nat.le_of_ble_eq_true rfl) (Nat.le_of_ble_eq_true rfl) (fun a4 H locs hM hS h => ?_)
  refine W.widen (k := 1) (n := 6) (Nat.le_of_ble_eq_true rfl) (Nat.le_of_ble_eq_true rfl) ?_
  refine lv_aload_n hx hb dX3_value_7 rfl (lv_at hl 0 rfl) ?_
  refine k_getR (C := RX3) (T := TX3) (N := 3) hx hb hts iX3 hown hK hM 0 rfl rfl 0 (by decide) rfl w0 (fun _ h9 => h9) dX3_value_8 ?_
  refine lv_iload_n hx hb dX3_value_11 rfl (lv_at hl 1 rfl) ?_
  obtain ⟨r12, e12, h⟩ := bind_s h
  refine k_cI (va_runV (As := [.int p1]) (rest := []) ⟨hx, hb, hml, hown, hts⟩ (kX2_aboutAll l D cI cR q G K p1 r12 e12) (cwV 1 hts gX3_value_X2_aboutAll rfl rfl rfl (by decide +kernel) ⟨Nat.le_of_ble_eq_true rfl, Nat.le_of_ble_eq_true rfl⟩) (mPreV hK hM 1 rfl rfl) rfl rfl hl.1 rfl (lv_room (Nat.le_of_ble_eq_true rfl)) dX3_value_12 ⟨Nat.le_of_ble_eq_true rfl, Nat.le_of_ble_eq_true rfl⟩) hS hM (fun H locs hM hS => ?_)
  refine W.widen (k := 1) (n := 6) (Nat.le_of_ble_eq_true rfl) (Nat.le_of_ble_eq_true rfl) ?_
  have h := Option.some.inj h
  exact vx_ret (W.iret (v := r12) hx hb hr (fun t ht hW => ⟨⟨r12, (), rfl, h.symm, w_end ht hM rfl⟩, hS.F ht⟩) hS.2.2 dX3_value_15)
set_option maxHeartbeats 4000000 in
set_option maxRecDepth 100000 in
theorem kX3_where (l : Launch) (hfl : l.flags = flags0) (D : va_G) (cI cR : ClassId) (q : Nat → Nat) (G : Nat → Nat → Int32) (K : Nat) (p1 : Int32) (p2 : Int32) (sz : Nat) (r : (String ⊕ Int32)) (hs : sX3_where K G p1 p2 = some r) : vx_Met l yX3_where wsX3_where ({ frames := 7, cells := 2, slots := 12, locals := 112 } : Room) (mPreT [.ref (q 0), .int p1, .int p2] D cI cR q tmC G sz) (tI D cI cR q tmC G r sz) (tX D cI cR q tmC G r sz) 2 12 (MN tmC q sz) := by
  refine vx_ofW (cc := cX3_where) (maxL := 3) (ret := (some .int)) (by decide) rfl ?_
  intro p e s m args below meth c s₁ B hml hemp hv
  have hout : ∀ (k : Nat), ∀ x ∈ c.exceptionTable.toList, covers x k = false := fun k x hx => (hemp x hx).elim
  obtain ⟨hargs, hsz0, hM, hK, hth⟩ := hv
  have hx := B.exec
  have hb := B.bytes
  have hr := B.returns
  have hts := atoms_spec (ws := wsX3_where) B.pre
  have hown : s.vm.findClass RX3 = some m.cls := findClass_of_methodNamed B.named
  have hlocks := B.notSynchronized
  have hst : l.stackTraces = false := by unfold Launch.stackTraces; rw [hfl]; decide +kernel
  have hA : ∀ a, MA tmC q a → MN tmC q sz a := fun _ h => Or.inl h
  have hsz : s.heap.size = sz := hsz0
  have hS : va_S (MN tmC q sz) s.heap s.heap [] := va_S.rf
  have w0 := hts (Cond.fieldLink RX3 12 "CoinRails" "now" "LCoinRails$State;") (List.mem_of_getElem? (i := 1) (by decide +kernel))
  have iX3 : ∀ w ∈ wsX30, w ∈ wsX3_where := fun _ h => List.mem_cons_of_mem _ (List.mem_append_left _ (List.mem_append_left _ (List.mem_append_left _ (List.mem_append_right _ (h)))))
  subst hargs
  have hl := lv_entry ([.ref (q 0), .int p1, .int p2]) (n := 3) (Nat.le_of_ble_eq_true rfl)
  rw [lg_entry_eq]
  generalize (lg_sl ([.ref (q 0), .int p1, .int p2]) ++ List.replicate (3 - (lg_sl ([.ref (q 0), .int p1, .int p2])).length) Slot.unset).toArray = ls at hl ⊢
  have hl : lv_has ls 3 [(0, .ref (q 0)), (1, .int p1), (2, .int p2)] := hl
  have h := hs
  unfold sX3_where at h
  have hM0 := hM
  refine lv_aload_n hx hb dX3_where_0 rfl (lv_at hl 0 rfl) ?_
  refine lv_iload_n hx hb dX3_where_1 rfl (lv_at hl 1 rfl) ?_
  obtain ⟨r2, e2, h⟩ := othr_s h
  refine t_cV (vx_runV (As := [.int p1]) (rest := []) ⟨hx, hb, hml, hown, hts⟩ (kX3_checkKind l hfl D cI cR q G K p1 _ r2 e2) (cwV 1 hts gX3_where_X3_checkKind rfl rfl rfl (by decide +kernel) ⟨Nat.le_of_ble_eq_true rfl, Nat.le_of_ble_eq_true rfl⟩) (mPreVT hK hM hS hsz hth 0 rfl rfl) rfl rfl hl.1 rfl (lv_room (Nat.le_of_ble_eq_true rfl)) dX3_where_2 ⟨Nat.le_of_ble_eq_true rfl, Nat.le_of_ble_eq_true rfl⟩) hS hM hsz h hout hlocks (Nat.le_of_ble_eq_true rfl) (Nat.le_of_ble_eq_true rfl) (fun a2 H locs hM hS h => ?_)
  refine W.widen (k := 1) (n := 6) (Nat.le_of_ble_eq_true rfl) (Nat.le_of_ble_eq_true rfl) ?_
  refine lv_iload_n hx hb dX3_where_5 rfl (lv_at hl 2 rfl) ?_
  refine lv_iconst (v := 0) hx hb dX3_where_6 (by decide) ?_
  refine lv_sipush (v := 999) hx hb dX3_where_7 (by decide) ?_
  obtain ⟨r10, e10, h⟩ := othr_s h
  refine t_cV (vx_runS (As := [.int p2, .int (0 : Int32), .int (999 : Int32)]) (rest := []) ⟨hx, hb, hml, hown, hts⟩ (kX3_checkArgument l hfl D cI cR q G K p2 (0 : Int32) (999 : Int32) _ r10 e10) (va_cwS 3 hts gX3_where_X3_checkArgument rfl rfl rfl (by decide +kernel) ⟨Nat.le_of_ble_eq_true rfl, Nat.le_of_ble_eq_true rfl⟩) (mPreST hK hM hS hsz hth) rfl rfl hl.1 rfl (lv_room (Nat.le_of_ble_eq_true rfl)) dX3_where_10 ⟨Nat.le_of_ble_eq_true rfl, Nat.le_of_ble_eq_true rfl⟩) hS hM hsz h hout hlocks (Nat.le_of_ble_eq_true rfl) (Nat.le_of_ble_eq_true rfl) (fun a10 H locs hM hS h => ?_)
  refine W.widen (k := 2) (n := 12) (Nat.le_of_ble_eq_true rfl) (Nat.le_of_ble_eq_true rfl) ?_
  refine lv_aload_n hx hb dX3_where_13 rfl (lv_at hl 0 rfl) ?_
  refine k_getR (C := RX3) (T := TX3) (N := 3) hx hb hts iX3 hown hK hM 0 rfl rfl 0 (by decide) rfl w0 (fun _ h9 => h9) dX3_where_14 ?_
  refine lv_iload_n hx hb dX3_where_17 rfl (lv_at hl 1 rfl) ?_
  refine lv_iload_n hx hb dX3_where_18 rfl (lv_at hl 2 rfl) ?_
  obtain ⟨r19, e19, h⟩ := bind_s h
  refine k_cI (va_runV (As := [.int p1, .int p2]) (rest := []) ⟨hx, hb, hml, hown, hts⟩ (kX2_placeFor l D cI cR q G K p1 p2 r19 e19) (cwV 2 hts gX3_where_X2_placeFor rfl rfl rfl (by decide +kernel) ⟨Nat.le_of_ble_eq_true rfl, Nat.le_of_ble_eq_true rfl⟩) (mPreV hK hM 1 rfl rfl) rfl rfl hl.1 rfl (lv_room (Nat.le_of_ble_eq_true rfl)) dX3_where_19 ⟨Nat.le_of_ble_eq_true rfl, Nat.le_of_ble_eq_true rfl⟩) hS hM (fun H locs hM hS => ?_)
  refine W.widen (k := 2) (n := 12) (Nat.le_of_ble_eq_true rfl) (Nat.le_of_ble_eq_true rfl) ?_
  have h := Option.some.inj h
  exact vx_ret (W.iret (v := r19) hx hb hr (fun t ht hW => ⟨⟨r19, (), rfl, h.symm, w_end ht hM rfl⟩, hS.F ht⟩) hS.2.2 dX3_where_22)
set_option maxHeartbeats 4000000 in
set_option maxRecDepth 100000 in
theorem kX3_mostWear (l : Launch) (hfl : l.flags = flags0) (D : va_G) (cI cR : ClassId) (q : Nat → Nat) (G : Nat → Nat → Int32) (K : Nat) (p1 : Int32) (sz : Nat) (r : (String ⊕ Int32)) (hs : sX3_mostWear K G p1 = some r) : vx_Met l yX3_mostWear wsX3_mostWear ({ frames := 7, cells := 1, slots := 6, locals := 114 } : Room) (mPreT [.ref (q 0), .int p1] D cI cR q tmC G sz) (tI D cI cR q tmC G r sz) (tX D cI cR q tmC G r sz) 1 6 (MN tmC q sz) := by
  refine vx_ofW (cc := cX3_mostWear) (maxL := 2) (ret := (some .int)) (by decide) rfl ?_
  intro p e s m args below meth c s₁ B hml hemp hv
  have hout : ∀ (k : Nat), ∀ x ∈ c.exceptionTable.toList, covers x k = false := fun k x hx => (hemp x hx).elim
  obtain ⟨hargs, hsz0, hM, hK, hth⟩ := hv
  have hx := B.exec
  have hb := B.bytes
  have hr := B.returns
  have hts := atoms_spec (ws := wsX3_mostWear) B.pre
  have hown : s.vm.findClass RX3 = some m.cls := findClass_of_methodNamed B.named
  have hlocks := B.notSynchronized
  have hst : l.stackTraces = false := by unfold Launch.stackTraces; rw [hfl]; decide +kernel
  have hA : ∀ a, MA tmC q a → MN tmC q sz a := fun _ h => Or.inl h
  have hsz : s.heap.size = sz := hsz0
  have hS : va_S (MN tmC q sz) s.heap s.heap [] := va_S.rf
  have w0 := hts (Cond.fieldLink RX3 12 "CoinRails" "now" "LCoinRails$State;") (List.mem_of_getElem? (i := 1) (by decide +kernel))
  have iX3 : ∀ w ∈ wsX30, w ∈ wsX3_mostWear := fun _ h => List.mem_cons_of_mem _ (List.mem_append_left _ (List.mem_append_left _ (List.mem_append_right _ (h))))
  subst hargs
  have hl := lv_entry ([.ref (q 0), .int p1]) (n := 2) (Nat.le_of_ble_eq_true rfl)
  rw [lg_entry_eq]
  generalize (lg_sl ([.ref (q 0), .int p1]) ++ List.replicate (2 - (lg_sl ([.ref (q 0), .int p1])).length) Slot.unset).toArray = ls at hl ⊢
  have hl : lv_has ls 2 [(0, .ref (q 0)), (1, .int p1)] := hl
  have h := hs
  unfold sX3_mostWear at h
  have hM0 := hM
  refine lv_aload_n hx hb dX3_mostWear_0 rfl (lv_at hl 0 rfl) ?_
  refine lv_iload_n hx hb dX3_mostWear_1 rfl (lv_at hl 1 rfl) ?_
  obtain ⟨r2, e2, h⟩ := othr_s h
  refine t_cV (vx_runV (As := [.int p1]) (rest := []) ⟨hx, hb, hml, hown, hts⟩ (kX3_checkKind l hfl D cI cR q G K p1 _ r2 e2) (cwV 1 hts gX3_mostWear_X3_checkKind rfl rfl rfl (by decide +kernel) ⟨Nat.le_of_ble_eq_true rfl, Nat.le_of_ble_eq_true rfl⟩) (mPreVT hK hM hS hsz hth 0 rfl rfl) rfl rfl hl.1 rfl (lv_room (Nat.le_of_ble_eq_true rfl)) dX3_mostWear_2 ⟨Nat.le_of_ble_eq_true rfl, Nat.le_of_ble_eq_true rfl⟩) hS hM hsz h hout hlocks (Nat.le_of_ble_eq_true rfl) (Nat.le_of_ble_eq_true rfl) (fun a2 H locs hM hS h => ?_)
  refine W.widen (k := 1) (n := 6) (Nat.le_of_ble_eq_true rfl) (Nat.le_of_ble_eq_true rfl) ?_
  refine lv_aload_n hx hb dX3_mostWear_5 rfl (lv_at hl 0 rfl) ?_
  refine k_getR (C := RX3) (T := TX3) (N := 3) hx hb hts iX3 hown hK hM 0 rfl rfl 0 (by decide) rfl w0 (fun _ h9 => h9) dX3_mostWear_6 ?_
  refine lv_iload_n hx hb dX3_mostWear_9 rfl (lv_at hl 1 rfl) ?_
  obtain ⟨r10, e10, h⟩ := bind_s h
  refine k_cI (va_runV (As := [.int p1]) (rest := []) ⟨hx, hb, hml, hown, hts⟩ (kX2_mostFittingWear l D cI cR q G K p1 r10 e10) (cwV 1 hts gX3_mostWear_X2_mostFittingWear rfl rfl rfl (by decide +kernel) ⟨Nat.le_of_ble_eq_true rfl, Nat.le_of_ble_eq_true rfl⟩) (mPreV hK hM 1 rfl rfl) rfl rfl hl.1 rfl (lv_room (Nat.le_of_ble_eq_true rfl)) dX3_mostWear_10 ⟨Nat.le_of_ble_eq_true rfl, Nat.le_of_ble_eq_true rfl⟩) hS hM (fun H locs hM hS => ?_)
  refine W.widen (k := 1) (n := 6) (Nat.le_of_ble_eq_true rfl) (Nat.le_of_ble_eq_true rfl) ?_
  have h := Option.some.inj h
  exact vx_ret (W.iret (v := r10) hx hb hr (fun t ht hW => ⟨⟨r10, (), rfl, h.symm, w_end ht hM rfl⟩, hS.F ht⟩) hS.2.2 dX3_mostWear_13)
set_option maxHeartbeats 4000000 in
set_option maxRecDepth 100000 in
theorem kX3_bestGap (l : Launch) (hfl : l.flags = flags0) (D : va_G) (cI cR : ClassId) (q : Nat → Nat) (G : Nat → Nat → Int32) (K : Nat) (p1 : Int32) (sz : Nat) (r : (String ⊕ Int32)) (hs : sX3_bestGap K G p1 = some r) : vx_Met l yX3_bestGap wsX3_bestGap ({ frames := 7, cells := 1, slots := 6, locals := 110 } : Room) (mPreT [.ref (q 0), .int p1] D cI cR q tmC G sz) (tI D cI cR q tmC G r sz) (tX D cI cR q tmC G r sz) 1 6 (MN tmC q sz) := by
  refine vx_ofW (cc := cX3_bestGap) (maxL := 2) (ret := (some .int)) (by decide) rfl ?_
  intro p e s m args below meth c s₁ B hml hemp hv
  have hout : ∀ (k : Nat), ∀ x ∈ c.exceptionTable.toList, covers x k = false := fun k x hx => (hemp x hx).elim
  obtain ⟨hargs, hsz0, hM, hK, hth⟩ := hv
  have hx := B.exec
  have hb := B.bytes
  have hr := B.returns
  have hts := atoms_spec (ws := wsX3_bestGap) B.pre
  have hown : s.vm.findClass RX3 = some m.cls := findClass_of_methodNamed B.named
  have hlocks := B.notSynchronized
  have hst : l.stackTraces = false := by unfold Launch.stackTraces; rw [hfl]; decide +kernel
  have hA : ∀ a, MA tmC q a → MN tmC q sz a := fun _ h => Or.inl h
  have hsz : s.heap.size = sz := hsz0
  have hS : va_S (MN tmC q sz) s.heap s.heap [] := va_S.rf
  have w0 := hts (Cond.fieldLink RX3 12 "CoinRails" "now" "LCoinRails$State;") (List.mem_of_getElem? (i := 1) (by decide +kernel))
  have iX3 : ∀ w ∈ wsX30, w ∈ wsX3_bestGap := fun _ h => List.mem_cons_of_mem _ (List.mem_append_left _ (List.mem_append_left _ (List.mem_append_right _ (h))))
  subst hargs
  have hl := lv_entry ([.ref (q 0), .int p1]) (n := 2) (Nat.le_of_ble_eq_true rfl)
  rw [lg_entry_eq]
  generalize (lg_sl ([.ref (q 0), .int p1]) ++ List.replicate (2 - (lg_sl ([.ref (q 0), .int p1])).length) Slot.unset).toArray = ls at hl ⊢
  have hl : lv_has ls 2 [(0, .ref (q 0)), (1, .int p1)] := hl
  have h := hs
  unfold sX3_bestGap at h
  have hM0 := hM
  refine lv_iload_n hx hb dX3_bestGap_0 rfl (lv_at hl 1 rfl) ?_
  obtain ⟨r1, e1, h⟩ := othr_s h
  refine t_cV (vx_runS (As := [.int p1]) (rest := []) ⟨hx, hb, hml, hown, hts⟩ (kX3_checkRail l hfl D cI cR q G K p1 _ r1 e1) (va_cwS 1 hts gX3_bestGap_X3_checkRail rfl rfl rfl (by decide +kernel) ⟨Nat.le_of_ble_eq_true rfl, Nat.le_of_ble_eq_true rfl⟩) (mPreST hK hM hS hsz hth) rfl rfl hl.1 rfl (lv_room (Nat.le_of_ble_eq_true rfl)) dX3_bestGap_1 ⟨Nat.le_of_ble_eq_true rfl, Nat.le_of_ble_eq_true rfl⟩) hS hM hsz h hout hlocks (Nat.le_of_ble_eq_true rfl) (Nat.le_of_ble_eq_true rfl) (fun a1 H locs hM hS h => ?_)
  refine W.widen (k := 1) (n := 6) (Nat.le_of_ble_eq_true rfl) (Nat.le_of_ble_eq_true rfl) ?_
  refine lv_aload_n hx hb dX3_bestGap_4 rfl (lv_at hl 0 rfl) ?_
  refine k_getR (C := RX3) (T := TX3) (N := 3) hx hb hts iX3 hown hK hM 0 rfl rfl 0 (by decide) rfl w0 (fun _ h9 => h9) dX3_bestGap_5 ?_
  refine lv_iload_n hx hb dX3_bestGap_8 rfl (lv_at hl 1 rfl) ?_
  obtain ⟨r9, e9, h⟩ := bind_s h
  refine k_cI (va_runV (As := [.int p1]) (rest := []) ⟨hx, hb, hml, hown, hts⟩ (kX2_leastSortingGap l D cI cR q G K p1 r9 e9) (cwV 1 hts gX3_bestGap_X2_leastSortingGap rfl rfl rfl (by decide +kernel) ⟨Nat.le_of_ble_eq_true rfl, Nat.le_of_ble_eq_true rfl⟩) (mPreV hK hM 1 rfl rfl) rfl rfl hl.1 rfl (lv_room (Nat.le_of_ble_eq_true rfl)) dX3_bestGap_9 ⟨Nat.le_of_ble_eq_true rfl, Nat.le_of_ble_eq_true rfl⟩) hS hM (fun H locs hM hS => ?_)
  refine W.widen (k := 1) (n := 6) (Nat.le_of_ble_eq_true rfl) (Nat.le_of_ble_eq_true rfl) ?_
  have h := Option.some.inj h
  exact vx_ret (W.iret (v := r9) hx hb hr (fun t ht hW => ⟨⟨r9, (), rfl, h.symm, w_end ht hM rfl⟩, hS.F ht⟩) hS.2.2 dX3_bestGap_12)
set_option maxHeartbeats 4000000 in
set_option maxRecDepth 100000 in
theorem kX3_supply (l : Launch) (hfl : l.flags = flags0) (D : va_G) (cI cR : ClassId) (q : Nat → Nat) (G : Nat → Nat → Int32) (K : Nat) (p1 : Int32) (sz : Nat) (r : (String ⊕ Int32)) (hs : sX3_supply K G p1 = some r) : vx_Met l yX3_supply wsX3_supply ({ frames := 7, cells := 1, slots := 6, locals := 112 } : Room) (mPreT [.ref (q 0), .int p1] D cI cR q tmC G sz) (tI D cI cR q tmC G r sz) (tX D cI cR q tmC G r sz) 1 6 (MN tmC q sz) := by
  refine vx_ofW (cc := cX3_supply) (maxL := 2) (ret := (some .int)) (by decide) rfl ?_
  intro p e s m args below meth c s₁ B hml hemp hv
  have hout : ∀ (k : Nat), ∀ x ∈ c.exceptionTable.toList, covers x k = false := fun k x hx => (hemp x hx).elim
  obtain ⟨hargs, hsz0, hM, hK, hth⟩ := hv
  have hx := B.exec
  have hb := B.bytes
  have hr := B.returns
  have hts := atoms_spec (ws := wsX3_supply) B.pre
  have hown : s.vm.findClass RX3 = some m.cls := findClass_of_methodNamed B.named
  have hlocks := B.notSynchronized
  have hst : l.stackTraces = false := by unfold Launch.stackTraces; rw [hfl]; decide +kernel
  have hA : ∀ a, MA tmC q a → MN tmC q sz a := fun _ h => Or.inl h
  have hsz : s.heap.size = sz := hsz0
  have hS : va_S (MN tmC q sz) s.heap s.heap [] := va_S.rf
  have w0 := hts (Cond.fieldLink RX3 12 "CoinRails" "now" "LCoinRails$State;") (List.mem_of_getElem? (i := 1) (by decide +kernel))
  have iX3 : ∀ w ∈ wsX30, w ∈ wsX3_supply := fun _ h => List.mem_cons_of_mem _ (List.mem_append_left _ (List.mem_append_left _ (List.mem_append_right _ (h))))
  subst hargs
  have hl := lv_entry ([.ref (q 0), .int p1]) (n := 2) (Nat.le_of_ble_eq_true rfl)
  rw [lg_entry_eq]
  generalize (lg_sl ([.ref (q 0), .int p1]) ++ List.replicate (2 - (lg_sl ([.ref (q 0), .int p1])).length) Slot.unset).toArray = ls at hl ⊢
  have hl : lv_has ls 2 [(0, .ref (q 0)), (1, .int p1)] := hl
  have h := hs
  unfold sX3_supply at h
  have hM0 := hM
  refine lv_aload_n hx hb dX3_supply_0 rfl (lv_at hl 0 rfl) ?_
  refine lv_iload_n hx hb dX3_supply_1 rfl (lv_at hl 1 rfl) ?_
  obtain ⟨r2, e2, h⟩ := othr_s h
  refine t_cV (vx_runV (As := [.int p1]) (rest := []) ⟨hx, hb, hml, hown, hts⟩ (kX3_checkKind l hfl D cI cR q G K p1 _ r2 e2) (cwV 1 hts gX3_supply_X3_checkKind rfl rfl rfl (by decide +kernel) ⟨Nat.le_of_ble_eq_true rfl, Nat.le_of_ble_eq_true rfl⟩) (mPreVT hK hM hS hsz hth 0 rfl rfl) rfl rfl hl.1 rfl (lv_room (Nat.le_of_ble_eq_true rfl)) dX3_supply_2 ⟨Nat.le_of_ble_eq_true rfl, Nat.le_of_ble_eq_true rfl⟩) hS hM hsz h hout hlocks (Nat.le_of_ble_eq_true rfl) (Nat.le_of_ble_eq_true rfl) (fun a2 H locs hM hS h => ?_)
  refine W.widen (k := 1) (n := 6) (Nat.le_of_ble_eq_true rfl) (Nat.le_of_ble_eq_true rfl) ?_
  refine lv_aload_n hx hb dX3_supply_5 rfl (lv_at hl 0 rfl) ?_
  refine k_getR (C := RX3) (T := TX3) (N := 3) hx hb hts iX3 hown hK hM 0 rfl rfl 0 (by decide) rfl w0 (fun _ h9 => h9) dX3_supply_6 ?_
  refine lv_iload_n hx hb dX3_supply_9 rfl (lv_at hl 1 rfl) ?_
  obtain ⟨r10, e10, h⟩ := bind_s h
  refine k_cI (va_runV (As := [.int p1]) (rest := []) ⟨hx, hb, hml, hown, hts⟩ (kX2_coinsUntilAstray l D cI cR q G K p1 r10 e10) (cwV 1 hts gX3_supply_X2_coinsUntilAstray rfl rfl rfl (by decide +kernel) ⟨Nat.le_of_ble_eq_true rfl, Nat.le_of_ble_eq_true rfl⟩) (mPreV hK hM 1 rfl rfl) rfl rfl hl.1 rfl (lv_room (Nat.le_of_ble_eq_true rfl)) dX3_supply_10 ⟨Nat.le_of_ble_eq_true rfl, Nat.le_of_ble_eq_true rfl⟩) hS hM (fun H locs hM hS => ?_)
  refine W.widen (k := 1) (n := 6) (Nat.le_of_ble_eq_true rfl) (Nat.le_of_ble_eq_true rfl) ?_
  have h := Option.some.inj h
  exact vx_ret (W.iret (v := r10) hx hb hr (fun t ht hW => ⟨⟨r10, (), rfl, h.symm, w_end ht hM rfl⟩, hS.F ht⟩) hS.2.2 dX3_supply_13)
set_option maxHeartbeats 4000000 in
set_option maxRecDepth 100000 in
theorem kX3_worstKind (l : Launch) (D : va_G) (cI cR : ClassId) (q : Nat → Nat) (G : Nat → Nat → Int32) (K : Nat) (r : Int32) (hs : sX3_worstKind K G  = some r) : Met l yX3_worstKind wsX3_worstKind ({ frames := 4, cells := 0, slots := 0, locals := 90 } : Room) (mPre [.ref (q 0)] D cI cR q tmC G) (mI r) 0 0 (fun _ => False) := by
  refine Met.ofW (cc := cX3_worstKind) (maxL := 1) (ret := (some .int)) (by decide) rfl ?_
  intro p e s m args below meth c s₁ B hml hv
  obtain ⟨hargs, hM, hK⟩ := hv
  have hx := B.exec
  have hb := B.bytes
  have hr := B.returns
  have hts := atoms_spec (ws := wsX3_worstKind) B.pre
  have hown : s.vm.findClass RX3 = some m.cls := findClass_of_methodNamed B.named
  have hlocks := B.notSynchronized
  have hS : va_S (fun _ => False) s.heap s.heap [] := va_S.rf
  have w0 := hts (Cond.fieldLink RX3 12 "CoinRails" "now" "LCoinRails$State;") (List.mem_of_getElem? (i := 1) (by decide +kernel))
  have iX3 : ∀ w ∈ wsX30, w ∈ wsX3_worstKind := fun _ h => List.mem_cons_of_mem _ (List.mem_append_left _ (List.mem_append_right _ (h)))
  subst hargs
  have hl := lv_entry ([.ref (q 0)]) (n := 1) (Nat.le_of_ble_eq_true rfl)
  rw [lg_entry_eq]
  generalize (lg_sl ([.ref (q 0)]) ++ List.replicate (1 - (lg_sl ([.ref (q 0)])).length) Slot.unset).toArray = ls at hl ⊢
  have hl : lv_has ls 1 [(0, .ref (q 0))] := hl
  have h := hs
  unfold sX3_worstKind at h
  have hM0 := hM
  refine lv_aload_n hx hb dX3_worstKind_0 rfl (lv_at hl 0 rfl) ?_
  refine k_getR (C := RX3) (T := TX3) (N := 3) hx hb hts iX3 hown hK hM 0 rfl rfl 0 (by decide) rfl w0 (fun _ h9 => h9) dX3_worstKind_1 ?_
  obtain ⟨r4, e4, h⟩ := bind_s h
  refine k_cI (va_runV (As := []) (rest := []) ⟨hx, hb, hml, hown, hts⟩ (kX2_kindMostAstray l D cI cR q G K r4 e4) (cwV 0 hts gX3_worstKind_X2_kindMostAstray rfl rfl rfl (by decide +kernel) ⟨Nat.le_of_ble_eq_true rfl, Nat.le_of_ble_eq_true rfl⟩) (mPreV hK hM 1 rfl rfl) rfl rfl hl.1 rfl (lv_room (Nat.le_of_ble_eq_true rfl)) dX3_worstKind_4 ⟨Nat.le_of_ble_eq_true rfl, Nat.le_of_ble_eq_true rfl⟩) hS hM (fun H locs hM hS => ?_)
  exact W.iret (v := r4) hx hb hr (fun t ht hW => ⟨⟨r4, (), rfl, Option.some.inj h, trivial⟩, hS.F ht⟩) hS.2.2 dX3_worstKind_7
set_option maxHeartbeats 4000000 in
set_option maxRecDepth 100000 in
theorem kX3_right (l : Launch) (D : va_G) (cI cR : ClassId) (q : Nat → Nat) (G : Nat → Nat → Int32) (K : Nat) (r : UInt64) (hs : sX3_right K G  = some r) : MetD lw_cs l yX3_right wsX3_right ({ frames := 3, cells := 0, slots := 0, locals := 67 } : Room) (mPre [.ref (q 0)] D cI cR q tmC G) (mD r) 0 0 (fun _ => False) := by
  refine MetD.ofW (cc := cX3_right) (maxL := 2) (ret := (some .double)) (by decide) rfl ?_
  intro p e s m args below meth c s₁ B hml hv hd0
  obtain ⟨hargs, hM, hK⟩ := hv
  have hx := B.exec
  have hb := B.bytes
  have hr := B.returns
  have hts := atoms_spec (ws := wsX3_right) B.pre
  have hown : s.vm.findClass RX3 = some m.cls := findClass_of_methodNamed B.named
  have hlocks := B.notSynchronized
  have hts := dr_words hts s.drawn
  have hK : va_K D vwCl (mTy cI cR) (s.setDrawn s.drawn) := hK
  have hS : va_S (fun _ => False) s.heap s.heap [] := va_S.rf
  have w0 := hts (Cond.fieldLink RX3 12 "CoinRails" "now" "LCoinRails$State;") (List.mem_of_getElem? (i := 1) (by decide +kernel))
  have iX3 : ∀ w ∈ wsX30, w ∈ wsX3_right := fun _ h => List.mem_cons_of_mem _ (List.mem_append_left _ (List.mem_append_right _ (h)))
  subst hargs
  have hl := lv_entry ([.ref (q 0)]) (n := 2) (Nat.le_of_ble_eq_true rfl)
  rw [lg_entry_eq]
  generalize (lg_sl ([.ref (q 0)]) ++ List.replicate (2 - (lg_sl ([.ref (q 0)])).length) Slot.unset).toArray = ls at hl ⊢
  have hl : lv_has ls 2 [(0, .ref (q 0))] := hl
  have h := hs
  unfold sX3_right at h
  have hM0 := hM
  refine lv_aload_n hx hb dX3_right_0 rfl (lv_at hl 0 rfl) ?_
  refine k_getR (C := RX3) (T := TX3) (N := 3) hx hb hts iX3 hown hK hM 0 rfl rfl 0 (by decide) rfl w0 (fun _ h9 => h9) dX3_right_1 ?_
  obtain ⟨r4, e4, h⟩ := bind_s h
  refine k_cI (va_runV (As := []) (rest := []) ⟨hx, hb, hml, hown, hts⟩ (kX2_coinsInBags l D cI cR q G K r4 e4) (cwV 0 hts gX3_right_X2_coinsInBags rfl rfl rfl (by decide +kernel) ⟨Nat.le_of_ble_eq_true rfl, Nat.le_of_ble_eq_true rfl⟩) (mPreV hK hM 1 rfl rfl) rfl rfl hl.1 rfl (lv_room (Nat.le_of_ble_eq_true rfl)) dX3_right_4 ⟨Nat.le_of_ble_eq_true rfl, Nat.le_of_ble_eq_true rfl⟩) hS hM (fun H locs hM hS => ?_)
  refine lv_istore_n (lv' := [(1, .int r4), (0, .ref (q 0))]) hx hb dX3_right_7 rfl hl (by decide) rfl (fun ls hl => ?_)
  refine lv_iload_n hx hb dX3_right_8 rfl (lv_at hl 0 rfl) ?_
  refine lv_if_ne (tgt := 14) hx hb dX3_right_9 (by decide) (fun c9 => ?_) (fun c9 => ?_)
  · replace h := ite_f h c9
    refine lv_iload_n hx hb dX3_right_14 rfl (lv_at hl 0 rfl) ?_
    refine lv_aload_n hx hb dX3_right_15 rfl (lv_at hl 1 rfl) ?_
    refine k_getR (C := RX3) (T := TX3) (N := 3) hx hb hts iX3 hown hK hM 0 rfl rfl 0 (by decide) rfl w0 (fun _ h9 => h9) dX3_right_16 ?_
    obtain ⟨r19, e19, h⟩ := bind_s h
    refine k_cI (va_runV (As := []) (rest := [.int r4]) ⟨hx, hb, hml, hown, hts⟩ (kX2_misfits l D cI cR q G K r19 e19) (cwV 0 hts gX3_right_X2_misfits rfl rfl rfl (by decide +kernel) ⟨Nat.le_of_ble_eq_true rfl, Nat.le_of_ble_eq_true rfl⟩) (mPreV hK hM 1 rfl rfl) rfl rfl hl.1 rfl (lv_room (Nat.le_of_ble_eq_true rfl)) dX3_right_19 ⟨Nat.le_of_ble_eq_true rfl, Nat.le_of_ble_eq_true rfl⟩) hS hM (fun H locs hM hS => ?_)
    refine lv_isub hx hb dX3_right_22 ?_
    refine lv_i2d hx hb dX3_right_23 ?_
    refine lv_iload_n hx hb dX3_right_24 rfl (lv_at hl 0 rfl) ?_
    refine lv_i2d hx hb dX3_right_25 ?_
    refine lv_ddiv_any hd0 lw_bits hx hb dX3_right_26 (fun dr26 dd26 hal26 hd26 => ?_)
    have h := Option.some.inj h
    refine W.endD hd26 ?_
    exact W.dret (v := dr26) hx hb hr (fun t ht hW => ⟨⟨dr26, (), rfl, by rw [← h]; exact hal26, trivial⟩, hS.F ht⟩) hS.2.2 dX3_right_27
  · replace h := ite_t h c9
    refine lv_dconst1 hx hb dX3_right_12 ?_
    have h := Option.some.inj h
    refine W.endD hd0 ?_
    exact W.dret (v := FP.dconst1) hx hb hr (fun t ht hW => ⟨⟨FP.dconst1, (), rfl, by rw [← h]; exact dv_refl _, trivial⟩, hS.F ht⟩) hS.2.2 dX3_right_13
set_option maxHeartbeats 4000000 in
set_option maxRecDepth 100000 in
theorem kX3_append (l : Launch) (hfl : l.flags = flags0) (D : va_G) (cI cR : ClassId) (q : Nat → Nat) (G : Nat → Nat → Int32) (K : Nat) (p1 : Int32) (hJ : MJ tmC q) (sz : Nat) (r : (String ⊕ (Int32 × (Nat → Nat → Int32)))) (hs : sX3_append K G p1 = some r) : vx_Met l yX3_append wsX3_append ({ frames := 7, cells := 2, slots := 12, locals := 112 } : Room) (mPreT [.ref (q 0), .int p1] D cI cR q tmC G sz) (tIW D cI cR q tmC r sz) (tX D cI cR q tmC G r sz) 2 12 (MN tmC q sz) := by
  refine vx_ofW (cc := cX3_append) (maxL := 2) (ret := (some .int)) (by decide) rfl ?_
  intro p e s m args below meth c s₁ B hml hemp hv
  have hout : ∀ (k : Nat), ∀ x ∈ c.exceptionTable.toList, covers x k = false := fun k x hx => (hemp x hx).elim
  obtain ⟨hargs, hsz0, hM, hK, hth⟩ := hv
  have hx := B.exec
  have hb := B.bytes
  have hr := B.returns
  have hts := atoms_spec (ws := wsX3_append) B.pre
  have hown : s.vm.findClass RX3 = some m.cls := findClass_of_methodNamed B.named
  have hlocks := B.notSynchronized
  have hst : l.stackTraces = false := by unfold Launch.stackTraces; rw [hfl]; decide +kernel
  have hA : ∀ a, MA tmC q a → MN tmC q sz a := fun _ h => Or.inl h
  have hsz : s.heap.size = sz := hsz0
  have hS : va_S (MN tmC q sz) s.heap s.heap [] := va_S.rf
  have w0 := hts (Cond.fieldLink RX3 26 "CoinRails" "text" "LCoinRails$CoinText;") (List.mem_of_getElem? (i := 3) (by decide +kernel))
  have iX3 : ∀ w ∈ wsX30, w ∈ wsX3_append := fun _ h => List.mem_cons_of_mem _ (List.mem_append_left _ (List.mem_append_left _ (List.mem_append_left _ (List.mem_append_right _ (h)))))
  have w2 := hts (Cond.fieldLink RX3 132 "CoinRails$CoinText" "length" "I") (List.mem_of_getElem? (i := 4) (by decide +kernel))
  have iX0 : ∀ w ∈ wsX00, w ∈ wsX3_append := fun _ h => List.mem_cons_of_mem _ (List.mem_append_left _ (List.mem_append_left _ (List.mem_append_right _ (h))))
  have w4 := hts (Cond.classLink RX3 38 "java/lang/IllegalStateException") (List.mem_of_getElem? (i := 1) (by decide +kernel))
  have w5 := hts (Cond.initialized "java/lang/IllegalStateException") (List.mem_of_getElem? (i := 2) (by decide +kernel))
  subst hargs
  have hl := lv_entry ([.ref (q 0), .int p1]) (n := 2) (Nat.le_of_ble_eq_true rfl)
  rw [lg_entry_eq]
  generalize (lg_sl ([.ref (q 0), .int p1]) ++ List.replicate (2 - (lg_sl ([.ref (q 0), .int p1])).length) Slot.unset).toArray = ls at hl ⊢
  have hl : lv_has ls 2 [(0, .ref (q 0)), (1, .int p1)] := hl
  have h := hs
  unfold sX3_append at h
  have hM0 := hM
  refine lv_iload_n hx hb dX3_append_0 rfl (lv_at hl 1 rfl) ?_
  refine lv_iconst (v := 0) hx hb dX3_append_1 (by decide) ?_
  refine lv_bipush (v := 127) hx hb dX3_append_2 (by decide) ?_
  obtain ⟨r4, e4, h⟩ := othr_s h
  refine t_cV (vx_runS (As := [.int p1, .int (0 : Int32), .int (127 : Int32)]) (rest := []) ⟨hx, hb, hml, hown, hts⟩ (kX3_checkArgument l hfl D cI cR q G K p1 (0 : Int32) (127 : Int32) _ r4 e4) (va_cwS 3 hts gX3_append_X3_checkArgument rfl rfl rfl (by decide +kernel) ⟨Nat.le_of_ble_eq_true rfl, Nat.le_of_ble_eq_true rfl⟩) (mPreST hK hM hS hsz hth) rfl rfl hl.1 rfl (lv_room (Nat.le_of_ble_eq_true rfl)) dX3_append_4 ⟨Nat.le_of_ble_eq_true rfl, Nat.le_of_ble_eq_true rfl⟩) hS hM hsz h hout hlocks (Nat.le_of_ble_eq_true rfl) (Nat.le_of_ble_eq_true rfl) (fun a4 H locs hM hS h => ?_)
  refine W.widen (k := 1) (n := 6) (Nat.le_of_ble_eq_true rfl) (Nat.le_of_ble_eq_true rfl) ?_
  refine lv_aload_n hx hb dX3_append_7 rfl (lv_at hl 0 rfl) ?_
  refine k_getR (C := RX3) (T := TX3) (N := 3) hx hb hts iX3 hown hK hM 0 rfl rfl 2 (by decide) rfl w0 (fun _ h9 => h9) dX3_append_8 ?_
  refine k_getI (C := RX0) (T := TX0) (N := 5) hx hb hts iX0 hown hK hM 63 rfl rfl 1 (by decide) rfl w2 (fun _ h9 => h9) dX3_append_11 ?_
  refine lv_bipush (v := 90) hx hb dX3_append_14 (by decide) ?_
  refine lv_icmp_lt (tgt := 29) hx hb dX3_append_16 (by decide) (fun c16 => ?_) (fun c16 => ?_)
  · replace h := ite_t h c16
    refine lv_aload_n hx hb dX3_append_29 rfl (lv_at hl 0 rfl) ?_
    refine k_getR (C := RX3) (T := TX3) (N := 3) hx hb hts iX3 hown hK hM 0 rfl rfl 2 (by decide) rfl w0 (fun _ h9 => h9) dX3_append_30 ?_
    refine lv_iload_n hx hb dX3_append_33 rfl (lv_at hl 1 rfl) ?_
    obtain ⟨r34, e34, h⟩ := bind_s h
    refine k_cIW (va_runV (As := [.int p1]) (rest := []) ⟨hx, hb, hml, hown, hts⟩ (kX0_addByte l D cI cR q G K p1 hJ r34 e34) (cwV 1 hts gX3_append_X0_addByte rfl rfl rfl (by decide +kernel) ⟨Nat.le_of_ble_eq_true rfl, Nat.le_of_ble_eq_true rfl⟩) (mPreV hK hM 63 rfl rfl) rfl rfl hl.1 rfl (lv_room (Nat.le_of_ble_eq_true rfl)) dX3_append_34 ⟨Nat.le_of_ble_eq_true rfl, Nat.le_of_ble_eq_true rfl⟩) hS hA (fun H locs hM hS => ?_)
    refine W.widen (k := 2) (n := 12) (Nat.le_of_ble_eq_true rfl) (Nat.le_of_ble_eq_true rfl) ?_
    have h := Option.some.inj h
    exact vx_ret (W.iret (v := r34.1) hx hb hr (fun t ht hW => ⟨⟨r34.1, r34.2, rfl, h.symm, w_end ht hM rfl⟩, hS.F ht⟩) hS.2.2 dX3_append_37)
  · replace h := ite_f h c16
    obtain ⟨sa19, hsa19⟩ := hth.2.2.1 (135, "the text is full") (by decide +kernel)
    refine t_throw (names := ["java/lang/RuntimeException", "java/lang/Exception"]) (text := "the text is full") hx hb hst hown (by decide +kernel) (by decide +kernel) w4 w5 hsa19 (vx_hat (fun w h => hts w (List.mem_cons_of_mem _ (List.mem_append_left _ (List.mem_append_right _ (h))))) (by decide +kernel) (vx_c (va_Nw.use rfl (hth.2.2.2.1 "java/lang/IllegalStateException" (by decide +kernel))) (vx_c (va_Nw.use rfl (hth.2.2.2.2 "java/lang/RuntimeException" (by decide +kernel))) (vx_c (va_Nw.use rfl (hth.2.2.2.2 "java/lang/Exception" (by decide +kernel))) (vx_c (va_Nw.use rfl (hth.2.2.2.2 Bundle.tN (by decide +kernel))) vx_n))))) (by decide +kernel) hth hsz hS (hl.1.trans hml.symm) dX3_append_19 dX3_append_22 dX3_append_23 dX3_append_25 dX3_append_28 hout (Nat.le_of_ble_eq_true rfl) (Nat.le_of_ble_eq_true rfl) (Nat.le_of_ble_eq_true rfl) (Nat.le_of_ble_eq_true rfl) hlocks hM h (Nat.le_of_ble_eq_true rfl) (Nat.le_of_ble_eq_true rfl)
set_option maxHeartbeats 4000000 in
set_option maxRecDepth 100000 in
theorem kX3_clearText (l : Launch) (D : va_G) (cI cR : ClassId) (q : Nat → Nat) (G : Nat → Nat → Int32) (K : Nat) (hJ : MJ tmC q) (r : (Int32 × (Nat → Nat → Int32))) (hs : sX3_clearText K G  = some r) : Met l yX3_clearText wsX3_clearText ({ frames := 0, cells := 0, slots := 0, locals := 0 } : Room) (mPre [.ref (q 0)] D cI cR q tmC G) (mIW D cI cR q tmC r) 0 0 (MA tmC q) := by
  refine Met.ofW (cc := cX3_clearText) (maxL := 2) (ret := (some .int)) (by decide) rfl ?_
  intro p e s m args below meth c s₁ B hml hv
  obtain ⟨hargs, hM, hK⟩ := hv
  have hx := B.exec
  have hb := B.bytes
  have hr := B.returns
  have hts := atoms_spec (ws := wsX3_clearText) B.pre
  have hown : s.vm.findClass RX3 = some m.cls := findClass_of_methodNamed B.named
  have hlocks := B.notSynchronized
  have hA : ∀ a, MA tmC q a → MA tmC q a := fun _ h => h
  have hS : va_S (MA tmC q) s.heap s.heap [] := va_S.rf
  have w0 := hts (Cond.fieldLink RX3 26 "CoinRails" "text" "LCoinRails$CoinText;") (List.mem_of_getElem? (i := 1) (by decide +kernel))
  have iX3 : ∀ w ∈ wsX30, w ∈ wsX3_clearText := fun _ h => List.mem_cons_of_mem _ (List.mem_append_left _ (List.mem_append_right _ (h)))
  have w2 := hts (Cond.fieldLink RX3 132 "CoinRails$CoinText" "length" "I") (List.mem_of_getElem? (i := 2) (by decide +kernel))
  have iX0 : ∀ w ∈ wsX00, w ∈ wsX3_clearText := fun _ h => List.mem_cons_of_mem _ (List.mem_append_right _ (h))
  subst hargs
  have hl := lv_entry ([.ref (q 0)]) (n := 2) (Nat.le_of_ble_eq_true rfl)
  rw [lg_entry_eq]
  generalize (lg_sl ([.ref (q 0)]) ++ List.replicate (2 - (lg_sl ([.ref (q 0)])).length) Slot.unset).toArray = ls at hl ⊢
  have hl : lv_has ls 2 [(0, .ref (q 0))] := hl
  have h := hs
  unfold sX3_clearText at h
  have hM0 := hM
  refine lv_aload_n hx hb dX3_clearText_0 rfl (lv_at hl 0 rfl) ?_
  refine k_getR (C := RX3) (T := TX3) (N := 3) hx hb hts iX3 hown hK hM 0 rfl rfl 2 (by decide) rfl w0 (fun _ h9 => h9) dX3_clearText_1 ?_
  refine k_getI (C := RX0) (T := TX0) (N := 5) hx hb hts iX0 hown hK hM 63 rfl rfl 1 (by decide) rfl w2 (fun _ h9 => h9) dX3_clearText_4 ?_
  refine lv_istore_n (lv' := [(1, .int (G 63 1)), (0, .ref (q 0))]) hx hb dX3_clearText_7 rfl hl (by decide) rfl (fun ls hl => ?_)
  refine lv_aload_n hx hb dX3_clearText_8 rfl (lv_at hl 1 rfl) ?_
  refine k_getR (C := RX3) (T := TX3) (N := 3) hx hb hts iX3 hown hK hM 0 rfl rfl 2 (by decide) rfl w0 (fun _ h9 => h9) dX3_clearText_9 ?_
  refine lv_iconst (v := 0) hx hb dX3_clearText_12 (by decide) ?_
  refine k_putI (C := RX0) (T := TX0) (N := 5) (v := (0 : Int32)) hx hb hts iX0 tyX0 tyX0_ok nmX0 hown hK hM hJ hA hS 63 rfl rfl 1 (by decide) rfl w2 (fun _ h9 => h9) rfl (by decide +kernel) dX3_clearText_13 (fun H locs hM hS => ?_)
  obtain ⟨G15, eG15, h⟩ := olet_s h
  rw [eG15] at hM
  refine lv_iload_n hx hb dX3_clearText_16 rfl (lv_at hl 0 rfl) ?_
  have h := Option.some.inj h
  exact W.iret (v := (G 63 1)) hx hb hr (fun t ht hW => ⟨⟨(G 63 1), (), rfl, p_fst h, w_end ht hM (p_snd h)⟩, hS.F ht⟩) hS.2.2 dX3_clearText_17
set_option maxHeartbeats 4000000 in
set_option maxRecDepth 100000 in
theorem kX3_parse (l : Launch) (D : va_G) (cI cR : ClassId) (q : Nat → Nat) (G : Nat → Nat → Int32) (K : Nat) (hJ : MJ tmC q) (r : (Int32 × (Nat → Nat → Int32))) (hs : sX3_parse K G  = some r) : Met l yX3_parse wsX3_parse ({ frames := 4, cells := 0, slots := 0, locals := 110 } : Room) (mPre [.ref (q 0)] D cI cR q tmC G) (mIW D cI cR q tmC r) 0 0 (MA tmC q) := by
  refine Met.ofW (cc := cX3_parse) (maxL := 4) (ret := (some .int)) (by decide) rfl ?_
  intro p e s m args below meth c s₁ B hml hv
  obtain ⟨hargs, hM, hK⟩ := hv
  have hx := B.exec
  have hb := B.bytes
  have hr := B.returns
  have hts := atoms_spec (ws := wsX3_parse) B.pre
  have hown : s.vm.findClass RX3 = some m.cls := findClass_of_methodNamed B.named
  have hlocks := B.notSynchronized
  have hA : ∀ a, MA tmC q a → MA tmC q a := fun _ h => h
  have hS : va_S (MA tmC q) s.heap s.heap [] := va_S.rf
  have w0 := hts (Cond.fieldLink RX3 26 "CoinRails" "text" "LCoinRails$CoinText;") (List.mem_of_getElem? (i := 1) (by decide +kernel))
  have iX3 : ∀ w ∈ wsX30, w ∈ wsX3_parse := fun _ h => List.mem_cons_of_mem _ (List.mem_append_left _ (List.mem_append_left _ (List.mem_append_left _ (List.mem_append_right _ (h)))))
  have w2 := hts (Cond.fieldLink RX3 12 "CoinRails" "now" "LCoinRails$State;") (List.mem_of_getElem? (i := 2) (by decide +kernel))
  have w3 := hts (Cond.fieldLink RX3 34 "CoinRails$State" "kinds" "I") (List.mem_of_getElem? (i := 3) (by decide +kernel))
  have iX2 : ∀ w ∈ wsX20, w ∈ wsX3_parse := fun _ h => List.mem_cons_of_mem _ (List.mem_append_left _ (List.mem_append_left _ (List.mem_append_right _ (h))))
  have w5 := hts (Cond.fieldLink RX3 19 "CoinRails" "history" "LCoinRails$History;") (List.mem_of_getElem? (i := 4) (by decide +kernel))
  have w6 := hts (Cond.fieldLink RX3 143 "CoinRails$CoinText" "coins" "I") (List.mem_of_getElem? (i := 5) (by decide +kernel))
  have iX0 : ∀ w ∈ wsX00, w ∈ wsX3_parse := fun _ h => List.mem_cons_of_mem _ (List.mem_append_left _ (List.mem_append_right _ (h)))
  have w8 := hts (Cond.fieldLink RX3 146 "CoinRails$CoinText" "kindOf" "[I") (List.mem_of_getElem? (i := 6) (by decide +kernel))
  have w9 := hts (Cond.fieldLink RX3 149 "CoinRails$CoinText" "wearOf" "[I") (List.mem_of_getElem? (i := 7) (by decide +kernel))
  have L40 : ∀ (n : Nat), ∀ (G1 : Nat → Nat → Int32) (x1 : Int32) (x2 : Int32) (x3 : Int32) (H : Heap) (locs : List Loc) (ls : Array Slot), sX3_parse_L40 K n G1 x1 x2 x3 = some r → MW D cI cR q tmC G1 H → va_S (MA tmC q) s.heap H locs → lv_has ls 4 [(0, .ref (q 0)), (1, .int x1), (2, .int x2), (3, .int x3)] → W p l e (headSpec wsX3_parse ({ frames := 4, cells := 0, slots := 0, locals := 110 } : Room)).room s m args below meth c H locs 0 0 (MQ below (mIW D cI cR q tmC r) args s 0 0 (MA tmC q)) (F0 m 40 ls []) := by
    clear hM hS
    intro n
    induction n with
    | zero => exact fun _ _ _ _ _ _ _ h => absurd h (by simp [sX3_parse_L40])
    | succ n ih =>
      intro G1 x1 x2 x3 H locs ls h hM hS hl
      rw [sX3_parse_L40] at h
      refine lv_iload_n hx hb dX3_parse_40 rfl (lv_at hl 3 rfl) ?_
      refine lv_aload_n hx hb dX3_parse_41 rfl (lv_at hl 0 rfl) ?_
      refine k_getR (C := RX3) (T := TX3) (N := 3) hx hb hts iX3 hown hK hM 0 rfl rfl 2 (by decide) rfl w0 (fun _ h9 => h9) dX3_parse_42 ?_
      refine k_getI (C := RX0) (T := TX0) (N := 5) hx hb hts iX0 hown hK hM 63 rfl rfl 4 (by decide) rfl w6 (fun _ h9 => h9) dX3_parse_45 ?_
      refine lv_icmp_ge (tgt := 91) hx hb dX3_parse_48 (by decide) (fun c48 => ?_) (fun c48 => ?_)
      · replace h := ite_t h c48
        refine lv_iload_n hx hb dX3_parse_91 rfl (lv_at hl 2 rfl) ?_
        have h := Option.some.inj h
        exact W.iret (v := x2) hx hb hr (fun t ht hW => ⟨⟨x2, (), rfl, p_fst h, w_end ht hM (p_snd h)⟩, hS.F ht⟩) hS.2.2 dX3_parse_92
      · replace h := ite_f h c48
        refine lv_aload_n hx hb dX3_parse_51 rfl (lv_at hl 0 rfl) ?_
        refine k_getR (C := RX3) (T := TX3) (N := 3) hx hb hts iX3 hown hK hM 0 rfl rfl 0 (by decide) rfl w2 (fun _ h9 => h9) dX3_parse_52 ?_
        refine lv_aload_n hx hb dX3_parse_55 rfl (lv_at hl 0 rfl) ?_
        refine k_getR (C := RX3) (T := TX3) (N := 3) hx hb hts iX3 hown hK hM 0 rfl rfl 2 (by decide) rfl w0 (fun _ h9 => h9) dX3_parse_56 ?_
        refine k_getR (C := RX0) (T := TX0) (N := 5) hx hb hts iX0 hown hK hM 63 rfl rfl 2 (by decide) rfl w8 (fun _ h9 => h9) dX3_parse_59 ?_
        refine lv_iload_n hx hb dX3_parse_62 rfl (lv_at hl 3 rfl) ?_
        obtain ⟨g63, h⟩ := grd_s h
        refine k_iald hx hb hK hM 65 rfl g63 dX3_parse_63 ?_
        refine lv_aload_n hx hb dX3_parse_64 rfl (lv_at hl 0 rfl) ?_
        refine k_getR (C := RX3) (T := TX3) (N := 3) hx hb hts iX3 hown hK hM 0 rfl rfl 2 (by decide) rfl w0 (fun _ h9 => h9) dX3_parse_65 ?_
        refine k_getR (C := RX0) (T := TX0) (N := 5) hx hb hts iX0 hown hK hM 63 rfl rfl 3 (by decide) rfl w9 (fun _ h9 => h9) dX3_parse_68 ?_
        refine lv_iload_n hx hb dX3_parse_71 rfl (lv_at hl 3 rfl) ?_
        obtain ⟨g72, h⟩ := grd_s h
        refine k_iald hx hb hK hM 66 rfl g72 dX3_parse_72 ?_
        obtain ⟨r73, e73, h⟩ := bind_s h
        refine k_cIW (va_runV (As := [.int (G1 65 x3.toNatClampNeg), .int (G1 66 x3.toNatClampNeg)]) (rest := []) ⟨hx, hb, hml, hown, hts⟩ (kX2_putCoin l D cI cR q G1 K (G1 65 x3.toNatClampNeg) (G1 66 x3.toNatClampNeg) hJ r73 e73) (cwV 2 hts gX3_parse_X2_putCoin rfl rfl rfl (by decide +kernel) ⟨Nat.le_of_ble_eq_true rfl, Nat.le_of_ble_eq_true rfl⟩) (mPreV hK hM 1 rfl rfl) rfl rfl hl.1 rfl (lv_room (Nat.le_of_ble_eq_true rfl)) dX3_parse_73 ⟨Nat.le_of_ble_eq_true rfl, Nat.le_of_ble_eq_true rfl⟩) hS hA (fun H locs hM hS => ?_)
        obtain ⟨r76, e76, h⟩ := bind_s h
        refine k_cI (va_runS (As := [.int r73.1]) (rest := []) ⟨hx, hb, hml, hown, hts⟩ (kX3_isRail l D cI cR q r73.2 K r73.1 r76 e76) (va_cwS 1 hts gX3_parse_X3_isRail rfl rfl rfl (by decide +kernel) ⟨Nat.le_of_ble_eq_true rfl, Nat.le_of_ble_eq_true rfl⟩) (mPreS hK hM) rfl rfl hl.1 rfl (lv_room (Nat.le_of_ble_eq_true rfl)) dX3_parse_76 ⟨Nat.le_of_ble_eq_true rfl, Nat.le_of_ble_eq_true rfl⟩) hS hM (fun H locs hM hS => ?_)
        refine lv_if_eq (tgt := 85) hx hb dX3_parse_79 (by decide) (fun c79 => ?_) (fun c79 => ?_)
        · replace h := ite_t h c79
          refine lv_iinc (v := (x3 + 1)) (lv' := [(3, .int (x3 + 1)), (0, .ref (q 0)), (1, .int x1), (2, .int x2)]) hx hb dX3_parse_85 hl (k := 3) rfl (congrArg (fun z : Int32 => x3 + z) (show Int32.ofInt (1) = 1 by decide)) (by decide) rfl (fun ls hl => ?_)
          refine lv_goto (tgt := 40) hx hb dX3_parse_88 (by decide) ?_
          exact ih r73.2 x1 x2 (x3 + 1) _ _ _ h hM hS (lv_sub hl [1, 2, 3, 0] rfl)
        · replace h := ite_f h c79
          refine lv_iinc (v := (x2 + 1)) (lv' := [(2, .int (x2 + 1)), (0, .ref (q 0)), (1, .int x1), (3, .int x3)]) hx hb dX3_parse_82 hl (k := 2) rfl (congrArg (fun z : Int32 => x2 + z) (show Int32.ofInt (1) = 1 by decide)) (by decide) rfl (fun ls hl => ?_)
          refine lv_iinc (v := (x3 + 1)) (lv' := [(3, .int (x3 + 1)), (2, .int (x2 + 1)), (0, .ref (q 0)), (1, .int x1)]) hx hb dX3_parse_85 hl (k := 3) rfl (congrArg (fun z : Int32 => x3 + z) (show Int32.ofInt (1) = 1 by decide)) (by decide) rfl (fun ls hl => ?_)
          refine lv_goto (tgt := 40) hx hb dX3_parse_88 (by decide) ?_
          exact ih r73.2 x1 (x2 + 1) (x3 + 1) _ _ _ h hM hS (lv_sub hl [2, 3, 1, 0] rfl)
  subst hargs
  have hl := lv_entry ([.ref (q 0)]) (n := 4) (Nat.le_of_ble_eq_true rfl)
  rw [lg_entry_eq]
  generalize (lg_sl ([.ref (q 0)]) ++ List.replicate (4 - (lg_sl ([.ref (q 0)])).length) Slot.unset).toArray = ls at hl ⊢
  have hl : lv_has ls 4 [(0, .ref (q 0))] := hl
  have h := hs
  unfold sX3_parse at h
  have hM0 := hM
  refine lv_aload_n hx hb dX3_parse_0 rfl (lv_at hl 0 rfl) ?_
  refine k_getR (C := RX3) (T := TX3) (N := 3) hx hb hts iX3 hown hK hM 0 rfl rfl 2 (by decide) rfl w0 (fun _ h9 => h9) dX3_parse_1 ?_
  refine lv_aload_n hx hb dX3_parse_4 rfl (lv_at hl 0 rfl) ?_
  refine k_getR (C := RX3) (T := TX3) (N := 3) hx hb hts iX3 hown hK hM 0 rfl rfl 0 (by decide) rfl w2 (fun _ h9 => h9) dX3_parse_5 ?_
  refine k_getI (C := RX2) (T := TX2) (N := 13) hx hb hts iX2 hown hK hM 1 rfl rfl 0 (by decide) rfl w3 (fun _ h9 => h9) dX3_parse_8 ?_
  obtain ⟨r11, e11, h⟩ := bind_s h
  refine k_cIW (va_runV (As := [.int (G 1 0)]) (rest := []) ⟨hx, hb, hml, hown, hts⟩ (kX0_readCoins l D cI cR q G K (G 1 0) hJ r11 e11) (cwV 1 hts gX3_parse_X0_readCoins rfl rfl rfl (by decide +kernel) ⟨Nat.le_of_ble_eq_true rfl, Nat.le_of_ble_eq_true rfl⟩) (mPreV hK hM 63 rfl rfl) rfl rfl hl.1 rfl (lv_room (Nat.le_of_ble_eq_true rfl)) dX3_parse_11 ⟨Nat.le_of_ble_eq_true rfl, Nat.le_of_ble_eq_true rfl⟩) hS hA (fun H locs hM hS => ?_)
  refine lv_istore_n (lv' := [(1, .int r11.1), (0, .ref (q 0))]) hx hb dX3_parse_14 rfl hl (by decide) rfl (fun ls hl => ?_)
  refine lv_iload_n hx hb dX3_parse_15 rfl (lv_at hl 0 rfl) ?_
  refine lv_iconst (v := -1) hx hb dX3_parse_16 (by decide) ?_
  refine lv_icmp_eq (tgt := 25) hx hb dX3_parse_17 (by decide) (fun c17 => ?_) (fun c17 => ?_)
  · replace h := ite_t h c17
    refine lv_aload_n hx hb dX3_parse_25 rfl (lv_at hl 1 rfl) ?_
    refine k_getR (C := RX3) (T := TX3) (N := 3) hx hb hts iX3 hown hK hM 0 rfl rfl 1 (by decide) rfl w5 (fun _ h9 => h9) dX3_parse_26 ?_
    refine lv_aload_n hx hb dX3_parse_29 rfl (lv_at hl 1 rfl) ?_
    refine k_getR (C := RX3) (T := TX3) (N := 3) hx hb hts iX3 hown hK hM 0 rfl rfl 0 (by decide) rfl w2 (fun _ h9 => h9) dX3_parse_30 ?_
    obtain ⟨r33, e33, h⟩ := bind_s h
    refine k_cVW (va_runV (As := [.ref (q 1)]) (rest := []) ⟨hx, hb, hml, hown, hts⟩ (kX1_save l D cI cR q r11.2 K hJ r33 e33) (cwV 1 hts gX3_parse_X1_save rfl rfl rfl (by decide +kernel) ⟨Nat.le_of_ble_eq_true rfl, Nat.le_of_ble_eq_true rfl⟩) (mPreV hK hM 13 rfl rfl) rfl rfl hl.1 rfl (lv_room (Nat.le_of_ble_eq_true rfl)) dX3_parse_33 ⟨Nat.le_of_ble_eq_true rfl, Nat.le_of_ble_eq_true rfl⟩) hS hA (fun H locs hM hS => ?_)
    refine lv_iconst (v := 0) hx hb dX3_parse_36 (by decide) ?_
    refine lv_istore_n (lv' := [(2, .int (0 : Int32)), (1, .int r11.1), (0, .ref (q 0))]) hx hb dX3_parse_37 rfl hl (by decide) rfl (fun ls hl => ?_)
    refine lv_iconst (v := 0) hx hb dX3_parse_38 (by decide) ?_
    refine lv_istore_n (lv' := [(3, .int (0 : Int32)), (2, .int (0 : Int32)), (1, .int r11.1), (0, .ref (q 0))]) hx hb dX3_parse_39 rfl hl (by decide) rfl (fun ls hl => ?_)
    exact L40 K r33 r11.1 (0 : Int32) (0 : Int32) _ _ _ h hM hS (lv_sub hl [3, 2, 1, 0] rfl)
  · replace h := ite_f h c17
    refine lv_bipush (v := -10) hx hb dX3_parse_20 (by decide) ?_
    refine lv_iload_n hx hb dX3_parse_22 rfl (lv_at hl 0 rfl) ?_
    refine lv_isub hx hb dX3_parse_23 ?_
    have h := Option.some.inj h
    exact W.iret (v := ((-10 : Int32) - r11.1)) hx hb hr (fun t ht hW => ⟨⟨((-10 : Int32) - r11.1), (), rfl, p_fst h, w_end ht hM (p_snd h)⟩, hS.F ht⟩) hS.2.2 dX3_parse_24
set_option maxHeartbeats 4000000 in
set_option maxRecDepth 100000 in
theorem kX3_undo (l : Launch) (hfl : l.flags = flags0) (D : va_G) (cI cR : ClassId) (q : Nat → Nat) (G : Nat → Nat → Int32) (K : Nat) (hJ : MJ tmC q) (sz : Nat) (r : (String ⊕ (Int32 × (Nat → Nat → Int32)))) (hs : sX3_undo K G  = some r) : vx_Met l yX3_undo wsX3_undo ({ frames := 6, cells := 1, slots := 6, locals := 110 } : Room) (mPreT [.ref (q 0)] D cI cR q tmC G sz) (tIW D cI cR q tmC r sz) (tX D cI cR q tmC G r sz) 1 6 (MN tmC q sz) := by
  refine vx_ofW (cc := cX3_undo) (maxL := 1) (ret := (some .int)) (by decide) rfl ?_
  intro p e s m args below meth c s₁ B hml hemp hv
  have hout : ∀ (k : Nat), ∀ x ∈ c.exceptionTable.toList, covers x k = false := fun k x hx => (hemp x hx).elim
  obtain ⟨hargs, hsz0, hM, hK, hth⟩ := hv
  have hx := B.exec
  have hb := B.bytes
  have hr := B.returns
  have hts := atoms_spec (ws := wsX3_undo) B.pre
  have hown : s.vm.findClass RX3 = some m.cls := findClass_of_methodNamed B.named
  have hlocks := B.notSynchronized
  have hst : l.stackTraces = false := by unfold Launch.stackTraces; rw [hfl]; decide +kernel
  have hA : ∀ a, MA tmC q a → MN tmC q sz a := fun _ h => Or.inl h
  have hsz : s.heap.size = sz := hsz0
  have hS : va_S (MN tmC q sz) s.heap s.heap [] := va_S.rf
  have w0 := hts (Cond.fieldLink RX3 19 "CoinRails" "history" "LCoinRails$History;") (List.mem_of_getElem? (i := 3) (by decide +kernel))
  have iX3 : ∀ w ∈ wsX30, w ∈ wsX3_undo := fun _ h => List.mem_cons_of_mem _ (List.mem_append_left _ (List.mem_append_left _ (List.mem_append_left _ (List.mem_append_right _ (h)))))
  have w2 := hts (Cond.fieldLink RX3 155 "CoinRails$History" "states" "I") (List.mem_of_getElem? (i := 4) (by decide +kernel))
  have iX1 : ∀ w ∈ wsX10, w ∈ wsX3_undo := fun _ h => List.mem_cons_of_mem _ (List.mem_append_left _ (List.mem_append_left _ (List.mem_append_right _ (h))))
  have w4 := hts (Cond.fieldLink RX3 12 "CoinRails" "now" "LCoinRails$State;") (List.mem_of_getElem? (i := 5) (by decide +kernel))
  have w5 := hts (Cond.classLink RX3 38 "java/lang/IllegalStateException") (List.mem_of_getElem? (i := 1) (by decide +kernel))
  have w6 := hts (Cond.initialized "java/lang/IllegalStateException") (List.mem_of_getElem? (i := 2) (by decide +kernel))
  subst hargs
  have hl := lv_entry ([.ref (q 0)]) (n := 1) (Nat.le_of_ble_eq_true rfl)
  rw [lg_entry_eq]
  generalize (lg_sl ([.ref (q 0)]) ++ List.replicate (1 - (lg_sl ([.ref (q 0)])).length) Slot.unset).toArray = ls at hl ⊢
  have hl : lv_has ls 1 [(0, .ref (q 0))] := hl
  have h := hs
  unfold sX3_undo at h
  have hM0 := hM
  refine lv_aload_n hx hb dX3_undo_0 rfl (lv_at hl 0 rfl) ?_
  refine k_getR (C := RX3) (T := TX3) (N := 3) hx hb hts iX3 hown hK hM 0 rfl rfl 1 (by decide) rfl w0 (fun _ h9 => h9) dX3_undo_1 ?_
  refine k_getI (C := RX1) (T := TX1) (N := 3) hx hb hts iX1 hown hK hM 13 rfl rfl 2 (by decide) rfl w2 (fun _ h9 => h9) dX3_undo_4 ?_
  refine lv_if_ne (tgt := 20) hx hb dX3_undo_7 (by decide) (fun c7 => ?_) (fun c7 => ?_)
  · replace h := ite_f h c7
    refine lv_aload_n hx hb dX3_undo_20 rfl (lv_at hl 0 rfl) ?_
    refine k_getR (C := RX3) (T := TX3) (N := 3) hx hb hts iX3 hown hK hM 0 rfl rfl 1 (by decide) rfl w0 (fun _ h9 => h9) dX3_undo_21 ?_
    refine lv_aload_n hx hb dX3_undo_24 rfl (lv_at hl 0 rfl) ?_
    refine k_getR (C := RX3) (T := TX3) (N := 3) hx hb hts iX3 hown hK hM 0 rfl rfl 0 (by decide) rfl w4 (fun _ h9 => h9) dX3_undo_25 ?_
    obtain ⟨r28, e28, h⟩ := bind_s h
    refine k_cIW (va_runV (As := [.ref (q 1)]) (rest := []) ⟨hx, hb, hml, hown, hts⟩ (kX1_restore l D cI cR q G K hJ r28 e28) (cwV 1 hts gX3_undo_X1_restore rfl rfl rfl (by decide +kernel) ⟨Nat.le_of_ble_eq_true rfl, Nat.le_of_ble_eq_true rfl⟩) (mPreV hK hM 13 rfl rfl) rfl rfl hl.1 rfl (lv_room (Nat.le_of_ble_eq_true rfl)) dX3_undo_28 ⟨Nat.le_of_ble_eq_true rfl, Nat.le_of_ble_eq_true rfl⟩) hS hA (fun H locs hM hS => ?_)
    refine W.widen (k := 1) (n := 6) (Nat.le_of_ble_eq_true rfl) (Nat.le_of_ble_eq_true rfl) ?_
    have h := Option.some.inj h
    exact vx_ret (W.iret (v := r28.1) hx hb hr (fun t ht hW => ⟨⟨r28.1, r28.2, rfl, h.symm, w_end ht hM rfl⟩, hS.F ht⟩) hS.2.2 dX3_undo_31)
  · replace h := ite_t h c7
    obtain ⟨sa10, hsa10⟩ := hth.2.2.1 (158, "there is no saved state") (by decide +kernel)
    refine t_throw (names := ["java/lang/RuntimeException", "java/lang/Exception"]) (text := "there is no saved state") hx hb hst hown (by decide +kernel) (by decide +kernel) w5 w6 hsa10 (vx_hat (fun w h => hts w (List.mem_cons_of_mem _ (List.mem_append_right _ (h)))) (by decide +kernel) (vx_c (va_Nw.use rfl (hth.2.2.2.1 "java/lang/IllegalStateException" (by decide +kernel))) (vx_c (va_Nw.use rfl (hth.2.2.2.2 "java/lang/RuntimeException" (by decide +kernel))) (vx_c (va_Nw.use rfl (hth.2.2.2.2 "java/lang/Exception" (by decide +kernel))) (vx_c (va_Nw.use rfl (hth.2.2.2.2 Bundle.tN (by decide +kernel))) vx_n))))) (by decide +kernel) hth hsz hS (hl.1.trans hml.symm) dX3_undo_10 dX3_undo_13 dX3_undo_14 dX3_undo_16 dX3_undo_19 hout (Nat.le_of_ble_eq_true rfl) (Nat.le_of_ble_eq_true rfl) (Nat.le_of_ble_eq_true rfl) (Nat.le_of_ble_eq_true rfl) hlocks hM h (Nat.le_of_ble_eq_true rfl) (Nat.le_of_ble_eq_true rfl)
set_option maxHeartbeats 4000000 in
set_option maxRecDepth 100000 in
theorem kX3_hashOfKind (l : Launch) (D : va_G) (cI cR : ClassId) (q : Nat → Nat) (G : Nat → Nat → Int32) (K : Nat) (p1 : Int64) (p2 : Int32) (r : Int64) (hs : sX3_hashOfKind K G p1 p2 = some r) : Met l yX3_hashOfKind wsX3_hashOfKind ({ frames := 5, cells := 0, slots := 0, locals := 114 } : Room) (mPre [.ref (q 0), .long p1, .int p2] D cI cR q tmC G) (mJ r) 0 0 (fun _ => False) := by
  refine Met.ofW (cc := cX3_hashOfKind) (maxL := 7) (ret := (some .long)) (by decide) rfl ?_
  intro p e s m args below meth c s₁ B hml hv
  obtain ⟨hargs, hM, hK⟩ := hv
  have hx := B.exec
  have hb := B.bytes
  have hr := B.returns
  have hts := atoms_spec (ws := wsX3_hashOfKind) B.pre
  have hown : s.vm.findClass RX3 = some m.cls := findClass_of_methodNamed B.named
  have hlocks := B.notSynchronized
  have hS : va_S (fun _ => False) s.heap s.heap [] := va_S.rf
  have w0 := hts (Cond.constantLong RX3 166 (31)) (List.mem_of_getElem? (i := 1) (by decide +kernel))
  have w1 := hts (Cond.fieldLink RX3 12 "CoinRails" "now" "LCoinRails$State;") (List.mem_of_getElem? (i := 2) (by decide +kernel))
  have iX3 : ∀ w ∈ wsX30, w ∈ wsX3_hashOfKind := fun _ h => List.mem_cons_of_mem _ (List.mem_append_left _ (List.mem_append_right _ (h)))
  have L6 : ∀ (n : Nat), ∀ (G : Nat → Nat → Int32) (x4 : Int64) (x6 : Int32) (H : Heap) (locs : List Loc) (ls : Array Slot), sX3_hashOfKind_L6 K G p1 p2 n x4 x6 = some r → MW D cI cR q tmC G H → va_S (fun _ => False) s.heap H locs → lv_has ls 7 [(0, .ref (q 0)), (1, .long p1), (3, .int p2), (4, .long x4), (6, .int x6)] → W p l e (headSpec wsX3_hashOfKind ({ frames := 5, cells := 0, slots := 0, locals := 114 } : Room)).room s m args below meth c H locs 0 0 (MQ below (mJ r) args s 0 0 (fun _ => False)) (F0 m 6 ls []) := by
    clear hM hS
    intro n
    induction n with
    | zero => exact fun _ _ _ _ _ _ h => absurd h (by simp [sX3_hashOfKind_L6])
    | succ n ih =>
      intro G x4 x6 H locs ls h hM hS hl
      rw [sX3_hashOfKind_L6] at h
      refine lv_iload hx hb dX3_hashOfKind_6 (lv_at hl 4 rfl) ?_
      refine lv_bipush (v := 7) hx hb dX3_hashOfKind_8 (by decide) ?_
      refine lv_icmp_ge (tgt := 39) hx hb dX3_hashOfKind_10 (by decide) (fun c10 => ?_) (fun c10 => ?_)
      · replace h := ite_t h c10
        refine lv_ldc2 hx hb hown w0 dX3_hashOfKind_39 ?_
        refine lv_lload hx hb dX3_hashOfKind_42 (lv_at hl 3 rfl) ?_
        refine lv_lmul hx hb dX3_hashOfKind_44 ?_
        refine lv_aload_n hx hb dX3_hashOfKind_45 rfl (lv_at hl 0 rfl) ?_
        refine k_getR (C := RX3) (T := TX3) (N := 3) hx hb hts iX3 hown hK hM 0 rfl rfl 0 (by decide) rfl w1 (fun _ h9 => h9) dX3_hashOfKind_46 ?_
        refine lv_iload_n hx hb dX3_hashOfKind_49 rfl (lv_at hl 2 rfl) ?_
        obtain ⟨r50, e50, h⟩ := bind_s h
        refine k_cI (va_runV (As := [.int p2]) (rest := [.long ((31 : Int64) * x4)]) ⟨hx, hb, hml, hown, hts⟩ (kX2_mostFittingWear l D cI cR q G K p2 r50 e50) (cwV 1 hts gX3_hashOfKind_X2_mostFittingWear rfl rfl rfl (by decide +kernel) ⟨Nat.le_of_ble_eq_true rfl, Nat.le_of_ble_eq_true rfl⟩) (mPreV hK hM 1 rfl rfl) rfl rfl hl.1 rfl (lv_room (Nat.le_of_ble_eq_true rfl)) dX3_hashOfKind_50 ⟨Nat.le_of_ble_eq_true rfl, Nat.le_of_ble_eq_true rfl⟩) hS hM (fun H locs hM hS => ?_)
        refine lv_i2l (v := r50.toInt64) hx hb dX3_hashOfKind_53 rfl ?_
        refine lv_ladd hx hb dX3_hashOfKind_54 ?_
        exact W.lret (v := (((31 : Int64) * x4) + r50.toInt64)) hx hb hr (fun t ht hW => ⟨⟨(((31 : Int64) * x4) + r50.toInt64), (), rfl, Option.some.inj h, trivial⟩, hS.F ht⟩) hS.2.2 dX3_hashOfKind_55
      · replace h := ite_f h c10
        refine lv_ldc2 hx hb hown w0 dX3_hashOfKind_13 ?_
        refine lv_lload hx hb dX3_hashOfKind_16 (lv_at hl 3 rfl) ?_
        refine lv_lmul hx hb dX3_hashOfKind_18 ?_
        refine lv_aload_n hx hb dX3_hashOfKind_19 rfl (lv_at hl 0 rfl) ?_
        refine k_getR (C := RX3) (T := TX3) (N := 3) hx hb hts iX3 hown hK hM 0 rfl rfl 0 (by decide) rfl w1 (fun _ h9 => h9) dX3_hashOfKind_20 ?_
        refine lv_iload_n hx hb dX3_hashOfKind_23 rfl (lv_at hl 2 rfl) ?_
        refine lv_iload hx hb dX3_hashOfKind_24 (lv_at hl 4 rfl) ?_
        obtain ⟨r26, e26, h⟩ := bind_s h
        refine k_cI (va_runV (As := [.int p2, .int x6]) (rest := [.long ((31 : Int64) * x4)]) ⟨hx, hb, hml, hown, hts⟩ (kX2_aboutKind l D cI cR q G K p2 x6 r26 e26) (cwV 2 hts gX3_hashOfKind_X2_aboutKind rfl rfl rfl (by decide +kernel) ⟨Nat.le_of_ble_eq_true rfl, Nat.le_of_ble_eq_true rfl⟩) (mPreV hK hM 1 rfl rfl) rfl rfl hl.1 rfl (lv_room (Nat.le_of_ble_eq_true rfl)) dX3_hashOfKind_26 ⟨Nat.le_of_ble_eq_true rfl, Nat.le_of_ble_eq_true rfl⟩) hS hM (fun H locs hM hS => ?_)
        refine lv_i2l (v := r26.toInt64) hx hb dX3_hashOfKind_29 rfl ?_
        refine lv_ladd hx hb dX3_hashOfKind_30 ?_
        refine lv_lstore (lv' := [(4, .long (((31 : Int64) * x4) + r26.toInt64)), (0, .ref (q 0)), (1, .long p1), (3, .int p2), (6, .int x6)]) hx hb dX3_hashOfKind_31 hl (by decide) rfl (fun ls hl => ?_)
        refine lv_iinc (v := (x6 + 1)) (lv' := [(6, .int (x6 + 1)), (4, .long (((31 : Int64) * x4) + r26.toInt64)), (0, .ref (q 0)), (1, .long p1), (3, .int p2)]) hx hb dX3_hashOfKind_33 hl (k := 4) rfl (congrArg (fun z : Int32 => x6 + z) (show Int32.ofInt (1) = 1 by decide)) (by decide) rfl (fun ls hl => ?_)
        refine lv_goto (tgt := 6) hx hb dX3_hashOfKind_36 (by decide) ?_
        exact ih G (((31 : Int64) * x4) + r26.toInt64) (x6 + 1) _ _ _ h hM hS (lv_sub hl [2, 3, 4, 1, 0] rfl)
  subst hargs
  have hl := lv_entry ([.ref (q 0), .long p1, .int p2]) (n := 7) (Nat.le_of_ble_eq_true rfl)
  rw [lg_entry_eq]
  generalize (lg_sl ([.ref (q 0), .long p1, .int p2]) ++ List.replicate (7 - (lg_sl ([.ref (q 0), .long p1, .int p2])).length) Slot.unset).toArray = ls at hl ⊢
  have hl : lv_has ls 7 [(0, .ref (q 0)), (1, .long p1), (3, .int p2)] := hl
  have h := hs
  unfold sX3_hashOfKind at h
  have hM0 := hM
  refine lv_lload_n hx hb dX3_hashOfKind_0 rfl (lv_at hl 1 rfl) ?_
  refine lv_lstore (lv' := [(4, .long p1), (0, .ref (q 0)), (1, .long p1), (3, .int p2)]) hx hb dX3_hashOfKind_1 hl (by decide) rfl (fun ls hl => ?_)
  refine lv_iconst (v := 0) hx hb dX3_hashOfKind_3 (by decide) ?_
  refine lv_istore (lv' := [(6, .int (0 : Int32)), (4, .long p1), (0, .ref (q 0)), (1, .long p1), (3, .int p2)]) hx hb dX3_hashOfKind_4 hl (by decide) rfl (fun ls hl => ?_)
  exact L6 K G p1 (0 : Int32) _ _ _ h hM hS (lv_sub hl [2, 3, 4, 1, 0] rfl)
set_option maxHeartbeats 4000000 in
set_option maxRecDepth 100000 in
theorem kX3_hashOfRail (l : Launch) (D : va_G) (cI cR : ClassId) (q : Nat → Nat) (G : Nat → Nat → Int32) (K : Nat) (p1 : Int64) (p2 : Int32) (r : Int64) (hs : sX3_hashOfRail K G p1 p2 = some r) : Met l yX3_hashOfRail wsX3_hashOfRail ({ frames := 3, cells := 0, slots := 0, locals := 67 } : Room) (mPre [.ref (q 0), .long p1, .int p2] D cI cR q tmC G) (mJ r) 0 0 (fun _ => False) := by
  refine Met.ofW (cc := cX3_hashOfRail) (maxL := 7) (ret := (some .long)) (by decide) rfl ?_
  intro p e s m args below meth c s₁ B hml hv
  obtain ⟨hargs, hM, hK⟩ := hv
  have hx := B.exec
  have hb := B.bytes
  have hr := B.returns
  have hts := atoms_spec (ws := wsX3_hashOfRail) B.pre
  have hown : s.vm.findClass RX3 = some m.cls := findClass_of_methodNamed B.named
  have hlocks := B.notSynchronized
  have hS : va_S (fun _ => False) s.heap s.heap [] := va_S.rf
  have w0 := hts (Cond.fieldLink RX3 12 "CoinRails" "now" "LCoinRails$State;") (List.mem_of_getElem? (i := 2) (by decide +kernel))
  have iX3 : ∀ w ∈ wsX30, w ∈ wsX3_hashOfRail := fun _ h => List.mem_cons_of_mem _ (List.mem_append_left _ (List.mem_append_right _ (h)))
  have w2 := hts (Cond.fieldLink RX3 34 "CoinRails$State" "kinds" "I") (List.mem_of_getElem? (i := 3) (by decide +kernel))
  have iX2 : ∀ w ∈ wsX20, w ∈ wsX3_hashOfRail := fun _ h => List.mem_cons_of_mem _ (List.mem_append_right _ (h))
  have w4 := hts (Cond.constantLong RX3 166 (31)) (List.mem_of_getElem? (i := 1) (by decide +kernel))
  have L42 : ∀ (n : Nat), ∀ (G : Nat → Nat → Int32) (x4 : Int64) (x6 : Int32) (H : Heap) (locs : List Loc) (ls : Array Slot), sX3_hashOfRail_L42 K G p1 p2 n x4 x6 = some r → MW D cI cR q tmC G H → va_S (fun _ => False) s.heap H locs → lv_has ls 7 [(0, .ref (q 0)), (1, .long p1), (3, .int p2), (4, .long x4), (6, .int x6)] → W p l e (headSpec wsX3_hashOfRail ({ frames := 3, cells := 0, slots := 0, locals := 67 } : Room)).room s m args below meth c H locs 0 0 (MQ below (mJ r) args s 0 0 (fun _ => False)) (F0 m 42 ls []) := by
    clear hM hS
    intro n
    induction n with
    | zero => exact fun _ _ _ _ _ _ h => absurd h (by simp [sX3_hashOfRail_L42])
    | succ n ih =>
      intro G x4 x6 H locs ls h hM hS hl
      rw [sX3_hashOfRail_L42] at h
      refine lv_iload hx hb dX3_hashOfRail_42 (lv_at hl 4 rfl) ?_
      refine lv_aload_n hx hb dX3_hashOfRail_44 rfl (lv_at hl 0 rfl) ?_
      refine k_getR (C := RX3) (T := TX3) (N := 3) hx hb hts iX3 hown hK hM 0 rfl rfl 0 (by decide) rfl w0 (fun _ h9 => h9) dX3_hashOfRail_45 ?_
      refine k_getI (C := RX2) (T := TX2) (N := 13) hx hb hts iX2 hown hK hM 1 rfl rfl 0 (by decide) rfl w2 (fun _ h9 => h9) dX3_hashOfRail_48 ?_
      refine lv_icmp_ge (tgt := 80) hx hb dX3_hashOfRail_51 (by decide) (fun c51 => ?_) (fun c51 => ?_)
      · replace h := ite_t h c51
        refine lv_lload hx hb dX3_hashOfRail_80 (lv_at hl 3 rfl) ?_
        exact W.lret (v := x4) hx hb hr (fun t ht hW => ⟨⟨x4, (), rfl, Option.some.inj h, trivial⟩, hS.F ht⟩) hS.2.2 dX3_hashOfRail_82
      · replace h := ite_f h c51
        refine lv_ldc2 hx hb hown w4 dX3_hashOfRail_54 ?_
        refine lv_lload hx hb dX3_hashOfRail_57 (lv_at hl 3 rfl) ?_
        refine lv_lmul hx hb dX3_hashOfRail_59 ?_
        refine lv_aload_n hx hb dX3_hashOfRail_60 rfl (lv_at hl 0 rfl) ?_
        refine k_getR (C := RX3) (T := TX3) (N := 3) hx hb hts iX3 hown hK hM 0 rfl rfl 0 (by decide) rfl w0 (fun _ h9 => h9) dX3_hashOfRail_61 ?_
        refine lv_iload_n hx hb dX3_hashOfRail_64 rfl (lv_at hl 2 rfl) ?_
        refine lv_iload hx hb dX3_hashOfRail_65 (lv_at hl 4 rfl) ?_
        obtain ⟨r67, e67, h⟩ := bind_s h
        refine k_cI (va_runV (As := [.int p2, .int x6]) (rest := [.long ((31 : Int64) * x4)]) ⟨hx, hb, hml, hown, hts⟩ (kX2_coinsOfKind l D cI cR q G K p2 x6 r67 e67) (cwV 2 hts gX3_hashOfRail_X2_coinsOfKind rfl rfl rfl (by decide +kernel) ⟨Nat.le_of_ble_eq_true rfl, Nat.le_of_ble_eq_true rfl⟩) (mPreV hK hM 1 rfl rfl) rfl rfl hl.1 rfl (lv_room (Nat.le_of_ble_eq_true rfl)) dX3_hashOfRail_67 ⟨Nat.le_of_ble_eq_true rfl, Nat.le_of_ble_eq_true rfl⟩) hS hM (fun H locs hM hS => ?_)
        refine lv_i2l (v := r67.toInt64) hx hb dX3_hashOfRail_70 rfl ?_
        refine lv_ladd hx hb dX3_hashOfRail_71 ?_
        refine lv_lstore (lv' := [(4, .long (((31 : Int64) * x4) + r67.toInt64)), (0, .ref (q 0)), (1, .long p1), (3, .int p2), (6, .int x6)]) hx hb dX3_hashOfRail_72 hl (by decide) rfl (fun ls hl => ?_)
        refine lv_iinc (v := (x6 + 1)) (lv' := [(6, .int (x6 + 1)), (4, .long (((31 : Int64) * x4) + r67.toInt64)), (0, .ref (q 0)), (1, .long p1), (3, .int p2)]) hx hb dX3_hashOfRail_74 hl (k := 4) rfl (congrArg (fun z : Int32 => x6 + z) (show Int32.ofInt (1) = 1 by decide)) (by decide) rfl (fun ls hl => ?_)
        refine lv_goto (tgt := 42) hx hb dX3_hashOfRail_77 (by decide) ?_
        exact ih G (((31 : Int64) * x4) + r67.toInt64) (x6 + 1) _ _ _ h hM hS (lv_sub hl [2, 3, 4, 1, 0] rfl)
  have L6 : ∀ (n : Nat), ∀ (G : Nat → Nat → Int32) (x4 : Int64) (x6 : Int32) (H : Heap) (locs : List Loc) (ls : Array Slot), sX3_hashOfRail_L6 K G p1 p2 n x4 x6 = some r → MW D cI cR q tmC G H → va_S (fun _ => False) s.heap H locs → lv_has ls 7 [(0, .ref (q 0)), (1, .long p1), (3, .int p2), (4, .long x4), (6, .int x6)] → W p l e (headSpec wsX3_hashOfRail ({ frames := 3, cells := 0, slots := 0, locals := 67 } : Room)).room s m args below meth c H locs 0 0 (MQ below (mJ r) args s 0 0 (fun _ => False)) (F0 m 6 ls []) := by
    clear hM hS
    intro n
    induction n with
    | zero => exact fun _ _ _ _ _ _ h => absurd h (by simp [sX3_hashOfRail_L6])
    | succ n ih =>
      intro G x4 x6 H locs ls h hM hS hl
      rw [sX3_hashOfRail_L6] at h
      refine lv_iload hx hb dX3_hashOfRail_6 (lv_at hl 4 rfl) ?_
      refine lv_bipush (v := 10) hx hb dX3_hashOfRail_8 (by decide) ?_
      refine lv_icmp_ge (tgt := 39) hx hb dX3_hashOfRail_10 (by decide) (fun c10 => ?_) (fun c10 => ?_)
      · replace h := ite_t h c10
        refine lv_iconst (v := 0) hx hb dX3_hashOfRail_39 (by decide) ?_
        refine lv_istore (lv' := [(6, .int (0 : Int32)), (0, .ref (q 0)), (1, .long p1), (3, .int p2), (4, .long x4)]) hx hb dX3_hashOfRail_40 hl (by decide) rfl (fun ls hl => ?_)
        exact L42 K G x4 (0 : Int32) _ _ _ h hM hS (lv_sub hl [1, 2, 3, 4, 0] rfl)
      · replace h := ite_f h c10
        refine lv_ldc2 hx hb hown w4 dX3_hashOfRail_13 ?_
        refine lv_lload hx hb dX3_hashOfRail_16 (lv_at hl 3 rfl) ?_
        refine lv_lmul hx hb dX3_hashOfRail_18 ?_
        refine lv_aload_n hx hb dX3_hashOfRail_19 rfl (lv_at hl 0 rfl) ?_
        refine k_getR (C := RX3) (T := TX3) (N := 3) hx hb hts iX3 hown hK hM 0 rfl rfl 0 (by decide) rfl w0 (fun _ h9 => h9) dX3_hashOfRail_20 ?_
        refine lv_iload_n hx hb dX3_hashOfRail_23 rfl (lv_at hl 2 rfl) ?_
        refine lv_iload hx hb dX3_hashOfRail_24 (lv_at hl 4 rfl) ?_
        obtain ⟨r26, e26, h⟩ := bind_s h
        refine k_cI (va_runV (As := [.int p2, .int x6]) (rest := [.long ((31 : Int64) * x4)]) ⟨hx, hb, hml, hown, hts⟩ (kX2_aboutRail l D cI cR q G K p2 x6 r26 e26) (cwV 2 hts gX3_hashOfRail_X2_aboutRail rfl rfl rfl (by decide +kernel) ⟨Nat.le_of_ble_eq_true rfl, Nat.le_of_ble_eq_true rfl⟩) (mPreV hK hM 1 rfl rfl) rfl rfl hl.1 rfl (lv_room (Nat.le_of_ble_eq_true rfl)) dX3_hashOfRail_26 ⟨Nat.le_of_ble_eq_true rfl, Nat.le_of_ble_eq_true rfl⟩) hS hM (fun H locs hM hS => ?_)
        refine lv_i2l (v := r26.toInt64) hx hb dX3_hashOfRail_29 rfl ?_
        refine lv_ladd hx hb dX3_hashOfRail_30 ?_
        refine lv_lstore (lv' := [(4, .long (((31 : Int64) * x4) + r26.toInt64)), (0, .ref (q 0)), (1, .long p1), (3, .int p2), (6, .int x6)]) hx hb dX3_hashOfRail_31 hl (by decide) rfl (fun ls hl => ?_)
        refine lv_iinc (v := (x6 + 1)) (lv' := [(6, .int (x6 + 1)), (4, .long (((31 : Int64) * x4) + r26.toInt64)), (0, .ref (q 0)), (1, .long p1), (3, .int p2)]) hx hb dX3_hashOfRail_33 hl (k := 4) rfl (congrArg (fun z : Int32 => x6 + z) (show Int32.ofInt (1) = 1 by decide)) (by decide) rfl (fun ls hl => ?_)
        refine lv_goto (tgt := 6) hx hb dX3_hashOfRail_36 (by decide) ?_
        exact ih G (((31 : Int64) * x4) + r26.toInt64) (x6 + 1) _ _ _ h hM hS (lv_sub hl [2, 3, 4, 1, 0] rfl)
  subst hargs
  have hl := lv_entry ([.ref (q 0), .long p1, .int p2]) (n := 7) (Nat.le_of_ble_eq_true rfl)
  rw [lg_entry_eq]
  generalize (lg_sl ([.ref (q 0), .long p1, .int p2]) ++ List.replicate (7 - (lg_sl ([.ref (q 0), .long p1, .int p2])).length) Slot.unset).toArray = ls at hl ⊢
  have hl : lv_has ls 7 [(0, .ref (q 0)), (1, .long p1), (3, .int p2)] := hl
  have h := hs
  unfold sX3_hashOfRail at h
  have hM0 := hM
  refine lv_lload_n hx hb dX3_hashOfRail_0 rfl (lv_at hl 1 rfl) ?_
  refine lv_lstore (lv' := [(4, .long p1), (0, .ref (q 0)), (1, .long p1), (3, .int p2)]) hx hb dX3_hashOfRail_1 hl (by decide) rfl (fun ls hl => ?_)
  refine lv_iconst (v := 0) hx hb dX3_hashOfRail_3 (by decide) ?_
  refine lv_istore (lv' := [(6, .int (0 : Int32)), (4, .long p1), (0, .ref (q 0)), (1, .long p1), (3, .int p2)]) hx hb dX3_hashOfRail_4 hl (by decide) rfl (fun ls hl => ?_)
  exact L6 K G p1 (0 : Int32) _ _ _ h hM hS (lv_sub hl [2, 3, 4, 1, 0] rfl)
set_option maxHeartbeats 4000000 in
set_option maxRecDepth 100000 in
theorem kX3_digest (l : Launch) (D : va_G) (cI cR : ClassId) (q : Nat → Nat) (G : Nat → Nat → Int32) (K : Nat) (r : Int64) (hs : sX3_digest K G  = some r) : Met l yX3_digest wsX3_digest ({ frames := 6, cells := 0, slots := 0, locals := 140 } : Room) (mPre [.ref (q 0)] D cI cR q tmC G) (mJ r) 0 0 (fun _ => False) := by
  refine Met.ofW (cc := cX3_digest) (maxL := 4) (ret := (some .long)) (by decide) rfl ?_
  intro p e s m args below meth c s₁ B hml hv
  obtain ⟨hargs, hM, hK⟩ := hv
  have hx := B.exec
  have hb := B.bytes
  have hr := B.returns
  have hts := atoms_spec (ws := wsX3_digest) B.pre
  have hown : s.vm.findClass RX3 = some m.cls := findClass_of_methodNamed B.named
  have hlocks := B.notSynchronized
  have hS : va_S (fun _ => False) s.heap s.heap [] := va_S.rf
  have w0 := hts (Cond.constantLong RX3 164 (111383)) (List.mem_of_getElem? (i := 1) (by decide +kernel))
  have w1 := hts (Cond.fieldLink RX3 26 "CoinRails" "text" "LCoinRails$CoinText;") (List.mem_of_getElem? (i := 2) (by decide +kernel))
  have iX3 : ∀ w ∈ wsX30, w ∈ wsX3_digest := fun _ h => List.mem_cons_of_mem _ (List.mem_append_left _ (List.mem_append_left _ (List.mem_append_left _ (List.mem_append_right _ (h)))))
  have w3 := hts (Cond.fieldLink RX3 132 "CoinRails$CoinText" "length" "I") (List.mem_of_getElem? (i := 3) (by decide +kernel))
  have iX0 : ∀ w ∈ wsX00, w ∈ wsX3_digest := fun _ h => List.mem_cons_of_mem _ (List.mem_append_left _ (List.mem_append_left _ (List.mem_append_right _ (h))))
  have w5 := hts (Cond.fieldLink RX3 12 "CoinRails" "now" "LCoinRails$State;") (List.mem_of_getElem? (i := 5) (by decide +kernel))
  have w6 := hts (Cond.fieldLink RX3 34 "CoinRails$State" "kinds" "I") (List.mem_of_getElem? (i := 6) (by decide +kernel))
  have iX2 : ∀ w ∈ wsX20, w ∈ wsX3_digest := fun _ h => List.mem_cons_of_mem _ (List.mem_append_left _ (List.mem_append_right _ (h)))
  have w8 := hts (Cond.constantLong RX3 166 (31)) (List.mem_of_getElem? (i := 4) (by decide +kernel))
  have w9 := hts (Cond.fieldLink RX3 19 "CoinRails" "history" "LCoinRails$History;") (List.mem_of_getElem? (i := 7) (by decide +kernel))
  have w10 := hts (Cond.fieldLink RX3 155 "CoinRails$History" "states" "I") (List.mem_of_getElem? (i := 8) (by decide +kernel))
  have iX1 : ∀ w ∈ wsX10, w ∈ wsX3_digest := fun _ h => List.mem_cons_of_mem _ (List.mem_append_right _ (h))
  have L71 : ∀ (n : Nat), ∀ (G : Nat → Nat → Int32) (x1 : Int64) (x3 : Int32) (H : Heap) (locs : List Loc) (ls : Array Slot), sX3_digest_L71 K G n x1 x3 = some r → MW D cI cR q tmC G H → va_S (fun _ => False) s.heap H locs → lv_has ls 4 [(0, .ref (q 0)), (1, .long x1), (3, .int x3)] → W p l e (headSpec wsX3_digest ({ frames := 6, cells := 0, slots := 0, locals := 140 } : Room)).room s m args below meth c H locs 0 0 (MQ below (mJ r) args s 0 0 (fun _ => False)) (F0 m 71 ls []) := by
    clear hM hS
    intro n
    induction n with
    | zero => exact fun _ _ _ _ _ _ h => absurd h (by simp [sX3_digest_L71])
    | succ n ih =>
      intro G x1 x3 H locs ls h hM hS hl
      rw [sX3_digest_L71] at h
      refine lv_iload_n hx hb dX3_digest_71 rfl (lv_at hl 2 rfl) ?_
      refine lv_bipush (v := 6) hx hb dX3_digest_72 (by decide) ?_
      refine lv_icmp_ge (tgt := 90) hx hb dX3_digest_74 (by decide) (fun c74 => ?_) (fun c74 => ?_)
      · replace h := ite_t h c74
        refine lv_ldc2 hx hb hown w8 dX3_digest_90 ?_
        refine lv_lload_n hx hb dX3_digest_93 rfl (lv_at hl 1 rfl) ?_
        refine lv_lmul hx hb dX3_digest_94 ?_
        refine lv_aload_n hx hb dX3_digest_95 rfl (lv_at hl 0 rfl) ?_
        refine k_getR (C := RX3) (T := TX3) (N := 3) hx hb hts iX3 hown hK hM 0 rfl rfl 1 (by decide) rfl w9 (fun _ h9 => h9) dX3_digest_96 ?_
        refine k_getI (C := RX1) (T := TX1) (N := 3) hx hb hts iX1 hown hK hM 13 rfl rfl 2 (by decide) rfl w10 (fun _ h9 => h9) dX3_digest_99 ?_
        refine lv_i2l (v := (G 13 2).toInt64) hx hb dX3_digest_102 rfl ?_
        refine lv_ladd hx hb dX3_digest_103 ?_
        exact W.lret (v := (((31 : Int64) * x1) + (G 13 2).toInt64)) hx hb hr (fun t ht hW => ⟨⟨(((31 : Int64) * x1) + (G 13 2).toInt64), (), rfl, Option.some.inj h, trivial⟩, hS.F ht⟩) hS.2.2 dX3_digest_104
      · replace h := ite_f h c74
        refine lv_aload_n hx hb dX3_digest_77 rfl (lv_at hl 0 rfl) ?_
        refine lv_lload_n hx hb dX3_digest_78 rfl (lv_at hl 1 rfl) ?_
        refine lv_iload_n hx hb dX3_digest_79 rfl (lv_at hl 2 rfl) ?_
        obtain ⟨r80, e80, h⟩ := bind_s h
        refine k_cJ (va_runV (As := [.long x1, .int x3]) (rest := []) ⟨hx, hb, hml, hown, hts⟩ (kX3_hashOfRail l D cI cR q G K x1 x3 r80 e80) (cwV 2 hts gX3_digest_X3_hashOfRail rfl rfl rfl (by decide +kernel) ⟨Nat.le_of_ble_eq_true rfl, Nat.le_of_ble_eq_true rfl⟩) (mPreV hK hM 0 rfl rfl) rfl rfl hl.1 rfl (lv_room (Nat.le_of_ble_eq_true rfl)) dX3_digest_80 ⟨Nat.le_of_ble_eq_true rfl, Nat.le_of_ble_eq_true rfl⟩) hS hM (fun H locs hM hS => ?_)
        refine lv_lstore_n (lv' := [(1, .long r80), (0, .ref (q 0)), (3, .int x3)]) hx hb dX3_digest_83 rfl hl (by decide) rfl (fun ls hl => ?_)
        refine lv_iinc (v := (x3 + 1)) (lv' := [(3, .int (x3 + 1)), (1, .long r80), (0, .ref (q 0))]) hx hb dX3_digest_84 hl (k := 2) rfl (congrArg (fun z : Int32 => x3 + z) (show Int32.ofInt (1) = 1 by decide)) (by decide) rfl (fun ls hl => ?_)
        refine lv_goto (tgt := 71) hx hb dX3_digest_87 (by decide) ?_
        exact ih G r80 (x3 + 1) _ _ _ h hM hS (lv_sub hl [2, 1, 0] rfl)
  have L45 : ∀ (n : Nat), ∀ (G : Nat → Nat → Int32) (x1 : Int64) (x3 : Int32) (H : Heap) (locs : List Loc) (ls : Array Slot), sX3_digest_L45 K G n x1 x3 = some r → MW D cI cR q tmC G H → va_S (fun _ => False) s.heap H locs → lv_has ls 4 [(0, .ref (q 0)), (1, .long x1), (3, .int x3)] → W p l e (headSpec wsX3_digest ({ frames := 6, cells := 0, slots := 0, locals := 140 } : Room)).room s m args below meth c H locs 0 0 (MQ below (mJ r) args s 0 0 (fun _ => False)) (F0 m 45 ls []) := by
    clear hM hS
    intro n
    induction n with
    | zero => exact fun _ _ _ _ _ _ h => absurd h (by simp [sX3_digest_L45])
    | succ n ih =>
      intro G x1 x3 H locs ls h hM hS hl
      rw [sX3_digest_L45] at h
      refine lv_iload_n hx hb dX3_digest_45 rfl (lv_at hl 2 rfl) ?_
      refine lv_aload_n hx hb dX3_digest_46 rfl (lv_at hl 0 rfl) ?_
      refine k_getR (C := RX3) (T := TX3) (N := 3) hx hb hts iX3 hown hK hM 0 rfl rfl 0 (by decide) rfl w5 (fun _ h9 => h9) dX3_digest_47 ?_
      refine k_getI (C := RX2) (T := TX2) (N := 13) hx hb hts iX2 hown hK hM 1 rfl rfl 0 (by decide) rfl w6 (fun _ h9 => h9) dX3_digest_50 ?_
      refine lv_icmp_ge (tgt := 69) hx hb dX3_digest_53 (by decide) (fun c53 => ?_) (fun c53 => ?_)
      · replace h := ite_t h c53
        refine lv_iconst (v := 0) hx hb dX3_digest_69 (by decide) ?_
        refine lv_istore_n (lv' := [(3, .int (0 : Int32)), (0, .ref (q 0)), (1, .long x1)]) hx hb dX3_digest_70 rfl hl (by decide) rfl (fun ls hl => ?_)
        exact L71 K G x1 (0 : Int32) _ _ _ h hM hS (lv_sub hl [1, 2, 0] rfl)
      · replace h := ite_f h c53
        refine lv_aload_n hx hb dX3_digest_56 rfl (lv_at hl 0 rfl) ?_
        refine lv_lload_n hx hb dX3_digest_57 rfl (lv_at hl 1 rfl) ?_
        refine lv_iload_n hx hb dX3_digest_58 rfl (lv_at hl 2 rfl) ?_
        obtain ⟨r59, e59, h⟩ := bind_s h
        refine k_cJ (va_runV (As := [.long x1, .int x3]) (rest := []) ⟨hx, hb, hml, hown, hts⟩ (kX3_hashOfKind l D cI cR q G K x1 x3 r59 e59) (cwV 2 hts gX3_digest_X3_hashOfKind rfl rfl rfl (by decide +kernel) ⟨Nat.le_of_ble_eq_true rfl, Nat.le_of_ble_eq_true rfl⟩) (mPreV hK hM 0 rfl rfl) rfl rfl hl.1 rfl (lv_room (Nat.le_of_ble_eq_true rfl)) dX3_digest_59 ⟨Nat.le_of_ble_eq_true rfl, Nat.le_of_ble_eq_true rfl⟩) hS hM (fun H locs hM hS => ?_)
        refine lv_lstore_n (lv' := [(1, .long r59), (0, .ref (q 0)), (3, .int x3)]) hx hb dX3_digest_62 rfl hl (by decide) rfl (fun ls hl => ?_)
        refine lv_iinc (v := (x3 + 1)) (lv' := [(3, .int (x3 + 1)), (1, .long r59), (0, .ref (q 0))]) hx hb dX3_digest_63 hl (k := 2) rfl (congrArg (fun z : Int32 => x3 + z) (show Int32.ofInt (1) = 1 by decide)) (by decide) rfl (fun ls hl => ?_)
        refine lv_goto (tgt := 45) hx hb dX3_digest_66 (by decide) ?_
        exact ih G r59 (x3 + 1) _ _ _ h hM hS (lv_sub hl [2, 1, 0] rfl)
  have L15 : ∀ (n : Nat), ∀ (G : Nat → Nat → Int32) (x1 : Int64) (x3 : Int32) (H : Heap) (locs : List Loc) (ls : Array Slot), sX3_digest_L15 K G n x1 x3 = some r → MW D cI cR q tmC G H → va_S (fun _ => False) s.heap H locs → lv_has ls 4 [(0, .ref (q 0)), (1, .long x1), (3, .int x3)] → W p l e (headSpec wsX3_digest ({ frames := 6, cells := 0, slots := 0, locals := 140 } : Room)).room s m args below meth c H locs 0 0 (MQ below (mJ r) args s 0 0 (fun _ => False)) (F0 m 15 ls []) := by
    clear hM hS
    intro n
    induction n with
    | zero => exact fun _ _ _ _ _ _ h => absurd h (by simp [sX3_digest_L15])
    | succ n ih =>
      intro G x1 x3 H locs ls h hM hS hl
      rw [sX3_digest_L15] at h
      refine lv_iload_n hx hb dX3_digest_15 rfl (lv_at hl 2 rfl) ?_
      refine lv_bipush (v := 10) hx hb dX3_digest_16 (by decide) ?_
      refine lv_icmp_ge (tgt := 43) hx hb dX3_digest_18 (by decide) (fun c18 => ?_) (fun c18 => ?_)
      · replace h := ite_t h c18
        refine lv_iconst (v := 0) hx hb dX3_digest_43 (by decide) ?_
        refine lv_istore_n (lv' := [(3, .int (0 : Int32)), (0, .ref (q 0)), (1, .long x1)]) hx hb dX3_digest_44 rfl hl (by decide) rfl (fun ls hl => ?_)
        exact L45 K G x1 (0 : Int32) _ _ _ h hM hS (lv_sub hl [1, 2, 0] rfl)
      · replace h := ite_f h c18
        refine lv_ldc2 hx hb hown w8 dX3_digest_21 ?_
        refine lv_lload_n hx hb dX3_digest_24 rfl (lv_at hl 1 rfl) ?_
        refine lv_lmul hx hb dX3_digest_25 ?_
        refine lv_aload_n hx hb dX3_digest_26 rfl (lv_at hl 0 rfl) ?_
        refine k_getR (C := RX3) (T := TX3) (N := 3) hx hb hts iX3 hown hK hM 0 rfl rfl 0 (by decide) rfl w5 (fun _ h9 => h9) dX3_digest_27 ?_
        refine lv_iload_n hx hb dX3_digest_30 rfl (lv_at hl 2 rfl) ?_
        obtain ⟨r31, e31, h⟩ := bind_s h
        refine k_cI (va_runV (As := [.int x3]) (rest := [.long ((31 : Int64) * x1)]) ⟨hx, hb, hml, hown, hts⟩ (kX2_aboutAll l D cI cR q G K x3 r31 e31) (cwV 1 hts gX3_digest_X2_aboutAll rfl rfl rfl (by decide +kernel) ⟨Nat.le_of_ble_eq_true rfl, Nat.le_of_ble_eq_true rfl⟩) (mPreV hK hM 1 rfl rfl) rfl rfl hl.1 rfl (lv_room (Nat.le_of_ble_eq_true rfl)) dX3_digest_31 ⟨Nat.le_of_ble_eq_true rfl, Nat.le_of_ble_eq_true rfl⟩) hS hM (fun H locs hM hS => ?_)
        refine lv_i2l (v := r31.toInt64) hx hb dX3_digest_34 rfl ?_
        refine lv_ladd hx hb dX3_digest_35 ?_
        refine lv_lstore_n (lv' := [(1, .long (((31 : Int64) * x1) + r31.toInt64)), (0, .ref (q 0)), (3, .int x3)]) hx hb dX3_digest_36 rfl hl (by decide) rfl (fun ls hl => ?_)
        refine lv_iinc (v := (x3 + 1)) (lv' := [(3, .int (x3 + 1)), (1, .long (((31 : Int64) * x1) + r31.toInt64)), (0, .ref (q 0))]) hx hb dX3_digest_37 hl (k := 2) rfl (congrArg (fun z : Int32 => x3 + z) (show Int32.ofInt (1) = 1 by decide)) (by decide) rfl (fun ls hl => ?_)
        refine lv_goto (tgt := 15) hx hb dX3_digest_40 (by decide) ?_
        exact ih G (((31 : Int64) * x1) + r31.toInt64) (x3 + 1) _ _ _ h hM hS (lv_sub hl [2, 1, 0] rfl)
  subst hargs
  have hl := lv_entry ([.ref (q 0)]) (n := 4) (Nat.le_of_ble_eq_true rfl)
  rw [lg_entry_eq]
  generalize (lg_sl ([.ref (q 0)]) ++ List.replicate (4 - (lg_sl ([.ref (q 0)])).length) Slot.unset).toArray = ls at hl ⊢
  have hl : lv_has ls 4 [(0, .ref (q 0))] := hl
  have h := hs
  unfold sX3_digest at h
  have hM0 := hM
  refine lv_ldc2 hx hb hown w0 dX3_digest_0 ?_
  refine lv_aload_n hx hb dX3_digest_3 rfl (lv_at hl 0 rfl) ?_
  refine k_getR (C := RX3) (T := TX3) (N := 3) hx hb hts iX3 hown hK hM 0 rfl rfl 2 (by decide) rfl w1 (fun _ h9 => h9) dX3_digest_4 ?_
  refine k_getI (C := RX0) (T := TX0) (N := 5) hx hb hts iX0 hown hK hM 63 rfl rfl 1 (by decide) rfl w3 (fun _ h9 => h9) dX3_digest_7 ?_
  refine lv_i2l (v := (G 63 1).toInt64) hx hb dX3_digest_10 rfl ?_
  refine lv_ladd hx hb dX3_digest_11 ?_
  refine lv_lstore_n (lv' := [(1, .long ((111383 : Int64) + (G 63 1).toInt64)), (0, .ref (q 0))]) hx hb dX3_digest_12 rfl hl (by decide) rfl (fun ls hl => ?_)
  refine lv_iconst (v := 0) hx hb dX3_digest_13 (by decide) ?_
  refine lv_istore_n (lv' := [(3, .int (0 : Int32)), (1, .long ((111383 : Int64) + (G 63 1).toInt64)), (0, .ref (q 0))]) hx hb dX3_digest_14 rfl hl (by decide) rfl (fun ls hl => ?_)
  exact L15 K G ((111383 : Int64) + (G 63 1).toInt64) (0 : Int32) _ _ _ h hM hS (lv_sub hl [2, 1, 0] rfl)
