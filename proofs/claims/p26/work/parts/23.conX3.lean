set_option maxHeartbeats 4000000 in
set_option maxRecDepth 100000 in
theorem kX3_checkArgument (l : Launch) (D : va_G) (cI cR : ClassId) (q : Nat → Nat) (G : Nat → Nat → Int32) (K : Nat) (p1 : Int32) (p2 : Int32) (p3 : Int32) (r : Unit) (hs : sX3_checkArgument K G p1 p2 p3 = some r) : Met l yX3_checkArgument wsX3_checkArgument ({ frames := 0, cells := 0, slots := 0, locals := 0 } : Room) (mPre [.int p1, .int p2, .int p3] D cI cR q tmC G) (mV) 0 0 (fun _ => False) := by
  refine Met.ofW (cc := cX3_checkArgument) (maxL := 3) (ret := none) (by decide) rfl ?_
  intro p e s m args below meth c s₁ B hml hv
  obtain ⟨hargs, hM, hK⟩ := hv
  have hx := B.exec
  have hb := B.bytes
  have hr := B.returns
  have hts := atoms_spec (ws := wsX3_checkArgument) B.pre
  have hown : s.vm.findClass RX3 = some m.cls := findClass_of_methodNamed B.named
  have hlocks := B.notSynchronized
  have hS : va_S (fun _ => False) s.heap s.heap [] := va_S.rf
  subst hargs
  have hl := lv_entry ([.int p1, .int p2, .int p3]) (n := 3) (Nat.le_of_ble_eq_true rfl)
  rw [lg_entry_eq]
  generalize (lg_sl ([.int p1, .int p2, .int p3]) ++ List.replicate (3 - (lg_sl ([.int p1, .int p2, .int p3])).length) Slot.unset).toArray = ls at hl ⊢
  have hl : lv_has ls 3 [(0, .int p1), (1, .int p2), (2, .int p3)] := hl
  have h := hs
  unfold sX3_checkArgument at h
  have hM0 := hM
  refine lv_iload_n hx hb dX3_checkArgument_0 rfl (lv_at hl 0 rfl) ?_
  refine lv_iload_n hx hb dX3_checkArgument_1 rfl (lv_at hl 1 rfl) ?_
  refine lv_icmp_lt (tgt := 10) hx hb dX3_checkArgument_2 (by decide) (fun c2 => ?_) (fun c2 => ?_)
  · replace h := ite_t h c2
    cases h
  · replace h := ite_f h c2
    refine lv_iload_n hx hb dX3_checkArgument_5 rfl (lv_at hl 0 rfl) ?_
    refine lv_iload_n hx hb dX3_checkArgument_6 rfl (lv_at hl 2 rfl) ?_
    refine lv_icmp_le (tgt := 20) hx hb dX3_checkArgument_7 (by decide) (fun c7 => ?_) (fun c7 => ?_)
    · replace h := ite_t h c7
      exact W.vret hx hb hr (fun t ht hW => ⟨⟨(), rfl, trivial, trivial⟩, hS.F ht⟩) hS.2.2 dX3_checkArgument_20
    · replace h := ite_f h c7
      cases h
set_option maxHeartbeats 4000000 in
set_option maxRecDepth 100000 in
theorem kX3_addKind (l : Launch) (D : va_G) (cI cR : ClassId) (q : Nat → Nat) (G : Nat → Nat → Int32) (K : Nat) (p1 : Int32) (p2 : Int32) (p3 : Int32) (hJ : MJ tmC q) (r : (Int32 × (Nat → Nat → Int32))) (hs : sX3_addKind K G p1 p2 p3 = some r) : Met l yX3_addKind wsX3_addKind ({ frames := 3, cells := 0, slots := 0, locals := 110 } : Room) (mPre [.ref (q 0), .int p1, .int p2, .int p3] D cI cR q tmC G) (mIW D cI cR q tmC r) 0 0 (MA tmC q) := by
  refine Met.ofW (cc := cX3_addKind) (maxL := 4) (ret := (some .int)) (by decide) rfl ?_
  intro p e s m args below meth c s₁ B hml hv
  obtain ⟨hargs, hM, hK⟩ := hv
  have hx := B.exec
  have hb := B.bytes
  have hr := B.returns
  have hts := atoms_spec (ws := wsX3_addKind) B.pre
  have hown : s.vm.findClass RX3 = some m.cls := findClass_of_methodNamed B.named
  have hlocks := B.notSynchronized
  have hA : ∀ a, MA tmC q a → MA tmC q a := fun _ h => h
  have hS : va_S (MA tmC q) s.heap s.heap [] := va_S.rf
  have w0 := hts (Cond.fieldLink RX3 12 "CoinRails" "now" "LCoinRails$State;") (List.mem_of_getElem? (i := 3) (by decide +kernel))
  have iX3 : ∀ w ∈ wsX30, w ∈ wsX3_addKind := fun _ h => List.mem_cons_of_mem _ (List.mem_append_left _ (List.mem_append_left _ (List.mem_append_left _ (List.mem_append_left _ (List.mem_append_right _ (h))))))
  have w2 := hts (Cond.fieldLink RX3 34 "CoinRails$State" "kinds" "I") (List.mem_of_getElem? (i := 4) (by decide +kernel))
  have iX2 : ∀ w ∈ wsX20, w ∈ wsX3_addKind := fun _ h => List.mem_cons_of_mem _ (List.mem_append_left _ (List.mem_append_left _ (List.mem_append_left _ (List.mem_append_right _ (h)))))
  have w4 := hts (Cond.fieldLink RX3 19 "CoinRails" "history" "LCoinRails$History;") (List.mem_of_getElem? (i := 5) (by decide +kernel))
  subst hargs
  have hl := lv_entry ([.ref (q 0), .int p1, .int p2, .int p3]) (n := 4) (Nat.le_of_ble_eq_true rfl)
  rw [lg_entry_eq]
  generalize (lg_sl ([.ref (q 0), .int p1, .int p2, .int p3]) ++ List.replicate (4 - (lg_sl ([.ref (q 0), .int p1, .int p2, .int p3])).length) Slot.unset).toArray = ls at hl ⊢
  have hl : lv_has ls 4 [(0, .ref (q 0)), (1, .int p1), (2, .int p2), (3, .int p3)] := hl
  have h := hs
  unfold sX3_addKind at h
  have hM0 := hM
  refine lv_iload_n hx hb dX3_addKind_0 rfl (lv_at hl 1 rfl) ?_
  refine lv_sipush (v := 1000) hx hb dX3_addKind_1 (by decide) ?_
  refine lv_sipush (v := 4000) hx hb dX3_addKind_4 (by decide) ?_
  obtain ⟨r7, e7, h⟩ := bind_s h
  refine k_cV (va_runS (As := [.int p1, .int (1000 : Int32), .int (4000 : Int32)]) (rest := []) ⟨hx, hb, hml, hown, hts⟩ (kX3_checkArgument l D cI cR q G K p1 (1000 : Int32) (4000 : Int32) r7 e7) (va_cwS 3 hts gX3_addKind_X3_checkArgument rfl rfl rfl (by decide +kernel) ⟨Nat.le_of_ble_eq_true rfl, Nat.le_of_ble_eq_true rfl⟩) (mPreS hK hM) rfl rfl hl.1 rfl (lv_room (Nat.le_of_ble_eq_true rfl)) dX3_addKind_7 ⟨Nat.le_of_ble_eq_true rfl, Nat.le_of_ble_eq_true rfl⟩) hS hM (fun H locs hM hS => ?_)
  refine lv_iload_n hx hb dX3_addKind_10 rfl (lv_at hl 2 rfl) ?_
  refine lv_iconst (v := 1) hx hb dX3_addKind_11 (by decide) ?_
  refine lv_sipush (v := 500) hx hb dX3_addKind_12 (by decide) ?_
  obtain ⟨r15, e15, h⟩ := bind_s h
  refine k_cV (va_runS (As := [.int p2, .int (1 : Int32), .int (500 : Int32)]) (rest := []) ⟨hx, hb, hml, hown, hts⟩ (kX3_checkArgument l D cI cR q G K p2 (1 : Int32) (500 : Int32) r15 e15) (va_cwS 3 hts gX3_addKind_X3_checkArgument rfl rfl rfl (by decide +kernel) ⟨Nat.le_of_ble_eq_true rfl, Nat.le_of_ble_eq_true rfl⟩) (mPreS hK hM) rfl rfl hl.1 rfl (lv_room (Nat.le_of_ble_eq_true rfl)) dX3_addKind_15 ⟨Nat.le_of_ble_eq_true rfl, Nat.le_of_ble_eq_true rfl⟩) hS hM (fun H locs hM hS => ?_)
  refine lv_iload_n hx hb dX3_addKind_18 rfl (lv_at hl 3 rfl) ?_
  refine lv_iconst (v := 0) hx hb dX3_addKind_19 (by decide) ?_
  refine lv_iconst (v := 5) hx hb dX3_addKind_20 (by decide) ?_
  obtain ⟨r21, e21, h⟩ := bind_s h
  refine k_cV (va_runS (As := [.int p3, .int (0 : Int32), .int (5 : Int32)]) (rest := []) ⟨hx, hb, hml, hown, hts⟩ (kX3_checkArgument l D cI cR q G K p3 (0 : Int32) (5 : Int32) r21 e21) (va_cwS 3 hts gX3_addKind_X3_checkArgument rfl rfl rfl (by decide +kernel) ⟨Nat.le_of_ble_eq_true rfl, Nat.le_of_ble_eq_true rfl⟩) (mPreS hK hM) rfl rfl hl.1 rfl (lv_room (Nat.le_of_ble_eq_true rfl)) dX3_addKind_21 ⟨Nat.le_of_ble_eq_true rfl, Nat.le_of_ble_eq_true rfl⟩) hS hM (fun H locs hM hS => ?_)
  refine lv_aload_n hx hb dX3_addKind_24 rfl (lv_at hl 0 rfl) ?_
  refine k_getR (C := RX3) (T := TX3) (N := 3) hx hb hts iX3 hown hK hM 0 rfl rfl 0 (by decide) rfl w0 (fun _ h9 => h9) dX3_addKind_25 ?_
  refine k_getI (C := RX2) (T := TX2) (N := 13) hx hb hts iX2 hown hK hM 1 rfl rfl 0 (by decide) rfl w2 (fun _ h9 => h9) dX3_addKind_28 ?_
  refine lv_bipush (v := 6) hx hb dX3_addKind_31 (by decide) ?_
  refine lv_icmp_lt (tgt := 46) hx hb dX3_addKind_33 (by decide) (fun c33 => ?_) (fun c33 => ?_)
  · replace h := ite_t h c33
    refine lv_aload_n hx hb dX3_addKind_46 rfl (lv_at hl 0 rfl) ?_
    refine k_getR (C := RX3) (T := TX3) (N := 3) hx hb hts iX3 hown hK hM 0 rfl rfl 1 (by decide) rfl w4 (fun _ h9 => h9) dX3_addKind_47 ?_
    refine lv_aload_n hx hb dX3_addKind_50 rfl (lv_at hl 0 rfl) ?_
    refine k_getR (C := RX3) (T := TX3) (N := 3) hx hb hts iX3 hown hK hM 0 rfl rfl 0 (by decide) rfl w0 (fun _ h9 => h9) dX3_addKind_51 ?_
    obtain ⟨r54, e54, h⟩ := bind_s h
    refine k_cVW (va_runV (As := [.ref (q 1)]) (rest := []) ⟨hx, hb, hml, hown, hts⟩ (kX1_save l D cI cR q G K hJ r54 e54) (cwV 1 hts gX3_addKind_X1_save rfl rfl rfl (by decide +kernel) ⟨Nat.le_of_ble_eq_true rfl, Nat.le_of_ble_eq_true rfl⟩) (mPreV hK hM 13 rfl rfl) rfl rfl hl.1 rfl (lv_room (Nat.le_of_ble_eq_true rfl)) dX3_addKind_54 ⟨Nat.le_of_ble_eq_true rfl, Nat.le_of_ble_eq_true rfl⟩) hS hA (fun H locs hM hS => ?_)
    refine lv_aload_n hx hb dX3_addKind_57 rfl (lv_at hl 0 rfl) ?_
    refine k_getR (C := RX3) (T := TX3) (N := 3) hx hb hts iX3 hown hK hM 0 rfl rfl 0 (by decide) rfl w0 (fun _ h9 => h9) dX3_addKind_58 ?_
    refine lv_iload_n hx hb dX3_addKind_61 rfl (lv_at hl 1 rfl) ?_
    refine lv_iload_n hx hb dX3_addKind_62 rfl (lv_at hl 2 rfl) ?_
    refine lv_iload_n hx hb dX3_addKind_63 rfl (lv_at hl 3 rfl) ?_
    obtain ⟨r64, e64, h⟩ := bind_s h
    refine k_cIW (va_runV (As := [.int p1, .int p2, .int p3]) (rest := []) ⟨hx, hb, hml, hown, hts⟩ (kX2_putKind l D cI cR q r54 K p1 p2 p3 hJ r64 e64) (cwV 3 hts gX3_addKind_X2_putKind rfl rfl rfl (by decide +kernel) ⟨Nat.le_of_ble_eq_true rfl, Nat.le_of_ble_eq_true rfl⟩) (mPreV hK hM 1 rfl rfl) rfl rfl hl.1 rfl (lv_room (Nat.le_of_ble_eq_true rfl)) dX3_addKind_64 ⟨Nat.le_of_ble_eq_true rfl, Nat.le_of_ble_eq_true rfl⟩) hS hA (fun H locs hM hS => ?_)
    have h := Option.some.inj h
    exact W.iret (v := r64.1) hx hb hr (fun t ht hW => ⟨⟨r64.1, (), rfl, p_fst h, w_end ht hM (p_snd h)⟩, hS.F ht⟩) hS.2.2 dX3_addKind_67
  · replace h := ite_f h c33
    cases h
set_option maxHeartbeats 4000000 in
set_option maxRecDepth 100000 in
theorem kX3_isRail (l : Launch) (D : va_G) (cI cR : ClassId) (q : Nat → Nat) (G : Nat → Nat → Int32) (K : Nat) (p1 : Int32) (r : Int32) (hs : sX3_isRail K G p1 = some r) : Met l yX3_isRail wsX3_isRail ({ frames := 0, cells := 0, slots := 0, locals := 0 } : Room) (mPre [.int p1] D cI cR q tmC G) (mI r) 0 0 (fun _ => False) := by
  refine Met.ofW (cc := cX3_isRail) (maxL := 1) (ret := (some .boolean)) (by decide) rfl ?_
  intro p e s m args below meth c s₁ B hml hv
  obtain ⟨hargs, hM, hK⟩ := hv
  have hx := B.exec
  have hb := B.bytes
  have hr := B.returns
  have hts := atoms_spec (ws := wsX3_isRail) B.pre
  have hown : s.vm.findClass RX3 = some m.cls := findClass_of_methodNamed B.named
  have hlocks := B.notSynchronized
  have hS : va_S (fun _ => False) s.heap s.heap [] := va_S.rf
  subst hargs
  have hl := lv_entry ([.int p1]) (n := 1) (Nat.le_of_ble_eq_true rfl)
  rw [lg_entry_eq]
  generalize (lg_sl ([.int p1]) ++ List.replicate (1 - (lg_sl ([.int p1])).length) Slot.unset).toArray = ls at hl ⊢
  have hl : lv_has ls 1 [(0, .int p1)] := hl
  have h := hs
  unfold sX3_isRail at h
  have hM0 := hM
  refine lv_iload_n hx hb dX3_isRail_0 rfl (lv_at hl 0 rfl) ?_
  refine lv_if_lt (tgt := 14) hx hb dX3_isRail_1 (by decide) (fun c1 => ?_) (fun c1 => ?_)
  · replace h := ite_t h c1
    refine lv_iconst (v := 0) hx hb dX3_isRail_14 (by decide) ?_
    exact W.zret (ty := .boolean) (v := (0 : Int32)) hx hb hr rfl (fun t ht hW => ⟨⟨(0 : Int32), (), rfl, Option.some.inj h, trivial⟩, hS.F ht⟩) hS.2.2 dX3_isRail_15
  · replace h := ite_f h c1
    refine lv_iload_n hx hb dX3_isRail_4 rfl (lv_at hl 0 rfl) ?_
    refine lv_bipush (v := 6) hx hb dX3_isRail_5 (by decide) ?_
    refine lv_icmp_ge (tgt := 14) hx hb dX3_isRail_7 (by decide) (fun c7 => ?_) (fun c7 => ?_)
    · replace h := ite_t h c7
      refine lv_iconst (v := 0) hx hb dX3_isRail_14 (by decide) ?_
      exact W.zret (ty := .boolean) (v := (0 : Int32)) hx hb hr rfl (fun t ht hW => ⟨⟨(0 : Int32), (), rfl, Option.some.inj h, trivial⟩, hS.F ht⟩) hS.2.2 dX3_isRail_15
    · replace h := ite_f h c7
      refine lv_iconst (v := 1) hx hb dX3_isRail_10 (by decide) ?_
      refine lv_goto (tgt := 15) hx hb dX3_isRail_11 (by decide) ?_
      exact W.zret (ty := .boolean) (v := (1 : Int32)) hx hb hr rfl (fun t ht hW => ⟨⟨(1 : Int32), (), rfl, Option.some.inj h, trivial⟩, hS.F ht⟩) hS.2.2 dX3_isRail_15
set_option maxHeartbeats 4000000 in
set_option maxRecDepth 100000 in
theorem kX3_checkRail (l : Launch) (D : va_G) (cI cR : ClassId) (q : Nat → Nat) (G : Nat → Nat → Int32) (K : Nat) (p1 : Int32) (r : Unit) (hs : sX3_checkRail K G p1 = some r) : Met l yX3_checkRail wsX3_checkRail ({ frames := 1, cells := 0, slots := 0, locals := 20 } : Room) (mPre [.int p1] D cI cR q tmC G) (mV) 0 0 (fun _ => False) := by
  refine Met.ofW (cc := cX3_checkRail) (maxL := 1) (ret := none) (by decide) rfl ?_
  intro p e s m args below meth c s₁ B hml hv
  obtain ⟨hargs, hM, hK⟩ := hv
  have hx := B.exec
  have hb := B.bytes
  have hr := B.returns
  have hts := atoms_spec (ws := wsX3_checkRail) B.pre
  have hown : s.vm.findClass RX3 = some m.cls := findClass_of_methodNamed B.named
  have hlocks := B.notSynchronized
  have hS : va_S (fun _ => False) s.heap s.heap [] := va_S.rf
  subst hargs
  have hl := lv_entry ([.int p1]) (n := 1) (Nat.le_of_ble_eq_true rfl)
  rw [lg_entry_eq]
  generalize (lg_sl ([.int p1]) ++ List.replicate (1 - (lg_sl ([.int p1])).length) Slot.unset).toArray = ls at hl ⊢
  have hl : lv_has ls 1 [(0, .int p1)] := hl
  have h := hs
  unfold sX3_checkRail at h
  have hM0 := hM
  refine lv_iload_n hx hb dX3_checkRail_0 rfl (lv_at hl 0 rfl) ?_
  obtain ⟨r1, e1, h⟩ := bind_s h
  refine k_cI (va_runS (As := [.int p1]) (rest := []) ⟨hx, hb, hml, hown, hts⟩ (kX3_isRail l D cI cR q G K p1 r1 e1) (va_cwS 1 hts gX3_checkRail_X3_isRail rfl rfl rfl (by decide +kernel) ⟨Nat.le_of_ble_eq_true rfl, Nat.le_of_ble_eq_true rfl⟩) (mPreS hK hM) rfl rfl hl.1 rfl (lv_room (Nat.le_of_ble_eq_true rfl)) dX3_checkRail_1 ⟨Nat.le_of_ble_eq_true rfl, Nat.le_of_ble_eq_true rfl⟩) hS hM (fun H locs hM hS => ?_)
  refine lv_if_ne (tgt := 17) hx hb dX3_checkRail_4 (by decide) (fun c4 => ?_) (fun c4 => ?_)
  · replace h := ite_f h c4
    exact W.vret hx hb hr (fun t ht hW => ⟨⟨(), rfl, trivial, trivial⟩, hS.F ht⟩) hS.2.2 dX3_checkRail_17
  · replace h := ite_t h c4
    cases h
set_option maxHeartbeats 4000000 in
set_option maxRecDepth 100000 in
theorem kX3_setGap (l : Launch) (D : va_G) (cI cR : ClassId) (q : Nat → Nat) (G : Nat → Nat → Int32) (K : Nat) (p1 : Int32) (p2 : Int32) (hJ : MJ tmC q) (r : (Int32 × (Nat → Nat → Int32))) (hs : sX3_setGap K G p1 p2 = some r) : Met l yX3_setGap wsX3_setGap ({ frames := 3, cells := 0, slots := 0, locals := 110 } : Room) (mPre [.ref (q 0), .int p1, .int p2] D cI cR q tmC G) (mIW D cI cR q tmC r) 0 0 (MA tmC q) := by
  refine Met.ofW (cc := cX3_setGap) (maxL := 4) (ret := (some .int)) (by decide) rfl ?_
  intro p e s m args below meth c s₁ B hml hv
  obtain ⟨hargs, hM, hK⟩ := hv
  have hx := B.exec
  have hb := B.bytes
  have hr := B.returns
  have hts := atoms_spec (ws := wsX3_setGap) B.pre
  have hown : s.vm.findClass RX3 = some m.cls := findClass_of_methodNamed B.named
  have hlocks := B.notSynchronized
  have hA : ∀ a, MA tmC q a → MA tmC q a := fun _ h => h
  have hS : va_S (MA tmC q) s.heap s.heap [] := va_S.rf
  have w0 := hts (Cond.fieldLink RX3 12 "CoinRails" "now" "LCoinRails$State;") (List.mem_of_getElem? (i := 3) (by decide +kernel))
  have iX3 : ∀ w ∈ wsX30, w ∈ wsX3_setGap := fun _ h => List.mem_cons_of_mem _ (List.mem_append_left _ (List.mem_append_left _ (List.mem_append_left _ (List.mem_append_left _ (List.mem_append_left _ (List.mem_append_right _ (h)))))))
  have w2 := hts (Cond.fieldLink RX3 19 "CoinRails" "history" "LCoinRails$History;") (List.mem_of_getElem? (i := 4) (by decide +kernel))
  have w3 := hts (Cond.fieldLink RX3 70 "CoinRails$State" "gap" "[I") (List.mem_of_getElem? (i := 5) (by decide +kernel))
  have iX2 : ∀ w ∈ wsX20, w ∈ wsX3_setGap := fun _ h => List.mem_cons_of_mem _ (List.mem_append_left _ (List.mem_append_left _ (List.mem_append_left _ (List.mem_append_left _ (List.mem_append_right _ (h))))))
  have w5 := hts (Cond.fieldLink RX3 73 "CoinRails$State" "use" "[I") (List.mem_of_getElem? (i := 6) (by decide +kernel))
  subst hargs
  have hl := lv_entry ([.ref (q 0), .int p1, .int p2]) (n := 4) (Nat.le_of_ble_eq_true rfl)
  rw [lg_entry_eq]
  generalize (lg_sl ([.ref (q 0), .int p1, .int p2]) ++ List.replicate (4 - (lg_sl ([.ref (q 0), .int p1, .int p2])).length) Slot.unset).toArray = ls at hl ⊢
  have hl : lv_has ls 4 [(0, .ref (q 0)), (1, .int p1), (2, .int p2)] := hl
  have h := hs
  unfold sX3_setGap at h
  have hM0 := hM
  refine lv_iload_n hx hb dX3_setGap_0 rfl (lv_at hl 1 rfl) ?_
  obtain ⟨r1, e1, h⟩ := bind_s h
  refine k_cV (va_runS (As := [.int p1]) (rest := []) ⟨hx, hb, hml, hown, hts⟩ (kX3_checkRail l D cI cR q G K p1 r1 e1) (va_cwS 1 hts gX3_setGap_X3_checkRail rfl rfl rfl (by decide +kernel) ⟨Nat.le_of_ble_eq_true rfl, Nat.le_of_ble_eq_true rfl⟩) (mPreS hK hM) rfl rfl hl.1 rfl (lv_room (Nat.le_of_ble_eq_true rfl)) dX3_setGap_1 ⟨Nat.le_of_ble_eq_true rfl, Nat.le_of_ble_eq_true rfl⟩) hS hM (fun H locs hM hS => ?_)
  refine lv_iload_n hx hb dX3_setGap_4 rfl (lv_at hl 2 rfl) ?_
  refine lv_sipush (v := 900) hx hb dX3_setGap_5 (by decide) ?_
  refine lv_sipush (v := 4100) hx hb dX3_setGap_8 (by decide) ?_
  obtain ⟨r11, e11, h⟩ := bind_s h
  refine k_cV (va_runS (As := [.int p2, .int (900 : Int32), .int (4100 : Int32)]) (rest := []) ⟨hx, hb, hml, hown, hts⟩ (kX3_checkArgument l D cI cR q G K p2 (900 : Int32) (4100 : Int32) r11 e11) (va_cwS 3 hts gX3_setGap_X3_checkArgument rfl rfl rfl (by decide +kernel) ⟨Nat.le_of_ble_eq_true rfl, Nat.le_of_ble_eq_true rfl⟩) (mPreS hK hM) rfl rfl hl.1 rfl (lv_room (Nat.le_of_ble_eq_true rfl)) dX3_setGap_11 ⟨Nat.le_of_ble_eq_true rfl, Nat.le_of_ble_eq_true rfl⟩) hS hM (fun H locs hM hS => ?_)
  refine lv_aload_n hx hb dX3_setGap_14 rfl (lv_at hl 0 rfl) ?_
  refine k_getR (C := RX3) (T := TX3) (N := 3) hx hb hts iX3 hown hK hM 0 rfl rfl 0 (by decide) rfl w0 (fun _ h9 => h9) dX3_setGap_15 ?_
  refine lv_iload_n hx hb dX3_setGap_18 rfl (lv_at hl 1 rfl) ?_
  obtain ⟨r19, e19, h⟩ := bind_s h
  refine k_cI (va_runV (As := [.int p1]) (rest := []) ⟨hx, hb, hml, hown, hts⟩ (kX2_isStuck l D cI cR q G K p1 r19 e19) (cwV 1 hts gX3_setGap_X2_isStuck rfl rfl rfl (by decide +kernel) ⟨Nat.le_of_ble_eq_true rfl, Nat.le_of_ble_eq_true rfl⟩) (mPreV hK hM 1 rfl rfl) rfl rfl hl.1 rfl (lv_room (Nat.le_of_ble_eq_true rfl)) dX3_setGap_19 ⟨Nat.le_of_ble_eq_true rfl, Nat.le_of_ble_eq_true rfl⟩) hS hM (fun H locs hM hS => ?_)
  refine lv_if_eq (tgt := 35) hx hb dX3_setGap_22 (by decide) (fun c22 => ?_) (fun c22 => ?_)
  · replace h := ite_t h c22
    refine lv_aload_n hx hb dX3_setGap_35 rfl (lv_at hl 0 rfl) ?_
    refine k_getR (C := RX3) (T := TX3) (N := 3) hx hb hts iX3 hown hK hM 0 rfl rfl 1 (by decide) rfl w2 (fun _ h9 => h9) dX3_setGap_36 ?_
    refine lv_aload_n hx hb dX3_setGap_39 rfl (lv_at hl 0 rfl) ?_
    refine k_getR (C := RX3) (T := TX3) (N := 3) hx hb hts iX3 hown hK hM 0 rfl rfl 0 (by decide) rfl w0 (fun _ h9 => h9) dX3_setGap_40 ?_
    obtain ⟨r43, e43, h⟩ := bind_s h
    refine k_cVW (va_runV (As := [.ref (q 1)]) (rest := []) ⟨hx, hb, hml, hown, hts⟩ (kX1_save l D cI cR q G K hJ r43 e43) (cwV 1 hts gX3_setGap_X1_save rfl rfl rfl (by decide +kernel) ⟨Nat.le_of_ble_eq_true rfl, Nat.le_of_ble_eq_true rfl⟩) (mPreV hK hM 13 rfl rfl) rfl rfl hl.1 rfl (lv_room (Nat.le_of_ble_eq_true rfl)) dX3_setGap_43 ⟨Nat.le_of_ble_eq_true rfl, Nat.le_of_ble_eq_true rfl⟩) hS hA (fun H locs hM hS => ?_)
    refine lv_aload_n hx hb dX3_setGap_46 rfl (lv_at hl 0 rfl) ?_
    refine k_getR (C := RX3) (T := TX3) (N := 3) hx hb hts iX3 hown hK hM 0 rfl rfl 0 (by decide) rfl w0 (fun _ h9 => h9) dX3_setGap_47 ?_
    refine k_getR (C := RX2) (T := TX2) (N := 13) hx hb hts iX2 hown hK hM 1 rfl rfl 6 (by decide) rfl w3 (fun _ h9 => h9) dX3_setGap_50 ?_
    refine lv_iload_n hx hb dX3_setGap_53 rfl (lv_at hl 1 rfl) ?_
    obtain ⟨g54, h⟩ := grd_s h
    refine k_iald hx hb hK hM 7 rfl g54 dX3_setGap_54 ?_
    refine lv_istore_n (lv' := [(3, .int (r43 7 p1.toNatClampNeg)), (0, .ref (q 0)), (1, .int p1), (2, .int p2)]) hx hb dX3_setGap_55 rfl hl (by decide) rfl (fun ls hl => ?_)
    refine lv_aload_n hx hb dX3_setGap_56 rfl (lv_at hl 1 rfl) ?_
    refine k_getR (C := RX3) (T := TX3) (N := 3) hx hb hts iX3 hown hK hM 0 rfl rfl 0 (by decide) rfl w0 (fun _ h9 => h9) dX3_setGap_57 ?_
    refine k_getR (C := RX2) (T := TX2) (N := 13) hx hb hts iX2 hown hK hM 1 rfl rfl 6 (by decide) rfl w3 (fun _ h9 => h9) dX3_setGap_60 ?_
    refine lv_iload_n hx hb dX3_setGap_63 rfl (lv_at hl 2 rfl) ?_
    refine lv_iload_n hx hb dX3_setGap_64 rfl (lv_at hl 3 rfl) ?_
    obtain ⟨g65, h⟩ := grd_s h
    refine k_iast (v := p2) hx hb hK hM hJ hA hS 7 rfl g65 dX3_setGap_65 (fun H locs hM hS => ?_)
    obtain ⟨G67, eG67, h⟩ := olet_s h
    rw [eG67] at hM
    refine lv_aload_n hx hb dX3_setGap_66 rfl (lv_at hl 1 rfl) ?_
    refine k_getR (C := RX3) (T := TX3) (N := 3) hx hb hts iX3 hown hK hM 0 rfl rfl 0 (by decide) rfl w0 (fun _ h9 => h9) dX3_setGap_67 ?_
    refine k_getR (C := RX2) (T := TX2) (N := 13) hx hb hts iX2 hown hK hM 1 rfl rfl 7 (by decide) rfl w5 (fun _ h9 => h9) dX3_setGap_70 ?_
    refine lv_iload_n hx hb dX3_setGap_73 rfl (lv_at hl 2 rfl) ?_
    refine lv_iconst (v := 0) hx hb dX3_setGap_74 (by decide) ?_
    obtain ⟨g75, h⟩ := grd_s h
    refine k_iast (v := (0 : Int32)) hx hb hK hM hJ hA hS 8 rfl g75 dX3_setGap_75 (fun H locs hM hS => ?_)
    obtain ⟨G77, eG77, h⟩ := olet_s h
    rw [eG77] at hM
    refine lv_iload_n hx hb dX3_setGap_76 rfl (lv_at hl 0 rfl) ?_
    have h := Option.some.inj h
    exact W.iret (v := (r43 7 p1.toNatClampNeg)) hx hb hr (fun t ht hW => ⟨⟨(r43 7 p1.toNatClampNeg), (), rfl, p_fst h, w_end ht hM (p_snd h)⟩, hS.F ht⟩) hS.2.2 dX3_setGap_77
  · replace h := ite_f h c22
    cases h
set_option maxHeartbeats 4000000 in
set_option maxRecDepth 100000 in
theorem kX3_checkKind (l : Launch) (D : va_G) (cI cR : ClassId) (q : Nat → Nat) (G : Nat → Nat → Int32) (K : Nat) (p1 : Int32) (r : Unit) (hs : sX3_checkKind K G p1 = some r) : Met l yX3_checkKind wsX3_checkKind ({ frames := 0, cells := 0, slots := 0, locals := 0 } : Room) (mPre [.ref (q 0), .int p1] D cI cR q tmC G) (mV) 0 0 (fun _ => False) := by
  refine Met.ofW (cc := cX3_checkKind) (maxL := 2) (ret := none) (by decide) rfl ?_
  intro p e s m args below meth c s₁ B hml hv
  obtain ⟨hargs, hM, hK⟩ := hv
  have hx := B.exec
  have hb := B.bytes
  have hr := B.returns
  have hts := atoms_spec (ws := wsX3_checkKind) B.pre
  have hown : s.vm.findClass RX3 = some m.cls := findClass_of_methodNamed B.named
  have hlocks := B.notSynchronized
  have hS : va_S (fun _ => False) s.heap s.heap [] := va_S.rf
  have w0 := hts (Cond.fieldLink RX3 12 "CoinRails" "now" "LCoinRails$State;") (List.mem_of_getElem? (i := 3) (by decide +kernel))
  have iX3 : ∀ w ∈ wsX30, w ∈ wsX3_checkKind := fun _ h => List.mem_cons_of_mem _ (List.mem_append_left _ (List.mem_append_left _ (List.mem_append_right _ (h))))
  have w2 := hts (Cond.fieldLink RX3 34 "CoinRails$State" "kinds" "I") (List.mem_of_getElem? (i := 4) (by decide +kernel))
  have iX2 : ∀ w ∈ wsX20, w ∈ wsX3_checkKind := fun _ h => List.mem_cons_of_mem _ (List.mem_append_left _ (List.mem_append_right _ (h)))
  subst hargs
  have hl := lv_entry ([.ref (q 0), .int p1]) (n := 2) (Nat.le_of_ble_eq_true rfl)
  rw [lg_entry_eq]
  generalize (lg_sl ([.ref (q 0), .int p1]) ++ List.replicate (2 - (lg_sl ([.ref (q 0), .int p1])).length) Slot.unset).toArray = ls at hl ⊢
  have hl : lv_has ls 2 [(0, .ref (q 0)), (1, .int p1)] := hl
  have h := hs
  unfold sX3_checkKind at h
  have hM0 := hM
  refine lv_iload_n hx hb dX3_checkKind_0 rfl (lv_at hl 1 rfl) ?_
  refine lv_if_lt (tgt := 15) hx hb dX3_checkKind_1 (by decide) (fun c1 => ?_) (fun c1 => ?_)
  · replace h := ite_t h c1
    cases h
  · replace h := ite_f h c1
    refine lv_iload_n hx hb dX3_checkKind_4 rfl (lv_at hl 1 rfl) ?_
    refine lv_aload_n hx hb dX3_checkKind_5 rfl (lv_at hl 0 rfl) ?_
    refine k_getR (C := RX3) (T := TX3) (N := 3) hx hb hts iX3 hown hK hM 0 rfl rfl 0 (by decide) rfl w0 (fun _ h9 => h9) dX3_checkKind_6 ?_
    refine k_getI (C := RX2) (T := TX2) (N := 13) hx hb hts iX2 hown hK hM 1 rfl rfl 0 (by decide) rfl w2 (fun _ h9 => h9) dX3_checkKind_9 ?_
    refine lv_icmp_lt (tgt := 25) hx hb dX3_checkKind_12 (by decide) (fun c12 => ?_) (fun c12 => ?_)
    · replace h := ite_t h c12
      exact W.vret hx hb hr (fun t ht hW => ⟨⟨(), rfl, trivial, trivial⟩, hS.F ht⟩) hS.2.2 dX3_checkKind_25
    · replace h := ite_f h c12
      cases h
set_option maxHeartbeats 4000000 in
set_option maxRecDepth 100000 in
theorem kX3_feed (l : Launch) (D : va_G) (cI cR : ClassId) (q : Nat → Nat) (G : Nat → Nat → Int32) (K : Nat) (p1 : Int32) (p2 : Int32) (hJ : MJ tmC q) (r : (Int32 × (Nat → Nat → Int32))) (hs : sX3_feed K G p1 p2 = some r) : Met l yX3_feed wsX3_feed ({ frames := 4, cells := 0, slots := 0, locals := 110 } : Room) (mPre [.ref (q 0), .int p1, .int p2] D cI cR q tmC G) (mIW D cI cR q tmC r) 0 0 (MA tmC q) := by
  refine Met.ofW (cc := cX3_feed) (maxL := 3) (ret := (some .int)) (by decide) rfl ?_
  intro p e s m args below meth c s₁ B hml hv
  obtain ⟨hargs, hM, hK⟩ := hv
  have hx := B.exec
  have hb := B.bytes
  have hr := B.returns
  have hts := atoms_spec (ws := wsX3_feed) B.pre
  have hown : s.vm.findClass RX3 = some m.cls := findClass_of_methodNamed B.named
  have hlocks := B.notSynchronized
  have hA : ∀ a, MA tmC q a → MA tmC q a := fun _ h => h
  have hS : va_S (MA tmC q) s.heap s.heap [] := va_S.rf
  have w0 := hts (Cond.fieldLink RX3 19 "CoinRails" "history" "LCoinRails$History;") (List.mem_of_getElem? (i := 1) (by decide +kernel))
  have iX3 : ∀ w ∈ wsX30, w ∈ wsX3_feed := fun _ h => List.mem_cons_of_mem _ (List.mem_append_left _ (List.mem_append_left _ (List.mem_append_left _ (List.mem_append_left _ (List.mem_append_right _ (h))))))
  have w2 := hts (Cond.fieldLink RX3 12 "CoinRails" "now" "LCoinRails$State;") (List.mem_of_getElem? (i := 2) (by decide +kernel))
  subst hargs
  have hl := lv_entry ([.ref (q 0), .int p1, .int p2]) (n := 3) (Nat.le_of_ble_eq_true rfl)
  rw [lg_entry_eq]
  generalize (lg_sl ([.ref (q 0), .int p1, .int p2]) ++ List.replicate (3 - (lg_sl ([.ref (q 0), .int p1, .int p2])).length) Slot.unset).toArray = ls at hl ⊢
  have hl : lv_has ls 3 [(0, .ref (q 0)), (1, .int p1), (2, .int p2)] := hl
  have h := hs
  unfold sX3_feed at h
  have hM0 := hM
  refine lv_aload_n hx hb dX3_feed_0 rfl (lv_at hl 0 rfl) ?_
  refine lv_iload_n hx hb dX3_feed_1 rfl (lv_at hl 1 rfl) ?_
  obtain ⟨r2, e2, h⟩ := bind_s h
  refine k_cV (va_runV (As := [.int p1]) (rest := []) ⟨hx, hb, hml, hown, hts⟩ (kX3_checkKind l D cI cR q G K p1 r2 e2) (cwV 1 hts gX3_feed_X3_checkKind rfl rfl rfl (by decide +kernel) ⟨Nat.le_of_ble_eq_true rfl, Nat.le_of_ble_eq_true rfl⟩) (mPreV hK hM 0 rfl rfl) rfl rfl hl.1 rfl (lv_room (Nat.le_of_ble_eq_true rfl)) dX3_feed_2 ⟨Nat.le_of_ble_eq_true rfl, Nat.le_of_ble_eq_true rfl⟩) hS hM (fun H locs hM hS => ?_)
  refine lv_iload_n hx hb dX3_feed_5 rfl (lv_at hl 2 rfl) ?_
  refine lv_iconst (v := 0) hx hb dX3_feed_6 (by decide) ?_
  refine lv_sipush (v := 999) hx hb dX3_feed_7 (by decide) ?_
  obtain ⟨r10, e10, h⟩ := bind_s h
  refine k_cV (va_runS (As := [.int p2, .int (0 : Int32), .int (999 : Int32)]) (rest := []) ⟨hx, hb, hml, hown, hts⟩ (kX3_checkArgument l D cI cR q G K p2 (0 : Int32) (999 : Int32) r10 e10) (va_cwS 3 hts gX3_feed_X3_checkArgument rfl rfl rfl (by decide +kernel) ⟨Nat.le_of_ble_eq_true rfl, Nat.le_of_ble_eq_true rfl⟩) (mPreS hK hM) rfl rfl hl.1 rfl (lv_room (Nat.le_of_ble_eq_true rfl)) dX3_feed_10 ⟨Nat.le_of_ble_eq_true rfl, Nat.le_of_ble_eq_true rfl⟩) hS hM (fun H locs hM hS => ?_)
  refine lv_aload_n hx hb dX3_feed_13 rfl (lv_at hl 0 rfl) ?_
  refine k_getR (C := RX3) (T := TX3) (N := 3) hx hb hts iX3 hown hK hM 0 rfl rfl 1 (by decide) rfl w0 (fun _ h9 => h9) dX3_feed_14 ?_
  refine lv_aload_n hx hb dX3_feed_17 rfl (lv_at hl 0 rfl) ?_
  refine k_getR (C := RX3) (T := TX3) (N := 3) hx hb hts iX3 hown hK hM 0 rfl rfl 0 (by decide) rfl w2 (fun _ h9 => h9) dX3_feed_18 ?_
  obtain ⟨r21, e21, h⟩ := bind_s h
  refine k_cVW (va_runV (As := [.ref (q 1)]) (rest := []) ⟨hx, hb, hml, hown, hts⟩ (kX1_save l D cI cR q G K hJ r21 e21) (cwV 1 hts gX3_feed_X1_save rfl rfl rfl (by decide +kernel) ⟨Nat.le_of_ble_eq_true rfl, Nat.le_of_ble_eq_true rfl⟩) (mPreV hK hM 13 rfl rfl) rfl rfl hl.1 rfl (lv_room (Nat.le_of_ble_eq_true rfl)) dX3_feed_21 ⟨Nat.le_of_ble_eq_true rfl, Nat.le_of_ble_eq_true rfl⟩) hS hA (fun H locs hM hS => ?_)
  refine lv_aload_n hx hb dX3_feed_24 rfl (lv_at hl 0 rfl) ?_
  refine k_getR (C := RX3) (T := TX3) (N := 3) hx hb hts iX3 hown hK hM 0 rfl rfl 0 (by decide) rfl w2 (fun _ h9 => h9) dX3_feed_25 ?_
  refine lv_iload_n hx hb dX3_feed_28 rfl (lv_at hl 1 rfl) ?_
  refine lv_iload_n hx hb dX3_feed_29 rfl (lv_at hl 2 rfl) ?_
  obtain ⟨r30, e30, h⟩ := bind_s h
  refine k_cIW (va_runV (As := [.int p1, .int p2]) (rest := []) ⟨hx, hb, hml, hown, hts⟩ (kX2_putCoin l D cI cR q r21 K p1 p2 hJ r30 e30) (cwV 2 hts gX3_feed_X2_putCoin rfl rfl rfl (by decide +kernel) ⟨Nat.le_of_ble_eq_true rfl, Nat.le_of_ble_eq_true rfl⟩) (mPreV hK hM 1 rfl rfl) rfl rfl hl.1 rfl (lv_room (Nat.le_of_ble_eq_true rfl)) dX3_feed_30 ⟨Nat.le_of_ble_eq_true rfl, Nat.le_of_ble_eq_true rfl⟩) hS hA (fun H locs hM hS => ?_)
  have h := Option.some.inj h
  exact W.iret (v := r30.1) hx hb hr (fun t ht hW => ⟨⟨r30.1, (), rfl, p_fst h, w_end ht hM (p_snd h)⟩, hS.F ht⟩) hS.2.2 dX3_feed_33
set_option maxHeartbeats 4000000 in
set_option maxRecDepth 100000 in
theorem kX3_feedSome (l : Launch) (D : va_G) (cI cR : ClassId) (q : Nat → Nat) (G : Nat → Nat → Int32) (K : Nat) (p1 : Int32) (p2 : Int32) (hJ : MJ tmC q) (r : (Int32 × (Nat → Nat → Int32))) (hs : sX3_feedSome K G p1 p2 = some r) : Met l yX3_feedSome wsX3_feedSome ({ frames := 5, cells := 0, slots := 0, locals := 121 } : Room) (mPre [.ref (q 0), .int p1, .int p2] D cI cR q tmC G) (mIW D cI cR q tmC r) 0 0 (MA tmC q) := by
  refine Met.ofW (cc := cX3_feedSome) (maxL := 3) (ret := (some .int)) (by decide) rfl ?_
  intro p e s m args below meth c s₁ B hml hv
  obtain ⟨hargs, hM, hK⟩ := hv
  have hx := B.exec
  have hb := B.bytes
  have hr := B.returns
  have hts := atoms_spec (ws := wsX3_feedSome) B.pre
  have hown : s.vm.findClass RX3 = some m.cls := findClass_of_methodNamed B.named
  have hlocks := B.notSynchronized
  have hA : ∀ a, MA tmC q a → MA tmC q a := fun _ h => h
  have hS : va_S (MA tmC q) s.heap s.heap [] := va_S.rf
  have w0 := hts (Cond.constant RX3 80 (999999)) (List.mem_of_getElem? (i := 3) (by decide +kernel))
  have w1 := hts (Cond.fieldLink RX3 12 "CoinRails" "now" "LCoinRails$State;") (List.mem_of_getElem? (i := 4) (by decide +kernel))
  have iX3 : ∀ w ∈ wsX30, w ∈ wsX3_feedSome := fun _ h => List.mem_cons_of_mem _ (List.mem_append_left _ (List.mem_append_left _ (List.mem_append_left _ (List.mem_append_left _ (List.mem_append_right _ (h))))))
  have w3 := hts (Cond.fieldLink RX3 34 "CoinRails$State" "kinds" "I") (List.mem_of_getElem? (i := 5) (by decide +kernel))
  have iX2 : ∀ w ∈ wsX20, w ∈ wsX3_feedSome := fun _ h => List.mem_cons_of_mem _ (List.mem_append_left _ (List.mem_append_left _ (List.mem_append_left _ (List.mem_append_right _ (h)))))
  have w5 := hts (Cond.fieldLink RX3 19 "CoinRails" "history" "LCoinRails$History;") (List.mem_of_getElem? (i := 6) (by decide +kernel))
  subst hargs
  have hl := lv_entry ([.ref (q 0), .int p1, .int p2]) (n := 3) (Nat.le_of_ble_eq_true rfl)
  rw [lg_entry_eq]
  generalize (lg_sl ([.ref (q 0), .int p1, .int p2]) ++ List.replicate (3 - (lg_sl ([.ref (q 0), .int p1, .int p2])).length) Slot.unset).toArray = ls at hl ⊢
  have hl : lv_has ls 3 [(0, .ref (q 0)), (1, .int p1), (2, .int p2)] := hl
  have h := hs
  unfold sX3_feedSome at h
  have hM0 := hM
  refine lv_iload_n hx hb dX3_feedSome_0 rfl (lv_at hl 1 rfl) ?_
  refine lv_iconst (v := 0) hx hb dX3_feedSome_1 (by decide) ?_
  refine lv_sipush (v := 200) hx hb dX3_feedSome_2 (by decide) ?_
  obtain ⟨r5, e5, h⟩ := bind_s h
  refine k_cV (va_runS (As := [.int p1, .int (0 : Int32), .int (200 : Int32)]) (rest := []) ⟨hx, hb, hml, hown, hts⟩ (kX3_checkArgument l D cI cR q G K p1 (0 : Int32) (200 : Int32) r5 e5) (va_cwS 3 hts gX3_feedSome_X3_checkArgument rfl rfl rfl (by decide +kernel) ⟨Nat.le_of_ble_eq_true rfl, Nat.le_of_ble_eq_true rfl⟩) (mPreS hK hM) rfl rfl hl.1 rfl (lv_room (Nat.le_of_ble_eq_true rfl)) dX3_feedSome_5 ⟨Nat.le_of_ble_eq_true rfl, Nat.le_of_ble_eq_true rfl⟩) hS hM (fun H locs hM hS => ?_)
  refine lv_iload_n hx hb dX3_feedSome_8 rfl (lv_at hl 2 rfl) ?_
  refine lv_iconst (v := 0) hx hb dX3_feedSome_9 (by decide) ?_
  refine lv_ldc hx hb hown w0 dX3_feedSome_10 ?_
  obtain ⟨r12, e12, h⟩ := bind_s h
  refine k_cV (va_runS (As := [.int p2, .int (0 : Int32), .int (999999 : Int32)]) (rest := []) ⟨hx, hb, hml, hown, hts⟩ (kX3_checkArgument l D cI cR q G K p2 (0 : Int32) (999999 : Int32) r12 e12) (va_cwS 3 hts gX3_feedSome_X3_checkArgument rfl rfl rfl (by decide +kernel) ⟨Nat.le_of_ble_eq_true rfl, Nat.le_of_ble_eq_true rfl⟩) (mPreS hK hM) rfl rfl hl.1 rfl (lv_room (Nat.le_of_ble_eq_true rfl)) dX3_feedSome_12 ⟨Nat.le_of_ble_eq_true rfl, Nat.le_of_ble_eq_true rfl⟩) hS hM (fun H locs hM hS => ?_)
  refine lv_aload_n hx hb dX3_feedSome_15 rfl (lv_at hl 0 rfl) ?_
  refine k_getR (C := RX3) (T := TX3) (N := 3) hx hb hts iX3 hown hK hM 0 rfl rfl 0 (by decide) rfl w1 (fun _ h9 => h9) dX3_feedSome_16 ?_
  refine k_getI (C := RX2) (T := TX2) (N := 13) hx hb hts iX2 hown hK hM 1 rfl rfl 0 (by decide) rfl w3 (fun _ h9 => h9) dX3_feedSome_19 ?_
  refine lv_if_ne (tgt := 35) hx hb dX3_feedSome_22 (by decide) (fun c22 => ?_) (fun c22 => ?_)
  · replace h := ite_f h c22
    refine lv_aload_n hx hb dX3_feedSome_35 rfl (lv_at hl 0 rfl) ?_
    refine k_getR (C := RX3) (T := TX3) (N := 3) hx hb hts iX3 hown hK hM 0 rfl rfl 1 (by decide) rfl w5 (fun _ h9 => h9) dX3_feedSome_36 ?_
    refine lv_aload_n hx hb dX3_feedSome_39 rfl (lv_at hl 0 rfl) ?_
    refine k_getR (C := RX3) (T := TX3) (N := 3) hx hb hts iX3 hown hK hM 0 rfl rfl 0 (by decide) rfl w1 (fun _ h9 => h9) dX3_feedSome_40 ?_
    obtain ⟨r43, e43, h⟩ := bind_s h
    refine k_cVW (va_runV (As := [.ref (q 1)]) (rest := []) ⟨hx, hb, hml, hown, hts⟩ (kX1_save l D cI cR q G K hJ r43 e43) (cwV 1 hts gX3_feedSome_X1_save rfl rfl rfl (by decide +kernel) ⟨Nat.le_of_ble_eq_true rfl, Nat.le_of_ble_eq_true rfl⟩) (mPreV hK hM 13 rfl rfl) rfl rfl hl.1 rfl (lv_room (Nat.le_of_ble_eq_true rfl)) dX3_feedSome_43 ⟨Nat.le_of_ble_eq_true rfl, Nat.le_of_ble_eq_true rfl⟩) hS hA (fun H locs hM hS => ?_)
    refine lv_aload_n hx hb dX3_feedSome_46 rfl (lv_at hl 0 rfl) ?_
    refine k_getR (C := RX3) (T := TX3) (N := 3) hx hb hts iX3 hown hK hM 0 rfl rfl 0 (by decide) rfl w1 (fun _ h9 => h9) dX3_feedSome_47 ?_
    refine lv_iload_n hx hb dX3_feedSome_50 rfl (lv_at hl 1 rfl) ?_
    refine lv_iload_n hx hb dX3_feedSome_51 rfl (lv_at hl 2 rfl) ?_
    obtain ⟨r52, e52, h⟩ := bind_s h
    refine k_cIW (va_runV (As := [.int p1, .int p2]) (rest := []) ⟨hx, hb, hml, hown, hts⟩ (kX2_putCoinsByChance l D cI cR q r43 K p1 p2 hJ r52 e52) (cwV 2 hts gX3_feedSome_X2_putCoinsByChance rfl rfl rfl (by decide +kernel) ⟨Nat.le_of_ble_eq_true rfl, Nat.le_of_ble_eq_true rfl⟩) (mPreV hK hM 1 rfl rfl) rfl rfl hl.1 rfl (lv_room (Nat.le_of_ble_eq_true rfl)) dX3_feedSome_52 ⟨Nat.le_of_ble_eq_true rfl, Nat.le_of_ble_eq_true rfl⟩) hS hA (fun H locs hM hS => ?_)
    have h := Option.some.inj h
    exact W.iret (v := r52.1) hx hb hr (fun t ht hW => ⟨⟨r52.1, (), rfl, p_fst h, w_end ht hM (p_snd h)⟩, hS.F ht⟩) hS.2.2 dX3_feedSome_55
  · replace h := ite_t h c22
    cases h
set_option maxHeartbeats 4000000 in
set_option maxRecDepth 100000 in
theorem kX3_free (l : Launch) (D : va_G) (cI cR : ClassId) (q : Nat → Nat) (G : Nat → Nat → Int32) (K : Nat) (p1 : Int32) (hJ : MJ tmC q) (r : (Int32 × (Nat → Nat → Int32))) (hs : sX3_free K G p1 = some r) : Met l yX3_free wsX3_free ({ frames := 3, cells := 0, slots := 0, locals := 110 } : Room) (mPre [.ref (q 0), .int p1] D cI cR q tmC G) (mIW D cI cR q tmC r) 0 0 (MA tmC q) := by
  refine Met.ofW (cc := cX3_free) (maxL := 2) (ret := (some .int)) (by decide) rfl ?_
  intro p e s m args below meth c s₁ B hml hv
  obtain ⟨hargs, hM, hK⟩ := hv
  have hx := B.exec
  have hb := B.bytes
  have hr := B.returns
  have hts := atoms_spec (ws := wsX3_free) B.pre
  have hown : s.vm.findClass RX3 = some m.cls := findClass_of_methodNamed B.named
  have hlocks := B.notSynchronized
  have hA : ∀ a, MA tmC q a → MA tmC q a := fun _ h => h
  have hS : va_S (MA tmC q) s.heap s.heap [] := va_S.rf
  have w0 := hts (Cond.fieldLink RX3 12 "CoinRails" "now" "LCoinRails$State;") (List.mem_of_getElem? (i := 3) (by decide +kernel))
  have iX3 : ∀ w ∈ wsX30, w ∈ wsX3_free := fun _ h => List.mem_cons_of_mem _ (List.mem_append_left _ (List.mem_append_left _ (List.mem_append_left _ (List.mem_append_left _ (List.mem_append_right _ (h))))))
  have w2 := hts (Cond.fieldLink RX3 19 "CoinRails" "history" "LCoinRails$History;") (List.mem_of_getElem? (i := 4) (by decide +kernel))
  subst hargs
  have hl := lv_entry ([.ref (q 0), .int p1]) (n := 2) (Nat.le_of_ble_eq_true rfl)
  rw [lg_entry_eq]
  generalize (lg_sl ([.ref (q 0), .int p1]) ++ List.replicate (2 - (lg_sl ([.ref (q 0), .int p1])).length) Slot.unset).toArray = ls at hl ⊢
  have hl : lv_has ls 2 [(0, .ref (q 0)), (1, .int p1)] := hl
  have h := hs
  unfold sX3_free at h
  have hM0 := hM
  refine lv_iload_n hx hb dX3_free_0 rfl (lv_at hl 1 rfl) ?_
  obtain ⟨r1, e1, h⟩ := bind_s h
  refine k_cV (va_runS (As := [.int p1]) (rest := []) ⟨hx, hb, hml, hown, hts⟩ (kX3_checkRail l D cI cR q G K p1 r1 e1) (va_cwS 1 hts gX3_free_X3_checkRail rfl rfl rfl (by decide +kernel) ⟨Nat.le_of_ble_eq_true rfl, Nat.le_of_ble_eq_true rfl⟩) (mPreS hK hM) rfl rfl hl.1 rfl (lv_room (Nat.le_of_ble_eq_true rfl)) dX3_free_1 ⟨Nat.le_of_ble_eq_true rfl, Nat.le_of_ble_eq_true rfl⟩) hS hM (fun H locs hM hS => ?_)
  refine lv_aload_n hx hb dX3_free_4 rfl (lv_at hl 0 rfl) ?_
  refine k_getR (C := RX3) (T := TX3) (N := 3) hx hb hts iX3 hown hK hM 0 rfl rfl 0 (by decide) rfl w0 (fun _ h9 => h9) dX3_free_5 ?_
  refine lv_iload_n hx hb dX3_free_8 rfl (lv_at hl 1 rfl) ?_
  obtain ⟨r9, e9, h⟩ := bind_s h
  refine k_cI (va_runV (As := [.int p1]) (rest := []) ⟨hx, hb, hml, hown, hts⟩ (kX2_isStuck l D cI cR q G K p1 r9 e9) (cwV 1 hts gX3_free_X2_isStuck rfl rfl rfl (by decide +kernel) ⟨Nat.le_of_ble_eq_true rfl, Nat.le_of_ble_eq_true rfl⟩) (mPreV hK hM 1 rfl rfl) rfl rfl hl.1 rfl (lv_room (Nat.le_of_ble_eq_true rfl)) dX3_free_9 ⟨Nat.le_of_ble_eq_true rfl, Nat.le_of_ble_eq_true rfl⟩) hS hM (fun H locs hM hS => ?_)
  refine lv_if_ne (tgt := 25) hx hb dX3_free_12 (by decide) (fun c12 => ?_) (fun c12 => ?_)
  · replace h := ite_f h c12
    refine lv_aload_n hx hb dX3_free_25 rfl (lv_at hl 0 rfl) ?_
    refine k_getR (C := RX3) (T := TX3) (N := 3) hx hb hts iX3 hown hK hM 0 rfl rfl 1 (by decide) rfl w2 (fun _ h9 => h9) dX3_free_26 ?_
    refine lv_aload_n hx hb dX3_free_29 rfl (lv_at hl 0 rfl) ?_
    refine k_getR (C := RX3) (T := TX3) (N := 3) hx hb hts iX3 hown hK hM 0 rfl rfl 0 (by decide) rfl w0 (fun _ h9 => h9) dX3_free_30 ?_
    obtain ⟨r33, e33, h⟩ := bind_s h
    refine k_cVW (va_runV (As := [.ref (q 1)]) (rest := []) ⟨hx, hb, hml, hown, hts⟩ (kX1_save l D cI cR q G K hJ r33 e33) (cwV 1 hts gX3_free_X1_save rfl rfl rfl (by decide +kernel) ⟨Nat.le_of_ble_eq_true rfl, Nat.le_of_ble_eq_true rfl⟩) (mPreV hK hM 13 rfl rfl) rfl rfl hl.1 rfl (lv_room (Nat.le_of_ble_eq_true rfl)) dX3_free_33 ⟨Nat.le_of_ble_eq_true rfl, Nat.le_of_ble_eq_true rfl⟩) hS hA (fun H locs hM hS => ?_)
    refine lv_aload_n hx hb dX3_free_36 rfl (lv_at hl 0 rfl) ?_
    refine k_getR (C := RX3) (T := TX3) (N := 3) hx hb hts iX3 hown hK hM 0 rfl rfl 0 (by decide) rfl w0 (fun _ h9 => h9) dX3_free_37 ?_
    refine lv_iload_n hx hb dX3_free_40 rfl (lv_at hl 1 rfl) ?_
    obtain ⟨r41, e41, h⟩ := bind_s h
    refine k_cIW (va_runV (As := [.int p1]) (rest := []) ⟨hx, hb, hml, hown, hts⟩ (kX2_loosen l D cI cR q r33 K p1 hJ r41 e41) (cwV 1 hts gX3_free_X2_loosen rfl rfl rfl (by decide +kernel) ⟨Nat.le_of_ble_eq_true rfl, Nat.le_of_ble_eq_true rfl⟩) (mPreV hK hM 1 rfl rfl) rfl rfl hl.1 rfl (lv_room (Nat.le_of_ble_eq_true rfl)) dX3_free_41 ⟨Nat.le_of_ble_eq_true rfl, Nat.le_of_ble_eq_true rfl⟩) hS hA (fun H locs hM hS => ?_)
    have h := Option.some.inj h
    exact W.iret (v := r41.1) hx hb hr (fun t ht hW => ⟨⟨r41.1, (), rfl, p_fst h, w_end ht hM (p_snd h)⟩, hS.F ht⟩) hS.2.2 dX3_free_44
  · replace h := ite_t h c12
    cases h
set_option maxHeartbeats 4000000 in
set_option maxRecDepth 100000 in
theorem kX3_takeBag (l : Launch) (D : va_G) (cI cR : ClassId) (q : Nat → Nat) (G : Nat → Nat → Int32) (K : Nat) (p1 : Int32) (hJ : MJ tmC q) (r : (Int32 × (Nat → Nat → Int32))) (hs : sX3_takeBag K G p1 = some r) : Met l yX3_takeBag wsX3_takeBag ({ frames := 3, cells := 0, slots := 0, locals := 110 } : Room) (mPre [.ref (q 0), .int p1] D cI cR q tmC G) (mIW D cI cR q tmC r) 0 0 (MA tmC q) := by
  refine Met.ofW (cc := cX3_takeBag) (maxL := 2) (ret := (some .int)) (by decide) rfl ?_
  intro p e s m args below meth c s₁ B hml hv
  obtain ⟨hargs, hM, hK⟩ := hv
  have hx := B.exec
  have hb := B.bytes
  have hr := B.returns
  have hts := atoms_spec (ws := wsX3_takeBag) B.pre
  have hown : s.vm.findClass RX3 = some m.cls := findClass_of_methodNamed B.named
  have hlocks := B.notSynchronized
  have hA : ∀ a, MA tmC q a → MA tmC q a := fun _ h => h
  have hS : va_S (MA tmC q) s.heap s.heap [] := va_S.rf
  have w0 := hts (Cond.fieldLink RX3 19 "CoinRails" "history" "LCoinRails$History;") (List.mem_of_getElem? (i := 1) (by decide +kernel))
  have iX3 : ∀ w ∈ wsX30, w ∈ wsX3_takeBag := fun _ h => List.mem_cons_of_mem _ (List.mem_append_left _ (List.mem_append_left _ (List.mem_append_left _ (List.mem_append_right _ (h)))))
  have w2 := hts (Cond.fieldLink RX3 12 "CoinRails" "now" "LCoinRails$State;") (List.mem_of_getElem? (i := 2) (by decide +kernel))
  subst hargs
  have hl := lv_entry ([.ref (q 0), .int p1]) (n := 2) (Nat.le_of_ble_eq_true rfl)
  rw [lg_entry_eq]
  generalize (lg_sl ([.ref (q 0), .int p1]) ++ List.replicate (2 - (lg_sl ([.ref (q 0), .int p1])).length) Slot.unset).toArray = ls at hl ⊢
  have hl : lv_has ls 2 [(0, .ref (q 0)), (1, .int p1)] := hl
  have h := hs
  unfold sX3_takeBag at h
  have hM0 := hM
  refine lv_iload_n hx hb dX3_takeBag_0 rfl (lv_at hl 1 rfl) ?_
  obtain ⟨r1, e1, h⟩ := bind_s h
  refine k_cV (va_runS (As := [.int p1]) (rest := []) ⟨hx, hb, hml, hown, hts⟩ (kX3_checkRail l D cI cR q G K p1 r1 e1) (va_cwS 1 hts gX3_takeBag_X3_checkRail rfl rfl rfl (by decide +kernel) ⟨Nat.le_of_ble_eq_true rfl, Nat.le_of_ble_eq_true rfl⟩) (mPreS hK hM) rfl rfl hl.1 rfl (lv_room (Nat.le_of_ble_eq_true rfl)) dX3_takeBag_1 ⟨Nat.le_of_ble_eq_true rfl, Nat.le_of_ble_eq_true rfl⟩) hS hM (fun H locs hM hS => ?_)
  refine lv_aload_n hx hb dX3_takeBag_4 rfl (lv_at hl 0 rfl) ?_
  refine k_getR (C := RX3) (T := TX3) (N := 3) hx hb hts iX3 hown hK hM 0 rfl rfl 1 (by decide) rfl w0 (fun _ h9 => h9) dX3_takeBag_5 ?_
  refine lv_aload_n hx hb dX3_takeBag_8 rfl (lv_at hl 0 rfl) ?_
  refine k_getR (C := RX3) (T := TX3) (N := 3) hx hb hts iX3 hown hK hM 0 rfl rfl 0 (by decide) rfl w2 (fun _ h9 => h9) dX3_takeBag_9 ?_
  obtain ⟨r12, e12, h⟩ := bind_s h
  refine k_cVW (va_runV (As := [.ref (q 1)]) (rest := []) ⟨hx, hb, hml, hown, hts⟩ (kX1_save l D cI cR q G K hJ r12 e12) (cwV 1 hts gX3_takeBag_X1_save rfl rfl rfl (by decide +kernel) ⟨Nat.le_of_ble_eq_true rfl, Nat.le_of_ble_eq_true rfl⟩) (mPreV hK hM 13 rfl rfl) rfl rfl hl.1 rfl (lv_room (Nat.le_of_ble_eq_true rfl)) dX3_takeBag_12 ⟨Nat.le_of_ble_eq_true rfl, Nat.le_of_ble_eq_true rfl⟩) hS hA (fun H locs hM hS => ?_)
  refine lv_aload_n hx hb dX3_takeBag_15 rfl (lv_at hl 0 rfl) ?_
  refine k_getR (C := RX3) (T := TX3) (N := 3) hx hb hts iX3 hown hK hM 0 rfl rfl 0 (by decide) rfl w2 (fun _ h9 => h9) dX3_takeBag_16 ?_
  refine lv_iload_n hx hb dX3_takeBag_19 rfl (lv_at hl 1 rfl) ?_
  obtain ⟨r20, e20, h⟩ := bind_s h
  refine k_cIW (va_runV (As := [.int p1]) (rest := []) ⟨hx, hb, hml, hown, hts⟩ (kX2_emptyBag l D cI cR q r12 K p1 hJ r20 e20) (cwV 1 hts gX3_takeBag_X2_emptyBag rfl rfl rfl (by decide +kernel) ⟨Nat.le_of_ble_eq_true rfl, Nat.le_of_ble_eq_true rfl⟩) (mPreV hK hM 1 rfl rfl) rfl rfl hl.1 rfl (lv_room (Nat.le_of_ble_eq_true rfl)) dX3_takeBag_20 ⟨Nat.le_of_ble_eq_true rfl, Nat.le_of_ble_eq_true rfl⟩) hS hA (fun H locs hM hS => ?_)
  have h := Option.some.inj h
  exact W.iret (v := r20.1) hx hb hr (fun t ht hW => ⟨⟨r20.1, (), rfl, p_fst h, w_end ht hM (p_snd h)⟩, hS.F ht⟩) hS.2.2 dX3_takeBag_23
set_option maxHeartbeats 4000000 in
set_option maxRecDepth 100000 in
theorem kX3_takeRejects (l : Launch) (D : va_G) (cI cR : ClassId) (q : Nat → Nat) (G : Nat → Nat → Int32) (K : Nat) (hJ : MJ tmC q) (r : (Int32 × (Nat → Nat → Int32))) (hs : sX3_takeRejects K G  = some r) : Met l yX3_takeRejects wsX3_takeRejects ({ frames := 3, cells := 0, slots := 0, locals := 110 } : Room) (mPre [.ref (q 0)] D cI cR q tmC G) (mIW D cI cR q tmC r) 0 0 (MA tmC q) := by
  refine Met.ofW (cc := cX3_takeRejects) (maxL := 1) (ret := (some .int)) (by decide) rfl ?_
  intro p e s m args below meth c s₁ B hml hv
  obtain ⟨hargs, hM, hK⟩ := hv
  have hx := B.exec
  have hb := B.bytes
  have hr := B.returns
  have hts := atoms_spec (ws := wsX3_takeRejects) B.pre
  have hown : s.vm.findClass RX3 = some m.cls := findClass_of_methodNamed B.named
  have hlocks := B.notSynchronized
  have hA : ∀ a, MA tmC q a → MA tmC q a := fun _ h => h
  have hS : va_S (MA tmC q) s.heap s.heap [] := va_S.rf
  have w0 := hts (Cond.fieldLink RX3 19 "CoinRails" "history" "LCoinRails$History;") (List.mem_of_getElem? (i := 1) (by decide +kernel))
  have iX3 : ∀ w ∈ wsX30, w ∈ wsX3_takeRejects := fun _ h => List.mem_cons_of_mem _ (List.mem_append_left _ (List.mem_append_left _ (List.mem_append_right _ (h))))
  have w2 := hts (Cond.fieldLink RX3 12 "CoinRails" "now" "LCoinRails$State;") (List.mem_of_getElem? (i := 2) (by decide +kernel))
  subst hargs
  have hl := lv_entry ([.ref (q 0)]) (n := 1) (Nat.le_of_ble_eq_true rfl)
  rw [lg_entry_eq]
  generalize (lg_sl ([.ref (q 0)]) ++ List.replicate (1 - (lg_sl ([.ref (q 0)])).length) Slot.unset).toArray = ls at hl ⊢
  have hl : lv_has ls 1 [(0, .ref (q 0))] := hl
  have h := hs
  unfold sX3_takeRejects at h
  have hM0 := hM
  refine lv_aload_n hx hb dX3_takeRejects_0 rfl (lv_at hl 0 rfl) ?_
  refine k_getR (C := RX3) (T := TX3) (N := 3) hx hb hts iX3 hown hK hM 0 rfl rfl 1 (by decide) rfl w0 (fun _ h9 => h9) dX3_takeRejects_1 ?_
  refine lv_aload_n hx hb dX3_takeRejects_4 rfl (lv_at hl 0 rfl) ?_
  refine k_getR (C := RX3) (T := TX3) (N := 3) hx hb hts iX3 hown hK hM 0 rfl rfl 0 (by decide) rfl w2 (fun _ h9 => h9) dX3_takeRejects_5 ?_
  obtain ⟨r8, e8, h⟩ := bind_s h
  refine k_cVW (va_runV (As := [.ref (q 1)]) (rest := []) ⟨hx, hb, hml, hown, hts⟩ (kX1_save l D cI cR q G K hJ r8 e8) (cwV 1 hts gX3_takeRejects_X1_save rfl rfl rfl (by decide +kernel) ⟨Nat.le_of_ble_eq_true rfl, Nat.le_of_ble_eq_true rfl⟩) (mPreV hK hM 13 rfl rfl) rfl rfl hl.1 rfl (lv_room (Nat.le_of_ble_eq_true rfl)) dX3_takeRejects_8 ⟨Nat.le_of_ble_eq_true rfl, Nat.le_of_ble_eq_true rfl⟩) hS hA (fun H locs hM hS => ?_)
  refine lv_aload_n hx hb dX3_takeRejects_11 rfl (lv_at hl 0 rfl) ?_
  refine k_getR (C := RX3) (T := TX3) (N := 3) hx hb hts iX3 hown hK hM 0 rfl rfl 0 (by decide) rfl w2 (fun _ h9 => h9) dX3_takeRejects_12 ?_
  obtain ⟨r15, e15, h⟩ := bind_s h
  refine k_cIW (va_runV (As := []) (rest := []) ⟨hx, hb, hml, hown, hts⟩ (kX2_removeRejects l D cI cR q r8 K hJ r15 e15) (cwV 0 hts gX3_takeRejects_X2_removeRejects rfl rfl rfl (by decide +kernel) ⟨Nat.le_of_ble_eq_true rfl, Nat.le_of_ble_eq_true rfl⟩) (mPreV hK hM 1 rfl rfl) rfl rfl hl.1 rfl (lv_room (Nat.le_of_ble_eq_true rfl)) dX3_takeRejects_15 ⟨Nat.le_of_ble_eq_true rfl, Nat.le_of_ble_eq_true rfl⟩) hS hA (fun H locs hM hS => ?_)
  have h := Option.some.inj h
  exact W.iret (v := r15.1) hx hb hr (fun t ht hW => ⟨⟨r15.1, (), rfl, p_fst h, w_end ht hM (p_snd h)⟩, hS.F ht⟩) hS.2.2 dX3_takeRejects_18
set_option maxHeartbeats 4000000 in
set_option maxRecDepth 100000 in
theorem kX3_kind (l : Launch) (D : va_G) (cI cR : ClassId) (q : Nat → Nat) (G : Nat → Nat → Int32) (K : Nat) (p1 : Int32) (p2 : Int32) (r : Int32) (hs : sX3_kind K G p1 p2 = some r) : Met l yX3_kind wsX3_kind ({ frames := 3, cells := 0, slots := 0, locals := 67 } : Room) (mPre [.ref (q 0), .int p1, .int p2] D cI cR q tmC G) (mI r) 0 0 (fun _ => False) := by
  refine Met.ofW (cc := cX3_kind) (maxL := 3) (ret := (some .int)) (by decide) rfl ?_
  intro p e s m args below meth c s₁ B hml hv
  obtain ⟨hargs, hM, hK⟩ := hv
  have hx := B.exec
  have hb := B.bytes
  have hr := B.returns
  have hts := atoms_spec (ws := wsX3_kind) B.pre
  have hown : s.vm.findClass RX3 = some m.cls := findClass_of_methodNamed B.named
  have hlocks := B.notSynchronized
  have hS : va_S (fun _ => False) s.heap s.heap [] := va_S.rf
  have w0 := hts (Cond.fieldLink RX3 12 "CoinRails" "now" "LCoinRails$State;") (List.mem_of_getElem? (i := 1) (by decide +kernel))
  have iX3 : ∀ w ∈ wsX30, w ∈ wsX3_kind := fun _ h => List.mem_cons_of_mem _ (List.mem_append_left _ (List.mem_append_left _ (List.mem_append_left _ (List.mem_append_right _ (h)))))
  subst hargs
  have hl := lv_entry ([.ref (q 0), .int p1, .int p2]) (n := 3) (Nat.le_of_ble_eq_true rfl)
  rw [lg_entry_eq]
  generalize (lg_sl ([.ref (q 0), .int p1, .int p2]) ++ List.replicate (3 - (lg_sl ([.ref (q 0), .int p1, .int p2])).length) Slot.unset).toArray = ls at hl ⊢
  have hl : lv_has ls 3 [(0, .ref (q 0)), (1, .int p1), (2, .int p2)] := hl
  have h := hs
  unfold sX3_kind at h
  have hM0 := hM
  refine lv_aload_n hx hb dX3_kind_0 rfl (lv_at hl 0 rfl) ?_
  refine lv_iload_n hx hb dX3_kind_1 rfl (lv_at hl 1 rfl) ?_
  obtain ⟨r2, e2, h⟩ := bind_s h
  refine k_cV (va_runV (As := [.int p1]) (rest := []) ⟨hx, hb, hml, hown, hts⟩ (kX3_checkKind l D cI cR q G K p1 r2 e2) (cwV 1 hts gX3_kind_X3_checkKind rfl rfl rfl (by decide +kernel) ⟨Nat.le_of_ble_eq_true rfl, Nat.le_of_ble_eq_true rfl⟩) (mPreV hK hM 0 rfl rfl) rfl rfl hl.1 rfl (lv_room (Nat.le_of_ble_eq_true rfl)) dX3_kind_2 ⟨Nat.le_of_ble_eq_true rfl, Nat.le_of_ble_eq_true rfl⟩) hS hM (fun H locs hM hS => ?_)
  refine lv_iload_n hx hb dX3_kind_5 rfl (lv_at hl 2 rfl) ?_
  refine lv_iconst (v := 0) hx hb dX3_kind_6 (by decide) ?_
  refine lv_bipush (v := 6) hx hb dX3_kind_7 (by decide) ?_
  obtain ⟨r9, e9, h⟩ := bind_s h
  refine k_cV (va_runS (As := [.int p2, .int (0 : Int32), .int (6 : Int32)]) (rest := []) ⟨hx, hb, hml, hown, hts⟩ (kX3_checkArgument l D cI cR q G K p2 (0 : Int32) (6 : Int32) r9 e9) (va_cwS 3 hts gX3_kind_X3_checkArgument rfl rfl rfl (by decide +kernel) ⟨Nat.le_of_ble_eq_true rfl, Nat.le_of_ble_eq_true rfl⟩) (mPreS hK hM) rfl rfl hl.1 rfl (lv_room (Nat.le_of_ble_eq_true rfl)) dX3_kind_9 ⟨Nat.le_of_ble_eq_true rfl, Nat.le_of_ble_eq_true rfl⟩) hS hM (fun H locs hM hS => ?_)
  refine lv_aload_n hx hb dX3_kind_12 rfl (lv_at hl 0 rfl) ?_
  refine k_getR (C := RX3) (T := TX3) (N := 3) hx hb hts iX3 hown hK hM 0 rfl rfl 0 (by decide) rfl w0 (fun _ h9 => h9) dX3_kind_13 ?_
  refine lv_iload_n hx hb dX3_kind_16 rfl (lv_at hl 1 rfl) ?_
  refine lv_iload_n hx hb dX3_kind_17 rfl (lv_at hl 2 rfl) ?_
  obtain ⟨r18, e18, h⟩ := bind_s h
  refine k_cI (va_runV (As := [.int p1, .int p2]) (rest := []) ⟨hx, hb, hml, hown, hts⟩ (kX2_aboutKind l D cI cR q G K p1 p2 r18 e18) (cwV 2 hts gX3_kind_X2_aboutKind rfl rfl rfl (by decide +kernel) ⟨Nat.le_of_ble_eq_true rfl, Nat.le_of_ble_eq_true rfl⟩) (mPreV hK hM 1 rfl rfl) rfl rfl hl.1 rfl (lv_room (Nat.le_of_ble_eq_true rfl)) dX3_kind_18 ⟨Nat.le_of_ble_eq_true rfl, Nat.le_of_ble_eq_true rfl⟩) hS hM (fun H locs hM hS => ?_)
  exact W.iret (v := r18) hx hb hr (fun t ht hW => ⟨⟨r18, (), rfl, Option.some.inj h, trivial⟩, hS.F ht⟩) hS.2.2 dX3_kind_21
set_option maxHeartbeats 4000000 in
set_option maxRecDepth 100000 in
theorem kX3_rail (l : Launch) (D : va_G) (cI cR : ClassId) (q : Nat → Nat) (G : Nat → Nat → Int32) (K : Nat) (p1 : Int32) (p2 : Int32) (r : Int32) (hs : sX3_rail K G p1 p2 = some r) : Met l yX3_rail wsX3_rail ({ frames := 3, cells := 0, slots := 0, locals := 67 } : Room) (mPre [.ref (q 0), .int p1, .int p2] D cI cR q tmC G) (mI r) 0 0 (fun _ => False) := by
  refine Met.ofW (cc := cX3_rail) (maxL := 3) (ret := (some .int)) (by decide) rfl ?_
  intro p e s m args below meth c s₁ B hml hv
  obtain ⟨hargs, hM, hK⟩ := hv
  have hx := B.exec
  have hb := B.bytes
  have hr := B.returns
  have hts := atoms_spec (ws := wsX3_rail) B.pre
  have hown : s.vm.findClass RX3 = some m.cls := findClass_of_methodNamed B.named
  have hlocks := B.notSynchronized
  have hS : va_S (fun _ => False) s.heap s.heap [] := va_S.rf
  have w0 := hts (Cond.fieldLink RX3 12 "CoinRails" "now" "LCoinRails$State;") (List.mem_of_getElem? (i := 1) (by decide +kernel))
  have iX3 : ∀ w ∈ wsX30, w ∈ wsX3_rail := fun _ h => List.mem_cons_of_mem _ (List.mem_append_left _ (List.mem_append_left _ (List.mem_append_left _ (List.mem_append_right _ (h)))))
  subst hargs
  have hl := lv_entry ([.ref (q 0), .int p1, .int p2]) (n := 3) (Nat.le_of_ble_eq_true rfl)
  rw [lg_entry_eq]
  generalize (lg_sl ([.ref (q 0), .int p1, .int p2]) ++ List.replicate (3 - (lg_sl ([.ref (q 0), .int p1, .int p2])).length) Slot.unset).toArray = ls at hl ⊢
  have hl : lv_has ls 3 [(0, .ref (q 0)), (1, .int p1), (2, .int p2)] := hl
  have h := hs
  unfold sX3_rail at h
  have hM0 := hM
  refine lv_iload_n hx hb dX3_rail_0 rfl (lv_at hl 1 rfl) ?_
  obtain ⟨r1, e1, h⟩ := bind_s h
  refine k_cV (va_runS (As := [.int p1]) (rest := []) ⟨hx, hb, hml, hown, hts⟩ (kX3_checkRail l D cI cR q G K p1 r1 e1) (va_cwS 1 hts gX3_rail_X3_checkRail rfl rfl rfl (by decide +kernel) ⟨Nat.le_of_ble_eq_true rfl, Nat.le_of_ble_eq_true rfl⟩) (mPreS hK hM) rfl rfl hl.1 rfl (lv_room (Nat.le_of_ble_eq_true rfl)) dX3_rail_1 ⟨Nat.le_of_ble_eq_true rfl, Nat.le_of_ble_eq_true rfl⟩) hS hM (fun H locs hM hS => ?_)
  refine lv_iload_n hx hb dX3_rail_4 rfl (lv_at hl 2 rfl) ?_
  refine lv_iconst (v := 0) hx hb dX3_rail_5 (by decide) ?_
  refine lv_bipush (v := 9) hx hb dX3_rail_6 (by decide) ?_
  obtain ⟨r8, e8, h⟩ := bind_s h
  refine k_cV (va_runS (As := [.int p2, .int (0 : Int32), .int (9 : Int32)]) (rest := []) ⟨hx, hb, hml, hown, hts⟩ (kX3_checkArgument l D cI cR q G K p2 (0 : Int32) (9 : Int32) r8 e8) (va_cwS 3 hts gX3_rail_X3_checkArgument rfl rfl rfl (by decide +kernel) ⟨Nat.le_of_ble_eq_true rfl, Nat.le_of_ble_eq_true rfl⟩) (mPreS hK hM) rfl rfl hl.1 rfl (lv_room (Nat.le_of_ble_eq_true rfl)) dX3_rail_8 ⟨Nat.le_of_ble_eq_true rfl, Nat.le_of_ble_eq_true rfl⟩) hS hM (fun H locs hM hS => ?_)
  refine lv_aload_n hx hb dX3_rail_11 rfl (lv_at hl 0 rfl) ?_
  refine k_getR (C := RX3) (T := TX3) (N := 3) hx hb hts iX3 hown hK hM 0 rfl rfl 0 (by decide) rfl w0 (fun _ h9 => h9) dX3_rail_12 ?_
  refine lv_iload_n hx hb dX3_rail_15 rfl (lv_at hl 1 rfl) ?_
  refine lv_iload_n hx hb dX3_rail_16 rfl (lv_at hl 2 rfl) ?_
  obtain ⟨r17, e17, h⟩ := bind_s h
  refine k_cI (va_runV (As := [.int p1, .int p2]) (rest := []) ⟨hx, hb, hml, hown, hts⟩ (kX2_aboutRail l D cI cR q G K p1 p2 r17 e17) (cwV 2 hts gX3_rail_X2_aboutRail rfl rfl rfl (by decide +kernel) ⟨Nat.le_of_ble_eq_true rfl, Nat.le_of_ble_eq_true rfl⟩) (mPreV hK hM 1 rfl rfl) rfl rfl hl.1 rfl (lv_room (Nat.le_of_ble_eq_true rfl)) dX3_rail_17 ⟨Nat.le_of_ble_eq_true rfl, Nat.le_of_ble_eq_true rfl⟩) hS hM (fun H locs hM hS => ?_)
  exact W.iret (v := r17) hx hb hr (fun t ht hW => ⟨⟨r17, (), rfl, Option.some.inj h, trivial⟩, hS.F ht⟩) hS.2.2 dX3_rail_20
set_option maxHeartbeats 4000000 in
set_option maxRecDepth 100000 in
theorem kX3_count (l : Launch) (D : va_G) (cI cR : ClassId) (q : Nat → Nat) (G : Nat → Nat → Int32) (K : Nat) (p1 : Int32) (p2 : Int32) (r : Int32) (hs : sX3_count K G p1 p2 = some r) : Met l yX3_count wsX3_count ({ frames := 2, cells := 0, slots := 0, locals := 40 } : Room) (mPre [.ref (q 0), .int p1, .int p2] D cI cR q tmC G) (mI r) 0 0 (fun _ => False) := by
  refine Met.ofW (cc := cX3_count) (maxL := 3) (ret := (some .int)) (by decide) rfl ?_
  intro p e s m args below meth c s₁ B hml hv
  obtain ⟨hargs, hM, hK⟩ := hv
  have hx := B.exec
  have hb := B.bytes
  have hr := B.returns
  have hts := atoms_spec (ws := wsX3_count) B.pre
  have hown : s.vm.findClass RX3 = some m.cls := findClass_of_methodNamed B.named
  have hlocks := B.notSynchronized
  have hS : va_S (fun _ => False) s.heap s.heap [] := va_S.rf
  have w0 := hts (Cond.fieldLink RX3 12 "CoinRails" "now" "LCoinRails$State;") (List.mem_of_getElem? (i := 1) (by decide +kernel))
  have iX3 : ∀ w ∈ wsX30, w ∈ wsX3_count := fun _ h => List.mem_cons_of_mem _ (List.mem_append_left _ (List.mem_append_left _ (List.mem_append_right _ (h))))
  subst hargs
  have hl := lv_entry ([.ref (q 0), .int p1, .int p2]) (n := 3) (Nat.le_of_ble_eq_true rfl)
  rw [lg_entry_eq]
  generalize (lg_sl ([.ref (q 0), .int p1, .int p2]) ++ List.replicate (3 - (lg_sl ([.ref (q 0), .int p1, .int p2])).length) Slot.unset).toArray = ls at hl ⊢
  have hl : lv_has ls 3 [(0, .ref (q 0)), (1, .int p1), (2, .int p2)] := hl
  have h := hs
  unfold sX3_count at h
  have hM0 := hM
  refine lv_iload_n hx hb dX3_count_0 rfl (lv_at hl 1 rfl) ?_
  obtain ⟨r1, e1, h⟩ := bind_s h
  refine k_cV (va_runS (As := [.int p1]) (rest := []) ⟨hx, hb, hml, hown, hts⟩ (kX3_checkRail l D cI cR q G K p1 r1 e1) (va_cwS 1 hts gX3_count_X3_checkRail rfl rfl rfl (by decide +kernel) ⟨Nat.le_of_ble_eq_true rfl, Nat.le_of_ble_eq_true rfl⟩) (mPreS hK hM) rfl rfl hl.1 rfl (lv_room (Nat.le_of_ble_eq_true rfl)) dX3_count_1 ⟨Nat.le_of_ble_eq_true rfl, Nat.le_of_ble_eq_true rfl⟩) hS hM (fun H locs hM hS => ?_)
  refine lv_aload_n hx hb dX3_count_4 rfl (lv_at hl 0 rfl) ?_
  refine lv_iload_n hx hb dX3_count_5 rfl (lv_at hl 2 rfl) ?_
  obtain ⟨r6, e6, h⟩ := bind_s h
  refine k_cV (va_runV (As := [.int p2]) (rest := []) ⟨hx, hb, hml, hown, hts⟩ (kX3_checkKind l D cI cR q G K p2 r6 e6) (cwV 1 hts gX3_count_X3_checkKind rfl rfl rfl (by decide +kernel) ⟨Nat.le_of_ble_eq_true rfl, Nat.le_of_ble_eq_true rfl⟩) (mPreV hK hM 0 rfl rfl) rfl rfl hl.1 rfl (lv_room (Nat.le_of_ble_eq_true rfl)) dX3_count_6 ⟨Nat.le_of_ble_eq_true rfl, Nat.le_of_ble_eq_true rfl⟩) hS hM (fun H locs hM hS => ?_)
  refine lv_aload_n hx hb dX3_count_9 rfl (lv_at hl 0 rfl) ?_
  refine k_getR (C := RX3) (T := TX3) (N := 3) hx hb hts iX3 hown hK hM 0 rfl rfl 0 (by decide) rfl w0 (fun _ h9 => h9) dX3_count_10 ?_
  refine lv_iload_n hx hb dX3_count_13 rfl (lv_at hl 1 rfl) ?_
  refine lv_iload_n hx hb dX3_count_14 rfl (lv_at hl 2 rfl) ?_
  obtain ⟨r15, e15, h⟩ := bind_s h
  refine k_cI (va_runV (As := [.int p1, .int p2]) (rest := []) ⟨hx, hb, hml, hown, hts⟩ (kX2_coinsOfKind l D cI cR q G K p1 p2 r15 e15) (cwV 2 hts gX3_count_X2_coinsOfKind rfl rfl rfl (by decide +kernel) ⟨Nat.le_of_ble_eq_true rfl, Nat.le_of_ble_eq_true rfl⟩) (mPreV hK hM 1 rfl rfl) rfl rfl hl.1 rfl (lv_room (Nat.le_of_ble_eq_true rfl)) dX3_count_15 ⟨Nat.le_of_ble_eq_true rfl, Nat.le_of_ble_eq_true rfl⟩) hS hM (fun H locs hM hS => ?_)
  exact W.iret (v := r15) hx hb hr (fun t ht hW => ⟨⟨r15, (), rfl, Option.some.inj h, trivial⟩, hS.F ht⟩) hS.2.2 dX3_count_18
set_option maxHeartbeats 4000000 in
set_option maxRecDepth 100000 in
theorem kX3_value (l : Launch) (D : va_G) (cI cR : ClassId) (q : Nat → Nat) (G : Nat → Nat → Int32) (K : Nat) (p1 : Int32) (r : Int32) (hs : sX3_value K G p1 = some r) : Met l yX3_value wsX3_value ({ frames := 4, cells := 0, slots := 0, locals := 88 } : Room) (mPre [.ref (q 0), .int p1] D cI cR q tmC G) (mI r) 0 0 (fun _ => False) := by
  refine Met.ofW (cc := cX3_value) (maxL := 2) (ret := (some .int)) (by decide) rfl ?_
  intro p e s m args below meth c s₁ B hml hv
  obtain ⟨hargs, hM, hK⟩ := hv
  have hx := B.exec
  have hb := B.bytes
  have hr := B.returns
  have hts := atoms_spec (ws := wsX3_value) B.pre
  have hown : s.vm.findClass RX3 = some m.cls := findClass_of_methodNamed B.named
  have hlocks := B.notSynchronized
  have hS : va_S (fun _ => False) s.heap s.heap [] := va_S.rf
  have w0 := hts (Cond.fieldLink RX3 12 "CoinRails" "now" "LCoinRails$State;") (List.mem_of_getElem? (i := 1) (by decide +kernel))
  have iX3 : ∀ w ∈ wsX30, w ∈ wsX3_value := fun _ h => List.mem_cons_of_mem _ (List.mem_append_left _ (List.mem_append_left _ (List.mem_append_right _ (h))))
  subst hargs
  have hl := lv_entry ([.ref (q 0), .int p1]) (n := 2) (Nat.le_of_ble_eq_true rfl)
  rw [lg_entry_eq]
  generalize (lg_sl ([.ref (q 0), .int p1]) ++ List.replicate (2 - (lg_sl ([.ref (q 0), .int p1])).length) Slot.unset).toArray = ls at hl ⊢
  have hl : lv_has ls 2 [(0, .ref (q 0)), (1, .int p1)] := hl
  have h := hs
  unfold sX3_value at h
  have hM0 := hM
  refine lv_iload_n hx hb dX3_value_0 rfl (lv_at hl 1 rfl) ?_
  refine lv_iconst (v := 0) hx hb dX3_value_1 (by decide) ?_
  refine lv_bipush (v := 9) hx hb dX3_value_2 (by decide) ?_
  obtain ⟨r4, e4, h⟩ := bind_s h
  refine k_cV (va_runS (As := [.int p1, .int (0 : Int32), .int (9 : Int32)]) (rest := []) ⟨hx, hb, hml, hown, hts⟩ (kX3_checkArgument l D cI cR q G K p1 (0 : Int32) (9 : Int32) r4 e4) (va_cwS 3 hts gX3_value_X3_checkArgument rfl rfl rfl (by decide +kernel) ⟨Nat.le_of_ble_eq_true rfl, Nat.le_of_ble_eq_true rfl⟩) (mPreS hK hM) rfl rfl hl.1 rfl (lv_room (Nat.le_of_ble_eq_true rfl)) dX3_value_4 ⟨Nat.le_of_ble_eq_true rfl, Nat.le_of_ble_eq_true rfl⟩) hS hM (fun H locs hM hS => ?_)
  refine lv_aload_n hx hb dX3_value_7 rfl (lv_at hl 0 rfl) ?_
  refine k_getR (C := RX3) (T := TX3) (N := 3) hx hb hts iX3 hown hK hM 0 rfl rfl 0 (by decide) rfl w0 (fun _ h9 => h9) dX3_value_8 ?_
  refine lv_iload_n hx hb dX3_value_11 rfl (lv_at hl 1 rfl) ?_
  obtain ⟨r12, e12, h⟩ := bind_s h
  refine k_cI (va_runV (As := [.int p1]) (rest := []) ⟨hx, hb, hml, hown, hts⟩ (kX2_aboutAll l D cI cR q G K p1 r12 e12) (cwV 1 hts gX3_value_X2_aboutAll rfl rfl rfl (by decide +kernel) ⟨Nat.le_of_ble_eq_true rfl, Nat.le_of_ble_eq_true rfl⟩) (mPreV hK hM 1 rfl rfl) rfl rfl hl.1 rfl (lv_room (Nat.le_of_ble_eq_true rfl)) dX3_value_12 ⟨Nat.le_of_ble_eq_true rfl, Nat.le_of_ble_eq_true rfl⟩) hS hM (fun H locs hM hS => ?_)
  exact W.iret (v := r12) hx hb hr (fun t ht hW => ⟨⟨r12, (), rfl, Option.some.inj h, trivial⟩, hS.F ht⟩) hS.2.2 dX3_value_15
set_option maxHeartbeats 4000000 in
set_option maxRecDepth 100000 in
theorem kX3_where (l : Launch) (D : va_G) (cI cR : ClassId) (q : Nat → Nat) (G : Nat → Nat → Int32) (K : Nat) (p1 : Int32) (p2 : Int32) (r : Int32) (hs : sX3_where K G p1 p2 = some r) : Met l yX3_where wsX3_where ({ frames := 3, cells := 0, slots := 0, locals := 69 } : Room) (mPre [.ref (q 0), .int p1, .int p2] D cI cR q tmC G) (mI r) 0 0 (fun _ => False) := by
  refine Met.ofW (cc := cX3_where) (maxL := 3) (ret := (some .int)) (by decide) rfl ?_
  intro p e s m args below meth c s₁ B hml hv
  obtain ⟨hargs, hM, hK⟩ := hv
  have hx := B.exec
  have hb := B.bytes
  have hr := B.returns
  have hts := atoms_spec (ws := wsX3_where) B.pre
  have hown : s.vm.findClass RX3 = some m.cls := findClass_of_methodNamed B.named
  have hlocks := B.notSynchronized
  have hS : va_S (fun _ => False) s.heap s.heap [] := va_S.rf
  have w0 := hts (Cond.fieldLink RX3 12 "CoinRails" "now" "LCoinRails$State;") (List.mem_of_getElem? (i := 1) (by decide +kernel))
  have iX3 : ∀ w ∈ wsX30, w ∈ wsX3_where := fun _ h => List.mem_cons_of_mem _ (List.mem_append_left _ (List.mem_append_left _ (List.mem_append_left _ (List.mem_append_right _ (h)))))
  subst hargs
  have hl := lv_entry ([.ref (q 0), .int p1, .int p2]) (n := 3) (Nat.le_of_ble_eq_true rfl)
  rw [lg_entry_eq]
  generalize (lg_sl ([.ref (q 0), .int p1, .int p2]) ++ List.replicate (3 - (lg_sl ([.ref (q 0), .int p1, .int p2])).length) Slot.unset).toArray = ls at hl ⊢
  have hl : lv_has ls 3 [(0, .ref (q 0)), (1, .int p1), (2, .int p2)] := hl
  have h := hs
  unfold sX3_where at h
  have hM0 := hM
  refine lv_aload_n hx hb dX3_where_0 rfl (lv_at hl 0 rfl) ?_
  refine lv_iload_n hx hb dX3_where_1 rfl (lv_at hl 1 rfl) ?_
  obtain ⟨r2, e2, h⟩ := bind_s h
  refine k_cV (va_runV (As := [.int p1]) (rest := []) ⟨hx, hb, hml, hown, hts⟩ (kX3_checkKind l D cI cR q G K p1 r2 e2) (cwV 1 hts gX3_where_X3_checkKind rfl rfl rfl (by decide +kernel) ⟨Nat.le_of_ble_eq_true rfl, Nat.le_of_ble_eq_true rfl⟩) (mPreV hK hM 0 rfl rfl) rfl rfl hl.1 rfl (lv_room (Nat.le_of_ble_eq_true rfl)) dX3_where_2 ⟨Nat.le_of_ble_eq_true rfl, Nat.le_of_ble_eq_true rfl⟩) hS hM (fun H locs hM hS => ?_)
  refine lv_iload_n hx hb dX3_where_5 rfl (lv_at hl 2 rfl) ?_
  refine lv_iconst (v := 0) hx hb dX3_where_6 (by decide) ?_
  refine lv_sipush (v := 999) hx hb dX3_where_7 (by decide) ?_
  obtain ⟨r10, e10, h⟩ := bind_s h
  refine k_cV (va_runS (As := [.int p2, .int (0 : Int32), .int (999 : Int32)]) (rest := []) ⟨hx, hb, hml, hown, hts⟩ (kX3_checkArgument l D cI cR q G K p2 (0 : Int32) (999 : Int32) r10 e10) (va_cwS 3 hts gX3_where_X3_checkArgument rfl rfl rfl (by decide +kernel) ⟨Nat.le_of_ble_eq_true rfl, Nat.le_of_ble_eq_true rfl⟩) (mPreS hK hM) rfl rfl hl.1 rfl (lv_room (Nat.le_of_ble_eq_true rfl)) dX3_where_10 ⟨Nat.le_of_ble_eq_true rfl, Nat.le_of_ble_eq_true rfl⟩) hS hM (fun H locs hM hS => ?_)
  refine lv_aload_n hx hb dX3_where_13 rfl (lv_at hl 0 rfl) ?_
  refine k_getR (C := RX3) (T := TX3) (N := 3) hx hb hts iX3 hown hK hM 0 rfl rfl 0 (by decide) rfl w0 (fun _ h9 => h9) dX3_where_14 ?_
  refine lv_iload_n hx hb dX3_where_17 rfl (lv_at hl 1 rfl) ?_
  refine lv_iload_n hx hb dX3_where_18 rfl (lv_at hl 2 rfl) ?_
  obtain ⟨r19, e19, h⟩ := bind_s h
  refine k_cI (va_runV (As := [.int p1, .int p2]) (rest := []) ⟨hx, hb, hml, hown, hts⟩ (kX2_placeFor l D cI cR q G K p1 p2 r19 e19) (cwV 2 hts gX3_where_X2_placeFor rfl rfl rfl (by decide +kernel) ⟨Nat.le_of_ble_eq_true rfl, Nat.le_of_ble_eq_true rfl⟩) (mPreV hK hM 1 rfl rfl) rfl rfl hl.1 rfl (lv_room (Nat.le_of_ble_eq_true rfl)) dX3_where_19 ⟨Nat.le_of_ble_eq_true rfl, Nat.le_of_ble_eq_true rfl⟩) hS hM (fun H locs hM hS => ?_)
  exact W.iret (v := r19) hx hb hr (fun t ht hW => ⟨⟨r19, (), rfl, Option.some.inj h, trivial⟩, hS.F ht⟩) hS.2.2 dX3_where_22
set_option maxHeartbeats 4000000 in
set_option maxRecDepth 100000 in
theorem kX3_mostWear (l : Launch) (D : va_G) (cI cR : ClassId) (q : Nat → Nat) (G : Nat → Nat → Int32) (K : Nat) (p1 : Int32) (r : Int32) (hs : sX3_mostWear K G p1 = some r) : Met l yX3_mostWear wsX3_mostWear ({ frames := 5, cells := 0, slots := 0, locals := 114 } : Room) (mPre [.ref (q 0), .int p1] D cI cR q tmC G) (mI r) 0 0 (fun _ => False) := by
  refine Met.ofW (cc := cX3_mostWear) (maxL := 2) (ret := (some .int)) (by decide) rfl ?_
  intro p e s m args below meth c s₁ B hml hv
  obtain ⟨hargs, hM, hK⟩ := hv
  have hx := B.exec
  have hb := B.bytes
  have hr := B.returns
  have hts := atoms_spec (ws := wsX3_mostWear) B.pre
  have hown : s.vm.findClass RX3 = some m.cls := findClass_of_methodNamed B.named
  have hlocks := B.notSynchronized
  have hS : va_S (fun _ => False) s.heap s.heap [] := va_S.rf
  have w0 := hts (Cond.fieldLink RX3 12 "CoinRails" "now" "LCoinRails$State;") (List.mem_of_getElem? (i := 1) (by decide +kernel))
  have iX3 : ∀ w ∈ wsX30, w ∈ wsX3_mostWear := fun _ h => List.mem_cons_of_mem _ (List.mem_append_left _ (List.mem_append_left _ (List.mem_append_right _ (h))))
  subst hargs
  have hl := lv_entry ([.ref (q 0), .int p1]) (n := 2) (Nat.le_of_ble_eq_true rfl)
  rw [lg_entry_eq]
  generalize (lg_sl ([.ref (q 0), .int p1]) ++ List.replicate (2 - (lg_sl ([.ref (q 0), .int p1])).length) Slot.unset).toArray = ls at hl ⊢
  have hl : lv_has ls 2 [(0, .ref (q 0)), (1, .int p1)] := hl
  have h := hs
  unfold sX3_mostWear at h
  have hM0 := hM
  refine lv_aload_n hx hb dX3_mostWear_0 rfl (lv_at hl 0 rfl) ?_
  refine lv_iload_n hx hb dX3_mostWear_1 rfl (lv_at hl 1 rfl) ?_
  obtain ⟨r2, e2, h⟩ := bind_s h
  refine k_cV (va_runV (As := [.int p1]) (rest := []) ⟨hx, hb, hml, hown, hts⟩ (kX3_checkKind l D cI cR q G K p1 r2 e2) (cwV 1 hts gX3_mostWear_X3_checkKind rfl rfl rfl (by decide +kernel) ⟨Nat.le_of_ble_eq_true rfl, Nat.le_of_ble_eq_true rfl⟩) (mPreV hK hM 0 rfl rfl) rfl rfl hl.1 rfl (lv_room (Nat.le_of_ble_eq_true rfl)) dX3_mostWear_2 ⟨Nat.le_of_ble_eq_true rfl, Nat.le_of_ble_eq_true rfl⟩) hS hM (fun H locs hM hS => ?_)
  refine lv_aload_n hx hb dX3_mostWear_5 rfl (lv_at hl 0 rfl) ?_
  refine k_getR (C := RX3) (T := TX3) (N := 3) hx hb hts iX3 hown hK hM 0 rfl rfl 0 (by decide) rfl w0 (fun _ h9 => h9) dX3_mostWear_6 ?_
  refine lv_iload_n hx hb dX3_mostWear_9 rfl (lv_at hl 1 rfl) ?_
  obtain ⟨r10, e10, h⟩ := bind_s h
  refine k_cI (va_runV (As := [.int p1]) (rest := []) ⟨hx, hb, hml, hown, hts⟩ (kX2_mostFittingWear l D cI cR q G K p1 r10 e10) (cwV 1 hts gX3_mostWear_X2_mostFittingWear rfl rfl rfl (by decide +kernel) ⟨Nat.le_of_ble_eq_true rfl, Nat.le_of_ble_eq_true rfl⟩) (mPreV hK hM 1 rfl rfl) rfl rfl hl.1 rfl (lv_room (Nat.le_of_ble_eq_true rfl)) dX3_mostWear_10 ⟨Nat.le_of_ble_eq_true rfl, Nat.le_of_ble_eq_true rfl⟩) hS hM (fun H locs hM hS => ?_)
  exact W.iret (v := r10) hx hb hr (fun t ht hW => ⟨⟨r10, (), rfl, Option.some.inj h, trivial⟩, hS.F ht⟩) hS.2.2 dX3_mostWear_13
set_option maxHeartbeats 4000000 in
set_option maxRecDepth 100000 in
theorem kX3_bestGap (l : Launch) (D : va_G) (cI cR : ClassId) (q : Nat → Nat) (G : Nat → Nat → Int32) (K : Nat) (p1 : Int32) (r : Int32) (hs : sX3_bestGap K G p1 = some r) : Met l yX3_bestGap wsX3_bestGap ({ frames := 2, cells := 0, slots := 0, locals := 45 } : Room) (mPre [.ref (q 0), .int p1] D cI cR q tmC G) (mI r) 0 0 (fun _ => False) := by
  refine Met.ofW (cc := cX3_bestGap) (maxL := 2) (ret := (some .int)) (by decide) rfl ?_
  intro p e s m args below meth c s₁ B hml hv
  obtain ⟨hargs, hM, hK⟩ := hv
  have hx := B.exec
  have hb := B.bytes
  have hr := B.returns
  have hts := atoms_spec (ws := wsX3_bestGap) B.pre
  have hown : s.vm.findClass RX3 = some m.cls := findClass_of_methodNamed B.named
  have hlocks := B.notSynchronized
  have hS : va_S (fun _ => False) s.heap s.heap [] := va_S.rf
  have w0 := hts (Cond.fieldLink RX3 12 "CoinRails" "now" "LCoinRails$State;") (List.mem_of_getElem? (i := 1) (by decide +kernel))
  have iX3 : ∀ w ∈ wsX30, w ∈ wsX3_bestGap := fun _ h => List.mem_cons_of_mem _ (List.mem_append_left _ (List.mem_append_left _ (List.mem_append_right _ (h))))
  subst hargs
  have hl := lv_entry ([.ref (q 0), .int p1]) (n := 2) (Nat.le_of_ble_eq_true rfl)
  rw [lg_entry_eq]
  generalize (lg_sl ([.ref (q 0), .int p1]) ++ List.replicate (2 - (lg_sl ([.ref (q 0), .int p1])).length) Slot.unset).toArray = ls at hl ⊢
  have hl : lv_has ls 2 [(0, .ref (q 0)), (1, .int p1)] := hl
  have h := hs
  unfold sX3_bestGap at h
  have hM0 := hM
  refine lv_iload_n hx hb dX3_bestGap_0 rfl (lv_at hl 1 rfl) ?_
  obtain ⟨r1, e1, h⟩ := bind_s h
  refine k_cV (va_runS (As := [.int p1]) (rest := []) ⟨hx, hb, hml, hown, hts⟩ (kX3_checkRail l D cI cR q G K p1 r1 e1) (va_cwS 1 hts gX3_bestGap_X3_checkRail rfl rfl rfl (by decide +kernel) ⟨Nat.le_of_ble_eq_true rfl, Nat.le_of_ble_eq_true rfl⟩) (mPreS hK hM) rfl rfl hl.1 rfl (lv_room (Nat.le_of_ble_eq_true rfl)) dX3_bestGap_1 ⟨Nat.le_of_ble_eq_true rfl, Nat.le_of_ble_eq_true rfl⟩) hS hM (fun H locs hM hS => ?_)
  refine lv_aload_n hx hb dX3_bestGap_4 rfl (lv_at hl 0 rfl) ?_
  refine k_getR (C := RX3) (T := TX3) (N := 3) hx hb hts iX3 hown hK hM 0 rfl rfl 0 (by decide) rfl w0 (fun _ h9 => h9) dX3_bestGap_5 ?_
  refine lv_iload_n hx hb dX3_bestGap_8 rfl (lv_at hl 1 rfl) ?_
  obtain ⟨r9, e9, h⟩ := bind_s h
  refine k_cI (va_runV (As := [.int p1]) (rest := []) ⟨hx, hb, hml, hown, hts⟩ (kX2_leastSortingGap l D cI cR q G K p1 r9 e9) (cwV 1 hts gX3_bestGap_X2_leastSortingGap rfl rfl rfl (by decide +kernel) ⟨Nat.le_of_ble_eq_true rfl, Nat.le_of_ble_eq_true rfl⟩) (mPreV hK hM 1 rfl rfl) rfl rfl hl.1 rfl (lv_room (Nat.le_of_ble_eq_true rfl)) dX3_bestGap_9 ⟨Nat.le_of_ble_eq_true rfl, Nat.le_of_ble_eq_true rfl⟩) hS hM (fun H locs hM hS => ?_)
  exact W.iret (v := r9) hx hb hr (fun t ht hW => ⟨⟨r9, (), rfl, Option.some.inj h, trivial⟩, hS.F ht⟩) hS.2.2 dX3_bestGap_12
set_option maxHeartbeats 4000000 in
set_option maxRecDepth 100000 in
theorem kX3_supply (l : Launch) (D : va_G) (cI cR : ClassId) (q : Nat → Nat) (G : Nat → Nat → Int32) (K : Nat) (p1 : Int32) (r : Int32) (hs : sX3_supply K G p1 = some r) : Met l yX3_supply wsX3_supply ({ frames := 5, cells := 0, slots := 0, locals := 112 } : Room) (mPre [.ref (q 0), .int p1] D cI cR q tmC G) (mI r) 0 0 (fun _ => False) := by
  refine Met.ofW (cc := cX3_supply) (maxL := 2) (ret := (some .int)) (by decide) rfl ?_
  intro p e s m args below meth c s₁ B hml hv
  obtain ⟨hargs, hM, hK⟩ := hv
  have hx := B.exec
  have hb := B.bytes
  have hr := B.returns
  have hts := atoms_spec (ws := wsX3_supply) B.pre
  have hown : s.vm.findClass RX3 = some m.cls := findClass_of_methodNamed B.named
  have hlocks := B.notSynchronized
  have hS : va_S (fun _ => False) s.heap s.heap [] := va_S.rf
  have w0 := hts (Cond.fieldLink RX3 12 "CoinRails" "now" "LCoinRails$State;") (List.mem_of_getElem? (i := 1) (by decide +kernel))
  have iX3 : ∀ w ∈ wsX30, w ∈ wsX3_supply := fun _ h => List.mem_cons_of_mem _ (List.mem_append_left _ (List.mem_append_left _ (List.mem_append_right _ (h))))
  subst hargs
  have hl := lv_entry ([.ref (q 0), .int p1]) (n := 2) (Nat.le_of_ble_eq_true rfl)
  rw [lg_entry_eq]
  generalize (lg_sl ([.ref (q 0), .int p1]) ++ List.replicate (2 - (lg_sl ([.ref (q 0), .int p1])).length) Slot.unset).toArray = ls at hl ⊢
  have hl : lv_has ls 2 [(0, .ref (q 0)), (1, .int p1)] := hl
  have h := hs
  unfold sX3_supply at h
  have hM0 := hM
  refine lv_aload_n hx hb dX3_supply_0 rfl (lv_at hl 0 rfl) ?_
  refine lv_iload_n hx hb dX3_supply_1 rfl (lv_at hl 1 rfl) ?_
  obtain ⟨r2, e2, h⟩ := bind_s h
  refine k_cV (va_runV (As := [.int p1]) (rest := []) ⟨hx, hb, hml, hown, hts⟩ (kX3_checkKind l D cI cR q G K p1 r2 e2) (cwV 1 hts gX3_supply_X3_checkKind rfl rfl rfl (by decide +kernel) ⟨Nat.le_of_ble_eq_true rfl, Nat.le_of_ble_eq_true rfl⟩) (mPreV hK hM 0 rfl rfl) rfl rfl hl.1 rfl (lv_room (Nat.le_of_ble_eq_true rfl)) dX3_supply_2 ⟨Nat.le_of_ble_eq_true rfl, Nat.le_of_ble_eq_true rfl⟩) hS hM (fun H locs hM hS => ?_)
  refine lv_aload_n hx hb dX3_supply_5 rfl (lv_at hl 0 rfl) ?_
  refine k_getR (C := RX3) (T := TX3) (N := 3) hx hb hts iX3 hown hK hM 0 rfl rfl 0 (by decide) rfl w0 (fun _ h9 => h9) dX3_supply_6 ?_
  refine lv_iload_n hx hb dX3_supply_9 rfl (lv_at hl 1 rfl) ?_
  obtain ⟨r10, e10, h⟩ := bind_s h
  refine k_cI (va_runV (As := [.int p1]) (rest := []) ⟨hx, hb, hml, hown, hts⟩ (kX2_coinsUntilAstray l D cI cR q G K p1 r10 e10) (cwV 1 hts gX3_supply_X2_coinsUntilAstray rfl rfl rfl (by decide +kernel) ⟨Nat.le_of_ble_eq_true rfl, Nat.le_of_ble_eq_true rfl⟩) (mPreV hK hM 1 rfl rfl) rfl rfl hl.1 rfl (lv_room (Nat.le_of_ble_eq_true rfl)) dX3_supply_10 ⟨Nat.le_of_ble_eq_true rfl, Nat.le_of_ble_eq_true rfl⟩) hS hM (fun H locs hM hS => ?_)
  exact W.iret (v := r10) hx hb hr (fun t ht hW => ⟨⟨r10, (), rfl, Option.some.inj h, trivial⟩, hS.F ht⟩) hS.2.2 dX3_supply_13
set_option maxHeartbeats 4000000 in
set_option maxRecDepth 100000 in
theorem kX3_right (l : Launch) (D : va_G) (cI cR : ClassId) (q : Nat → Nat) (G : Nat → Nat → Int32) (K : Nat) (r : UInt64) (hs : sX3_right K G  = some r) : Met l yX3_right wsX3_right ({ frames := 3, cells := 0, slots := 0, locals := 67 } : Room) (mPre [.ref (q 0)] D cI cR q tmC G) (mD r) 0 0 (fun _ => False) := by
  refine Met.ofW (cc := cX3_right) (maxL := 2) (ret := (some .double)) (by decide) rfl ?_
  intro p e s m args below meth c s₁ B hml hv
  obtain ⟨hargs, hM, hK⟩ := hv
  have hx := B.exec
  have hb := B.bytes
  have hr := B.returns
  have hts := atoms_spec (ws := wsX3_right) B.pre
  have hown : s.vm.findClass RX3 = some m.cls := findClass_of_methodNamed B.named
  have hlocks := B.notSynchronized
  have hS : va_S (fun _ => False) s.heap s.heap [] := va_S.rf
  have w0 := hts (Cond.fieldLink RX3 12 "CoinRails" "now" "LCoinRails$State;") (List.mem_of_getElem? (i := 1) (by decide +kernel))
  have iX3 : ∀ w ∈ wsX30, w ∈ wsX3_right := fun _ h => List.mem_cons_of_mem _ (List.mem_append_left _ (List.mem_append_right _ (h)))
  subst hargs
  have hl := lv_entry ([.ref (q 0)]) (n := 2) (Nat.le_of_ble_eq_true rfl)
  rw [lg_entry_eq]
  generalize (lg_sl ([.ref (q 0)]) ++ List.replicate (2 - (lg_sl ([.ref (q 0)])).length) Slot.unset).toArray = ls at hl ⊢
  have hl : lv_has ls 2 [(0, .ref (q 0))] := hl
  have h := hs
  unfold sX3_right at h
  have hM0 := hM
  refine lv_aload_n hx hb dX3_right_0 rfl (lv_at hl 0 rfl) ?_
  refine k_getR (C := RX3) (T := TX3) (N := 3) hx hb hts iX3 hown hK hM 0 rfl rfl 0 (by decide) rfl w0 (fun _ h9 => h9) dX3_right_1 ?_
  obtain ⟨r4, e4, h⟩ := bind_s h
  refine k_cI (va_runV (As := []) (rest := []) ⟨hx, hb, hml, hown, hts⟩ (kX2_coinsInBags l D cI cR q G K r4 e4) (cwV 0 hts gX3_right_X2_coinsInBags rfl rfl rfl (by decide +kernel) ⟨Nat.le_of_ble_eq_true rfl, Nat.le_of_ble_eq_true rfl⟩) (mPreV hK hM 1 rfl rfl) rfl rfl hl.1 rfl (lv_room (Nat.le_of_ble_eq_true rfl)) dX3_right_4 ⟨Nat.le_of_ble_eq_true rfl, Nat.le_of_ble_eq_true rfl⟩) hS hM (fun H locs hM hS => ?_)
  refine lv_istore_n (lv' := [(1, .int r4), (0, .ref (q 0))]) hx hb dX3_right_7 rfl hl (by decide) rfl (fun ls hl => ?_)
  refine lv_iload_n hx hb dX3_right_8 rfl (lv_at hl 0 rfl) ?_
  refine lv_if_ne (tgt := 14) hx hb dX3_right_9 (by decide) (fun c9 => ?_) (fun c9 => ?_)
  · replace h := ite_f h c9
    refine lv_iload_n hx hb dX3_right_14 rfl (lv_at hl 0 rfl) ?_
    refine lv_aload_n hx hb dX3_right_15 rfl (lv_at hl 1 rfl) ?_
    refine k_getR (C := RX3) (T := TX3) (N := 3) hx hb hts iX3 hown hK hM 0 rfl rfl 0 (by decide) rfl w0 (fun _ h9 => h9) dX3_right_16 ?_
    obtain ⟨r19, e19, h⟩ := bind_s h
    refine k_cI (va_runV (As := []) (rest := [.int r4]) ⟨hx, hb, hml, hown, hts⟩ (kX2_misfits l D cI cR q G K r19 e19) (cwV 0 hts gX3_right_X2_misfits rfl rfl rfl (by decide +kernel) ⟨Nat.le_of_ble_eq_true rfl, Nat.le_of_ble_eq_true rfl⟩) (mPreV hK hM 1 rfl rfl) rfl rfl hl.1 rfl (lv_room (Nat.le_of_ble_eq_true rfl)) dX3_right_19 ⟨Nat.le_of_ble_eq_true rfl, Nat.le_of_ble_eq_true rfl⟩) hS hM (fun H locs hM hS => ?_)
    refine lv_isub hx hb dX3_right_22 ?_
    refine lv_i2d hx hb dX3_right_23 ?_
    refine lv_iload_n hx hb dX3_right_24 rfl (lv_at hl 0 rfl) ?_
    refine lv_i2d hx hb dX3_right_25 ?_
    obtain ⟨g26, h⟩ := grd_s h
    refine lv_ddiv hx hb dX3_right_26 (nn64_n g26) ?_
    exact W.dret (v := (FP.ddiv (FP.i2d (r4 - r19)) (FP.i2d r4))) hx hb hr (fun t ht hW => ⟨⟨(FP.ddiv (FP.i2d (r4 - r19)) (FP.i2d r4)), (), rfl, Option.some.inj h, trivial⟩, hS.F ht⟩) hS.2.2 dX3_right_27
  · replace h := ite_t h c9
    refine lv_dconst1 hx hb dX3_right_12 ?_
    exact W.dret (v := FP.dconst1) hx hb hr (fun t ht hW => ⟨⟨FP.dconst1, (), rfl, Option.some.inj h, trivial⟩, hS.F ht⟩) hS.2.2 dX3_right_13
set_option maxHeartbeats 4000000 in
set_option maxRecDepth 100000 in
theorem kX3_undo (l : Launch) (D : va_G) (cI cR : ClassId) (q : Nat → Nat) (G : Nat → Nat → Int32) (K : Nat) (hJ : MJ tmC q) (r : (Int32 × (Nat → Nat → Int32))) (hs : sX3_undo K G  = some r) : Met l yX3_undo wsX3_undo ({ frames := 3, cells := 0, slots := 0, locals := 110 } : Room) (mPre [.ref (q 0)] D cI cR q tmC G) (mIW D cI cR q tmC r) 0 0 (MA tmC q) := by
  refine Met.ofW (cc := cX3_undo) (maxL := 1) (ret := (some .int)) (by decide) rfl ?_
  intro p e s m args below meth c s₁ B hml hv
  obtain ⟨hargs, hM, hK⟩ := hv
  have hx := B.exec
  have hb := B.bytes
  have hr := B.returns
  have hts := atoms_spec (ws := wsX3_undo) B.pre
  have hown : s.vm.findClass RX3 = some m.cls := findClass_of_methodNamed B.named
  have hlocks := B.notSynchronized
  have hA : ∀ a, MA tmC q a → MA tmC q a := fun _ h => h
  have hS : va_S (MA tmC q) s.heap s.heap [] := va_S.rf
  have w0 := hts (Cond.fieldLink RX3 19 "CoinRails" "history" "LCoinRails$History;") (List.mem_of_getElem? (i := 3) (by decide +kernel))
  have iX3 : ∀ w ∈ wsX30, w ∈ wsX3_undo := fun _ h => List.mem_cons_of_mem _ (List.mem_append_left _ (List.mem_append_left _ (List.mem_append_left _ (List.mem_append_right _ (h)))))
  have w2 := hts (Cond.fieldLink RX3 155 "CoinRails$History" "states" "I") (List.mem_of_getElem? (i := 4) (by decide +kernel))
  have iX1 : ∀ w ∈ wsX10, w ∈ wsX3_undo := fun _ h => List.mem_cons_of_mem _ (List.mem_append_left _ (List.mem_append_left _ (List.mem_append_right _ (h))))
  have w4 := hts (Cond.fieldLink RX3 12 "CoinRails" "now" "LCoinRails$State;") (List.mem_of_getElem? (i := 5) (by decide +kernel))
  subst hargs
  have hl := lv_entry ([.ref (q 0)]) (n := 1) (Nat.le_of_ble_eq_true rfl)
  rw [lg_entry_eq]
  generalize (lg_sl ([.ref (q 0)]) ++ List.replicate (1 - (lg_sl ([.ref (q 0)])).length) Slot.unset).toArray = ls at hl ⊢
  have hl : lv_has ls 1 [(0, .ref (q 0))] := hl
  have h := hs
  unfold sX3_undo at h
  have hM0 := hM
  refine lv_aload_n hx hb dX3_undo_0 rfl (lv_at hl 0 rfl) ?_
  refine k_getR (C := RX3) (T := TX3) (N := 3) hx hb hts iX3 hown hK hM 0 rfl rfl 1 (by decide) rfl w0 (fun _ h9 => h9) dX3_undo_1 ?_
  refine k_getI (C := RX1) (T := TX1) (N := 3) hx hb hts iX1 hown hK hM 13 rfl rfl 2 (by decide) rfl w2 (fun _ h9 => h9) dX3_undo_4 ?_
  refine lv_if_ne (tgt := 20) hx hb dX3_undo_7 (by decide) (fun c7 => ?_) (fun c7 => ?_)
  · replace h := ite_f h c7
    refine lv_aload_n hx hb dX3_undo_20 rfl (lv_at hl 0 rfl) ?_
    refine k_getR (C := RX3) (T := TX3) (N := 3) hx hb hts iX3 hown hK hM 0 rfl rfl 1 (by decide) rfl w0 (fun _ h9 => h9) dX3_undo_21 ?_
    refine lv_aload_n hx hb dX3_undo_24 rfl (lv_at hl 0 rfl) ?_
    refine k_getR (C := RX3) (T := TX3) (N := 3) hx hb hts iX3 hown hK hM 0 rfl rfl 0 (by decide) rfl w4 (fun _ h9 => h9) dX3_undo_25 ?_
    obtain ⟨r28, e28, h⟩ := bind_s h
    refine k_cIW (va_runV (As := [.ref (q 1)]) (rest := []) ⟨hx, hb, hml, hown, hts⟩ (kX1_restore l D cI cR q G K hJ r28 e28) (cwV 1 hts gX3_undo_X1_restore rfl rfl rfl (by decide +kernel) ⟨Nat.le_of_ble_eq_true rfl, Nat.le_of_ble_eq_true rfl⟩) (mPreV hK hM 13 rfl rfl) rfl rfl hl.1 rfl (lv_room (Nat.le_of_ble_eq_true rfl)) dX3_undo_28 ⟨Nat.le_of_ble_eq_true rfl, Nat.le_of_ble_eq_true rfl⟩) hS hA (fun H locs hM hS => ?_)
    have h := Option.some.inj h
    exact W.iret (v := r28.1) hx hb hr (fun t ht hW => ⟨⟨r28.1, (), rfl, p_fst h, w_end ht hM (p_snd h)⟩, hS.F ht⟩) hS.2.2 dX3_undo_31
  · replace h := ite_t h c7
    cases h
