set_option maxHeartbeats 4000000 in
set_option maxRecDepth 100000 in
theorem kX0_addByte (l : Launch) (D : va_G) (cI cR : ClassId) (q : Nat → Nat) (G : Nat → Nat → Int32) (K : Nat) (p1 : Int32) (hJ : MJ tmC q) (r : (Int32 × (Nat → Nat → Int32))) (hs : sX0_addByte K G p1 = some r) : Met l yX0_addByte wsX0_addByte ({ frames := 0, cells := 0, slots := 0, locals := 0 } : Room) (mPre [.ref (q 63), .int p1] D cI cR q tmC G) (mIW D cI cR q tmC r) 0 0 (MA tmC q) := by
  refine Met.ofW (cc := cX0_addByte) (maxL := 2) (ret := (some .int)) (by decide) rfl ?_
  intro p e s m args below meth c s₁ B hml hv
  obtain ⟨hargs, hM, hK⟩ := hv
  have hx := B.exec
  have hb := B.bytes
  have hr := B.returns
  have hts := atoms_spec (ws := wsX0_addByte) B.pre
  have hown : s.vm.findClass RX0 = some m.cls := findClass_of_methodNamed B.named
  have hlocks := B.notSynchronized
  have hA : ∀ a, MA tmC q a → MA tmC q a := fun _ h => h
  have hS : va_S (MA tmC q) s.heap s.heap [] := va_S.rf
  have w0 := hts (Cond.fieldLink RX0 9 "CoinRails$CoinText" "bytes" "[I") (List.mem_of_getElem? (i := 1) (by decide +kernel))
  have iX0 : ∀ w ∈ wsX00, w ∈ wsX0_addByte := fun _ h => List.mem_cons_of_mem _ (List.mem_append_right _ (h))
  have w2 := hts (Cond.fieldLink RX0 21 "CoinRails$CoinText" "length" "I") (List.mem_of_getElem? (i := 2) (by decide +kernel))
  subst hargs
  have hl := lv_entry ([.ref (q 63), .int p1]) (n := 2) (Nat.le_of_ble_eq_true rfl)
  rw [lg_entry_eq]
  generalize (lg_sl ([.ref (q 63), .int p1]) ++ List.replicate (2 - (lg_sl ([.ref (q 63), .int p1])).length) Slot.unset).toArray = ls at hl ⊢
  have hl : lv_has ls 2 [(0, .ref (q 63)), (1, .int p1)] := hl
  have h := hs
  unfold sX0_addByte at h
  have hM0 := hM
  refine lv_aload_n hx hb dX0_addByte_0 rfl (lv_at hl 0 rfl) ?_
  refine k_getR (C := RX0) (T := TX0) (N := 5) hx hb hts iX0 hown hK hM 63 rfl rfl 0 (by decide) rfl w0 (fun _ h9 => h9) dX0_addByte_1 ?_
  refine lv_aload_n hx hb dX0_addByte_4 rfl (lv_at hl 0 rfl) ?_
  refine k_getI (C := RX0) (T := TX0) (N := 5) hx hb hts iX0 hown hK hM 63 rfl rfl 1 (by decide) rfl w2 (fun _ h9 => h9) dX0_addByte_5 ?_
  refine lv_iload_n hx hb dX0_addByte_8 rfl (lv_at hl 1 rfl) ?_
  obtain ⟨g9, h⟩ := grd_s h
  refine k_iast (v := p1) hx hb hK hM hJ hA hS 64 rfl g9 dX0_addByte_9 (fun H locs hM hS => ?_)
  obtain ⟨G11, eG11, h⟩ := olet_s h
  rw [eG11] at hM
  refine lv_aload_n hx hb dX0_addByte_10 rfl (lv_at hl 0 rfl) ?_
  refine lv_dup hx hb dX0_addByte_11 rfl ?_
  refine k_getI (C := RX0) (T := TX0) (N := 5) hx hb hts iX0 hown hK hM 63 rfl rfl 1 (by decide) rfl w2 (fun _ h9 => h9) dX0_addByte_12 ?_
  refine lv_iconst (v := 1) hx hb dX0_addByte_15 (by decide) ?_
  refine lv_iadd hx hb dX0_addByte_16 ?_
  refine k_putI (C := RX0) (T := TX0) (N := 5) (v := ((G11 63 1) + (1 : Int32))) hx hb hts iX0 tyX0 tyX0_ok nmX0 hown hK hM hJ hA hS 63 rfl rfl 1 (by decide) rfl w2 (fun _ h9 => h9) rfl (by decide +kernel) dX0_addByte_17 (fun H locs hM hS => ?_)
  obtain ⟨G19, eG19, h⟩ := olet_s h
  rw [eG19] at hM
  refine lv_aload_n hx hb dX0_addByte_20 rfl (lv_at hl 0 rfl) ?_
  refine k_getI (C := RX0) (T := TX0) (N := 5) hx hb hts iX0 hown hK hM 63 rfl rfl 1 (by decide) rfl w2 (fun _ h9 => h9) dX0_addByte_21 ?_
  have h := Option.some.inj h
  exact W.iret (v := (G19 63 1)) hx hb hr (fun t ht hW => ⟨⟨(G19 63 1), (), rfl, p_fst h, w_end ht hM (p_snd h)⟩, hS.F ht⟩) hS.2.2 dX0_addByte_24
set_option maxHeartbeats 4000000 in
set_option maxRecDepth 100000 in
theorem kX0_isDigit (l : Launch) (D : va_G) (cI cR : ClassId) (q : Nat → Nat) (G : Nat → Nat → Int32) (K : Nat) (p1 : Int32) (r : Int32) (hs : sX0_isDigit K G p1 = some r) : Met l yX0_isDigit wsX0_isDigit ({ frames := 0, cells := 0, slots := 0, locals := 0 } : Room) (mPre [.ref (q 63), .int p1] D cI cR q tmC G) (mI r) 0 0 (fun _ => False) := by
  refine Met.ofW (cc := cX0_isDigit) (maxL := 2) (ret := (some .boolean)) (by decide) rfl ?_
  intro p e s m args below meth c s₁ B hml hv
  obtain ⟨hargs, hM, hK⟩ := hv
  have hx := B.exec
  have hb := B.bytes
  have hr := B.returns
  have hts := atoms_spec (ws := wsX0_isDigit) B.pre
  have hown : s.vm.findClass RX0 = some m.cls := findClass_of_methodNamed B.named
  have hlocks := B.notSynchronized
  have hS : va_S (fun _ => False) s.heap s.heap [] := va_S.rf
  have w0 := hts (Cond.fieldLink RX0 21 "CoinRails$CoinText" "length" "I") (List.mem_of_getElem? (i := 1) (by decide +kernel))
  have iX0 : ∀ w ∈ wsX00, w ∈ wsX0_isDigit := fun _ h => List.mem_cons_of_mem _ (List.mem_append_right _ (h))
  have w2 := hts (Cond.fieldLink RX0 9 "CoinRails$CoinText" "bytes" "[I") (List.mem_of_getElem? (i := 2) (by decide +kernel))
  subst hargs
  have hl := lv_entry ([.ref (q 63), .int p1]) (n := 2) (Nat.le_of_ble_eq_true rfl)
  rw [lg_entry_eq]
  generalize (lg_sl ([.ref (q 63), .int p1]) ++ List.replicate (2 - (lg_sl ([.ref (q 63), .int p1])).length) Slot.unset).toArray = ls at hl ⊢
  have hl : lv_has ls 2 [(0, .ref (q 63)), (1, .int p1)] := hl
  have h := hs
  unfold sX0_isDigit at h
  have hM0 := hM
  refine lv_iload_n hx hb dX0_isDigit_0 rfl (lv_at hl 1 rfl) ?_
  refine lv_if_lt (tgt := 38) hx hb dX0_isDigit_1 (by decide) (fun c1 => ?_) (fun c1 => ?_)
  · replace h := ite_t h c1
    refine lv_iconst (v := 0) hx hb dX0_isDigit_38 (by decide) ?_
    exact W.zret (ty := .boolean) (v := (0 : Int32)) hx hb hr rfl (fun t ht hW => ⟨⟨(0 : Int32), (), rfl, Option.some.inj h, trivial⟩, hS.F ht⟩) hS.2.2 dX0_isDigit_39
  · replace h := ite_f h c1
    refine lv_iload_n hx hb dX0_isDigit_4 rfl (lv_at hl 1 rfl) ?_
    refine lv_aload_n hx hb dX0_isDigit_5 rfl (lv_at hl 0 rfl) ?_
    refine k_getI (C := RX0) (T := TX0) (N := 5) hx hb hts iX0 hown hK hM 63 rfl rfl 1 (by decide) rfl w0 (fun _ h9 => h9) dX0_isDigit_6 ?_
    refine lv_icmp_ge (tgt := 38) hx hb dX0_isDigit_9 (by decide) (fun c9 => ?_) (fun c9 => ?_)
    · replace h := ite_t h c9
      refine lv_iconst (v := 0) hx hb dX0_isDigit_38 (by decide) ?_
      exact W.zret (ty := .boolean) (v := (0 : Int32)) hx hb hr rfl (fun t ht hW => ⟨⟨(0 : Int32), (), rfl, Option.some.inj h, trivial⟩, hS.F ht⟩) hS.2.2 dX0_isDigit_39
    · replace h := ite_f h c9
      refine lv_aload_n hx hb dX0_isDigit_12 rfl (lv_at hl 0 rfl) ?_
      refine k_getR (C := RX0) (T := TX0) (N := 5) hx hb hts iX0 hown hK hM 63 rfl rfl 0 (by decide) rfl w2 (fun _ h9 => h9) dX0_isDigit_13 ?_
      refine lv_iload_n hx hb dX0_isDigit_16 rfl (lv_at hl 1 rfl) ?_
      obtain ⟨g17, h⟩ := grd_s h
      refine k_iald hx hb hK hM 64 rfl g17 dX0_isDigit_17 ?_
      refine lv_bipush (v := 48) hx hb dX0_isDigit_18 (by decide) ?_
      refine lv_icmp_lt (tgt := 38) hx hb dX0_isDigit_20 (by decide) (fun c20 => ?_) (fun c20 => ?_)
      · replace h := ite_t h c20
        refine lv_iconst (v := 0) hx hb dX0_isDigit_38 (by decide) ?_
        exact W.zret (ty := .boolean) (v := (0 : Int32)) hx hb hr rfl (fun t ht hW => ⟨⟨(0 : Int32), (), rfl, Option.some.inj h, trivial⟩, hS.F ht⟩) hS.2.2 dX0_isDigit_39
      · replace h := ite_f h c20
        refine lv_aload_n hx hb dX0_isDigit_23 rfl (lv_at hl 0 rfl) ?_
        refine k_getR (C := RX0) (T := TX0) (N := 5) hx hb hts iX0 hown hK hM 63 rfl rfl 0 (by decide) rfl w2 (fun _ h9 => h9) dX0_isDigit_24 ?_
        refine lv_iload_n hx hb dX0_isDigit_27 rfl (lv_at hl 1 rfl) ?_
        obtain ⟨g28, h⟩ := grd_s h
        refine k_iald hx hb hK hM 64 rfl g28 dX0_isDigit_28 ?_
        refine lv_bipush (v := 57) hx hb dX0_isDigit_29 (by decide) ?_
        refine lv_icmp_gt (tgt := 38) hx hb dX0_isDigit_31 (by decide) (fun c31 => ?_) (fun c31 => ?_)
        · replace h := ite_t h c31
          refine lv_iconst (v := 0) hx hb dX0_isDigit_38 (by decide) ?_
          exact W.zret (ty := .boolean) (v := (0 : Int32)) hx hb hr rfl (fun t ht hW => ⟨⟨(0 : Int32), (), rfl, Option.some.inj h, trivial⟩, hS.F ht⟩) hS.2.2 dX0_isDigit_39
        · replace h := ite_f h c31
          refine lv_iconst (v := 1) hx hb dX0_isDigit_34 (by decide) ?_
          refine lv_goto (tgt := 39) hx hb dX0_isDigit_35 (by decide) ?_
          exact W.zret (ty := .boolean) (v := (1 : Int32)) hx hb hr rfl (fun t ht hW => ⟨⟨(1 : Int32), (), rfl, Option.some.inj h, trivial⟩, hS.F ht⟩) hS.2.2 dX0_isDigit_39
set_option maxHeartbeats 4000000 in
set_option maxRecDepth 100000 in
theorem kX0_digit (l : Launch) (D : va_G) (cI cR : ClassId) (q : Nat → Nat) (G : Nat → Nat → Int32) (K : Nat) (p1 : Int32) (r : Int32) (hs : sX0_digit K G p1 = some r) : Met l yX0_digit wsX0_digit ({ frames := 0, cells := 0, slots := 0, locals := 0 } : Room) (mPre [.ref (q 63), .int p1] D cI cR q tmC G) (mI r) 0 0 (fun _ => False) := by
  refine Met.ofW (cc := cX0_digit) (maxL := 2) (ret := (some .int)) (by decide) rfl ?_
  intro p e s m args below meth c s₁ B hml hv
  obtain ⟨hargs, hM, hK⟩ := hv
  have hx := B.exec
  have hb := B.bytes
  have hr := B.returns
  have hts := atoms_spec (ws := wsX0_digit) B.pre
  have hown : s.vm.findClass RX0 = some m.cls := findClass_of_methodNamed B.named
  have hlocks := B.notSynchronized
  have hS : va_S (fun _ => False) s.heap s.heap [] := va_S.rf
  have w0 := hts (Cond.fieldLink RX0 9 "CoinRails$CoinText" "bytes" "[I") (List.mem_of_getElem? (i := 1) (by decide +kernel))
  have iX0 : ∀ w ∈ wsX00, w ∈ wsX0_digit := fun _ h => List.mem_cons_of_mem _ (List.mem_append_right _ (h))
  subst hargs
  have hl := lv_entry ([.ref (q 63), .int p1]) (n := 2) (Nat.le_of_ble_eq_true rfl)
  rw [lg_entry_eq]
  generalize (lg_sl ([.ref (q 63), .int p1]) ++ List.replicate (2 - (lg_sl ([.ref (q 63), .int p1])).length) Slot.unset).toArray = ls at hl ⊢
  have hl : lv_has ls 2 [(0, .ref (q 63)), (1, .int p1)] := hl
  have h := hs
  unfold sX0_digit at h
  have hM0 := hM
  refine lv_aload_n hx hb dX0_digit_0 rfl (lv_at hl 0 rfl) ?_
  refine k_getR (C := RX0) (T := TX0) (N := 5) hx hb hts iX0 hown hK hM 63 rfl rfl 0 (by decide) rfl w0 (fun _ h9 => h9) dX0_digit_1 ?_
  refine lv_iload_n hx hb dX0_digit_4 rfl (lv_at hl 1 rfl) ?_
  obtain ⟨g5, h⟩ := grd_s h
  refine k_iald hx hb hK hM 64 rfl g5 dX0_digit_5 ?_
  refine lv_bipush (v := 48) hx hb dX0_digit_6 (by decide) ?_
  refine lv_isub hx hb dX0_digit_8 ?_
  exact W.iret (v := ((G 64 p1.toNatClampNeg) - (48 : Int32))) hx hb hr (fun t ht hW => ⟨⟨((G 64 p1.toNatClampNeg) - (48 : Int32)), (), rfl, Option.some.inj h, trivial⟩, hS.F ht⟩) hS.2.2 dX0_digit_9
set_option maxHeartbeats 4000000 in
set_option maxRecDepth 100000 in
theorem kX0_isByte (l : Launch) (D : va_G) (cI cR : ClassId) (q : Nat → Nat) (G : Nat → Nat → Int32) (K : Nat) (p1 : Int32) (p2 : Int32) (r : Int32) (hs : sX0_isByte K G p1 p2 = some r) : Met l yX0_isByte wsX0_isByte ({ frames := 0, cells := 0, slots := 0, locals := 0 } : Room) (mPre [.ref (q 63), .int p1, .int p2] D cI cR q tmC G) (mI r) 0 0 (fun _ => False) := by
  refine Met.ofW (cc := cX0_isByte) (maxL := 3) (ret := (some .boolean)) (by decide) rfl ?_
  intro p e s m args below meth c s₁ B hml hv
  obtain ⟨hargs, hM, hK⟩ := hv
  have hx := B.exec
  have hb := B.bytes
  have hr := B.returns
  have hts := atoms_spec (ws := wsX0_isByte) B.pre
  have hown : s.vm.findClass RX0 = some m.cls := findClass_of_methodNamed B.named
  have hlocks := B.notSynchronized
  have hS : va_S (fun _ => False) s.heap s.heap [] := va_S.rf
  have w0 := hts (Cond.fieldLink RX0 21 "CoinRails$CoinText" "length" "I") (List.mem_of_getElem? (i := 1) (by decide +kernel))
  have iX0 : ∀ w ∈ wsX00, w ∈ wsX0_isByte := fun _ h => List.mem_cons_of_mem _ (List.mem_append_right _ (h))
  have w2 := hts (Cond.fieldLink RX0 9 "CoinRails$CoinText" "bytes" "[I") (List.mem_of_getElem? (i := 2) (by decide +kernel))
  subst hargs
  have hl := lv_entry ([.ref (q 63), .int p1, .int p2]) (n := 3) (Nat.le_of_ble_eq_true rfl)
  rw [lg_entry_eq]
  generalize (lg_sl ([.ref (q 63), .int p1, .int p2]) ++ List.replicate (3 - (lg_sl ([.ref (q 63), .int p1, .int p2])).length) Slot.unset).toArray = ls at hl ⊢
  have hl : lv_has ls 3 [(0, .ref (q 63)), (1, .int p1), (2, .int p2)] := hl
  have h := hs
  unfold sX0_isByte at h
  have hM0 := hM
  refine lv_iload_n hx hb dX0_isByte_0 rfl (lv_at hl 1 rfl) ?_
  refine lv_if_lt (tgt := 26) hx hb dX0_isByte_1 (by decide) (fun c1 => ?_) (fun c1 => ?_)
  · replace h := ite_t h c1
    refine lv_iconst (v := 0) hx hb dX0_isByte_26 (by decide) ?_
    exact W.zret (ty := .boolean) (v := (0 : Int32)) hx hb hr rfl (fun t ht hW => ⟨⟨(0 : Int32), (), rfl, Option.some.inj h, trivial⟩, hS.F ht⟩) hS.2.2 dX0_isByte_27
  · replace h := ite_f h c1
    refine lv_iload_n hx hb dX0_isByte_4 rfl (lv_at hl 1 rfl) ?_
    refine lv_aload_n hx hb dX0_isByte_5 rfl (lv_at hl 0 rfl) ?_
    refine k_getI (C := RX0) (T := TX0) (N := 5) hx hb hts iX0 hown hK hM 63 rfl rfl 1 (by decide) rfl w0 (fun _ h9 => h9) dX0_isByte_6 ?_
    refine lv_icmp_ge (tgt := 26) hx hb dX0_isByte_9 (by decide) (fun c9 => ?_) (fun c9 => ?_)
    · replace h := ite_t h c9
      refine lv_iconst (v := 0) hx hb dX0_isByte_26 (by decide) ?_
      exact W.zret (ty := .boolean) (v := (0 : Int32)) hx hb hr rfl (fun t ht hW => ⟨⟨(0 : Int32), (), rfl, Option.some.inj h, trivial⟩, hS.F ht⟩) hS.2.2 dX0_isByte_27
    · replace h := ite_f h c9
      refine lv_aload_n hx hb dX0_isByte_12 rfl (lv_at hl 0 rfl) ?_
      refine k_getR (C := RX0) (T := TX0) (N := 5) hx hb hts iX0 hown hK hM 63 rfl rfl 0 (by decide) rfl w2 (fun _ h9 => h9) dX0_isByte_13 ?_
      refine lv_iload_n hx hb dX0_isByte_16 rfl (lv_at hl 1 rfl) ?_
      obtain ⟨g17, h⟩ := grd_s h
      refine k_iald hx hb hK hM 64 rfl g17 dX0_isByte_17 ?_
      refine lv_iload_n hx hb dX0_isByte_18 rfl (lv_at hl 2 rfl) ?_
      refine lv_icmp_ne (tgt := 26) hx hb dX0_isByte_19 (by decide) (fun c19 => ?_) (fun c19 => ?_)
      · replace h := ite_f h c19
        refine lv_iconst (v := 0) hx hb dX0_isByte_26 (by decide) ?_
        exact W.zret (ty := .boolean) (v := (0 : Int32)) hx hb hr rfl (fun t ht hW => ⟨⟨(0 : Int32), (), rfl, Option.some.inj h, trivial⟩, hS.F ht⟩) hS.2.2 dX0_isByte_27
      · replace h := ite_t h c19
        refine lv_iconst (v := 1) hx hb dX0_isByte_22 (by decide) ?_
        refine lv_goto (tgt := 27) hx hb dX0_isByte_23 (by decide) ?_
        exact W.zret (ty := .boolean) (v := (1 : Int32)) hx hb hr rfl (fun t ht hW => ⟨⟨(1 : Int32), (), rfl, Option.some.inj h, trivial⟩, hS.F ht⟩) hS.2.2 dX0_isByte_27
set_option maxHeartbeats 4000000 in
set_option maxRecDepth 100000 in
theorem kX0_endOfWear (l : Launch) (D : va_G) (cI cR : ClassId) (q : Nat → Nat) (G : Nat → Nat → Int32) (K : Nat) (p1 : Int32) (r : Int32) (hs : sX0_endOfWear K G p1 = some r) : Met l yX0_endOfWear wsX0_endOfWear ({ frames := 1, cells := 0, slots := 0, locals := 22 } : Room) (mPre [.ref (q 63), .int p1] D cI cR q tmC G) (mI r) 0 0 (fun _ => False) := by
  refine Met.ofW (cc := cX0_endOfWear) (maxL := 3) (ret := (some .int)) (by decide) rfl ?_
  intro p e s m args below meth c s₁ B hml hv
  obtain ⟨hargs, hM, hK⟩ := hv
  have hx := B.exec
  have hb := B.bytes
  have hr := B.returns
  have hts := atoms_spec (ws := wsX0_endOfWear) B.pre
  have hown : s.vm.findClass RX0 = some m.cls := findClass_of_methodNamed B.named
  have hlocks := B.notSynchronized
  have hS : va_S (fun _ => False) s.heap s.heap [] := va_S.rf
  have L16 : ∀ (n : Nat), ∀ (G : Nat → Nat → Int32) (x2 : Int32) (H : Heap) (locs : List Loc) (ls : Array Slot), sX0_endOfWear_L16 K G p1 n x2 = some r → MW D cI cR q tmC G H → va_S (fun _ => False) s.heap H locs → lv_has ls 3 [(0, .ref (q 63)), (1, .int p1), (2, .int x2)] → W p l e (headSpec wsX0_endOfWear ({ frames := 1, cells := 0, slots := 0, locals := 22 } : Room)).room s m args below meth c H locs 0 0 (MQ below (mI r) args s 0 0 (fun _ => False)) (F0 m 16 ls []) := by
    clear hM hS
    intro n
    induction n with
    | zero => exact fun _ _ _ _ _ h => absurd h (by simp [sX0_endOfWear_L16])
    | succ n ih =>
      intro G x2 H locs ls h hM hS hl
      rw [sX0_endOfWear_L16] at h
      refine lv_iload_n hx hb dX0_endOfWear_16 rfl (lv_at hl 2 rfl) ?_
      refine lv_iload_n hx hb dX0_endOfWear_17 rfl (lv_at hl 1 rfl) ?_
      refine lv_iconst (v := 3) hx hb dX0_endOfWear_18 (by decide) ?_
      refine lv_iadd hx hb dX0_endOfWear_19 ?_
      refine lv_icmp_gt (tgt := 37) hx hb dX0_endOfWear_20 (by decide) (fun c20 => ?_) (fun c20 => ?_)
      · replace h := ite_t h c20
        refine lv_iload_n hx hb dX0_endOfWear_37 rfl (lv_at hl 2 rfl) ?_
        exact W.iret (v := x2) hx hb hr (fun t ht hW => ⟨⟨x2, (), rfl, Option.some.inj h, trivial⟩, hS.F ht⟩) hS.2.2 dX0_endOfWear_38
      · replace h := ite_f h c20
        refine lv_aload_n hx hb dX0_endOfWear_23 rfl (lv_at hl 0 rfl) ?_
        refine lv_iload_n hx hb dX0_endOfWear_24 rfl (lv_at hl 2 rfl) ?_
        obtain ⟨r25, e25, h⟩ := bind_s h
        refine k_cI (va_runV (As := [.int x2]) (rest := []) ⟨hx, hb, hml, hown, hts⟩ (kX0_isDigit l D cI cR q G K x2 r25 e25) (cwV 1 hts gX0_endOfWear_X0_isDigit rfl rfl rfl (by decide +kernel) ⟨Nat.le_of_ble_eq_true rfl, Nat.le_of_ble_eq_true rfl⟩) (mPreV hK hM 63 rfl rfl) rfl rfl hl.1 rfl (lv_room (Nat.le_of_ble_eq_true rfl)) dX0_endOfWear_25 ⟨Nat.le_of_ble_eq_true rfl, Nat.le_of_ble_eq_true rfl⟩) hS hM (fun H locs hM hS => ?_)
        refine lv_if_eq (tgt := 37) hx hb dX0_endOfWear_28 (by decide) (fun c28 => ?_) (fun c28 => ?_)
        · replace h := ite_t h c28
          refine lv_iload_n hx hb dX0_endOfWear_37 rfl (lv_at hl 2 rfl) ?_
          exact W.iret (v := x2) hx hb hr (fun t ht hW => ⟨⟨x2, (), rfl, Option.some.inj h, trivial⟩, hS.F ht⟩) hS.2.2 dX0_endOfWear_38
        · replace h := ite_f h c28
          refine lv_iinc (v := (x2 + 1)) (lv' := [(2, .int (x2 + 1)), (0, .ref (q 63)), (1, .int p1)]) hx hb dX0_endOfWear_31 hl (k := 2) rfl (congrArg (fun z : Int32 => x2 + z) (show Int32.ofInt (1) = 1 by decide)) (by decide) rfl (fun ls hl => ?_)
          refine lv_goto (tgt := 16) hx hb dX0_endOfWear_34 (by decide) ?_
          exact ih G (x2 + 1) _ _ _ h hM hS (lv_sub hl [1, 2, 0] rfl)
  subst hargs
  have hl := lv_entry ([.ref (q 63), .int p1]) (n := 3) (Nat.le_of_ble_eq_true rfl)
  rw [lg_entry_eq]
  generalize (lg_sl ([.ref (q 63), .int p1]) ++ List.replicate (3 - (lg_sl ([.ref (q 63), .int p1])).length) Slot.unset).toArray = ls at hl ⊢
  have hl : lv_has ls 3 [(0, .ref (q 63)), (1, .int p1)] := hl
  have h := hs
  unfold sX0_endOfWear at h
  have hM0 := hM
  refine lv_aload_n hx hb dX0_endOfWear_0 rfl (lv_at hl 0 rfl) ?_
  refine lv_iload_n hx hb dX0_endOfWear_1 rfl (lv_at hl 1 rfl) ?_
  refine lv_bipush (v := 119) hx hb dX0_endOfWear_2 (by decide) ?_
  obtain ⟨r4, e4, h⟩ := bind_s h
  refine k_cI (va_runV (As := [.int p1, .int (119 : Int32)]) (rest := []) ⟨hx, hb, hml, hown, hts⟩ (kX0_isByte l D cI cR q G K p1 (119 : Int32) r4 e4) (cwV 2 hts gX0_endOfWear_X0_isByte rfl rfl rfl (by decide +kernel) ⟨Nat.le_of_ble_eq_true rfl, Nat.le_of_ble_eq_true rfl⟩) (mPreV hK hM 63 rfl rfl) rfl rfl hl.1 rfl (lv_room (Nat.le_of_ble_eq_true rfl)) dX0_endOfWear_4 ⟨Nat.le_of_ble_eq_true rfl, Nat.le_of_ble_eq_true rfl⟩) hS hM (fun H locs hM hS => ?_)
  refine lv_if_ne (tgt := 12) hx hb dX0_endOfWear_7 (by decide) (fun c7 => ?_) (fun c7 => ?_)
  · replace h := ite_f h c7
    refine lv_iload_n hx hb dX0_endOfWear_12 rfl (lv_at hl 1 rfl) ?_
    refine lv_iconst (v := 1) hx hb dX0_endOfWear_13 (by decide) ?_
    refine lv_iadd hx hb dX0_endOfWear_14 ?_
    refine lv_istore_n (lv' := [(2, .int (p1 + (1 : Int32))), (0, .ref (q 63)), (1, .int p1)]) hx hb dX0_endOfWear_15 rfl hl (by decide) rfl (fun ls hl => ?_)
    exact L16 K G (p1 + (1 : Int32)) _ _ _ h hM hS (lv_sub hl [1, 2, 0] rfl)
  · replace h := ite_t h c7
    refine lv_iload_n hx hb dX0_endOfWear_10 rfl (lv_at hl 1 rfl) ?_
    exact W.iret (v := p1) hx hb hr (fun t ht hW => ⟨⟨p1, (), rfl, Option.some.inj h, trivial⟩, hS.F ht⟩) hS.2.2 dX0_endOfWear_11
set_option maxHeartbeats 4000000 in
set_option maxRecDepth 100000 in
theorem kX0_number (l : Launch) (D : va_G) (cI cR : ClassId) (q : Nat → Nat) (G : Nat → Nat → Int32) (K : Nat) (p1 : Int32) (p2 : Int32) (r : Int32) (hs : sX0_number K G p1 p2 = some r) : Met l yX0_number wsX0_number ({ frames := 1, cells := 0, slots := 0, locals := 21 } : Room) (mPre [.ref (q 63), .int p1, .int p2] D cI cR q tmC G) (mI r) 0 0 (fun _ => False) := by
  refine Met.ofW (cc := cX0_number) (maxL := 5) (ret := (some .int)) (by decide) rfl ?_
  intro p e s m args below meth c s₁ B hml hv
  obtain ⟨hargs, hM, hK⟩ := hv
  have hx := B.exec
  have hb := B.bytes
  have hr := B.returns
  have hts := atoms_spec (ws := wsX0_number) B.pre
  have hown : s.vm.findClass RX0 = some m.cls := findClass_of_methodNamed B.named
  have hlocks := B.notSynchronized
  have hS : va_S (fun _ => False) s.heap s.heap [] := va_S.rf
  have L5 : ∀ (n : Nat), ∀ (G : Nat → Nat → Int32) (x3 : Int32) (x4 : Int32) (H : Heap) (locs : List Loc) (ls : Array Slot), sX0_number_L5 K G p1 p2 n x3 x4 = some r → MW D cI cR q tmC G H → va_S (fun _ => False) s.heap H locs → lv_has ls 5 [(0, .ref (q 63)), (1, .int p1), (2, .int p2), (3, .int x3), (4, .int x4)] → W p l e (headSpec wsX0_number ({ frames := 1, cells := 0, slots := 0, locals := 21 } : Room)).room s m args below meth c H locs 0 0 (MQ below (mI r) args s 0 0 (fun _ => False)) (F0 m 5 ls []) := by
    clear hM hS
    intro n
    induction n with
    | zero => exact fun _ _ _ _ _ _ h => absurd h (by simp [sX0_number_L5])
    | succ n ih =>
      intro G x3 x4 H locs ls h hM hS hl
      rw [sX0_number_L5] at h
      refine lv_iload hx hb dX0_number_5 (lv_at hl 4 rfl) ?_
      refine lv_iload_n hx hb dX0_number_7 rfl (lv_at hl 2 rfl) ?_
      refine lv_icmp_ge (tgt := 29) hx hb dX0_number_8 (by decide) (fun c8 => ?_) (fun c8 => ?_)
      · replace h := ite_t h c8
        refine lv_iload_n hx hb dX0_number_29 rfl (lv_at hl 3 rfl) ?_
        exact W.iret (v := x3) hx hb hr (fun t ht hW => ⟨⟨x3, (), rfl, Option.some.inj h, trivial⟩, hS.F ht⟩) hS.2.2 dX0_number_30
      · replace h := ite_f h c8
        refine lv_bipush (v := 10) hx hb dX0_number_11 (by decide) ?_
        refine lv_iload_n hx hb dX0_number_13 rfl (lv_at hl 3 rfl) ?_
        refine lv_imul hx hb dX0_number_14 ?_
        refine lv_aload_n hx hb dX0_number_15 rfl (lv_at hl 0 rfl) ?_
        refine lv_iload hx hb dX0_number_16 (lv_at hl 4 rfl) ?_
        obtain ⟨r18, e18, h⟩ := bind_s h
        refine k_cI (va_runV (As := [.int x4]) (rest := [.int ((10 : Int32) * x3)]) ⟨hx, hb, hml, hown, hts⟩ (kX0_digit l D cI cR q G K x4 r18 e18) (cwV 1 hts gX0_number_X0_digit rfl rfl rfl (by decide +kernel) ⟨Nat.le_of_ble_eq_true rfl, Nat.le_of_ble_eq_true rfl⟩) (mPreV hK hM 63 rfl rfl) rfl rfl hl.1 rfl (lv_room (Nat.le_of_ble_eq_true rfl)) dX0_number_18 ⟨Nat.le_of_ble_eq_true rfl, Nat.le_of_ble_eq_true rfl⟩) hS hM (fun H locs hM hS => ?_)
        refine lv_iadd hx hb dX0_number_21 ?_
        refine lv_istore_n (lv' := [(3, .int (((10 : Int32) * x3) + r18)), (0, .ref (q 63)), (1, .int p1), (2, .int p2), (4, .int x4)]) hx hb dX0_number_22 rfl hl (by decide) rfl (fun ls hl => ?_)
        refine lv_iinc (v := (x4 + 1)) (lv' := [(4, .int (x4 + 1)), (3, .int (((10 : Int32) * x3) + r18)), (0, .ref (q 63)), (1, .int p1), (2, .int p2)]) hx hb dX0_number_23 hl (k := 4) rfl (congrArg (fun z : Int32 => x4 + z) (show Int32.ofInt (1) = 1 by decide)) (by decide) rfl (fun ls hl => ?_)
        refine lv_goto (tgt := 5) hx hb dX0_number_26 (by decide) ?_
        exact ih G (((10 : Int32) * x3) + r18) (x4 + 1) _ _ _ h hM hS (lv_sub hl [2, 3, 4, 1, 0] rfl)
  subst hargs
  have hl := lv_entry ([.ref (q 63), .int p1, .int p2]) (n := 5) (Nat.le_of_ble_eq_true rfl)
  rw [lg_entry_eq]
  generalize (lg_sl ([.ref (q 63), .int p1, .int p2]) ++ List.replicate (5 - (lg_sl ([.ref (q 63), .int p1, .int p2])).length) Slot.unset).toArray = ls at hl ⊢
  have hl : lv_has ls 5 [(0, .ref (q 63)), (1, .int p1), (2, .int p2)] := hl
  have h := hs
  unfold sX0_number at h
  have hM0 := hM
  refine lv_iconst (v := 0) hx hb dX0_number_0 (by decide) ?_
  refine lv_istore_n (lv' := [(3, .int (0 : Int32)), (0, .ref (q 63)), (1, .int p1), (2, .int p2)]) hx hb dX0_number_1 rfl hl (by decide) rfl (fun ls hl => ?_)
  refine lv_iload_n hx hb dX0_number_2 rfl (lv_at hl 2 rfl) ?_
  refine lv_istore (lv' := [(4, .int p1), (3, .int (0 : Int32)), (0, .ref (q 63)), (1, .int p1), (2, .int p2)]) hx hb dX0_number_3 hl (by decide) rfl (fun ls hl => ?_)
  exact L5 K G (0 : Int32) p1 _ _ _ h hM hS (lv_sub hl [2, 3, 4, 1, 0] rfl)
set_option maxHeartbeats 4000000 in
set_option maxRecDepth 100000 in
theorem kX0_readCoins (l : Launch) (D : va_G) (cI cR : ClassId) (q : Nat → Nat) (G : Nat → Nat → Int32) (K : Nat) (p1 : Int32) (hJ : MJ tmC q) (r : (Int32 × (Nat → Nat → Int32))) (hs : sX0_readCoins K G p1 = some r) : Met l yX0_readCoins wsX0_readCoins ({ frames := 2, cells := 0, slots := 0, locals := 45 } : Room) (mPre [.ref (q 63), .int p1] D cI cR q tmC G) (mIW D cI cR q tmC r) 0 0 (MA tmC q) := by
  refine Met.ofW (cc := cX0_readCoins) (maxL := 5) (ret := (some .int)) (by decide) rfl ?_
  intro p e s m args below meth c s₁ B hml hv
  obtain ⟨hargs, hM, hK⟩ := hv
  have hx := B.exec
  have hb := B.bytes
  have hr := B.returns
  have hts := atoms_spec (ws := wsX0_readCoins) B.pre
  have hown : s.vm.findClass RX0 = some m.cls := findClass_of_methodNamed B.named
  have hlocks := B.notSynchronized
  have hA : ∀ a, MA tmC q a → MA tmC q a := fun _ h => h
  have hS : va_S (MA tmC q) s.heap s.heap [] := va_S.rf
  have w0 := hts (Cond.fieldLink RX0 25 "CoinRails$CoinText" "coins" "I") (List.mem_of_getElem? (i := 1) (by decide +kernel))
  have iX0 : ∀ w ∈ wsX00, w ∈ wsX0_readCoins := fun _ h => List.mem_cons_of_mem _ (List.mem_append_right _ (h))
  have w2 := hts (Cond.fieldLink RX0 21 "CoinRails$CoinText" "length" "I") (List.mem_of_getElem? (i := 2) (by decide +kernel))
  have w3 := hts (Cond.fieldLink RX0 15 "CoinRails$CoinText" "kindOf" "[I") (List.mem_of_getElem? (i := 3) (by decide +kernel))
  have w4 := hts (Cond.fieldLink RX0 18 "CoinRails$CoinText" "wearOf" "[I") (List.mem_of_getElem? (i := 4) (by decide +kernel))
  have L7 : ∀ (n : Nat), ∀ (G1 : Nat → Nat → Int32) (x2 : Int32) (H : Heap) (locs : List Loc) (ls : Array Slot), sX0_readCoins_L7 K p1 n G1 x2 = some r → MW D cI cR q tmC G1 H → va_S (MA tmC q) s.heap H locs → lv_has ls 5 [(0, .ref (q 63)), (1, .int p1), (2, .int x2)] → W p l e (headSpec wsX0_readCoins ({ frames := 2, cells := 0, slots := 0, locals := 45 } : Room)).room s m args below meth c H locs 0 0 (MQ below (mIW D cI cR q tmC r) args s 0 0 (MA tmC q)) (F0 m 7 ls []) := by
    clear hM hS
    intro n
    induction n with
    | zero => exact fun _ _ _ _ _ h => absurd h (by simp [sX0_readCoins_L7])
    | succ n ih =>
      intro G1 x2 H locs ls h hM hS hl
      rw [sX0_readCoins_L7] at h
      refine lv_iload_n hx hb dX0_readCoins_7 rfl (lv_at hl 2 rfl) ?_
      refine lv_aload_n hx hb dX0_readCoins_8 rfl (lv_at hl 0 rfl) ?_
      refine k_getI (C := RX0) (T := TX0) (N := 5) hx hb hts iX0 hown hK hM 63 rfl rfl 1 (by decide) rfl w2 (fun _ h9 => h9) dX0_readCoins_9 ?_
      refine lv_icmp_ge (tgt := 127) hx hb dX0_readCoins_12 (by decide) (fun c12 => ?_) (fun c12 => ?_)
      · replace h := ite_t h c12
        refine lv_iconst (v := -1) hx hb dX0_readCoins_127 (by decide) ?_
        have h := Option.some.inj h
        exact W.iret (v := (-1 : Int32)) hx hb hr (fun t ht hW => ⟨⟨(-1 : Int32), (), rfl, p_fst h, w_end ht hM (p_snd h)⟩, hS.F ht⟩) hS.2.2 dX0_readCoins_128
      · replace h := ite_f h c12
        refine lv_aload_n hx hb dX0_readCoins_15 rfl (lv_at hl 0 rfl) ?_
        refine k_getI (C := RX0) (T := TX0) (N := 5) hx hb hts iX0 hown hK hM 63 rfl rfl 4 (by decide) rfl w0 (fun _ h9 => h9) dX0_readCoins_16 ?_
        refine lv_bipush (v := 45) hx hb dX0_readCoins_19 (by decide) ?_
        refine lv_icmp_ge (tgt := 127) hx hb dX0_readCoins_21 (by decide) (fun c21 => ?_) (fun c21 => ?_)
        · replace h := ite_t h c21
          refine lv_iconst (v := -1) hx hb dX0_readCoins_127 (by decide) ?_
          have h := Option.some.inj h
          exact W.iret (v := (-1 : Int32)) hx hb hr (fun t ht hW => ⟨⟨(-1 : Int32), (), rfl, p_fst h, w_end ht hM (p_snd h)⟩, hS.F ht⟩) hS.2.2 dX0_readCoins_128
        · replace h := ite_f h c21
          refine lv_aload_n hx hb dX0_readCoins_24 rfl (lv_at hl 0 rfl) ?_
          refine lv_iload_n hx hb dX0_readCoins_25 rfl (lv_at hl 2 rfl) ?_
          obtain ⟨r26, e26, h⟩ := bind_s h
          refine k_cI (va_runV (As := [.int x2]) (rest := []) ⟨hx, hb, hml, hown, hts⟩ (kX0_isDigit l D cI cR q G1 K x2 r26 e26) (cwV 1 hts gX0_readCoins_X0_isDigit rfl rfl rfl (by decide +kernel) ⟨Nat.le_of_ble_eq_true rfl, Nat.le_of_ble_eq_true rfl⟩) (mPreV hK hM 63 rfl rfl) rfl rfl hl.1 rfl (lv_room (Nat.le_of_ble_eq_true rfl)) dX0_readCoins_26 ⟨Nat.le_of_ble_eq_true rfl, Nat.le_of_ble_eq_true rfl⟩) hS hM (fun H locs hM hS => ?_)
          refine lv_if_eq (tgt := 41) hx hb dX0_readCoins_29 (by decide) (fun c29 => ?_) (fun c29 => ?_)
          · replace h := ite_t h c29
            refine lv_iload_n hx hb dX0_readCoins_41 rfl (lv_at hl 2 rfl) ?_
            have h := Option.some.inj h
            exact W.iret (v := x2) hx hb hr (fun t ht hW => ⟨⟨x2, (), rfl, p_fst h, w_end ht hM (p_snd h)⟩, hS.F ht⟩) hS.2.2 dX0_readCoins_42
          · replace h := ite_f h c29
            refine lv_aload_n hx hb dX0_readCoins_32 rfl (lv_at hl 0 rfl) ?_
            refine lv_iload_n hx hb dX0_readCoins_33 rfl (lv_at hl 2 rfl) ?_
            obtain ⟨r34, e34, h⟩ := bind_s h
            refine k_cI (va_runV (As := [.int x2]) (rest := []) ⟨hx, hb, hml, hown, hts⟩ (kX0_digit l D cI cR q G1 K x2 r34 e34) (cwV 1 hts gX0_readCoins_X0_digit rfl rfl rfl (by decide +kernel) ⟨Nat.le_of_ble_eq_true rfl, Nat.le_of_ble_eq_true rfl⟩) (mPreV hK hM 63 rfl rfl) rfl rfl hl.1 rfl (lv_room (Nat.le_of_ble_eq_true rfl)) dX0_readCoins_34 ⟨Nat.le_of_ble_eq_true rfl, Nat.le_of_ble_eq_true rfl⟩) hS hM (fun H locs hM hS => ?_)
            refine lv_iload_n hx hb dX0_readCoins_37 rfl (lv_at hl 1 rfl) ?_
            refine lv_icmp_lt (tgt := 43) hx hb dX0_readCoins_38 (by decide) (fun c38 => ?_) (fun c38 => ?_)
            · replace h := ite_t h c38
              refine lv_aload_n hx hb dX0_readCoins_43 rfl (lv_at hl 0 rfl) ?_
              refine lv_iload_n hx hb dX0_readCoins_44 rfl (lv_at hl 2 rfl) ?_
              refine lv_iconst (v := 1) hx hb dX0_readCoins_45 (by decide) ?_
              refine lv_iadd hx hb dX0_readCoins_46 ?_
              obtain ⟨r47, e47, h⟩ := bind_s h
              refine k_cI (va_runV (As := [.int (x2 + (1 : Int32))]) (rest := []) ⟨hx, hb, hml, hown, hts⟩ (kX0_endOfWear l D cI cR q G1 K (x2 + (1 : Int32)) r47 e47) (cwV 1 hts gX0_readCoins_X0_endOfWear rfl rfl rfl (by decide +kernel) ⟨Nat.le_of_ble_eq_true rfl, Nat.le_of_ble_eq_true rfl⟩) (mPreV hK hM 63 rfl rfl) rfl rfl hl.1 rfl (lv_room (Nat.le_of_ble_eq_true rfl)) dX0_readCoins_47 ⟨Nat.le_of_ble_eq_true rfl, Nat.le_of_ble_eq_true rfl⟩) hS hM (fun H locs hM hS => ?_)
              refine lv_istore_n (lv' := [(3, .int r47), (0, .ref (q 63)), (1, .int p1), (2, .int x2)]) hx hb dX0_readCoins_50 rfl hl (by decide) rfl (fun ls hl => ?_)
              refine lv_aload_n hx hb dX0_readCoins_51 rfl (lv_at hl 1 rfl) ?_
              refine lv_iload_n hx hb dX0_readCoins_52 rfl (lv_at hl 0 rfl) ?_
              refine lv_iconst (v := 1) hx hb dX0_readCoins_53 (by decide) ?_
              refine lv_isub hx hb dX0_readCoins_54 ?_
              refine lv_bipush (v := 119) hx hb dX0_readCoins_55 (by decide) ?_
              obtain ⟨r57, e57, h⟩ := bind_s h
              refine k_cI (va_runV (As := [.int (r47 - (1 : Int32)), .int (119 : Int32)]) (rest := []) ⟨hx, hb, hml, hown, hts⟩ (kX0_isByte l D cI cR q G1 K (r47 - (1 : Int32)) (119 : Int32) r57 e57) (cwV 2 hts gX0_readCoins_X0_isByte rfl rfl rfl (by decide +kernel) ⟨Nat.le_of_ble_eq_true rfl, Nat.le_of_ble_eq_true rfl⟩) (mPreV hK hM 63 rfl rfl) rfl rfl hl.1 rfl (lv_room (Nat.le_of_ble_eq_true rfl)) dX0_readCoins_57 ⟨Nat.le_of_ble_eq_true rfl, Nat.le_of_ble_eq_true rfl⟩) hS hM (fun H locs hM hS => ?_)
              refine lv_istore (lv' := [(4, .int r57), (3, .int r47), (0, .ref (q 63)), (1, .int p1), (2, .int x2)]) hx hb dX0_readCoins_60 hl (by decide) rfl (fun ls hl => ?_)
              refine lv_iload hx hb dX0_readCoins_62 (lv_at hl 0 rfl) ?_
              refine lv_if_ne (tgt := 77) hx hb dX0_readCoins_64 (by decide) (fun c64 => ?_) (fun c64 => ?_)
              · replace h := ite_f h c64
                refine lv_iload_n hx hb dX0_readCoins_77 rfl (lv_at hl 1 rfl) ?_
                have h := Option.some.inj h
                exact W.iret (v := r47) hx hb hr (fun t ht hW => ⟨⟨r47, (), rfl, p_fst h, w_end ht hM (p_snd h)⟩, hS.F ht⟩) hS.2.2 dX0_readCoins_78
              · replace h := ite_t h c64
                refine lv_aload_n hx hb dX0_readCoins_67 rfl (lv_at hl 2 rfl) ?_
                refine lv_iload_n hx hb dX0_readCoins_68 rfl (lv_at hl 1 rfl) ?_
                refine lv_bipush (v := 59) hx hb dX0_readCoins_69 (by decide) ?_
                obtain ⟨r71, e71, h⟩ := bind_s h
                refine k_cI (va_runV (As := [.int r47, .int (59 : Int32)]) (rest := []) ⟨hx, hb, hml, hown, hts⟩ (kX0_isByte l D cI cR q G1 K r47 (59 : Int32) r71 e71) (cwV 2 hts gX0_readCoins_X0_isByte rfl rfl rfl (by decide +kernel) ⟨Nat.le_of_ble_eq_true rfl, Nat.le_of_ble_eq_true rfl⟩) (mPreV hK hM 63 rfl rfl) rfl rfl hl.1 rfl (lv_room (Nat.le_of_ble_eq_true rfl)) dX0_readCoins_71 ⟨Nat.le_of_ble_eq_true rfl, Nat.le_of_ble_eq_true rfl⟩) hS hM (fun H locs hM hS => ?_)
                refine lv_if_ne (tgt := 79) hx hb dX0_readCoins_74 (by decide) (fun c74 => ?_) (fun c74 => ?_)
                · replace h := ite_f h c74
                  refine lv_aload_n hx hb dX0_readCoins_79 rfl (lv_at hl 2 rfl) ?_
                  refine k_getR (C := RX0) (T := TX0) (N := 5) hx hb hts iX0 hown hK hM 63 rfl rfl 2 (by decide) rfl w3 (fun _ h9 => h9) dX0_readCoins_80 ?_
                  refine lv_aload_n hx hb dX0_readCoins_83 rfl (lv_at hl 2 rfl) ?_
                  refine k_getI (C := RX0) (T := TX0) (N := 5) hx hb hts iX0 hown hK hM 63 rfl rfl 4 (by decide) rfl w0 (fun _ h9 => h9) dX0_readCoins_84 ?_
                  refine lv_aload_n hx hb dX0_readCoins_87 rfl (lv_at hl 2 rfl) ?_
                  refine lv_iload_n hx hb dX0_readCoins_88 rfl (lv_at hl 4 rfl) ?_
                  obtain ⟨r89, e89, h⟩ := bind_s h
                  refine k_cI (va_runV (As := [.int x2]) (rest := [.int (G1 63 4), .ref (q 65)]) ⟨hx, hb, hml, hown, hts⟩ (kX0_digit l D cI cR q G1 K x2 r89 e89) (cwV 1 hts gX0_readCoins_X0_digit rfl rfl rfl (by decide +kernel) ⟨Nat.le_of_ble_eq_true rfl, Nat.le_of_ble_eq_true rfl⟩) (mPreV hK hM 63 rfl rfl) rfl rfl hl.1 rfl (lv_room (Nat.le_of_ble_eq_true rfl)) dX0_readCoins_89 ⟨Nat.le_of_ble_eq_true rfl, Nat.le_of_ble_eq_true rfl⟩) hS hM (fun H locs hM hS => ?_)
                  obtain ⟨g92, h⟩ := grd_s h
                  refine k_iast (v := r89) hx hb hK hM hJ hA hS 65 rfl g92 dX0_readCoins_92 (fun H locs hM hS => ?_)
                  obtain ⟨G94, eG94, h⟩ := olet_s h
                  rw [eG94] at hM
                  refine lv_aload_n hx hb dX0_readCoins_93 rfl (lv_at hl 2 rfl) ?_
                  refine k_getR (C := RX0) (T := TX0) (N := 5) hx hb hts iX0 hown hK hM 63 rfl rfl 3 (by decide) rfl w4 (fun _ h9 => h9) dX0_readCoins_94 ?_
                  refine lv_aload_n hx hb dX0_readCoins_97 rfl (lv_at hl 2 rfl) ?_
                  refine k_getI (C := RX0) (T := TX0) (N := 5) hx hb hts iX0 hown hK hM 63 rfl rfl 4 (by decide) rfl w0 (fun _ h9 => h9) dX0_readCoins_98 ?_
                  refine lv_aload_n hx hb dX0_readCoins_101 rfl (lv_at hl 2 rfl) ?_
                  refine lv_iload_n hx hb dX0_readCoins_102 rfl (lv_at hl 4 rfl) ?_
                  refine lv_iconst (v := 2) hx hb dX0_readCoins_103 (by decide) ?_
                  refine lv_iadd hx hb dX0_readCoins_104 ?_
                  refine lv_iload_n hx hb dX0_readCoins_105 rfl (lv_at hl 1 rfl) ?_
                  obtain ⟨r106, e106, h⟩ := bind_s h
                  refine k_cI (va_runV (As := [.int (x2 + (2 : Int32)), .int r47]) (rest := [.int (G94 63 4), .ref (q 66)]) ⟨hx, hb, hml, hown, hts⟩ (kX0_number l D cI cR q G94 K (x2 + (2 : Int32)) r47 r106 e106) (cwV 2 hts gX0_readCoins_X0_number rfl rfl rfl (by decide +kernel) ⟨Nat.le_of_ble_eq_true rfl, Nat.le_of_ble_eq_true rfl⟩) (mPreV hK hM 63 rfl rfl) rfl rfl hl.1 rfl (lv_room (Nat.le_of_ble_eq_true rfl)) dX0_readCoins_106 ⟨Nat.le_of_ble_eq_true rfl, Nat.le_of_ble_eq_true rfl⟩) hS hM (fun H locs hM hS => ?_)
                  obtain ⟨g109, h⟩ := grd_s h
                  refine k_iast (v := r106) hx hb hK hM hJ hA hS 66 rfl g109 dX0_readCoins_109 (fun H locs hM hS => ?_)
                  obtain ⟨G111, eG111, h⟩ := olet_s h
                  rw [eG111] at hM
                  refine lv_aload_n hx hb dX0_readCoins_110 rfl (lv_at hl 2 rfl) ?_
                  refine lv_dup hx hb dX0_readCoins_111 rfl ?_
                  refine k_getI (C := RX0) (T := TX0) (N := 5) hx hb hts iX0 hown hK hM 63 rfl rfl 4 (by decide) rfl w0 (fun _ h9 => h9) dX0_readCoins_112 ?_
                  refine lv_iconst (v := 1) hx hb dX0_readCoins_115 (by decide) ?_
                  refine lv_iadd hx hb dX0_readCoins_116 ?_
                  refine k_putI (C := RX0) (T := TX0) (N := 5) (v := ((G111 63 4) + (1 : Int32))) hx hb hts iX0 tyX0 tyX0_ok nmX0 hown hK hM hJ hA hS 63 rfl rfl 4 (by decide) rfl w0 (fun _ h9 => h9) rfl (by decide +kernel) dX0_readCoins_117 (fun H locs hM hS => ?_)
                  obtain ⟨G119, eG119, h⟩ := olet_s h
                  rw [eG119] at hM
                  refine lv_iload_n hx hb dX0_readCoins_120 rfl (lv_at hl 1 rfl) ?_
                  refine lv_iconst (v := 1) hx hb dX0_readCoins_121 (by decide) ?_
                  refine lv_iadd hx hb dX0_readCoins_122 ?_
                  refine lv_istore_n (lv' := [(2, .int (r47 + (1 : Int32))), (4, .int r57), (3, .int r47), (0, .ref (q 63)), (1, .int p1)]) hx hb dX0_readCoins_123 rfl hl (by decide) rfl (fun ls hl => ?_)
                  refine lv_goto (tgt := 7) hx hb dX0_readCoins_124 (by decide) ?_
                  exact ih G119 (r47 + (1 : Int32)) _ _ _ h hM hS (lv_sub hl [3, 4, 0] rfl)
                · replace h := ite_t h c74
                  refine lv_iload_n hx hb dX0_readCoins_77 rfl (lv_at hl 1 rfl) ?_
                  have h := Option.some.inj h
                  exact W.iret (v := r47) hx hb hr (fun t ht hW => ⟨⟨r47, (), rfl, p_fst h, w_end ht hM (p_snd h)⟩, hS.F ht⟩) hS.2.2 dX0_readCoins_78
            · replace h := ite_f h c38
              refine lv_iload_n hx hb dX0_readCoins_41 rfl (lv_at hl 2 rfl) ?_
              have h := Option.some.inj h
              exact W.iret (v := x2) hx hb hr (fun t ht hW => ⟨⟨x2, (), rfl, p_fst h, w_end ht hM (p_snd h)⟩, hS.F ht⟩) hS.2.2 dX0_readCoins_42
  subst hargs
  have hl := lv_entry ([.ref (q 63), .int p1]) (n := 5) (Nat.le_of_ble_eq_true rfl)
  rw [lg_entry_eq]
  generalize (lg_sl ([.ref (q 63), .int p1]) ++ List.replicate (5 - (lg_sl ([.ref (q 63), .int p1])).length) Slot.unset).toArray = ls at hl ⊢
  have hl : lv_has ls 5 [(0, .ref (q 63)), (1, .int p1)] := hl
  have h := hs
  unfold sX0_readCoins at h
  have hM0 := hM
  refine lv_aload_n hx hb dX0_readCoins_0 rfl (lv_at hl 0 rfl) ?_
  refine lv_iconst (v := 0) hx hb dX0_readCoins_1 (by decide) ?_
  refine k_putI (C := RX0) (T := TX0) (N := 5) (v := (0 : Int32)) hx hb hts iX0 tyX0 tyX0_ok nmX0 hown hK hM hJ hA hS 63 rfl rfl 4 (by decide) rfl w0 (fun _ h9 => h9) rfl (by decide +kernel) dX0_readCoins_2 (fun H locs hM hS => ?_)
  obtain ⟨G4, eG4, h⟩ := olet_s h
  rw [eG4] at hM
  refine lv_iconst (v := 0) hx hb dX0_readCoins_5 (by decide) ?_
  refine lv_istore_n (lv' := [(2, .int (0 : Int32)), (0, .ref (q 63)), (1, .int p1)]) hx hb dX0_readCoins_6 rfl hl (by decide) rfl (fun ls hl => ?_)
  exact L7 K G4 (0 : Int32) _ _ _ h hM hS (lv_sub hl [1, 2, 0] rfl)
