set_option maxHeartbeats 4000000 in
set_option maxRecDepth 100000 in
theorem kX1_save (l : Launch) (D : va_G) (cI cR : ClassId) (q : Nat → Nat) (G : Nat → Nat → Int32) (K : Nat) (hJ : MJ tmC q) (r : (Nat → Nat → Int32)) (hs : sX1_save K G  = some r) : Met l yX1_save wsX1_save ({ frames := 2, cells := 0, slots := 0, locals := 89 } : Room) (mPre [.ref (q 13), .ref (q 1)] D cI cR q tmC G) (mVW D cI cR q tmC r) 0 0 (MA tmC q) := by
  refine Met.ofW (cc := cX1_save) (maxL := 2) (ret := none) (by decide) rfl ?_
  intro p e s m args below meth c s₁ B hml hv
  obtain ⟨hargs, hM, hK⟩ := hv
  have hx := B.exec
  have hb := B.bytes
  have hr := B.returns
  have hts := atoms_spec (ws := wsX1_save) B.pre
  have hown : s.vm.findClass RX1 = some m.cls := findClass_of_methodNamed B.named
  have hlocks := B.notSynchronized
  have hA : ∀ a, MA tmC q a → MA tmC q a := fun _ h => h
  have hS : va_S (MA tmC q) s.heap s.heap [] := va_S.rf
  have w0 := hts (Cond.fieldLink RX1 11 "CoinRails$History" "ring" "[LCoinRails$State;") (List.mem_of_getElem? (i := 1) (by decide +kernel))
  have iX1 : ∀ w ∈ wsX10, w ∈ wsX1_save := fun _ h => List.mem_cons_of_mem _ (List.mem_append_left _ (List.mem_append_right _ (h)))
  have w2 := hts (Cond.fieldLink RX1 18 "CoinRails$History" "next" "I") (List.mem_of_getElem? (i := 2) (by decide +kernel))
  have w3 := hts (Cond.fieldLink RX1 26 "CoinRails$History" "states" "I") (List.mem_of_getElem? (i := 3) (by decide +kernel))
  have w4 := hts (Cond.methodLink RX1 29 Lib.Math.min.name) (List.mem_of_getElem? (i := 4) (by decide +kernel))
  have w5 := hts (Cond.static Lib.Math.min.name) (List.mem_of_getElem? (i := 5) (by decide +kernel))
  have w6 := hts (Cond.initialized "java/lang/Math") (List.mem_of_getElem? (i := 6) (by decide +kernel))
  have w7 := hts (Cond.code Lib.Math.min.name Lib.Math.min.code 2 (some .int)) (List.mem_of_getElem? (i := 7) (by decide +kernel))
  subst hargs
  have hl := lv_entry ([.ref (q 13), .ref (q 1)]) (n := 2) (Nat.le_of_ble_eq_true rfl)
  rw [lg_entry_eq]
  generalize (lg_sl ([.ref (q 13), .ref (q 1)]) ++ List.replicate (2 - (lg_sl ([.ref (q 13), .ref (q 1)])).length) Slot.unset).toArray = ls at hl ⊢
  have hl : lv_has ls 2 [(0, .ref (q 13)), (1, .ref (q 1))] := hl
  have h := hs
  unfold sX1_save at h
  have hM0 := hM
  refine lv_aload_n hx hb dX1_save_0 rfl (lv_at hl 0 rfl) ?_
  refine k_getR (C := RX1) (T := TX1) (N := 3) hx hb hts iX1 hown hK hM 13 rfl rfl 0 (by decide) rfl w0 (fun _ h9 => h9) dX1_save_1 ?_
  refine lv_aload_n hx hb dX1_save_4 rfl (lv_at hl 0 rfl) ?_
  refine k_getI (C := RX1) (T := TX1) (N := 3) hx hb hts iX1 hown hK hM 13 rfl rfl 1 (by decide) rfl w2 (fun _ h9 => h9) dX1_save_5 ?_
  obtain ⟨g8, h⟩ := grd_s h
  refine k_aald hx hb hK hM 14 rfl g8 dX1_save_8 ?_
  refine lv_aload_n hx hb dX1_save_9 rfl (lv_at hl 1 rfl) ?_
  obtain ⟨r10, e10, h⟩ := bind_s h
  refine k_cVW (va_runV (As := [.ref (q 1)]) (rest := []) ⟨hx, hb, hml, hown, hts⟩ (kX2_copyFrom l D cI cR q G K (rgL.getD (G 13 1).toNatClampNeg 0) 1 hJ (rg_ok g8) st_ok1 r10 e10) (cwV 1 hts gX1_save_X2_copyFrom rfl rfl rfl (by decide +kernel) ⟨Nat.le_of_ble_eq_true rfl, Nat.le_of_ble_eq_true rfl⟩) (mPreV hK hM (rgL.getD (G 13 1).toNatClampNeg 0) (((rg_ok g8) 0 (by decide)).trans rfl) rfl) rfl rfl hl.1 rfl (lv_room (Nat.le_of_ble_eq_true rfl)) dX1_save_10 ⟨Nat.le_of_ble_eq_true rfl, Nat.le_of_ble_eq_true rfl⟩) hS hA (fun H locs hM hS => ?_)
  refine lv_aload_n hx hb dX1_save_13 rfl (lv_at hl 0 rfl) ?_
  refine lv_aload_n hx hb dX1_save_14 rfl (lv_at hl 0 rfl) ?_
  refine k_getI (C := RX1) (T := TX1) (N := 3) hx hb hts iX1 hown hK hM 13 rfl rfl 1 (by decide) rfl w2 (fun _ h9 => h9) dX1_save_15 ?_
  refine lv_iconst (v := 1) hx hb dX1_save_18 (by decide) ?_
  refine lv_iadd hx hb dX1_save_19 ?_
  refine lv_iconst (v := 4) hx hb dX1_save_20 (by decide) ?_
  refine lv_irem hx hb dX1_save_21 (by decide) ?_
  refine k_putI (C := RX1) (T := TX1) (N := 3) (v := (((r10 13 1) + (1 : Int32)) - ((r10 13 1) + (1 : Int32)) / (4 : Int32) * (4 : Int32))) hx hb hts iX1 tyX1 tyX1_ok nmX1 hown hK hM hJ hA hS 13 rfl rfl 1 (by decide) rfl w2 (fun _ h9 => h9) rfl (by decide +kernel) dX1_save_22 (fun H locs hM hS => ?_)
  obtain ⟨G24, eG24, h⟩ := olet_s h
  rw [eG24] at hM
  refine lv_aload_n hx hb dX1_save_25 rfl (lv_at hl 0 rfl) ?_
  refine lv_iconst (v := 4) hx hb dX1_save_26 (by decide) ?_
  refine lv_aload_n hx hb dX1_save_27 rfl (lv_at hl 0 rfl) ?_
  refine k_getI (C := RX1) (T := TX1) (N := 3) hx hb hts iX1 hown hK hM 13 rfl rfl 2 (by decide) rfl w3 (fun _ h9 => h9) dX1_save_28 ?_
  refine lv_iconst (v := 1) hx hb dX1_save_31 (by decide) ?_
  refine lv_iadd hx hb dX1_save_32 ?_
  refine va_mmin hx hb (hml.trans hl.1.symm) hown w4 w5 w6 w7 (Nat.le_of_ble_eq_true rfl) (Nat.le_of_ble_eq_true rfl) (Nat.le_of_ble_eq_true rfl) (Nat.le_of_ble_eq_true rfl) dX1_save_33 ?_
  refine k_putI (C := RX1) (T := TX1) (N := 3) (v := (if ((G24 13 2) + (1 : Int32)) < (4 : Int32) then ((G24 13 2) + (1 : Int32)) else (4 : Int32))) hx hb hts iX1 tyX1 tyX1_ok nmX1 hown hK hM hJ hA hS 13 rfl rfl 2 (by decide) rfl w3 (fun _ h9 => h9) rfl (by decide +kernel) dX1_save_36 (fun H locs hM hS => ?_)
  obtain ⟨G38, eG38, h⟩ := olet_s h
  rw [eG38] at hM
  have h := Option.some.inj h
  exact W.vret hx hb hr (fun t ht hW => ⟨⟨(), rfl, trivial, w_end ht hM h⟩, hS.F ht⟩) hS.2.2 dX1_save_39
set_option maxHeartbeats 4000000 in
set_option maxRecDepth 100000 in
theorem kX1_restore (l : Launch) (D : va_G) (cI cR : ClassId) (q : Nat → Nat) (G : Nat → Nat → Int32) (K : Nat) (hJ : MJ tmC q) (r : (Int32 × (Nat → Nat → Int32))) (hs : sX1_restore K G  = some r) : Met l yX1_restore wsX1_restore ({ frames := 2, cells := 0, slots := 0, locals := 89 } : Room) (mPre [.ref (q 13), .ref (q 1)] D cI cR q tmC G) (mIW D cI cR q tmC r) 0 0 (MA tmC q) := by
  refine Met.ofW (cc := cX1_restore) (maxL := 2) (ret := (some .int)) (by decide) rfl ?_
  intro p e s m args below meth c s₁ B hml hv
  obtain ⟨hargs, hM, hK⟩ := hv
  have hx := B.exec
  have hb := B.bytes
  have hr := B.returns
  have hts := atoms_spec (ws := wsX1_restore) B.pre
  have hown : s.vm.findClass RX1 = some m.cls := findClass_of_methodNamed B.named
  have hlocks := B.notSynchronized
  have hA : ∀ a, MA tmC q a → MA tmC q a := fun _ h => h
  have hS : va_S (MA tmC q) s.heap s.heap [] := va_S.rf
  have w0 := hts (Cond.fieldLink RX1 18 "CoinRails$History" "next" "I") (List.mem_of_getElem? (i := 1) (by decide +kernel))
  have iX1 : ∀ w ∈ wsX10, w ∈ wsX1_restore := fun _ h => List.mem_cons_of_mem _ (List.mem_append_left _ (List.mem_append_right _ (h)))
  have w2 := hts (Cond.fieldLink RX1 26 "CoinRails$History" "states" "I") (List.mem_of_getElem? (i := 2) (by decide +kernel))
  have w3 := hts (Cond.fieldLink RX1 11 "CoinRails$History" "ring" "[LCoinRails$State;") (List.mem_of_getElem? (i := 3) (by decide +kernel))
  subst hargs
  have hl := lv_entry ([.ref (q 13), .ref (q 1)]) (n := 2) (Nat.le_of_ble_eq_true rfl)
  rw [lg_entry_eq]
  generalize (lg_sl ([.ref (q 13), .ref (q 1)]) ++ List.replicate (2 - (lg_sl ([.ref (q 13), .ref (q 1)])).length) Slot.unset).toArray = ls at hl ⊢
  have hl : lv_has ls 2 [(0, .ref (q 13)), (1, .ref (q 1))] := hl
  have h := hs
  unfold sX1_restore at h
  have hM0 := hM
  refine lv_aload_n hx hb dX1_restore_0 rfl (lv_at hl 0 rfl) ?_
  refine lv_aload_n hx hb dX1_restore_1 rfl (lv_at hl 0 rfl) ?_
  refine k_getI (C := RX1) (T := TX1) (N := 3) hx hb hts iX1 hown hK hM 13 rfl rfl 1 (by decide) rfl w0 (fun _ h9 => h9) dX1_restore_2 ?_
  refine lv_iconst (v := 4) hx hb dX1_restore_5 (by decide) ?_
  refine lv_iadd hx hb dX1_restore_6 ?_
  refine lv_iconst (v := 1) hx hb dX1_restore_7 (by decide) ?_
  refine lv_isub hx hb dX1_restore_8 ?_
  refine lv_iconst (v := 4) hx hb dX1_restore_9 (by decide) ?_
  refine lv_irem hx hb dX1_restore_10 (by decide) ?_
  refine k_putI (C := RX1) (T := TX1) (N := 3) (v := ((((G 13 1) + (4 : Int32)) - (1 : Int32)) - (((G 13 1) + (4 : Int32)) - (1 : Int32)) / (4 : Int32) * (4 : Int32))) hx hb hts iX1 tyX1 tyX1_ok nmX1 hown hK hM hJ hA hS 13 rfl rfl 1 (by decide) rfl w0 (fun _ h9 => h9) rfl (by decide +kernel) dX1_restore_11 (fun H locs hM hS => ?_)
  obtain ⟨G13, eG13, h⟩ := olet_s h
  rw [eG13] at hM
  refine lv_aload_n hx hb dX1_restore_14 rfl (lv_at hl 0 rfl) ?_
  refine lv_dup hx hb dX1_restore_15 rfl ?_
  refine k_getI (C := RX1) (T := TX1) (N := 3) hx hb hts iX1 hown hK hM 13 rfl rfl 2 (by decide) rfl w2 (fun _ h9 => h9) dX1_restore_16 ?_
  refine lv_iconst (v := 1) hx hb dX1_restore_19 (by decide) ?_
  refine lv_isub hx hb dX1_restore_20 ?_
  refine k_putI (C := RX1) (T := TX1) (N := 3) (v := ((G13 13 2) - (1 : Int32))) hx hb hts iX1 tyX1 tyX1_ok nmX1 hown hK hM hJ hA hS 13 rfl rfl 2 (by decide) rfl w2 (fun _ h9 => h9) rfl (by decide +kernel) dX1_restore_21 (fun H locs hM hS => ?_)
  obtain ⟨G23, eG23, h⟩ := olet_s h
  rw [eG23] at hM
  refine lv_aload_n hx hb dX1_restore_24 rfl (lv_at hl 1 rfl) ?_
  refine lv_aload_n hx hb dX1_restore_25 rfl (lv_at hl 0 rfl) ?_
  refine k_getR (C := RX1) (T := TX1) (N := 3) hx hb hts iX1 hown hK hM 13 rfl rfl 0 (by decide) rfl w3 (fun _ h9 => h9) dX1_restore_26 ?_
  refine lv_aload_n hx hb dX1_restore_29 rfl (lv_at hl 0 rfl) ?_
  refine k_getI (C := RX1) (T := TX1) (N := 3) hx hb hts iX1 hown hK hM 13 rfl rfl 1 (by decide) rfl w0 (fun _ h9 => h9) dX1_restore_30 ?_
  obtain ⟨g33, h⟩ := grd_s h
  refine k_aald hx hb hK hM 14 rfl g33 dX1_restore_33 ?_
  obtain ⟨r34, e34, h⟩ := bind_s h
  refine k_cVW (va_runV (As := [.ref (q (rgL.getD (G23 13 1).toNatClampNeg 0))]) (rest := []) ⟨hx, hb, hml, hown, hts⟩ (kX2_copyFrom l D cI cR q G23 K 1 (rgL.getD (G23 13 1).toNatClampNeg 0) hJ st_ok1 (rg_ok g33) r34 e34) (cwV 1 hts gX1_restore_X2_copyFrom rfl rfl rfl (by decide +kernel) ⟨Nat.le_of_ble_eq_true rfl, Nat.le_of_ble_eq_true rfl⟩) (mPreV hK hM 1 rfl rfl) rfl rfl hl.1 rfl (lv_room (Nat.le_of_ble_eq_true rfl)) dX1_restore_34 ⟨Nat.le_of_ble_eq_true rfl, Nat.le_of_ble_eq_true rfl⟩) hS hA (fun H locs hM hS => ?_)
  refine lv_aload_n hx hb dX1_restore_37 rfl (lv_at hl 0 rfl) ?_
  refine k_getI (C := RX1) (T := TX1) (N := 3) hx hb hts iX1 hown hK hM 13 rfl rfl 2 (by decide) rfl w2 (fun _ h9 => h9) dX1_restore_38 ?_
  have h := Option.some.inj h
  exact W.iret (v := (r34 13 2)) hx hb hr (fun t ht hW => ⟨⟨(r34 13 2), (), rfl, p_fst h, w_end ht hM (p_snd h)⟩, hS.F ht⟩) hS.2.2 dX1_restore_41
