set_option maxHeartbeats 4000000 in
set_option maxRecDepth 100000 in
theorem kX4_railAt (l : Launch) (D : va_G) (cI cR : ClassId) (q : Nat → Nat) (G : Nat → Nat → Int32) (K : Nat) (p1 : Int32) (p2 : Int32) (r : Int32) (hs : sX4_railAt K G p1 p2 = some r) : Met l yX4_railAt wsX4_railAt ({ frames := 0, cells := 0, slots := 0, locals := 0 } : Room) (mPre [.int p1, .int p2] D cI cR q tmM G) (mI r) 0 0 (fun _ => False) := by
  refine Met.ofW (cc := cX4_railAt) (maxL := 2) (ret := (some .int)) (by decide) rfl ?_
  intro p e s m args below meth c s₁ B hml hv
  obtain ⟨hargs, hM, hK⟩ := hv
  have hx := B.exec
  have hb := B.bytes
  have hr := B.returns
  have hts := atoms_spec (ws := wsX4_railAt) B.pre
  have hown : s.vm.findClass RX4 = some m.cls := findClass_of_methodNamed B.named
  have hlocks := B.notSynchronized
  have hS : va_S (fun _ => False) s.heap s.heap [] := va_S.rf
  subst hargs
  have hl := lv_entry ([.int p1, .int p2]) (n := 2) (Nat.le_of_ble_eq_true rfl)
  rw [lg_entry_eq]
  generalize (lg_sl ([.int p1, .int p2]) ++ List.replicate (2 - (lg_sl ([.int p1, .int p2])).length) Slot.unset).toArray = ls at hl ⊢
  have hl : lv_has ls 2 [(0, .int p1), (1, .int p2)] := hl
  have h := hs
  unfold sX4_railAt at h
  have hM0 := hM
  refine lv_bipush (v := 33) hx hb dX4_railAt_0 (by decide) ?_
  refine lv_iconst (v := 5) hx hb dX4_railAt_2 (by decide) ?_
  refine lv_iload_n hx hb dX4_railAt_3 rfl (lv_at hl 0 rfl) ?_
  refine lv_imul hx hb dX4_railAt_4 ?_
  refine lv_iadd hx hb dX4_railAt_5 ?_
  refine lv_iload_n hx hb dX4_railAt_6 rfl (lv_at hl 1 rfl) ?_
  refine lv_iadd hx hb dX4_railAt_7 ?_
  exact W.iret (v := (((33 : Int32) + ((5 : Int32) * p1)) + p2)) hx hb hr (fun t ht hW => ⟨⟨(((33 : Int32) + ((5 : Int32) * p1)) + p2), (), rfl, Option.some.inj h, trivial⟩, hS.F ht⟩) hS.2.2 dX4_railAt_8
set_option maxHeartbeats 4000000 in
set_option maxRecDepth 100000 in
theorem kX4_clears (l : Launch) (D : va_G) (cI cR : ClassId) (q : Nat → Nat) (G : Nat → Nat → Int32) (K : Nat) (p1 : Int32) (hJ : MJ tmM q) (r : (Nat → Nat → Int32)) (hs : sX4_clears K G p1 = some r) : Met l yX4_clears wsX4_clears ({ frames := 1, cells := 0, slots := 0, locals := 21 } : Room) (mPre [.ref (q 0), .int p1] D cI cR q tmM G) (mVW D cI cR q tmM r) 0 0 (MA tmM q) := by
  refine Met.ofW (cc := cX4_clears) (maxL := 2) (ret := none) (by decide) rfl ?_
  intro p e s m args below meth c s₁ B hml hv
  obtain ⟨hargs, hM, hK⟩ := hv
  have hx := B.exec
  have hb := B.bytes
  have hr := B.returns
  have hts := atoms_spec (ws := wsX4_clears) B.pre
  have hown : s.vm.findClass RX4 = some m.cls := findClass_of_methodNamed B.named
  have hlocks := B.notSynchronized
  have hA : ∀ a, MA tmM q a → MA tmM q a := fun _ h => h
  have hS : va_S (MA tmM q) s.heap s.heap [] := va_S.rf
  have w0 := hts (Cond.fieldLink RX4 7 "CoinRailsModel" "all" "[I") (List.mem_of_getElem? (i := 1) (by decide +kernel))
  have iX4 : ∀ w ∈ wsX40, w ∈ wsX4_clears := fun _ h => List.mem_cons_of_mem _ (List.mem_append_right _ (h))
  subst hargs
  have hl := lv_entry ([.ref (q 0), .int p1]) (n := 2) (Nat.le_of_ble_eq_true rfl)
  rw [lg_entry_eq]
  generalize (lg_sl ([.ref (q 0), .int p1]) ++ List.replicate (2 - (lg_sl ([.ref (q 0), .int p1])).length) Slot.unset).toArray = ls at hl ⊢
  have hl : lv_has ls 2 [(0, .ref (q 0)), (1, .int p1)] := hl
  have h := hs
  unfold sX4_clears at h
  have hM0 := hM
  refine lv_aload_n hx hb dX4_clears_0 rfl (lv_at hl 0 rfl) ?_
  refine k_getR (C := RX4) (T := TX4) (N := 10) hx hb hts iX4 hown hK hM 0 rfl rfl 0 (by decide) rfl w0 (fun _ h9 => h9) dX4_clears_1 ?_
  refine lv_iload_n hx hb dX4_clears_4 rfl (lv_at hl 1 rfl) ?_
  refine lv_iconst (v := 2) hx hb dX4_clears_5 (by decide) ?_
  obtain ⟨r6, e6, h⟩ := bind_s h
  refine k_cI (va_runS (As := [.int p1, .int (2 : Int32)]) (rest := [.ref (q 1)]) ⟨hx, hb, hml, hown, hts⟩ (kX4_railAt l D cI cR q G K p1 (2 : Int32) r6 e6) (va_cwS 2 hts gX4_clears_X4_railAt rfl rfl rfl (by decide +kernel) ⟨Nat.le_of_ble_eq_true rfl, Nat.le_of_ble_eq_true rfl⟩) (mPreS hK hM) rfl rfl hl.1 rfl (lv_room (Nat.le_of_ble_eq_true rfl)) dX4_clears_6 ⟨Nat.le_of_ble_eq_true rfl, Nat.le_of_ble_eq_true rfl⟩) hS hM (fun H locs hM hS => ?_)
  refine lv_iconst (v := -1) hx hb dX4_clears_9 (by decide) ?_
  obtain ⟨g10, h⟩ := grd_s h
  refine k_iast (v := (-1 : Int32)) hx hb hK hM hJ hA hS 1 rfl g10 dX4_clears_10 (fun H locs hM hS => ?_)
  obtain ⟨G12, eG12, h⟩ := olet_s h
  rw [eG12] at hM
  refine lv_aload_n hx hb dX4_clears_11 rfl (lv_at hl 0 rfl) ?_
  refine k_getR (C := RX4) (T := TX4) (N := 10) hx hb hts iX4 hown hK hM 0 rfl rfl 0 (by decide) rfl w0 (fun _ h9 => h9) dX4_clears_12 ?_
  refine lv_iload_n hx hb dX4_clears_15 rfl (lv_at hl 1 rfl) ?_
  refine lv_iconst (v := 3) hx hb dX4_clears_16 (by decide) ?_
  obtain ⟨r17, e17, h⟩ := bind_s h
  refine k_cI (va_runS (As := [.int p1, .int (3 : Int32)]) (rest := [.ref (q 1)]) ⟨hx, hb, hml, hown, hts⟩ (kX4_railAt l D cI cR q G12 K p1 (3 : Int32) r17 e17) (va_cwS 2 hts gX4_clears_X4_railAt rfl rfl rfl (by decide +kernel) ⟨Nat.le_of_ble_eq_true rfl, Nat.le_of_ble_eq_true rfl⟩) (mPreS hK hM) rfl rfl hl.1 rfl (lv_room (Nat.le_of_ble_eq_true rfl)) dX4_clears_17 ⟨Nat.le_of_ble_eq_true rfl, Nat.le_of_ble_eq_true rfl⟩) hS hM (fun H locs hM hS => ?_)
  refine lv_iconst (v := -1) hx hb dX4_clears_20 (by decide) ?_
  obtain ⟨g21, h⟩ := grd_s h
  refine k_iast (v := (-1 : Int32)) hx hb hK hM hJ hA hS 1 rfl g21 dX4_clears_21 (fun H locs hM hS => ?_)
  obtain ⟨G23, eG23, h⟩ := olet_s h
  rw [eG23] at hM
  have h := Option.some.inj h
  exact W.vret hx hb hr (fun t ht hW => ⟨⟨(), rfl, trivial, w_end ht hM h⟩, hS.F ht⟩) hS.2.2 dX4_clears_22
set_option maxHeartbeats 4000000 in
set_option maxRecDepth 100000 in
theorem kX4_thrown (l : Launch) (D : va_G) (cI cR : ClassId) (q : Nat → Nat) (G : Nat → Nat → Int32) (K : Nat) (r : Int32) (hs : sX4_thrown K G  = some r) : Met l yX4_thrown wsX4_thrown ({ frames := 0, cells := 0, slots := 0, locals := 0 } : Room) (mPre [.ref (q 0)] D cI cR q tmM G) (mI r) 0 0 (fun _ => False) := by
  refine Met.ofW (cc := cX4_thrown) (maxL := 1) (ret := (some .int)) (by decide) rfl ?_
  intro p e s m args below meth c s₁ B hml hv
  obtain ⟨hargs, hM, hK⟩ := hv
  have hx := B.exec
  have hb := B.bytes
  have hr := B.returns
  have hts := atoms_spec (ws := wsX4_thrown) B.pre
  have hown : s.vm.findClass RX4 = some m.cls := findClass_of_methodNamed B.named
  have hlocks := B.notSynchronized
  have hS : va_S (fun _ => False) s.heap s.heap [] := va_S.rf
  have w0 := hts (Cond.fieldLink RX4 30 "CoinRailsModel" "threw" "I") (List.mem_of_getElem? (i := 1) (by decide +kernel))
  have iX4 : ∀ w ∈ wsX40, w ∈ wsX4_thrown := fun _ h => List.mem_cons_of_mem _ (List.mem_append_right _ (h))
  subst hargs
  have hl := lv_entry ([.ref (q 0)]) (n := 1) (Nat.le_of_ble_eq_true rfl)
  rw [lg_entry_eq]
  generalize (lg_sl ([.ref (q 0)]) ++ List.replicate (1 - (lg_sl ([.ref (q 0)])).length) Slot.unset).toArray = ls at hl ⊢
  have hl : lv_has ls 1 [(0, .ref (q 0))] := hl
  have h := hs
  unfold sX4_thrown at h
  have hM0 := hM
  refine lv_aload_n hx hb dX4_thrown_0 rfl (lv_at hl 0 rfl) ?_
  refine k_getI (C := RX4) (T := TX4) (N := 10) hx hb hts iX4 hown hK hM 0 rfl rfl 4 (by decide) rfl w0 (fun _ h9 => h9) dX4_thrown_1 ?_
  exact W.iret (v := (G 0 4)) hx hb hr (fun t ht hW => ⟨⟨(G 0 4), (), rfl, Option.some.inj h, trivial⟩, hS.F ht⟩) hS.2.2 dX4_thrown_4
set_option maxHeartbeats 4000000 in
set_option maxRecDepth 100000 in
theorem kX4_in (l : Launch) (D : va_G) (cI cR : ClassId) (q : Nat → Nat) (G : Nat → Nat → Int32) (K : Nat) (p1 : Int64) (p2 : Int64) (p3 : Int64) (r : Int32) (hs : sX4_in K G p1 p2 p3 = some r) : Met l yX4_in wsX4_in ({ frames := 0, cells := 0, slots := 0, locals := 0 } : Room) (mPre [.long p1, .long p2, .long p3] D cI cR q tmM G) (mI r) 0 0 (fun _ => False) := by
  refine Met.ofW (cc := cX4_in) (maxL := 6) (ret := (some .boolean)) (by decide) rfl ?_
  intro p e s m args below meth c s₁ B hml hv
  obtain ⟨hargs, hM, hK⟩ := hv
  have hx := B.exec
  have hb := B.bytes
  have hr := B.returns
  have hts := atoms_spec (ws := wsX4_in) B.pre
  have hown : s.vm.findClass RX4 = some m.cls := findClass_of_methodNamed B.named
  have hlocks := B.notSynchronized
  have hS : va_S (fun _ => False) s.heap s.heap [] := va_S.rf
  subst hargs
  have hl := lv_entry ([.long p1, .long p2, .long p3]) (n := 6) (Nat.le_of_ble_eq_true rfl)
  rw [lg_entry_eq]
  generalize (lg_sl ([.long p1, .long p2, .long p3]) ++ List.replicate (6 - (lg_sl ([.long p1, .long p2, .long p3])).length) Slot.unset).toArray = ls at hl ⊢
  have hl : lv_has ls 6 [(0, .long p1), (2, .long p2), (4, .long p3)] := hl
  have h := hs
  unfold sX4_in at h
  have hM0 := hM
  refine lv_lload_n hx hb dX4_in_0 rfl (lv_at hl 0 rfl) ?_
  refine lv_lload_n hx hb dX4_in_1 rfl (lv_at hl 1 rfl) ?_
  refine W.lcmp hx hb dX4_in_2 ?_
  refine lv_if_lt (tgt := 17) hx hb dX4_in_3 (by decide) (fun c3 => ?_) (fun c3 => ?_)
  · replace h := ite_t h c3
    refine lv_iconst (v := 0) hx hb dX4_in_17 (by decide) ?_
    exact W.zret (ty := .boolean) (v := (0 : Int32)) hx hb hr rfl (fun t ht hW => ⟨⟨(0 : Int32), (), rfl, Option.some.inj h, trivial⟩, hS.F ht⟩) hS.2.2 dX4_in_18
  · replace h := ite_f h c3
    refine lv_lload_n hx hb dX4_in_6 rfl (lv_at hl 0 rfl) ?_
    refine lv_lload hx hb dX4_in_7 (lv_at hl 2 rfl) ?_
    refine W.lcmp hx hb dX4_in_9 ?_
    refine lv_if_gt (tgt := 17) hx hb dX4_in_10 (by decide) (fun c10 => ?_) (fun c10 => ?_)
    · replace h := ite_t h c10
      refine lv_iconst (v := 0) hx hb dX4_in_17 (by decide) ?_
      exact W.zret (ty := .boolean) (v := (0 : Int32)) hx hb hr rfl (fun t ht hW => ⟨⟨(0 : Int32), (), rfl, Option.some.inj h, trivial⟩, hS.F ht⟩) hS.2.2 dX4_in_18
    · replace h := ite_f h c10
      refine lv_iconst (v := 1) hx hb dX4_in_13 (by decide) ?_
      refine lv_goto (tgt := 18) hx hb dX4_in_14 (by decide) ?_
      exact W.zret (ty := .boolean) (v := (1 : Int32)) hx hb hr rfl (fun t ht hW => ⟨⟨(1 : Int32), (), rfl, Option.some.inj h, trivial⟩, hS.F ht⟩) hS.2.2 dX4_in_18
set_option maxHeartbeats 4000000 in
set_option maxRecDepth 100000 in
theorem kX4_fine (l : Launch) (D : va_G) (cI cR : ClassId) (q : Nat → Nat) (G : Nat → Nat → Int32) (K : Nat) (p1 : Int32) (hJ : MJ tmM q) (r : (Int32 × (Nat → Nat → Int32))) (hs : sX4_fine K G p1 = some r) : Met l yX4_fine wsX4_fine ({ frames := 0, cells := 0, slots := 0, locals := 0 } : Room) (mPre [.ref (q 0), .int p1] D cI cR q tmM G) (mIW D cI cR q tmM r) 0 0 (MA tmM q) := by
  refine Met.ofW (cc := cX4_fine) (maxL := 2) (ret := (some .int)) (by decide) rfl ?_
  intro p e s m args below meth c s₁ B hml hv
  obtain ⟨hargs, hM, hK⟩ := hv
  have hx := B.exec
  have hb := B.bytes
  have hr := B.returns
  have hts := atoms_spec (ws := wsX4_fine) B.pre
  have hown : s.vm.findClass RX4 = some m.cls := findClass_of_methodNamed B.named
  have hlocks := B.notSynchronized
  have hA : ∀ a, MA tmM q a → MA tmM q a := fun _ h => h
  have hS : va_S (MA tmM q) s.heap s.heap [] := va_S.rf
  have w0 := hts (Cond.fieldLink RX4 30 "CoinRailsModel" "threw" "I") (List.mem_of_getElem? (i := 1) (by decide +kernel))
  have iX4 : ∀ w ∈ wsX40, w ∈ wsX4_fine := fun _ h => List.mem_cons_of_mem _ (List.mem_append_right _ (h))
  subst hargs
  have hl := lv_entry ([.ref (q 0), .int p1]) (n := 2) (Nat.le_of_ble_eq_true rfl)
  rw [lg_entry_eq]
  generalize (lg_sl ([.ref (q 0), .int p1]) ++ List.replicate (2 - (lg_sl ([.ref (q 0), .int p1])).length) Slot.unset).toArray = ls at hl ⊢
  have hl : lv_has ls 2 [(0, .ref (q 0)), (1, .int p1)] := hl
  have h := hs
  unfold sX4_fine at h
  have hM0 := hM
  refine lv_aload_n hx hb dX4_fine_0 rfl (lv_at hl 0 rfl) ?_
  refine lv_iconst (v := 0) hx hb dX4_fine_1 (by decide) ?_
  refine k_putI (C := RX4) (T := TX4) (N := 10) (v := (0 : Int32)) hx hb hts iX4 tyX4 tyX4_ok nmX4 hown hK hM hJ hA hS 0 rfl rfl 4 (by decide) rfl w0 (fun _ h9 => h9) rfl (by decide +kernel) dX4_fine_2 (fun H locs hM hS => ?_)
  obtain ⟨G4, eG4, h⟩ := olet_s h
  rw [eG4] at hM
  refine lv_iload_n hx hb dX4_fine_5 rfl (lv_at hl 1 rfl) ?_
  have h := Option.some.inj h
  exact W.iret (v := p1) hx hb hr (fun t ht hW => ⟨⟨p1, (), rfl, p_fst h, w_end ht hM (p_snd h)⟩, hS.F ht⟩) hS.2.2 dX4_fine_6
set_option maxHeartbeats 4000000 in
set_option maxRecDepth 100000 in
theorem kX4_throwing (l : Launch) (D : va_G) (cI cR : ClassId) (q : Nat → Nat) (G : Nat → Nat → Int32) (K : Nat) (p1 : Int32) (hJ : MJ tmM q) (r : (Int32 × (Nat → Nat → Int32))) (hs : sX4_throwing K G p1 = some r) : Met l yX4_throwing wsX4_throwing ({ frames := 0, cells := 0, slots := 0, locals := 0 } : Room) (mPre [.ref (q 0), .int p1] D cI cR q tmM G) (mIW D cI cR q tmM r) 0 0 (MA tmM q) := by
  refine Met.ofW (cc := cX4_throwing) (maxL := 2) (ret := (some .int)) (by decide) rfl ?_
  intro p e s m args below meth c s₁ B hml hv
  obtain ⟨hargs, hM, hK⟩ := hv
  have hx := B.exec
  have hb := B.bytes
  have hr := B.returns
  have hts := atoms_spec (ws := wsX4_throwing) B.pre
  have hown : s.vm.findClass RX4 = some m.cls := findClass_of_methodNamed B.named
  have hlocks := B.notSynchronized
  have hA : ∀ a, MA tmM q a → MA tmM q a := fun _ h => h
  have hS : va_S (MA tmM q) s.heap s.heap [] := va_S.rf
  have w0 := hts (Cond.fieldLink RX4 30 "CoinRailsModel" "threw" "I") (List.mem_of_getElem? (i := 1) (by decide +kernel))
  have iX4 : ∀ w ∈ wsX40, w ∈ wsX4_throwing := fun _ h => List.mem_cons_of_mem _ (List.mem_append_right _ (h))
  subst hargs
  have hl := lv_entry ([.ref (q 0), .int p1]) (n := 2) (Nat.le_of_ble_eq_true rfl)
  rw [lg_entry_eq]
  generalize (lg_sl ([.ref (q 0), .int p1]) ++ List.replicate (2 - (lg_sl ([.ref (q 0), .int p1])).length) Slot.unset).toArray = ls at hl ⊢
  have hl : lv_has ls 2 [(0, .ref (q 0)), (1, .int p1)] := hl
  have h := hs
  unfold sX4_throwing at h
  have hM0 := hM
  refine lv_aload_n hx hb dX4_throwing_0 rfl (lv_at hl 0 rfl) ?_
  refine lv_iload_n hx hb dX4_throwing_1 rfl (lv_at hl 1 rfl) ?_
  refine k_putI (C := RX4) (T := TX4) (N := 10) (v := p1) hx hb hts iX4 tyX4 tyX4_ok nmX4 hown hK hM hJ hA hS 0 rfl rfl 4 (by decide) rfl w0 (fun _ h9 => h9) rfl (by decide +kernel) dX4_throwing_2 (fun H locs hM hS => ?_)
  obtain ⟨G4, eG4, h⟩ := olet_s h
  rw [eG4] at hM
  refine lv_iconst (v := 0) hx hb dX4_throwing_5 (by decide) ?_
  have h := Option.some.inj h
  exact W.iret (v := (0 : Int32)) hx hb hr (fun t ht hW => ⟨⟨(0 : Int32), (), rfl, p_fst h, w_end ht hM (p_snd h)⟩, hS.F ht⟩) hS.2.2 dX4_throwing_6
set_option maxHeartbeats 4000000 in
set_option maxRecDepth 100000 in
theorem kX4_save (l : Launch) (D : va_G) (cI cR : ClassId) (q : Nat → Nat) (G : Nat → Nat → Int32) (K : Nat) (hJ : MJ tmM q) (r : (Nat → Nat → Int32)) (hs : sX4_save K G  = some r) : Met l yX4_save wsX4_save ({ frames := 0, cells := 0, slots := 0, locals := 0 } : Room) (mPre [.ref (q 0)] D cI cR q tmM G) (mVW D cI cR q tmM r) 0 0 (MA tmM q) := by
  refine Met.ofW (cc := cX4_save) (maxL := 2) (ret := none) (by decide) rfl ?_
  intro p e s m args below meth c s₁ B hml hv
  obtain ⟨hargs, hM, hK⟩ := hv
  have hx := B.exec
  have hb := B.bytes
  have hr := B.returns
  have hts := atoms_spec (ws := wsX4_save) B.pre
  have hown : s.vm.findClass RX4 = some m.cls := findClass_of_methodNamed B.named
  have hlocks := B.notSynchronized
  have hA : ∀ a, MA tmM q a → MA tmM q a := fun _ h => h
  have hS : va_S (MA tmM q) s.heap s.heap [] := va_S.rf
  have w0 := hts (Cond.fieldLink RX4 34 "CoinRailsModel" "savedMany" "I") (List.mem_of_getElem? (i := 1) (by decide +kernel))
  have iX4 : ∀ w ∈ wsX40, w ∈ wsX4_save := fun _ h => List.mem_cons_of_mem _ (List.mem_append_right _ (h))
  have w2 := hts (Cond.fieldLink RX4 13 "CoinRailsModel" "saved" "[I") (List.mem_of_getElem? (i := 2) (by decide +kernel))
  have w3 := hts (Cond.fieldLink RX4 7 "CoinRailsModel" "all" "[I") (List.mem_of_getElem? (i := 3) (by decide +kernel))
  have L50 : ∀ (n : Nat), ∀ (G1 : Nat → Nat → Int32) (x1 : Int32) (H : Heap) (locs : List Loc) (ls : Array Slot), sX4_save_L50 K n G1 x1 = some r → MW D cI cR q tmM G1 H → va_S (MA tmM q) s.heap H locs → lv_has ls 2 [(0, .ref (q 0)), (1, .int x1)] → W p l e (headSpec wsX4_save ({ frames := 0, cells := 0, slots := 0, locals := 0 } : Room)).room s m args below meth c H locs 0 0 (MQ below (mVW D cI cR q tmM r) args s 0 0 (MA tmM q)) (F0 m 50 ls []) := by
    clear hM hS
    intro n
    induction n with
    | zero => exact fun _ _ _ _ _ h => absurd h (by simp [sX4_save_L50])
    | succ n ih =>
      intro G1 x1 H locs ls h hM hS hl
      rw [sX4_save_L50] at h
      refine lv_iload_n hx hb dX4_save_50 rfl (lv_at hl 1 rfl) ?_
      refine lv_bipush (v := 99) hx hb dX4_save_51 (by decide) ?_
      refine lv_icmp_ge (tgt := 82) hx hb dX4_save_53 (by decide) (fun c53 => ?_) (fun c53 => ?_)
      · replace h := ite_t h c53
        refine lv_aload_n hx hb dX4_save_82 rfl (lv_at hl 0 rfl) ?_
        refine lv_dup hx hb dX4_save_83 rfl ?_
        refine k_getI (C := RX4) (T := TX4) (N := 10) hx hb hts iX4 hown hK hM 0 rfl rfl 3 (by decide) rfl w0 (fun _ h9 => h9) dX4_save_84 ?_
        refine lv_iconst (v := 1) hx hb dX4_save_87 (by decide) ?_
        refine lv_iadd hx hb dX4_save_88 ?_
        refine k_putI (C := RX4) (T := TX4) (N := 10) (v := ((G1 0 3) + (1 : Int32))) hx hb hts iX4 tyX4 tyX4_ok nmX4 hown hK hM hJ hA hS 0 rfl rfl 3 (by decide) rfl w0 (fun _ h9 => h9) rfl (by decide +kernel) dX4_save_89 (fun H locs hM hS => ?_)
        obtain ⟨G91, eG91, h⟩ := olet_s h
        rw [eG91] at hM
        have h := Option.some.inj h
        exact W.vret hx hb hr (fun t ht hW => ⟨⟨(), rfl, trivial, w_end ht hM h⟩, hS.F ht⟩) hS.2.2 dX4_save_92
      · replace h := ite_f h c53
        refine lv_aload_n hx hb dX4_save_56 rfl (lv_at hl 0 rfl) ?_
        refine k_getR (C := RX4) (T := TX4) (N := 10) hx hb hts iX4 hown hK hM 0 rfl rfl 1 (by decide) rfl w2 (fun _ h9 => h9) dX4_save_57 ?_
        refine lv_bipush (v := 99) hx hb dX4_save_60 (by decide) ?_
        refine lv_aload_n hx hb dX4_save_62 rfl (lv_at hl 0 rfl) ?_
        refine k_getI (C := RX4) (T := TX4) (N := 10) hx hb hts iX4 hown hK hM 0 rfl rfl 3 (by decide) rfl w0 (fun _ h9 => h9) dX4_save_63 ?_
        refine lv_imul hx hb dX4_save_66 ?_
        refine lv_iload_n hx hb dX4_save_67 rfl (lv_at hl 1 rfl) ?_
        refine lv_iadd hx hb dX4_save_68 ?_
        refine lv_aload_n hx hb dX4_save_69 rfl (lv_at hl 0 rfl) ?_
        refine k_getR (C := RX4) (T := TX4) (N := 10) hx hb hts iX4 hown hK hM 0 rfl rfl 0 (by decide) rfl w3 (fun _ h9 => h9) dX4_save_70 ?_
        refine lv_iload_n hx hb dX4_save_73 rfl (lv_at hl 1 rfl) ?_
        obtain ⟨g74, h⟩ := grd_s h
        refine k_iald hx hb hK hM 1 rfl g74 dX4_save_74 ?_
        obtain ⟨g75, h⟩ := grd_s h
        refine k_iast (v := (G1 1 x1.toNatClampNeg)) hx hb hK hM hJ hA hS 2 rfl g75 dX4_save_75 (fun H locs hM hS => ?_)
        obtain ⟨G77, eG77, h⟩ := olet_s h
        rw [eG77] at hM
        refine lv_iinc (v := (x1 + 1)) (lv' := [(1, .int (x1 + 1)), (0, .ref (q 0))]) hx hb dX4_save_76 hl (k := 1) rfl (congrArg (fun z : Int32 => x1 + z) (show Int32.ofInt (1) = 1 by decide)) (by decide) rfl (fun ls hl => ?_)
        refine lv_goto (tgt := 50) hx hb dX4_save_79 (by decide) ?_
        exact ih G77 (x1 + 1) _ _ _ h hM hS (lv_sub hl [1, 0] rfl)
  have L10 : ∀ (n : Nat), ∀ (G1 : Nat → Nat → Int32) (x1 : Int32) (H : Heap) (locs : List Loc) (ls : Array Slot), sX4_save_L10 K n G1 x1 = some r → MW D cI cR q tmM G1 H → va_S (MA tmM q) s.heap H locs → lv_has ls 2 [(0, .ref (q 0)), (1, .int x1)] → W p l e (headSpec wsX4_save ({ frames := 0, cells := 0, slots := 0, locals := 0 } : Room)).room s m args below meth c H locs 0 0 (MQ below (mVW D cI cR q tmM r) args s 0 0 (MA tmM q)) (F0 m 10 ls []) := by
    clear hM hS
    intro n
    induction n with
    | zero => exact fun _ _ _ _ _ h => absurd h (by simp [sX4_save_L10])
    | succ n ih =>
      intro G1 x1 H locs ls h hM hS hl
      rw [sX4_save_L10] at h
      refine lv_iload_n hx hb dX4_save_10 rfl (lv_at hl 1 rfl) ?_
      refine lv_sipush (v := 297) hx hb dX4_save_11 (by decide) ?_
      refine lv_icmp_ge (tgt := 38) hx hb dX4_save_14 (by decide) (fun c14 => ?_) (fun c14 => ?_)
      · replace h := ite_t h c14
        refine lv_aload_n hx hb dX4_save_38 rfl (lv_at hl 0 rfl) ?_
        refine lv_dup hx hb dX4_save_39 rfl ?_
        refine k_getI (C := RX4) (T := TX4) (N := 10) hx hb hts iX4 hown hK hM 0 rfl rfl 3 (by decide) rfl w0 (fun _ h9 => h9) dX4_save_40 ?_
        refine lv_iconst (v := 1) hx hb dX4_save_43 (by decide) ?_
        refine lv_isub hx hb dX4_save_44 ?_
        refine k_putI (C := RX4) (T := TX4) (N := 10) (v := ((G1 0 3) - (1 : Int32))) hx hb hts iX4 tyX4 tyX4_ok nmX4 hown hK hM hJ hA hS 0 rfl rfl 3 (by decide) rfl w0 (fun _ h9 => h9) rfl (by decide +kernel) dX4_save_45 (fun H locs hM hS => ?_)
        obtain ⟨G47, eG47, h⟩ := olet_s h
        rw [eG47] at hM
        refine lv_iconst (v := 0) hx hb dX4_save_48 (by decide) ?_
        refine lv_istore_n (lv' := [(1, .int (0 : Int32)), (0, .ref (q 0))]) hx hb dX4_save_49 rfl hl (by decide) rfl (fun ls hl => ?_)
        exact L50 K G47 (0 : Int32) _ _ _ h hM hS (lv_sub hl [1, 0] rfl)
      · replace h := ite_f h c14
        refine lv_aload_n hx hb dX4_save_17 rfl (lv_at hl 0 rfl) ?_
        refine k_getR (C := RX4) (T := TX4) (N := 10) hx hb hts iX4 hown hK hM 0 rfl rfl 1 (by decide) rfl w2 (fun _ h9 => h9) dX4_save_18 ?_
        refine lv_iload_n hx hb dX4_save_21 rfl (lv_at hl 1 rfl) ?_
        refine lv_aload_n hx hb dX4_save_22 rfl (lv_at hl 0 rfl) ?_
        refine k_getR (C := RX4) (T := TX4) (N := 10) hx hb hts iX4 hown hK hM 0 rfl rfl 1 (by decide) rfl w2 (fun _ h9 => h9) dX4_save_23 ?_
        refine lv_iload_n hx hb dX4_save_26 rfl (lv_at hl 1 rfl) ?_
        refine lv_bipush (v := 99) hx hb dX4_save_27 (by decide) ?_
        refine lv_iadd hx hb dX4_save_29 ?_
        obtain ⟨g30, h⟩ := grd_s h
        refine k_iald hx hb hK hM 2 rfl g30 dX4_save_30 ?_
        obtain ⟨g31, h⟩ := grd_s h
        refine k_iast (v := (G1 2 (x1 + (99 : Int32)).toNatClampNeg)) hx hb hK hM hJ hA hS 2 rfl g31 dX4_save_31 (fun H locs hM hS => ?_)
        obtain ⟨G33, eG33, h⟩ := olet_s h
        rw [eG33] at hM
        refine lv_iinc (v := (x1 + 1)) (lv' := [(1, .int (x1 + 1)), (0, .ref (q 0))]) hx hb dX4_save_32 hl (k := 1) rfl (congrArg (fun z : Int32 => x1 + z) (show Int32.ofInt (1) = 1 by decide)) (by decide) rfl (fun ls hl => ?_)
        refine lv_goto (tgt := 10) hx hb dX4_save_35 (by decide) ?_
        exact ih G33 (x1 + 1) _ _ _ h hM hS (lv_sub hl [1, 0] rfl)
  subst hargs
  have hl := lv_entry ([.ref (q 0)]) (n := 2) (Nat.le_of_ble_eq_true rfl)
  rw [lg_entry_eq]
  generalize (lg_sl ([.ref (q 0)]) ++ List.replicate (2 - (lg_sl ([.ref (q 0)])).length) Slot.unset).toArray = ls at hl ⊢
  have hl : lv_has ls 2 [(0, .ref (q 0))] := hl
  have h := hs
  unfold sX4_save at h
  have hM0 := hM
  refine lv_aload_n hx hb dX4_save_0 rfl (lv_at hl 0 rfl) ?_
  refine k_getI (C := RX4) (T := TX4) (N := 10) hx hb hts iX4 hown hK hM 0 rfl rfl 3 (by decide) rfl w0 (fun _ h9 => h9) dX4_save_1 ?_
  refine lv_iconst (v := 4) hx hb dX4_save_4 (by decide) ?_
  refine lv_icmp_ne (tgt := 48) hx hb dX4_save_5 (by decide) (fun c5 => ?_) (fun c5 => ?_)
  · replace h := ite_f h c5
    refine lv_iconst (v := 0) hx hb dX4_save_48 (by decide) ?_
    refine lv_istore_n (lv' := [(1, .int (0 : Int32)), (0, .ref (q 0))]) hx hb dX4_save_49 rfl hl (by decide) rfl (fun ls hl => ?_)
    exact L50 K G (0 : Int32) _ _ _ h hM hS (lv_sub hl [1, 0] rfl)
  · replace h := ite_t h c5
    refine lv_iconst (v := 0) hx hb dX4_save_8 (by decide) ?_
    refine lv_istore_n (lv' := [(1, .int (0 : Int32)), (0, .ref (q 0))]) hx hb dX4_save_9 rfl hl (by decide) rfl (fun ls hl => ?_)
    exact L10 K G (0 : Int32) _ _ _ h hM hS (lv_sub hl [1, 0] rfl)
set_option maxHeartbeats 4000000 in
set_option maxRecDepth 100000 in
theorem kX4_laysAside (l : Launch) (D : va_G) (cI cR : ClassId) (q : Nat → Nat) (G : Nat → Nat → Int32) (K : Nat) (hJ : MJ tmM q) (r : (Nat → Nat → Int32)) (hs : sX4_laysAside K G  = some r) : Met l yX4_laysAside wsX4_laysAside ({ frames := 0, cells := 0, slots := 0, locals := 0 } : Room) (mPre [.ref (q 0)] D cI cR q tmM G) (mVW D cI cR q tmM r) 0 0 (MA tmM q) := by
  refine Met.ofW (cc := cX4_laysAside) (maxL := 2) (ret := none) (by decide) rfl ?_
  intro p e s m args below meth c s₁ B hml hv
  obtain ⟨hargs, hM, hK⟩ := hv
  have hx := B.exec
  have hb := B.bytes
  have hr := B.returns
  have hts := atoms_spec (ws := wsX4_laysAside) B.pre
  have hown : s.vm.findClass RX4 = some m.cls := findClass_of_methodNamed B.named
  have hlocks := B.notSynchronized
  have hA : ∀ a, MA tmM q a → MA tmM q a := fun _ h => h
  have hS : va_S (MA tmM q) s.heap s.heap [] := va_S.rf
  have w0 := hts (Cond.fieldLink RX4 16 "CoinRailsModel" "aside" "[I") (List.mem_of_getElem? (i := 1) (by decide +kernel))
  have iX4 : ∀ w ∈ wsX40, w ∈ wsX4_laysAside := fun _ h => List.mem_cons_of_mem _ (List.mem_append_right _ (h))
  have w2 := hts (Cond.fieldLink RX4 7 "CoinRailsModel" "all" "[I") (List.mem_of_getElem? (i := 2) (by decide +kernel))
  have L2 : ∀ (n : Nat), ∀ (G1 : Nat → Nat → Int32) (x1 : Int32) (H : Heap) (locs : List Loc) (ls : Array Slot), sX4_laysAside_L2 K n G1 x1 = some r → MW D cI cR q tmM G1 H → va_S (MA tmM q) s.heap H locs → lv_has ls 2 [(0, .ref (q 0)), (1, .int x1)] → W p l e (headSpec wsX4_laysAside ({ frames := 0, cells := 0, slots := 0, locals := 0 } : Room)).room s m args below meth c H locs 0 0 (MQ below (mVW D cI cR q tmM r) args s 0 0 (MA tmM q)) (F0 m 2 ls []) := by
    clear hM hS
    intro n
    induction n with
    | zero => exact fun _ _ _ _ _ h => absurd h (by simp [sX4_laysAside_L2])
    | succ n ih =>
      intro G1 x1 H locs ls h hM hS hl
      rw [sX4_laysAside_L2] at h
      refine lv_iload_n hx hb dX4_laysAside_2 rfl (lv_at hl 1 rfl) ?_
      refine lv_bipush (v := 99) hx hb dX4_laysAside_3 (by decide) ?_
      refine lv_icmp_ge (tgt := 26) hx hb dX4_laysAside_5 (by decide) (fun c5 => ?_) (fun c5 => ?_)
      · replace h := ite_t h c5
        have h := Option.some.inj h
        exact W.vret hx hb hr (fun t ht hW => ⟨⟨(), rfl, trivial, w_end ht hM h⟩, hS.F ht⟩) hS.2.2 dX4_laysAside_26
      · replace h := ite_f h c5
        refine lv_aload_n hx hb dX4_laysAside_8 rfl (lv_at hl 0 rfl) ?_
        refine k_getR (C := RX4) (T := TX4) (N := 10) hx hb hts iX4 hown hK hM 0 rfl rfl 2 (by decide) rfl w0 (fun _ h9 => h9) dX4_laysAside_9 ?_
        refine lv_iload_n hx hb dX4_laysAside_12 rfl (lv_at hl 1 rfl) ?_
        refine lv_aload_n hx hb dX4_laysAside_13 rfl (lv_at hl 0 rfl) ?_
        refine k_getR (C := RX4) (T := TX4) (N := 10) hx hb hts iX4 hown hK hM 0 rfl rfl 0 (by decide) rfl w2 (fun _ h9 => h9) dX4_laysAside_14 ?_
        refine lv_iload_n hx hb dX4_laysAside_17 rfl (lv_at hl 1 rfl) ?_
        obtain ⟨g18, h⟩ := grd_s h
        refine k_iald hx hb hK hM 1 rfl g18 dX4_laysAside_18 ?_
        obtain ⟨g19, h⟩ := grd_s h
        refine k_iast (v := (G1 1 x1.toNatClampNeg)) hx hb hK hM hJ hA hS 3 rfl g19 dX4_laysAside_19 (fun H locs hM hS => ?_)
        obtain ⟨G21, eG21, h⟩ := olet_s h
        rw [eG21] at hM
        refine lv_iinc (v := (x1 + 1)) (lv' := [(1, .int (x1 + 1)), (0, .ref (q 0))]) hx hb dX4_laysAside_20 hl (k := 1) rfl (congrArg (fun z : Int32 => x1 + z) (show Int32.ofInt (1) = 1 by decide)) (by decide) rfl (fun ls hl => ?_)
        refine lv_goto (tgt := 2) hx hb dX4_laysAside_23 (by decide) ?_
        exact ih G21 (x1 + 1) _ _ _ h hM hS (lv_sub hl [1, 0] rfl)
  subst hargs
  have hl := lv_entry ([.ref (q 0)]) (n := 2) (Nat.le_of_ble_eq_true rfl)
  rw [lg_entry_eq]
  generalize (lg_sl ([.ref (q 0)]) ++ List.replicate (2 - (lg_sl ([.ref (q 0)])).length) Slot.unset).toArray = ls at hl ⊢
  have hl : lv_has ls 2 [(0, .ref (q 0))] := hl
  have h := hs
  unfold sX4_laysAside at h
  have hM0 := hM
  refine lv_iconst (v := 0) hx hb dX4_laysAside_0 (by decide) ?_
  refine lv_istore_n (lv' := [(1, .int (0 : Int32)), (0, .ref (q 0))]) hx hb dX4_laysAside_1 rfl hl (by decide) rfl (fun ls hl => ?_)
  exact L2 K G (0 : Int32) _ _ _ h hM hS (lv_sub hl [1, 0] rfl)
set_option maxHeartbeats 4000000 in
set_option maxRecDepth 100000 in
theorem kX4_takesBack (l : Launch) (D : va_G) (cI cR : ClassId) (q : Nat → Nat) (G : Nat → Nat → Int32) (K : Nat) (hJ : MJ tmM q) (r : (Nat → Nat → Int32)) (hs : sX4_takesBack K G  = some r) : Met l yX4_takesBack wsX4_takesBack ({ frames := 0, cells := 0, slots := 0, locals := 0 } : Room) (mPre [.ref (q 0)] D cI cR q tmM G) (mVW D cI cR q tmM r) 0 0 (MA tmM q) := by
  refine Met.ofW (cc := cX4_takesBack) (maxL := 2) (ret := none) (by decide) rfl ?_
  intro p e s m args below meth c s₁ B hml hv
  obtain ⟨hargs, hM, hK⟩ := hv
  have hx := B.exec
  have hb := B.bytes
  have hr := B.returns
  have hts := atoms_spec (ws := wsX4_takesBack) B.pre
  have hown : s.vm.findClass RX4 = some m.cls := findClass_of_methodNamed B.named
  have hlocks := B.notSynchronized
  have hA : ∀ a, MA tmM q a → MA tmM q a := fun _ h => h
  have hS : va_S (MA tmM q) s.heap s.heap [] := va_S.rf
  have w0 := hts (Cond.fieldLink RX4 7 "CoinRailsModel" "all" "[I") (List.mem_of_getElem? (i := 1) (by decide +kernel))
  have iX4 : ∀ w ∈ wsX40, w ∈ wsX4_takesBack := fun _ h => List.mem_cons_of_mem _ (List.mem_append_right _ (h))
  have w2 := hts (Cond.fieldLink RX4 16 "CoinRailsModel" "aside" "[I") (List.mem_of_getElem? (i := 2) (by decide +kernel))
  have L2 : ∀ (n : Nat), ∀ (G1 : Nat → Nat → Int32) (x1 : Int32) (H : Heap) (locs : List Loc) (ls : Array Slot), sX4_takesBack_L2 K n G1 x1 = some r → MW D cI cR q tmM G1 H → va_S (MA tmM q) s.heap H locs → lv_has ls 2 [(0, .ref (q 0)), (1, .int x1)] → W p l e (headSpec wsX4_takesBack ({ frames := 0, cells := 0, slots := 0, locals := 0 } : Room)).room s m args below meth c H locs 0 0 (MQ below (mVW D cI cR q tmM r) args s 0 0 (MA tmM q)) (F0 m 2 ls []) := by
    clear hM hS
    intro n
    induction n with
    | zero => exact fun _ _ _ _ _ h => absurd h (by simp [sX4_takesBack_L2])
    | succ n ih =>
      intro G1 x1 H locs ls h hM hS hl
      rw [sX4_takesBack_L2] at h
      refine lv_iload_n hx hb dX4_takesBack_2 rfl (lv_at hl 1 rfl) ?_
      refine lv_bipush (v := 99) hx hb dX4_takesBack_3 (by decide) ?_
      refine lv_icmp_ge (tgt := 26) hx hb dX4_takesBack_5 (by decide) (fun c5 => ?_) (fun c5 => ?_)
      · replace h := ite_t h c5
        have h := Option.some.inj h
        exact W.vret hx hb hr (fun t ht hW => ⟨⟨(), rfl, trivial, w_end ht hM h⟩, hS.F ht⟩) hS.2.2 dX4_takesBack_26
      · replace h := ite_f h c5
        refine lv_aload_n hx hb dX4_takesBack_8 rfl (lv_at hl 0 rfl) ?_
        refine k_getR (C := RX4) (T := TX4) (N := 10) hx hb hts iX4 hown hK hM 0 rfl rfl 0 (by decide) rfl w0 (fun _ h9 => h9) dX4_takesBack_9 ?_
        refine lv_iload_n hx hb dX4_takesBack_12 rfl (lv_at hl 1 rfl) ?_
        refine lv_aload_n hx hb dX4_takesBack_13 rfl (lv_at hl 0 rfl) ?_
        refine k_getR (C := RX4) (T := TX4) (N := 10) hx hb hts iX4 hown hK hM 0 rfl rfl 2 (by decide) rfl w2 (fun _ h9 => h9) dX4_takesBack_14 ?_
        refine lv_iload_n hx hb dX4_takesBack_17 rfl (lv_at hl 1 rfl) ?_
        obtain ⟨g18, h⟩ := grd_s h
        refine k_iald hx hb hK hM 3 rfl g18 dX4_takesBack_18 ?_
        obtain ⟨g19, h⟩ := grd_s h
        refine k_iast (v := (G1 3 x1.toNatClampNeg)) hx hb hK hM hJ hA hS 1 rfl g19 dX4_takesBack_19 (fun H locs hM hS => ?_)
        obtain ⟨G21, eG21, h⟩ := olet_s h
        rw [eG21] at hM
        refine lv_iinc (v := (x1 + 1)) (lv' := [(1, .int (x1 + 1)), (0, .ref (q 0))]) hx hb dX4_takesBack_20 hl (k := 1) rfl (congrArg (fun z : Int32 => x1 + z) (show Int32.ofInt (1) = 1 by decide)) (by decide) rfl (fun ls hl => ?_)
        refine lv_goto (tgt := 2) hx hb dX4_takesBack_23 (by decide) ?_
        exact ih G21 (x1 + 1) _ _ _ h hM hS (lv_sub hl [1, 0] rfl)
  subst hargs
  have hl := lv_entry ([.ref (q 0)]) (n := 2) (Nat.le_of_ble_eq_true rfl)
  rw [lg_entry_eq]
  generalize (lg_sl ([.ref (q 0)]) ++ List.replicate (2 - (lg_sl ([.ref (q 0)])).length) Slot.unset).toArray = ls at hl ⊢
  have hl : lv_has ls 2 [(0, .ref (q 0))] := hl
  have h := hs
  unfold sX4_takesBack at h
  have hM0 := hM
  refine lv_iconst (v := 0) hx hb dX4_takesBack_0 (by decide) ?_
  refine lv_istore_n (lv' := [(1, .int (0 : Int32)), (0, .ref (q 0))]) hx hb dX4_takesBack_1 rfl hl (by decide) rfl (fun ls hl => ?_)
  exact L2 K G (0 : Int32) _ _ _ h hM hS (lv_sub hl [1, 0] rfl)
set_option maxHeartbeats 4000000 in
set_option maxRecDepth 100000 in
theorem kX4_kindAt (l : Launch) (D : va_G) (cI cR : ClassId) (q : Nat → Nat) (G : Nat → Nat → Int32) (K : Nat) (p1 : Int32) (p2 : Int32) (r : Int32) (hs : sX4_kindAt K G p1 p2 = some r) : Met l yX4_kindAt wsX4_kindAt ({ frames := 0, cells := 0, slots := 0, locals := 0 } : Room) (mPre [.int p1, .int p2] D cI cR q tmM G) (mI r) 0 0 (fun _ => False) := by
  refine Met.ofW (cc := cX4_kindAt) (maxL := 2) (ret := (some .int)) (by decide) rfl ?_
  intro p e s m args below meth c s₁ B hml hv
  obtain ⟨hargs, hM, hK⟩ := hv
  have hx := B.exec
  have hb := B.bytes
  have hr := B.returns
  have hts := atoms_spec (ws := wsX4_kindAt) B.pre
  have hown : s.vm.findClass RX4 = some m.cls := findClass_of_methodNamed B.named
  have hlocks := B.notSynchronized
  have hS : va_S (fun _ => False) s.heap s.heap [] := va_S.rf
  subst hargs
  have hl := lv_entry ([.int p1, .int p2]) (n := 2) (Nat.le_of_ble_eq_true rfl)
  rw [lg_entry_eq]
  generalize (lg_sl ([.int p1, .int p2]) ++ List.replicate (2 - (lg_sl ([.int p1, .int p2])).length) Slot.unset).toArray = ls at hl ⊢
  have hl : lv_has ls 2 [(0, .int p1), (1, .int p2)] := hl
  have h := hs
  unfold sX4_kindAt at h
  have hM0 := hM
  refine lv_iconst (v := 3) hx hb dX4_kindAt_0 (by decide) ?_
  refine lv_iconst (v := 5) hx hb dX4_kindAt_1 (by decide) ?_
  refine lv_iload_n hx hb dX4_kindAt_2 rfl (lv_at hl 0 rfl) ?_
  refine lv_imul hx hb dX4_kindAt_3 ?_
  refine lv_iadd hx hb dX4_kindAt_4 ?_
  refine lv_iload_n hx hb dX4_kindAt_5 rfl (lv_at hl 1 rfl) ?_
  refine lv_iadd hx hb dX4_kindAt_6 ?_
  exact W.iret (v := (((3 : Int32) + ((5 : Int32) * p1)) + p2)) hx hb hr (fun t ht hW => ⟨⟨(((3 : Int32) + ((5 : Int32) * p1)) + p2), (), rfl, Option.some.inj h, trivial⟩, hS.F ht⟩) hS.2.2 dX4_kindAt_7
set_option maxHeartbeats 4000000 in
set_option maxRecDepth 100000 in
theorem kX4_countAt (l : Launch) (D : va_G) (cI cR : ClassId) (q : Nat → Nat) (G : Nat → Nat → Int32) (K : Nat) (p1 : Int32) (p2 : Int32) (r : Int32) (hs : sX4_countAt K G p1 p2 = some r) : Met l yX4_countAt wsX4_countAt ({ frames := 0, cells := 0, slots := 0, locals := 0 } : Room) (mPre [.int p1, .int p2] D cI cR q tmM G) (mI r) 0 0 (fun _ => False) := by
  refine Met.ofW (cc := cX4_countAt) (maxL := 2) (ret := (some .int)) (by decide) rfl ?_
  intro p e s m args below meth c s₁ B hml hv
  obtain ⟨hargs, hM, hK⟩ := hv
  have hx := B.exec
  have hb := B.bytes
  have hr := B.returns
  have hts := atoms_spec (ws := wsX4_countAt) B.pre
  have hown : s.vm.findClass RX4 = some m.cls := findClass_of_methodNamed B.named
  have hlocks := B.notSynchronized
  have hS : va_S (fun _ => False) s.heap s.heap [] := va_S.rf
  subst hargs
  have hl := lv_entry ([.int p1, .int p2]) (n := 2) (Nat.le_of_ble_eq_true rfl)
  rw [lg_entry_eq]
  generalize (lg_sl ([.int p1, .int p2]) ++ List.replicate (2 - (lg_sl ([.int p1, .int p2])).length) Slot.unset).toArray = ls at hl ⊢
  have hl : lv_has ls 2 [(0, .int p1), (1, .int p2)] := hl
  have h := hs
  unfold sX4_countAt at h
  have hM0 := hM
  refine lv_bipush (v := 63) hx hb dX4_countAt_0 (by decide) ?_
  refine lv_bipush (v := 6) hx hb dX4_countAt_2 (by decide) ?_
  refine lv_iload_n hx hb dX4_countAt_4 rfl (lv_at hl 0 rfl) ?_
  refine lv_imul hx hb dX4_countAt_5 ?_
  refine lv_iadd hx hb dX4_countAt_6 ?_
  refine lv_iload_n hx hb dX4_countAt_7 rfl (lv_at hl 1 rfl) ?_
  refine lv_iadd hx hb dX4_countAt_8 ?_
  exact W.iret (v := (((63 : Int32) + ((6 : Int32) * p1)) + p2)) hx hb hr (fun t ht hW => ⟨⟨(((63 : Int32) + ((6 : Int32) * p1)) + p2), (), rfl, Option.some.inj h, trivial⟩, hS.F ht⟩) hS.2.2 dX4_countAt_9
set_option maxHeartbeats 4000000 in
set_option maxRecDepth 100000 in
theorem kX4_ofKind (l : Launch) (D : va_G) (cI cR : ClassId) (q : Nat → Nat) (G : Nat → Nat → Int32) (K : Nat) (p1 : Int32) (p2 : Int32) (r : Int32) (hs : sX4_ofKind K G p1 p2 = some r) : Met l yX4_ofKind wsX4_ofKind ({ frames := 1, cells := 0, slots := 0, locals := 21 } : Room) (mPre [.ref (q 0), .int p1, .int p2] D cI cR q tmM G) (mI r) 0 0 (fun _ => False) := by
  refine Met.ofW (cc := cX4_ofKind) (maxL := 3) (ret := (some .int)) (by decide) rfl ?_
  intro p e s m args below meth c s₁ B hml hv
  obtain ⟨hargs, hM, hK⟩ := hv
  have hx := B.exec
  have hb := B.bytes
  have hr := B.returns
  have hts := atoms_spec (ws := wsX4_ofKind) B.pre
  have hown : s.vm.findClass RX4 = some m.cls := findClass_of_methodNamed B.named
  have hlocks := B.notSynchronized
  have hS : va_S (fun _ => False) s.heap s.heap [] := va_S.rf
  have w0 := hts (Cond.fieldLink RX4 7 "CoinRailsModel" "all" "[I") (List.mem_of_getElem? (i := 1) (by decide +kernel))
  have iX4 : ∀ w ∈ wsX40, w ∈ wsX4_ofKind := fun _ h => List.mem_cons_of_mem _ (List.mem_append_right _ (h))
  subst hargs
  have hl := lv_entry ([.ref (q 0), .int p1, .int p2]) (n := 3) (Nat.le_of_ble_eq_true rfl)
  rw [lg_entry_eq]
  generalize (lg_sl ([.ref (q 0), .int p1, .int p2]) ++ List.replicate (3 - (lg_sl ([.ref (q 0), .int p1, .int p2])).length) Slot.unset).toArray = ls at hl ⊢
  have hl : lv_has ls 3 [(0, .ref (q 0)), (1, .int p1), (2, .int p2)] := hl
  have h := hs
  unfold sX4_ofKind at h
  have hM0 := hM
  refine lv_aload_n hx hb dX4_ofKind_0 rfl (lv_at hl 0 rfl) ?_
  refine k_getR (C := RX4) (T := TX4) (N := 10) hx hb hts iX4 hown hK hM 0 rfl rfl 0 (by decide) rfl w0 (fun _ h9 => h9) dX4_ofKind_1 ?_
  refine lv_iload_n hx hb dX4_ofKind_4 rfl (lv_at hl 1 rfl) ?_
  refine lv_iload_n hx hb dX4_ofKind_5 rfl (lv_at hl 2 rfl) ?_
  obtain ⟨r6, e6, h⟩ := bind_s h
  refine k_cI (va_runS (As := [.int p1, .int p2]) (rest := [.ref (q 1)]) ⟨hx, hb, hml, hown, hts⟩ (kX4_kindAt l D cI cR q G K p1 p2 r6 e6) (va_cwS 2 hts gX4_ofKind_X4_kindAt rfl rfl rfl (by decide +kernel) ⟨Nat.le_of_ble_eq_true rfl, Nat.le_of_ble_eq_true rfl⟩) (mPreS hK hM) rfl rfl hl.1 rfl (lv_room (Nat.le_of_ble_eq_true rfl)) dX4_ofKind_6 ⟨Nat.le_of_ble_eq_true rfl, Nat.le_of_ble_eq_true rfl⟩) hS hM (fun H locs hM hS => ?_)
  obtain ⟨g9, h⟩ := grd_s h
  refine k_iald hx hb hK hM 1 rfl g9 dX4_ofKind_9 ?_
  exact W.iret (v := (G 1 r6.toNatClampNeg)) hx hb hr (fun t ht hW => ⟨⟨(G 1 r6.toNatClampNeg), (), rfl, Option.some.inj h, trivial⟩, hS.F ht⟩) hS.2.2 dX4_ofKind_10
set_option maxHeartbeats 4000000 in
set_option maxRecDepth 100000 in
theorem kX4_ofRail (l : Launch) (D : va_G) (cI cR : ClassId) (q : Nat → Nat) (G : Nat → Nat → Int32) (K : Nat) (p1 : Int32) (p2 : Int32) (r : Int32) (hs : sX4_ofRail K G p1 p2 = some r) : Met l yX4_ofRail wsX4_ofRail ({ frames := 1, cells := 0, slots := 0, locals := 21 } : Room) (mPre [.ref (q 0), .int p1, .int p2] D cI cR q tmM G) (mI r) 0 0 (fun _ => False) := by
  refine Met.ofW (cc := cX4_ofRail) (maxL := 3) (ret := (some .int)) (by decide) rfl ?_
  intro p e s m args below meth c s₁ B hml hv
  obtain ⟨hargs, hM, hK⟩ := hv
  have hx := B.exec
  have hb := B.bytes
  have hr := B.returns
  have hts := atoms_spec (ws := wsX4_ofRail) B.pre
  have hown : s.vm.findClass RX4 = some m.cls := findClass_of_methodNamed B.named
  have hlocks := B.notSynchronized
  have hS : va_S (fun _ => False) s.heap s.heap [] := va_S.rf
  have w0 := hts (Cond.fieldLink RX4 7 "CoinRailsModel" "all" "[I") (List.mem_of_getElem? (i := 1) (by decide +kernel))
  have iX4 : ∀ w ∈ wsX40, w ∈ wsX4_ofRail := fun _ h => List.mem_cons_of_mem _ (List.mem_append_right _ (h))
  subst hargs
  have hl := lv_entry ([.ref (q 0), .int p1, .int p2]) (n := 3) (Nat.le_of_ble_eq_true rfl)
  rw [lg_entry_eq]
  generalize (lg_sl ([.ref (q 0), .int p1, .int p2]) ++ List.replicate (3 - (lg_sl ([.ref (q 0), .int p1, .int p2])).length) Slot.unset).toArray = ls at hl ⊢
  have hl : lv_has ls 3 [(0, .ref (q 0)), (1, .int p1), (2, .int p2)] := hl
  have h := hs
  unfold sX4_ofRail at h
  have hM0 := hM
  refine lv_aload_n hx hb dX4_ofRail_0 rfl (lv_at hl 0 rfl) ?_
  refine k_getR (C := RX4) (T := TX4) (N := 10) hx hb hts iX4 hown hK hM 0 rfl rfl 0 (by decide) rfl w0 (fun _ h9 => h9) dX4_ofRail_1 ?_
  refine lv_iload_n hx hb dX4_ofRail_4 rfl (lv_at hl 1 rfl) ?_
  refine lv_iload_n hx hb dX4_ofRail_5 rfl (lv_at hl 2 rfl) ?_
  obtain ⟨r6, e6, h⟩ := bind_s h
  refine k_cI (va_runS (As := [.int p1, .int p2]) (rest := [.ref (q 1)]) ⟨hx, hb, hml, hown, hts⟩ (kX4_railAt l D cI cR q G K p1 p2 r6 e6) (va_cwS 2 hts gX4_ofRail_X4_railAt rfl rfl rfl (by decide +kernel) ⟨Nat.le_of_ble_eq_true rfl, Nat.le_of_ble_eq_true rfl⟩) (mPreS hK hM) rfl rfl hl.1 rfl (lv_room (Nat.le_of_ble_eq_true rfl)) dX4_ofRail_6 ⟨Nat.le_of_ble_eq_true rfl, Nat.le_of_ble_eq_true rfl⟩) hS hM (fun H locs hM hS => ?_)
  obtain ⟨g9, h⟩ := grd_s h
  refine k_iald hx hb hK hM 1 rfl g9 dX4_ofRail_9 ?_
  exact W.iret (v := (G 1 r6.toNatClampNeg)) hx hb hr (fun t ht hW => ⟨⟨(G 1 r6.toNatClampNeg), (), rfl, Option.some.inj h, trivial⟩, hS.F ht⟩) hS.2.2 dX4_ofRail_10
set_option maxHeartbeats 4000000 in
set_option maxRecDepth 100000 in
theorem kX4_isKind (l : Launch) (D : va_G) (cI cR : ClassId) (q : Nat → Nat) (G : Nat → Nat → Int32) (K : Nat) (p1 : Int32) (r : Int32) (hs : sX4_isKind K G p1 = some r) : Met l yX4_isKind wsX4_isKind ({ frames := 1, cells := 0, slots := 0, locals := 25 } : Room) (mPre [.ref (q 0), .int p1] D cI cR q tmM G) (mI r) 0 0 (fun _ => False) := by
  refine Met.ofW (cc := cX4_isKind) (maxL := 2) (ret := (some .boolean)) (by decide) rfl ?_
  intro p e s m args below meth c s₁ B hml hv
  obtain ⟨hargs, hM, hK⟩ := hv
  have hx := B.exec
  have hb := B.bytes
  have hr := B.returns
  have hts := atoms_spec (ws := wsX4_isKind) B.pre
  have hown : s.vm.findClass RX4 = some m.cls := findClass_of_methodNamed B.named
  have hlocks := B.notSynchronized
  have hS : va_S (fun _ => False) s.heap s.heap [] := va_S.rf
  have w0 := hts (Cond.fieldLink RX4 7 "CoinRailsModel" "all" "[I") (List.mem_of_getElem? (i := 1) (by decide +kernel))
  have iX4 : ∀ w ∈ wsX40, w ∈ wsX4_isKind := fun _ h => List.mem_cons_of_mem _ (List.mem_append_right _ (h))
  subst hargs
  have hl := lv_entry ([.ref (q 0), .int p1]) (n := 2) (Nat.le_of_ble_eq_true rfl)
  rw [lg_entry_eq]
  generalize (lg_sl ([.ref (q 0), .int p1]) ++ List.replicate (2 - (lg_sl ([.ref (q 0), .int p1])).length) Slot.unset).toArray = ls at hl ⊢
  have hl : lv_has ls 2 [(0, .ref (q 0)), (1, .int p1)] := hl
  have h := hs
  unfold sX4_isKind at h
  have hM0 := hM
  refine lv_iload_n hx hb dX4_isKind_0 rfl (lv_at hl 1 rfl) ?_
  refine lv_i2l (v := p1.toInt64) hx hb dX4_isKind_1 rfl ?_
  refine lv_lconst (v := 0) hx hb dX4_isKind_2 (by decide) ?_
  refine lv_aload_n hx hb dX4_isKind_3 rfl (lv_at hl 0 rfl) ?_
  refine k_getR (C := RX4) (T := TX4) (N := 10) hx hb hts iX4 hown hK hM 0 rfl rfl 0 (by decide) rfl w0 (fun _ h9 => h9) dX4_isKind_4 ?_
  refine lv_iconst (v := 0) hx hb dX4_isKind_7 (by decide) ?_
  obtain ⟨g8, h⟩ := grd_s h
  refine k_iald hx hb hK hM 1 rfl g8 dX4_isKind_8 ?_
  refine lv_i2l (v := (G 1 (0 : Int32).toNatClampNeg).toInt64) hx hb dX4_isKind_9 rfl ?_
  refine lv_lconst (v := 1) hx hb dX4_isKind_10 (by decide) ?_
  refine lv_lsub hx hb dX4_isKind_11 ?_
  obtain ⟨r12, e12, h⟩ := bind_s h
  refine k_cI (va_runS (As := [.long p1.toInt64, .long (0 : Int64), .long ((G 1 (0 : Int32).toNatClampNeg).toInt64 - (1 : Int64))]) (rest := []) ⟨hx, hb, hml, hown, hts⟩ (kX4_in l D cI cR q G K p1.toInt64 (0 : Int64) ((G 1 (0 : Int32).toNatClampNeg).toInt64 - (1 : Int64)) r12 e12) (va_cwS 3 hts gX4_isKind_X4_in rfl rfl rfl (by decide +kernel) ⟨Nat.le_of_ble_eq_true rfl, Nat.le_of_ble_eq_true rfl⟩) (mPreS hK hM) rfl rfl hl.1 rfl (lv_room (Nat.le_of_ble_eq_true rfl)) dX4_isKind_12 ⟨Nat.le_of_ble_eq_true rfl, Nat.le_of_ble_eq_true rfl⟩) hS hM (fun H locs hM hS => ?_)
  obtain ⟨gz, h⟩ := grd_s h
  exact W.zret (ty := .boolean) (v := r12) hx hb hr (bv_n gz) (fun t ht hW => ⟨⟨r12, (), rfl, Option.some.inj h, trivial⟩, hS.F ht⟩) hS.2.2 dX4_isKind_15
set_option maxHeartbeats 4000000 in
set_option maxRecDepth 100000 in
theorem kX4_isRail (l : Launch) (D : va_G) (cI cR : ClassId) (q : Nat → Nat) (G : Nat → Nat → Int32) (K : Nat) (p1 : Int32) (r : Int32) (hs : sX4_isRail K G p1 = some r) : Met l yX4_isRail wsX4_isRail ({ frames := 1, cells := 0, slots := 0, locals := 25 } : Room) (mPre [.int p1] D cI cR q tmM G) (mI r) 0 0 (fun _ => False) := by
  refine Met.ofW (cc := cX4_isRail) (maxL := 1) (ret := (some .boolean)) (by decide) rfl ?_
  intro p e s m args below meth c s₁ B hml hv
  obtain ⟨hargs, hM, hK⟩ := hv
  have hx := B.exec
  have hb := B.bytes
  have hr := B.returns
  have hts := atoms_spec (ws := wsX4_isRail) B.pre
  have hown : s.vm.findClass RX4 = some m.cls := findClass_of_methodNamed B.named
  have hlocks := B.notSynchronized
  have hS : va_S (fun _ => False) s.heap s.heap [] := va_S.rf
  have w0 := hts (Cond.constantLong RX4 44 (5)) (List.mem_of_getElem? (i := 1) (by decide +kernel))
  subst hargs
  have hl := lv_entry ([.int p1]) (n := 1) (Nat.le_of_ble_eq_true rfl)
  rw [lg_entry_eq]
  generalize (lg_sl ([.int p1]) ++ List.replicate (1 - (lg_sl ([.int p1])).length) Slot.unset).toArray = ls at hl ⊢
  have hl : lv_has ls 1 [(0, .int p1)] := hl
  have h := hs
  unfold sX4_isRail at h
  have hM0 := hM
  refine lv_iload_n hx hb dX4_isRail_0 rfl (lv_at hl 0 rfl) ?_
  refine lv_i2l (v := p1.toInt64) hx hb dX4_isRail_1 rfl ?_
  refine lv_lconst (v := 0) hx hb dX4_isRail_2 (by decide) ?_
  refine lv_ldc2 hx hb hown w0 dX4_isRail_3 ?_
  obtain ⟨r6, e6, h⟩ := bind_s h
  refine k_cI (va_runS (As := [.long p1.toInt64, .long (0 : Int64), .long (5 : Int64)]) (rest := []) ⟨hx, hb, hml, hown, hts⟩ (kX4_in l D cI cR q G K p1.toInt64 (0 : Int64) (5 : Int64) r6 e6) (va_cwS 3 hts gX4_isRail_X4_in rfl rfl rfl (by decide +kernel) ⟨Nat.le_of_ble_eq_true rfl, Nat.le_of_ble_eq_true rfl⟩) (mPreS hK hM) rfl rfl hl.1 rfl (lv_room (Nat.le_of_ble_eq_true rfl)) dX4_isRail_6 ⟨Nat.le_of_ble_eq_true rfl, Nat.le_of_ble_eq_true rfl⟩) hS hM (fun H locs hM hS => ?_)
  obtain ⟨gz, h⟩ := grd_s h
  exact W.zret (ty := .boolean) (v := r6) hx hb hr (bv_n gz) (fun t ht hW => ⟨⟨r6, (), rfl, Option.some.inj h, trivial⟩, hS.F ht⟩) hS.2.2 dX4_isRail_9
set_option maxHeartbeats 4000000 in
set_option maxRecDepth 100000 in
theorem kX4_addKind (l : Launch) (D : va_G) (cI cR : ClassId) (q : Nat → Nat) (G : Nat → Nat → Int32) (K : Nat) (p1 : Int32) (p2 : Int32) (p3 : Int32) (hJ : MJ tmM q) (r : (Int32 × (Nat → Nat → Int32))) (hs : sX4_addKind K G p1 p2 p3 = some r) : Met l yX4_addKind wsX4_addKind ({ frames := 2, cells := 0, slots := 0, locals := 45 } : Room) (mPre [.ref (q 0), .int p1, .int p2, .int p3] D cI cR q tmM G) (mIW D cI cR q tmM r) 0 0 (MA tmM q) := by
  refine Met.ofW (cc := cX4_addKind) (maxL := 5) (ret := (some .int)) (by decide) rfl ?_
  intro p e s m args below meth c s₁ B hml hv
  obtain ⟨hargs, hM, hK⟩ := hv
  have hx := B.exec
  have hb := B.bytes
  have hr := B.returns
  have hts := atoms_spec (ws := wsX4_addKind) B.pre
  have hown : s.vm.findClass RX4 = some m.cls := findClass_of_methodNamed B.named
  have hlocks := B.notSynchronized
  have hA : ∀ a, MA tmM q a → MA tmM q a := fun _ h => h
  have hS : va_S (MA tmM q) s.heap s.heap [] := va_S.rf
  have w0 := hts (Cond.constantLong RX4 46 (1000)) (List.mem_of_getElem? (i := 1) (by decide +kernel))
  have w1 := hts (Cond.constantLong RX4 48 (4000)) (List.mem_of_getElem? (i := 2) (by decide +kernel))
  have w2 := hts (Cond.constantLong RX4 50 (500)) (List.mem_of_getElem? (i := 3) (by decide +kernel))
  have w3 := hts (Cond.fieldLink RX4 7 "CoinRailsModel" "all" "[I") (List.mem_of_getElem? (i := 4) (by decide +kernel))
  have iX4 : ∀ w ∈ wsX40, w ∈ wsX4_addKind := fun _ h => List.mem_cons_of_mem _ (List.mem_append_right _ (h))
  subst hargs
  have hl := lv_entry ([.ref (q 0), .int p1, .int p2, .int p3]) (n := 5) (Nat.le_of_ble_eq_true rfl)
  rw [lg_entry_eq]
  generalize (lg_sl ([.ref (q 0), .int p1, .int p2, .int p3]) ++ List.replicate (5 - (lg_sl ([.ref (q 0), .int p1, .int p2, .int p3])).length) Slot.unset).toArray = ls at hl ⊢
  have hl : lv_has ls 5 [(0, .ref (q 0)), (1, .int p1), (2, .int p2), (3, .int p3)] := hl
  have h := hs
  unfold sX4_addKind at h
  have hM0 := hM
  refine lv_iload_n hx hb dX4_addKind_0 rfl (lv_at hl 1 rfl) ?_
  refine lv_i2l (v := p1.toInt64) hx hb dX4_addKind_1 rfl ?_
  refine lv_ldc2 hx hb hown w0 dX4_addKind_2 ?_
  refine lv_ldc2 hx hb hown w1 dX4_addKind_5 ?_
  obtain ⟨r8, e8, h⟩ := bind_s h
  refine k_cI (va_runS (As := [.long p1.toInt64, .long (1000 : Int64), .long (4000 : Int64)]) (rest := []) ⟨hx, hb, hml, hown, hts⟩ (kX4_in l D cI cR q G K p1.toInt64 (1000 : Int64) (4000 : Int64) r8 e8) (va_cwS 3 hts gX4_addKind_X4_in rfl rfl rfl (by decide +kernel) ⟨Nat.le_of_ble_eq_true rfl, Nat.le_of_ble_eq_true rfl⟩) (mPreS hK hM) rfl rfl hl.1 rfl (lv_room (Nat.le_of_ble_eq_true rfl)) dX4_addKind_8 ⟨Nat.le_of_ble_eq_true rfl, Nat.le_of_ble_eq_true rfl⟩) hS hM (fun H locs hM hS => ?_)
  refine lv_if_eq (tgt := 33) hx hb dX4_addKind_11 (by decide) (fun c11 => ?_) (fun c11 => ?_)
  · replace h := ite_t h c11
    refine lv_aload_n hx hb dX4_addKind_33 rfl (lv_at hl 0 rfl) ?_
    refine lv_iconst (v := 1) hx hb dX4_addKind_34 (by decide) ?_
    obtain ⟨r35, e35, h⟩ := bind_s h
    refine k_cIW (va_runV (As := [.int (1 : Int32)]) (rest := []) ⟨hx, hb, hml, hown, hts⟩ (kX4_throwing l D cI cR q G K (1 : Int32) hJ r35 e35) (cwV 1 hts gX4_addKind_X4_throwing rfl rfl rfl (by decide +kernel) ⟨Nat.le_of_ble_eq_true rfl, Nat.le_of_ble_eq_true rfl⟩) (mPreV hK hM 0 rfl rfl) rfl rfl hl.1 rfl (lv_room (Nat.le_of_ble_eq_true rfl)) dX4_addKind_35 ⟨Nat.le_of_ble_eq_true rfl, Nat.le_of_ble_eq_true rfl⟩) hS hA (fun H locs hM hS => ?_)
    have h := Option.some.inj h
    exact W.iret (v := r35.1) hx hb hr (fun t ht hW => ⟨⟨r35.1, (), rfl, p_fst h, w_end ht hM (p_snd h)⟩, hS.F ht⟩) hS.2.2 dX4_addKind_38
  · replace h := ite_f h c11
    refine lv_iload_n hx hb dX4_addKind_14 rfl (lv_at hl 2 rfl) ?_
    refine lv_i2l (v := p2.toInt64) hx hb dX4_addKind_15 rfl ?_
    refine lv_lconst (v := 1) hx hb dX4_addKind_16 (by decide) ?_
    refine lv_ldc2 hx hb hown w2 dX4_addKind_17 ?_
    obtain ⟨r20, e20, h⟩ := bind_s h
    refine k_cI (va_runS (As := [.long p2.toInt64, .long (1 : Int64), .long (500 : Int64)]) (rest := []) ⟨hx, hb, hml, hown, hts⟩ (kX4_in l D cI cR q G K p2.toInt64 (1 : Int64) (500 : Int64) r20 e20) (va_cwS 3 hts gX4_addKind_X4_in rfl rfl rfl (by decide +kernel) ⟨Nat.le_of_ble_eq_true rfl, Nat.le_of_ble_eq_true rfl⟩) (mPreS hK hM) rfl rfl hl.1 rfl (lv_room (Nat.le_of_ble_eq_true rfl)) dX4_addKind_20 ⟨Nat.le_of_ble_eq_true rfl, Nat.le_of_ble_eq_true rfl⟩) hS hM (fun H locs hM hS => ?_)
    refine lv_if_eq (tgt := 33) hx hb dX4_addKind_23 (by decide) (fun c23 => ?_) (fun c23 => ?_)
    · replace h := ite_t h c23
      refine lv_aload_n hx hb dX4_addKind_33 rfl (lv_at hl 0 rfl) ?_
      refine lv_iconst (v := 1) hx hb dX4_addKind_34 (by decide) ?_
      obtain ⟨r35, e35, h⟩ := bind_s h
      refine k_cIW (va_runV (As := [.int (1 : Int32)]) (rest := []) ⟨hx, hb, hml, hown, hts⟩ (kX4_throwing l D cI cR q G K (1 : Int32) hJ r35 e35) (cwV 1 hts gX4_addKind_X4_throwing rfl rfl rfl (by decide +kernel) ⟨Nat.le_of_ble_eq_true rfl, Nat.le_of_ble_eq_true rfl⟩) (mPreV hK hM 0 rfl rfl) rfl rfl hl.1 rfl (lv_room (Nat.le_of_ble_eq_true rfl)) dX4_addKind_35 ⟨Nat.le_of_ble_eq_true rfl, Nat.le_of_ble_eq_true rfl⟩) hS hA (fun H locs hM hS => ?_)
      have h := Option.some.inj h
      exact W.iret (v := r35.1) hx hb hr (fun t ht hW => ⟨⟨r35.1, (), rfl, p_fst h, w_end ht hM (p_snd h)⟩, hS.F ht⟩) hS.2.2 dX4_addKind_38
    · replace h := ite_f h c23
      refine lv_iload_n hx hb dX4_addKind_26 rfl (lv_at hl 3 rfl) ?_
      obtain ⟨r27, e27, h⟩ := bind_s h
      refine k_cI (va_runS (As := [.int p3]) (rest := []) ⟨hx, hb, hml, hown, hts⟩ (kX4_isRail l D cI cR q G K p3 r27 e27) (va_cwS 1 hts gX4_addKind_X4_isRail rfl rfl rfl (by decide +kernel) ⟨Nat.le_of_ble_eq_true rfl, Nat.le_of_ble_eq_true rfl⟩) (mPreS hK hM) rfl rfl hl.1 rfl (lv_room (Nat.le_of_ble_eq_true rfl)) dX4_addKind_27 ⟨Nat.le_of_ble_eq_true rfl, Nat.le_of_ble_eq_true rfl⟩) hS hM (fun H locs hM hS => ?_)
      refine lv_if_ne (tgt := 39) hx hb dX4_addKind_30 (by decide) (fun c30 => ?_) (fun c30 => ?_)
      · replace h := ite_f h c30
        refine lv_aload_n hx hb dX4_addKind_39 rfl (lv_at hl 0 rfl) ?_
        refine k_getR (C := RX4) (T := TX4) (N := 10) hx hb hts iX4 hown hK hM 0 rfl rfl 0 (by decide) rfl w3 (fun _ h9 => h9) dX4_addKind_40 ?_
        refine lv_iconst (v := 0) hx hb dX4_addKind_43 (by decide) ?_
        obtain ⟨g44, h⟩ := grd_s h
        refine k_iald hx hb hK hM 1 rfl g44 dX4_addKind_44 ?_
        refine lv_bipush (v := 6) hx hb dX4_addKind_45 (by decide) ?_
        refine lv_icmp_ne (tgt := 56) hx hb dX4_addKind_47 (by decide) (fun c47 => ?_) (fun c47 => ?_)
        · replace h := ite_f h c47
          refine lv_aload_n hx hb dX4_addKind_56 rfl (lv_at hl 0 rfl) ?_
          obtain ⟨r57, e57, h⟩ := bind_s h
          refine k_cVW (va_runV (As := []) (rest := []) ⟨hx, hb, hml, hown, hts⟩ (kX4_save l D cI cR q G K hJ r57 e57) (cwV 0 hts gX4_addKind_X4_save rfl rfl rfl (by decide +kernel) ⟨Nat.le_of_ble_eq_true rfl, Nat.le_of_ble_eq_true rfl⟩) (mPreV hK hM 0 rfl rfl) rfl rfl hl.1 rfl (lv_room (Nat.le_of_ble_eq_true rfl)) dX4_addKind_57 ⟨Nat.le_of_ble_eq_true rfl, Nat.le_of_ble_eq_true rfl⟩) hS hA (fun H locs hM hS => ?_)
          refine lv_aload_n hx hb dX4_addKind_60 rfl (lv_at hl 0 rfl) ?_
          refine k_getR (C := RX4) (T := TX4) (N := 10) hx hb hts iX4 hown hK hM 0 rfl rfl 0 (by decide) rfl w3 (fun _ h9 => h9) dX4_addKind_61 ?_
          refine lv_iconst (v := 0) hx hb dX4_addKind_64 (by decide) ?_
          obtain ⟨g65, h⟩ := grd_s h
          refine k_iald hx hb hK hM 1 rfl g65 dX4_addKind_65 ?_
          refine lv_istore (lv' := [(4, .int (r57 1 (0 : Int32).toNatClampNeg)), (0, .ref (q 0)), (1, .int p1), (2, .int p2), (3, .int p3)]) hx hb dX4_addKind_66 hl (by decide) rfl (fun ls hl => ?_)
          refine lv_aload_n hx hb dX4_addKind_68 rfl (lv_at hl 1 rfl) ?_
          refine k_getR (C := RX4) (T := TX4) (N := 10) hx hb hts iX4 hown hK hM 0 rfl rfl 0 (by decide) rfl w3 (fun _ h9 => h9) dX4_addKind_69 ?_
          refine lv_iload hx hb dX4_addKind_72 (lv_at hl 0 rfl) ?_
          refine lv_iconst (v := 0) hx hb dX4_addKind_74 (by decide) ?_
          obtain ⟨r75, e75, h⟩ := bind_s h
          refine k_cI (va_runS (As := [.int (r57 1 (0 : Int32).toNatClampNeg), .int (0 : Int32)]) (rest := [.ref (q 1)]) ⟨hx, hb, hml, hown, hts⟩ (kX4_kindAt l D cI cR q r57 K (r57 1 (0 : Int32).toNatClampNeg) (0 : Int32) r75 e75) (va_cwS 2 hts gX4_addKind_X4_kindAt rfl rfl rfl (by decide +kernel) ⟨Nat.le_of_ble_eq_true rfl, Nat.le_of_ble_eq_true rfl⟩) (mPreS hK hM) rfl rfl hl.1 rfl (lv_room (Nat.le_of_ble_eq_true rfl)) dX4_addKind_75 ⟨Nat.le_of_ble_eq_true rfl, Nat.le_of_ble_eq_true rfl⟩) hS hM (fun H locs hM hS => ?_)
          refine lv_iload_n hx hb dX4_addKind_78 rfl (lv_at hl 2 rfl) ?_
          obtain ⟨g79, h⟩ := grd_s h
          refine k_iast (v := p1) hx hb hK hM hJ hA hS 1 rfl g79 dX4_addKind_79 (fun H locs hM hS => ?_)
          obtain ⟨G81, eG81, h⟩ := olet_s h
          rw [eG81] at hM
          refine lv_aload_n hx hb dX4_addKind_80 rfl (lv_at hl 1 rfl) ?_
          refine k_getR (C := RX4) (T := TX4) (N := 10) hx hb hts iX4 hown hK hM 0 rfl rfl 0 (by decide) rfl w3 (fun _ h9 => h9) dX4_addKind_81 ?_
          refine lv_iload hx hb dX4_addKind_84 (lv_at hl 0 rfl) ?_
          refine lv_iconst (v := 1) hx hb dX4_addKind_86 (by decide) ?_
          obtain ⟨r87, e87, h⟩ := bind_s h
          refine k_cI (va_runS (As := [.int (r57 1 (0 : Int32).toNatClampNeg), .int (1 : Int32)]) (rest := [.ref (q 1)]) ⟨hx, hb, hml, hown, hts⟩ (kX4_kindAt l D cI cR q G81 K (r57 1 (0 : Int32).toNatClampNeg) (1 : Int32) r87 e87) (va_cwS 2 hts gX4_addKind_X4_kindAt rfl rfl rfl (by decide +kernel) ⟨Nat.le_of_ble_eq_true rfl, Nat.le_of_ble_eq_true rfl⟩) (mPreS hK hM) rfl rfl hl.1 rfl (lv_room (Nat.le_of_ble_eq_true rfl)) dX4_addKind_87 ⟨Nat.le_of_ble_eq_true rfl, Nat.le_of_ble_eq_true rfl⟩) hS hM (fun H locs hM hS => ?_)
          refine lv_iload_n hx hb dX4_addKind_90 rfl (lv_at hl 3 rfl) ?_
          obtain ⟨g91, h⟩ := grd_s h
          refine k_iast (v := p2) hx hb hK hM hJ hA hS 1 rfl g91 dX4_addKind_91 (fun H locs hM hS => ?_)
          obtain ⟨G93, eG93, h⟩ := olet_s h
          rw [eG93] at hM
          refine lv_aload_n hx hb dX4_addKind_92 rfl (lv_at hl 1 rfl) ?_
          refine k_getR (C := RX4) (T := TX4) (N := 10) hx hb hts iX4 hown hK hM 0 rfl rfl 0 (by decide) rfl w3 (fun _ h9 => h9) dX4_addKind_93 ?_
          refine lv_iload hx hb dX4_addKind_96 (lv_at hl 0 rfl) ?_
          refine lv_iconst (v := 2) hx hb dX4_addKind_98 (by decide) ?_
          obtain ⟨r99, e99, h⟩ := bind_s h
          refine k_cI (va_runS (As := [.int (r57 1 (0 : Int32).toNatClampNeg), .int (2 : Int32)]) (rest := [.ref (q 1)]) ⟨hx, hb, hml, hown, hts⟩ (kX4_kindAt l D cI cR q G93 K (r57 1 (0 : Int32).toNatClampNeg) (2 : Int32) r99 e99) (va_cwS 2 hts gX4_addKind_X4_kindAt rfl rfl rfl (by decide +kernel) ⟨Nat.le_of_ble_eq_true rfl, Nat.le_of_ble_eq_true rfl⟩) (mPreS hK hM) rfl rfl hl.1 rfl (lv_room (Nat.le_of_ble_eq_true rfl)) dX4_addKind_99 ⟨Nat.le_of_ble_eq_true rfl, Nat.le_of_ble_eq_true rfl⟩) hS hM (fun H locs hM hS => ?_)
          refine lv_iload_n hx hb dX4_addKind_102 rfl (lv_at hl 4 rfl) ?_
          obtain ⟨g103, h⟩ := grd_s h
          refine k_iast (v := p3) hx hb hK hM hJ hA hS 1 rfl g103 dX4_addKind_103 (fun H locs hM hS => ?_)
          obtain ⟨G105, eG105, h⟩ := olet_s h
          rw [eG105] at hM
          refine lv_aload_n hx hb dX4_addKind_104 rfl (lv_at hl 1 rfl) ?_
          refine k_getR (C := RX4) (T := TX4) (N := 10) hx hb hts iX4 hown hK hM 0 rfl rfl 0 (by decide) rfl w3 (fun _ h9 => h9) dX4_addKind_105 ?_
          refine lv_iconst (v := 0) hx hb dX4_addKind_108 (by decide) ?_
          refine lv_dup2_11 hx hb dX4_addKind_109 rfl rfl ?_
          obtain ⟨g110, h⟩ := grd_s h
          refine k_iald hx hb hK hM 1 rfl g110 dX4_addKind_110 ?_
          refine lv_iconst (v := 1) hx hb dX4_addKind_111 (by decide) ?_
          refine lv_iadd hx hb dX4_addKind_112 ?_
          obtain ⟨g113, h⟩ := grd_s h
          refine k_iast (v := ((G105 1 (0 : Int32).toNatClampNeg) + (1 : Int32))) hx hb hK hM hJ hA hS 1 rfl g113 dX4_addKind_113 (fun H locs hM hS => ?_)
          obtain ⟨G115, eG115, h⟩ := olet_s h
          rw [eG115] at hM
          refine lv_aload_n hx hb dX4_addKind_114 rfl (lv_at hl 1 rfl) ?_
          refine lv_iload hx hb dX4_addKind_115 (lv_at hl 0 rfl) ?_
          obtain ⟨r117, e117, h⟩ := bind_s h
          refine k_cIW (va_runV (As := [.int (r57 1 (0 : Int32).toNatClampNeg)]) (rest := []) ⟨hx, hb, hml, hown, hts⟩ (kX4_fine l D cI cR q G115 K (r57 1 (0 : Int32).toNatClampNeg) hJ r117 e117) (cwV 1 hts gX4_addKind_X4_fine rfl rfl rfl (by decide +kernel) ⟨Nat.le_of_ble_eq_true rfl, Nat.le_of_ble_eq_true rfl⟩) (mPreV hK hM 0 rfl rfl) rfl rfl hl.1 rfl (lv_room (Nat.le_of_ble_eq_true rfl)) dX4_addKind_117 ⟨Nat.le_of_ble_eq_true rfl, Nat.le_of_ble_eq_true rfl⟩) hS hA (fun H locs hM hS => ?_)
          have h := Option.some.inj h
          exact W.iret (v := r117.1) hx hb hr (fun t ht hW => ⟨⟨r117.1, (), rfl, p_fst h, w_end ht hM (p_snd h)⟩, hS.F ht⟩) hS.2.2 dX4_addKind_120
        · replace h := ite_t h c47
          refine lv_aload_n hx hb dX4_addKind_50 rfl (lv_at hl 0 rfl) ?_
          refine lv_iconst (v := 2) hx hb dX4_addKind_51 (by decide) ?_
          obtain ⟨r52, e52, h⟩ := bind_s h
          refine k_cIW (va_runV (As := [.int (2 : Int32)]) (rest := []) ⟨hx, hb, hml, hown, hts⟩ (kX4_throwing l D cI cR q G K (2 : Int32) hJ r52 e52) (cwV 1 hts gX4_addKind_X4_throwing rfl rfl rfl (by decide +kernel) ⟨Nat.le_of_ble_eq_true rfl, Nat.le_of_ble_eq_true rfl⟩) (mPreV hK hM 0 rfl rfl) rfl rfl hl.1 rfl (lv_room (Nat.le_of_ble_eq_true rfl)) dX4_addKind_52 ⟨Nat.le_of_ble_eq_true rfl, Nat.le_of_ble_eq_true rfl⟩) hS hA (fun H locs hM hS => ?_)
          have h := Option.some.inj h
          exact W.iret (v := r52.1) hx hb hr (fun t ht hW => ⟨⟨r52.1, (), rfl, p_fst h, w_end ht hM (p_snd h)⟩, hS.F ht⟩) hS.2.2 dX4_addKind_55
      · replace h := ite_t h c30
        refine lv_aload_n hx hb dX4_addKind_33 rfl (lv_at hl 0 rfl) ?_
        refine lv_iconst (v := 1) hx hb dX4_addKind_34 (by decide) ?_
        obtain ⟨r35, e35, h⟩ := bind_s h
        refine k_cIW (va_runV (As := [.int (1 : Int32)]) (rest := []) ⟨hx, hb, hml, hown, hts⟩ (kX4_throwing l D cI cR q G K (1 : Int32) hJ r35 e35) (cwV 1 hts gX4_addKind_X4_throwing rfl rfl rfl (by decide +kernel) ⟨Nat.le_of_ble_eq_true rfl, Nat.le_of_ble_eq_true rfl⟩) (mPreV hK hM 0 rfl rfl) rfl rfl hl.1 rfl (lv_room (Nat.le_of_ble_eq_true rfl)) dX4_addKind_35 ⟨Nat.le_of_ble_eq_true rfl, Nat.le_of_ble_eq_true rfl⟩) hS hA (fun H locs hM hS => ?_)
        have h := Option.some.inj h
        exact W.iret (v := r35.1) hx hb hr (fun t ht hW => ⟨⟨r35.1, (), rfl, p_fst h, w_end ht hM (p_snd h)⟩, hS.F ht⟩) hS.2.2 dX4_addKind_38
set_option maxHeartbeats 4000000 in
set_option maxRecDepth 100000 in
theorem kX4_setHome (l : Launch) (D : va_G) (cI cR : ClassId) (q : Nat → Nat) (G : Nat → Nat → Int32) (K : Nat) (p1 : Int32) (p2 : Int32) (hJ : MJ tmM q) (r : (Int32 × (Nat → Nat → Int32))) (hs : sX4_setHome K G p1 p2 = some r) : Met l yX4_setHome wsX4_setHome ({ frames := 2, cells := 0, slots := 0, locals := 46 } : Room) (mPre [.ref (q 0), .int p1, .int p2] D cI cR q tmM G) (mIW D cI cR q tmM r) 0 0 (MA tmM q) := by
  refine Met.ofW (cc := cX4_setHome) (maxL := 4) (ret := (some .int)) (by decide) rfl ?_
  intro p e s m args below meth c s₁ B hml hv
  obtain ⟨hargs, hM, hK⟩ := hv
  have hx := B.exec
  have hb := B.bytes
  have hr := B.returns
  have hts := atoms_spec (ws := wsX4_setHome) B.pre
  have hown : s.vm.findClass RX4 = some m.cls := findClass_of_methodNamed B.named
  have hlocks := B.notSynchronized
  have hA : ∀ a, MA tmM q a → MA tmM q a := fun _ h => h
  have hS : va_S (MA tmM q) s.heap s.heap [] := va_S.rf
  have w0 := hts (Cond.fieldLink RX4 7 "CoinRailsModel" "all" "[I") (List.mem_of_getElem? (i := 1) (by decide +kernel))
  have iX4 : ∀ w ∈ wsX40, w ∈ wsX4_setHome := fun _ h => List.mem_cons_of_mem _ (List.mem_append_right _ (h))
  subst hargs
  have hl := lv_entry ([.ref (q 0), .int p1, .int p2]) (n := 4) (Nat.le_of_ble_eq_true rfl)
  rw [lg_entry_eq]
  generalize (lg_sl ([.ref (q 0), .int p1, .int p2]) ++ List.replicate (4 - (lg_sl ([.ref (q 0), .int p1, .int p2])).length) Slot.unset).toArray = ls at hl ⊢
  have hl : lv_has ls 4 [(0, .ref (q 0)), (1, .int p1), (2, .int p2)] := hl
  have h := hs
  unfold sX4_setHome at h
  have hM0 := hM
  refine lv_aload_n hx hb dX4_setHome_0 rfl (lv_at hl 0 rfl) ?_
  refine lv_iload_n hx hb dX4_setHome_1 rfl (lv_at hl 1 rfl) ?_
  obtain ⟨r2, e2, h⟩ := bind_s h
  refine k_cI (va_runV (As := [.int p1]) (rest := []) ⟨hx, hb, hml, hown, hts⟩ (kX4_isKind l D cI cR q G K p1 r2 e2) (cwV 1 hts gX4_setHome_X4_isKind rfl rfl rfl (by decide +kernel) ⟨Nat.le_of_ble_eq_true rfl, Nat.le_of_ble_eq_true rfl⟩) (mPreV hK hM 0 rfl rfl) rfl rfl hl.1 rfl (lv_room (Nat.le_of_ble_eq_true rfl)) dX4_setHome_2 ⟨Nat.le_of_ble_eq_true rfl, Nat.le_of_ble_eq_true rfl⟩) hS hM (fun H locs hM hS => ?_)
  refine lv_if_ne (tgt := 14) hx hb dX4_setHome_5 (by decide) (fun c5 => ?_) (fun c5 => ?_)
  · replace h := ite_f h c5
    refine lv_iload_n hx hb dX4_setHome_14 rfl (lv_at hl 2 rfl) ?_
    obtain ⟨r15, e15, h⟩ := bind_s h
    refine k_cI (va_runS (As := [.int p2]) (rest := []) ⟨hx, hb, hml, hown, hts⟩ (kX4_isRail l D cI cR q G K p2 r15 e15) (va_cwS 1 hts gX4_setHome_X4_isRail rfl rfl rfl (by decide +kernel) ⟨Nat.le_of_ble_eq_true rfl, Nat.le_of_ble_eq_true rfl⟩) (mPreS hK hM) rfl rfl hl.1 rfl (lv_room (Nat.le_of_ble_eq_true rfl)) dX4_setHome_15 ⟨Nat.le_of_ble_eq_true rfl, Nat.le_of_ble_eq_true rfl⟩) hS hM (fun H locs hM hS => ?_)
    refine lv_if_ne (tgt := 27) hx hb dX4_setHome_18 (by decide) (fun c18 => ?_) (fun c18 => ?_)
    · replace h := ite_f h c18
      refine lv_aload_n hx hb dX4_setHome_27 rfl (lv_at hl 0 rfl) ?_
      obtain ⟨r28, e28, h⟩ := bind_s h
      refine k_cVW (va_runV (As := []) (rest := []) ⟨hx, hb, hml, hown, hts⟩ (kX4_save l D cI cR q G K hJ r28 e28) (cwV 0 hts gX4_setHome_X4_save rfl rfl rfl (by decide +kernel) ⟨Nat.le_of_ble_eq_true rfl, Nat.le_of_ble_eq_true rfl⟩) (mPreV hK hM 0 rfl rfl) rfl rfl hl.1 rfl (lv_room (Nat.le_of_ble_eq_true rfl)) dX4_setHome_28 ⟨Nat.le_of_ble_eq_true rfl, Nat.le_of_ble_eq_true rfl⟩) hS hA (fun H locs hM hS => ?_)
      refine lv_aload_n hx hb dX4_setHome_31 rfl (lv_at hl 0 rfl) ?_
      refine lv_iload_n hx hb dX4_setHome_32 rfl (lv_at hl 1 rfl) ?_
      refine lv_iconst (v := 2) hx hb dX4_setHome_33 (by decide) ?_
      obtain ⟨r34, e34, h⟩ := bind_s h
      refine k_cI (va_runV (As := [.int p1, .int (2 : Int32)]) (rest := []) ⟨hx, hb, hml, hown, hts⟩ (kX4_ofKind l D cI cR q r28 K p1 (2 : Int32) r34 e34) (cwV 2 hts gX4_setHome_X4_ofKind rfl rfl rfl (by decide +kernel) ⟨Nat.le_of_ble_eq_true rfl, Nat.le_of_ble_eq_true rfl⟩) (mPreV hK hM 0 rfl rfl) rfl rfl hl.1 rfl (lv_room (Nat.le_of_ble_eq_true rfl)) dX4_setHome_34 ⟨Nat.le_of_ble_eq_true rfl, Nat.le_of_ble_eq_true rfl⟩) hS hM (fun H locs hM hS => ?_)
      refine lv_istore_n (lv' := [(3, .int r34), (0, .ref (q 0)), (1, .int p1), (2, .int p2)]) hx hb dX4_setHome_37 rfl hl (by decide) rfl (fun ls hl => ?_)
      refine lv_aload_n hx hb dX4_setHome_38 rfl (lv_at hl 1 rfl) ?_
      refine k_getR (C := RX4) (T := TX4) (N := 10) hx hb hts iX4 hown hK hM 0 rfl rfl 0 (by decide) rfl w0 (fun _ h9 => h9) dX4_setHome_39 ?_
      refine lv_iload_n hx hb dX4_setHome_42 rfl (lv_at hl 2 rfl) ?_
      refine lv_iconst (v := 2) hx hb dX4_setHome_43 (by decide) ?_
      obtain ⟨r44, e44, h⟩ := bind_s h
      refine k_cI (va_runS (As := [.int p1, .int (2 : Int32)]) (rest := [.ref (q 1)]) ⟨hx, hb, hml, hown, hts⟩ (kX4_kindAt l D cI cR q r28 K p1 (2 : Int32) r44 e44) (va_cwS 2 hts gX4_setHome_X4_kindAt rfl rfl rfl (by decide +kernel) ⟨Nat.le_of_ble_eq_true rfl, Nat.le_of_ble_eq_true rfl⟩) (mPreS hK hM) rfl rfl hl.1 rfl (lv_room (Nat.le_of_ble_eq_true rfl)) dX4_setHome_44 ⟨Nat.le_of_ble_eq_true rfl, Nat.le_of_ble_eq_true rfl⟩) hS hM (fun H locs hM hS => ?_)
      refine lv_iload_n hx hb dX4_setHome_47 rfl (lv_at hl 3 rfl) ?_
      obtain ⟨g48, h⟩ := grd_s h
      refine k_iast (v := p2) hx hb hK hM hJ hA hS 1 rfl g48 dX4_setHome_48 (fun H locs hM hS => ?_)
      obtain ⟨G50, eG50, h⟩ := olet_s h
      rw [eG50] at hM
      refine lv_aload_n hx hb dX4_setHome_49 rfl (lv_at hl 1 rfl) ?_
      refine lv_iload_n hx hb dX4_setHome_50 rfl (lv_at hl 0 rfl) ?_
      obtain ⟨r51, e51, h⟩ := bind_s h
      refine k_cIW (va_runV (As := [.int r34]) (rest := []) ⟨hx, hb, hml, hown, hts⟩ (kX4_fine l D cI cR q G50 K r34 hJ r51 e51) (cwV 1 hts gX4_setHome_X4_fine rfl rfl rfl (by decide +kernel) ⟨Nat.le_of_ble_eq_true rfl, Nat.le_of_ble_eq_true rfl⟩) (mPreV hK hM 0 rfl rfl) rfl rfl hl.1 rfl (lv_room (Nat.le_of_ble_eq_true rfl)) dX4_setHome_51 ⟨Nat.le_of_ble_eq_true rfl, Nat.le_of_ble_eq_true rfl⟩) hS hA (fun H locs hM hS => ?_)
      have h := Option.some.inj h
      exact W.iret (v := r51.1) hx hb hr (fun t ht hW => ⟨⟨r51.1, (), rfl, p_fst h, w_end ht hM (p_snd h)⟩, hS.F ht⟩) hS.2.2 dX4_setHome_54
    · replace h := ite_t h c18
      refine lv_aload_n hx hb dX4_setHome_21 rfl (lv_at hl 0 rfl) ?_
      refine lv_iconst (v := 2) hx hb dX4_setHome_22 (by decide) ?_
      obtain ⟨r23, e23, h⟩ := bind_s h
      refine k_cIW (va_runV (As := [.int (2 : Int32)]) (rest := []) ⟨hx, hb, hml, hown, hts⟩ (kX4_throwing l D cI cR q G K (2 : Int32) hJ r23 e23) (cwV 1 hts gX4_setHome_X4_throwing rfl rfl rfl (by decide +kernel) ⟨Nat.le_of_ble_eq_true rfl, Nat.le_of_ble_eq_true rfl⟩) (mPreV hK hM 0 rfl rfl) rfl rfl hl.1 rfl (lv_room (Nat.le_of_ble_eq_true rfl)) dX4_setHome_23 ⟨Nat.le_of_ble_eq_true rfl, Nat.le_of_ble_eq_true rfl⟩) hS hA (fun H locs hM hS => ?_)
      have h := Option.some.inj h
      exact W.iret (v := r23.1) hx hb hr (fun t ht hW => ⟨⟨r23.1, (), rfl, p_fst h, w_end ht hM (p_snd h)⟩, hS.F ht⟩) hS.2.2 dX4_setHome_26
  · replace h := ite_t h c5
    refine lv_aload_n hx hb dX4_setHome_8 rfl (lv_at hl 0 rfl) ?_
    refine lv_iconst (v := 1) hx hb dX4_setHome_9 (by decide) ?_
    obtain ⟨r10, e10, h⟩ := bind_s h
    refine k_cIW (va_runV (As := [.int (1 : Int32)]) (rest := []) ⟨hx, hb, hml, hown, hts⟩ (kX4_throwing l D cI cR q G K (1 : Int32) hJ r10 e10) (cwV 1 hts gX4_setHome_X4_throwing rfl rfl rfl (by decide +kernel) ⟨Nat.le_of_ble_eq_true rfl, Nat.le_of_ble_eq_true rfl⟩) (mPreV hK hM 0 rfl rfl) rfl rfl hl.1 rfl (lv_room (Nat.le_of_ble_eq_true rfl)) dX4_setHome_10 ⟨Nat.le_of_ble_eq_true rfl, Nat.le_of_ble_eq_true rfl⟩) hS hA (fun H locs hM hS => ?_)
    have h := Option.some.inj h
    exact W.iret (v := r10.1) hx hb hr (fun t ht hW => ⟨⟨r10.1, (), rfl, p_fst h, w_end ht hM (p_snd h)⟩, hS.F ht⟩) hS.2.2 dX4_setHome_13
set_option maxHeartbeats 4000000 in
set_option maxRecDepth 100000 in
theorem kX4_setGap (l : Launch) (D : va_G) (cI cR : ClassId) (q : Nat → Nat) (G : Nat → Nat → Int32) (K : Nat) (p1 : Int32) (p2 : Int32) (hJ : MJ tmM q) (r : (Int32 × (Nat → Nat → Int32))) (hs : sX4_setGap K G p1 p2 = some r) : Met l yX4_setGap wsX4_setGap ({ frames := 2, cells := 0, slots := 0, locals := 45 } : Room) (mPre [.ref (q 0), .int p1, .int p2] D cI cR q tmM G) (mIW D cI cR q tmM r) 0 0 (MA tmM q) := by
  refine Met.ofW (cc := cX4_setGap) (maxL := 4) (ret := (some .int)) (by decide) rfl ?_
  intro p e s m args below meth c s₁ B hml hv
  obtain ⟨hargs, hM, hK⟩ := hv
  have hx := B.exec
  have hb := B.bytes
  have hr := B.returns
  have hts := atoms_spec (ws := wsX4_setGap) B.pre
  have hown : s.vm.findClass RX4 = some m.cls := findClass_of_methodNamed B.named
  have hlocks := B.notSynchronized
  have hA : ∀ a, MA tmM q a → MA tmM q a := fun _ h => h
  have hS : va_S (MA tmM q) s.heap s.heap [] := va_S.rf
  have w0 := hts (Cond.constantLong RX4 72 (900)) (List.mem_of_getElem? (i := 1) (by decide +kernel))
  have w1 := hts (Cond.constantLong RX4 74 (4100)) (List.mem_of_getElem? (i := 2) (by decide +kernel))
  have w2 := hts (Cond.fieldLink RX4 7 "CoinRailsModel" "all" "[I") (List.mem_of_getElem? (i := 3) (by decide +kernel))
  have iX4 : ∀ w ∈ wsX40, w ∈ wsX4_setGap := fun _ h => List.mem_cons_of_mem _ (List.mem_append_right _ (h))
  subst hargs
  have hl := lv_entry ([.ref (q 0), .int p1, .int p2]) (n := 4) (Nat.le_of_ble_eq_true rfl)
  rw [lg_entry_eq]
  generalize (lg_sl ([.ref (q 0), .int p1, .int p2]) ++ List.replicate (4 - (lg_sl ([.ref (q 0), .int p1, .int p2])).length) Slot.unset).toArray = ls at hl ⊢
  have hl : lv_has ls 4 [(0, .ref (q 0)), (1, .int p1), (2, .int p2)] := hl
  have h := hs
  unfold sX4_setGap at h
  have hM0 := hM
  refine lv_iload_n hx hb dX4_setGap_0 rfl (lv_at hl 1 rfl) ?_
  obtain ⟨r1, e1, h⟩ := bind_s h
  refine k_cI (va_runS (As := [.int p1]) (rest := []) ⟨hx, hb, hml, hown, hts⟩ (kX4_isRail l D cI cR q G K p1 r1 e1) (va_cwS 1 hts gX4_setGap_X4_isRail rfl rfl rfl (by decide +kernel) ⟨Nat.le_of_ble_eq_true rfl, Nat.le_of_ble_eq_true rfl⟩) (mPreS hK hM) rfl rfl hl.1 rfl (lv_room (Nat.le_of_ble_eq_true rfl)) dX4_setGap_1 ⟨Nat.le_of_ble_eq_true rfl, Nat.le_of_ble_eq_true rfl⟩) hS hM (fun H locs hM hS => ?_)
  refine lv_if_ne (tgt := 13) hx hb dX4_setGap_4 (by decide) (fun c4 => ?_) (fun c4 => ?_)
  · replace h := ite_f h c4
    refine lv_iload_n hx hb dX4_setGap_13 rfl (lv_at hl 2 rfl) ?_
    refine lv_i2l (v := p2.toInt64) hx hb dX4_setGap_14 rfl ?_
    refine lv_ldc2 hx hb hown w0 dX4_setGap_15 ?_
    refine lv_ldc2 hx hb hown w1 dX4_setGap_18 ?_
    obtain ⟨r21, e21, h⟩ := bind_s h
    refine k_cI (va_runS (As := [.long p2.toInt64, .long (900 : Int64), .long (4100 : Int64)]) (rest := []) ⟨hx, hb, hml, hown, hts⟩ (kX4_in l D cI cR q G K p2.toInt64 (900 : Int64) (4100 : Int64) r21 e21) (va_cwS 3 hts gX4_setGap_X4_in rfl rfl rfl (by decide +kernel) ⟨Nat.le_of_ble_eq_true rfl, Nat.le_of_ble_eq_true rfl⟩) (mPreS hK hM) rfl rfl hl.1 rfl (lv_room (Nat.le_of_ble_eq_true rfl)) dX4_setGap_21 ⟨Nat.le_of_ble_eq_true rfl, Nat.le_of_ble_eq_true rfl⟩) hS hM (fun H locs hM hS => ?_)
    refine lv_if_ne (tgt := 33) hx hb dX4_setGap_24 (by decide) (fun c24 => ?_) (fun c24 => ?_)
    · replace h := ite_f h c24
      refine lv_aload_n hx hb dX4_setGap_33 rfl (lv_at hl 0 rfl) ?_
      refine lv_iload_n hx hb dX4_setGap_34 rfl (lv_at hl 1 rfl) ?_
      refine lv_iconst (v := 2) hx hb dX4_setGap_35 (by decide) ?_
      obtain ⟨r36, e36, h⟩ := bind_s h
      refine k_cI (va_runV (As := [.int p1, .int (2 : Int32)]) (rest := []) ⟨hx, hb, hml, hown, hts⟩ (kX4_ofRail l D cI cR q G K p1 (2 : Int32) r36 e36) (cwV 2 hts gX4_setGap_X4_ofRail rfl rfl rfl (by decide +kernel) ⟨Nat.le_of_ble_eq_true rfl, Nat.le_of_ble_eq_true rfl⟩) (mPreV hK hM 0 rfl rfl) rfl rfl hl.1 rfl (lv_room (Nat.le_of_ble_eq_true rfl)) dX4_setGap_36 ⟨Nat.le_of_ble_eq_true rfl, Nat.le_of_ble_eq_true rfl⟩) hS hM (fun H locs hM hS => ?_)
      refine lv_iconst (v := -1) hx hb dX4_setGap_39 (by decide) ?_
      refine lv_icmp_eq (tgt := 49) hx hb dX4_setGap_40 (by decide) (fun c40 => ?_) (fun c40 => ?_)
      · replace h := ite_t h c40
        refine lv_aload_n hx hb dX4_setGap_49 rfl (lv_at hl 0 rfl) ?_
        obtain ⟨r50, e50, h⟩ := bind_s h
        refine k_cVW (va_runV (As := []) (rest := []) ⟨hx, hb, hml, hown, hts⟩ (kX4_save l D cI cR q G K hJ r50 e50) (cwV 0 hts gX4_setGap_X4_save rfl rfl rfl (by decide +kernel) ⟨Nat.le_of_ble_eq_true rfl, Nat.le_of_ble_eq_true rfl⟩) (mPreV hK hM 0 rfl rfl) rfl rfl hl.1 rfl (lv_room (Nat.le_of_ble_eq_true rfl)) dX4_setGap_50 ⟨Nat.le_of_ble_eq_true rfl, Nat.le_of_ble_eq_true rfl⟩) hS hA (fun H locs hM hS => ?_)
        refine lv_aload_n hx hb dX4_setGap_53 rfl (lv_at hl 0 rfl) ?_
        refine lv_iload_n hx hb dX4_setGap_54 rfl (lv_at hl 1 rfl) ?_
        refine lv_iconst (v := 0) hx hb dX4_setGap_55 (by decide) ?_
        obtain ⟨r56, e56, h⟩ := bind_s h
        refine k_cI (va_runV (As := [.int p1, .int (0 : Int32)]) (rest := []) ⟨hx, hb, hml, hown, hts⟩ (kX4_ofRail l D cI cR q r50 K p1 (0 : Int32) r56 e56) (cwV 2 hts gX4_setGap_X4_ofRail rfl rfl rfl (by decide +kernel) ⟨Nat.le_of_ble_eq_true rfl, Nat.le_of_ble_eq_true rfl⟩) (mPreV hK hM 0 rfl rfl) rfl rfl hl.1 rfl (lv_room (Nat.le_of_ble_eq_true rfl)) dX4_setGap_56 ⟨Nat.le_of_ble_eq_true rfl, Nat.le_of_ble_eq_true rfl⟩) hS hM (fun H locs hM hS => ?_)
        refine lv_istore_n (lv' := [(3, .int r56), (0, .ref (q 0)), (1, .int p1), (2, .int p2)]) hx hb dX4_setGap_59 rfl hl (by decide) rfl (fun ls hl => ?_)
        refine lv_aload_n hx hb dX4_setGap_60 rfl (lv_at hl 1 rfl) ?_
        refine k_getR (C := RX4) (T := TX4) (N := 10) hx hb hts iX4 hown hK hM 0 rfl rfl 0 (by decide) rfl w2 (fun _ h9 => h9) dX4_setGap_61 ?_
        refine lv_iload_n hx hb dX4_setGap_64 rfl (lv_at hl 2 rfl) ?_
        refine lv_iconst (v := 0) hx hb dX4_setGap_65 (by decide) ?_
        obtain ⟨r66, e66, h⟩ := bind_s h
        refine k_cI (va_runS (As := [.int p1, .int (0 : Int32)]) (rest := [.ref (q 1)]) ⟨hx, hb, hml, hown, hts⟩ (kX4_railAt l D cI cR q r50 K p1 (0 : Int32) r66 e66) (va_cwS 2 hts gX4_setGap_X4_railAt rfl rfl rfl (by decide +kernel) ⟨Nat.le_of_ble_eq_true rfl, Nat.le_of_ble_eq_true rfl⟩) (mPreS hK hM) rfl rfl hl.1 rfl (lv_room (Nat.le_of_ble_eq_true rfl)) dX4_setGap_66 ⟨Nat.le_of_ble_eq_true rfl, Nat.le_of_ble_eq_true rfl⟩) hS hM (fun H locs hM hS => ?_)
        refine lv_iload_n hx hb dX4_setGap_69 rfl (lv_at hl 3 rfl) ?_
        obtain ⟨g70, h⟩ := grd_s h
        refine k_iast (v := p2) hx hb hK hM hJ hA hS 1 rfl g70 dX4_setGap_70 (fun H locs hM hS => ?_)
        obtain ⟨G72, eG72, h⟩ := olet_s h
        rw [eG72] at hM
        refine lv_aload_n hx hb dX4_setGap_71 rfl (lv_at hl 1 rfl) ?_
        refine k_getR (C := RX4) (T := TX4) (N := 10) hx hb hts iX4 hown hK hM 0 rfl rfl 0 (by decide) rfl w2 (fun _ h9 => h9) dX4_setGap_72 ?_
        refine lv_iload_n hx hb dX4_setGap_75 rfl (lv_at hl 2 rfl) ?_
        refine lv_iconst (v := 1) hx hb dX4_setGap_76 (by decide) ?_
        obtain ⟨r77, e77, h⟩ := bind_s h
        refine k_cI (va_runS (As := [.int p1, .int (1 : Int32)]) (rest := [.ref (q 1)]) ⟨hx, hb, hml, hown, hts⟩ (kX4_railAt l D cI cR q G72 K p1 (1 : Int32) r77 e77) (va_cwS 2 hts gX4_setGap_X4_railAt rfl rfl rfl (by decide +kernel) ⟨Nat.le_of_ble_eq_true rfl, Nat.le_of_ble_eq_true rfl⟩) (mPreS hK hM) rfl rfl hl.1 rfl (lv_room (Nat.le_of_ble_eq_true rfl)) dX4_setGap_77 ⟨Nat.le_of_ble_eq_true rfl, Nat.le_of_ble_eq_true rfl⟩) hS hM (fun H locs hM hS => ?_)
        refine lv_iconst (v := 0) hx hb dX4_setGap_80 (by decide) ?_
        obtain ⟨g81, h⟩ := grd_s h
        refine k_iast (v := (0 : Int32)) hx hb hK hM hJ hA hS 1 rfl g81 dX4_setGap_81 (fun H locs hM hS => ?_)
        obtain ⟨G83, eG83, h⟩ := olet_s h
        rw [eG83] at hM
        refine lv_aload_n hx hb dX4_setGap_82 rfl (lv_at hl 1 rfl) ?_
        refine lv_iload_n hx hb dX4_setGap_83 rfl (lv_at hl 0 rfl) ?_
        obtain ⟨r84, e84, h⟩ := bind_s h
        refine k_cIW (va_runV (As := [.int r56]) (rest := []) ⟨hx, hb, hml, hown, hts⟩ (kX4_fine l D cI cR q G83 K r56 hJ r84 e84) (cwV 1 hts gX4_setGap_X4_fine rfl rfl rfl (by decide +kernel) ⟨Nat.le_of_ble_eq_true rfl, Nat.le_of_ble_eq_true rfl⟩) (mPreV hK hM 0 rfl rfl) rfl rfl hl.1 rfl (lv_room (Nat.le_of_ble_eq_true rfl)) dX4_setGap_84 ⟨Nat.le_of_ble_eq_true rfl, Nat.le_of_ble_eq_true rfl⟩) hS hA (fun H locs hM hS => ?_)
        have h := Option.some.inj h
        exact W.iret (v := r84.1) hx hb hr (fun t ht hW => ⟨⟨r84.1, (), rfl, p_fst h, w_end ht hM (p_snd h)⟩, hS.F ht⟩) hS.2.2 dX4_setGap_87
      · replace h := ite_f h c40
        refine lv_aload_n hx hb dX4_setGap_43 rfl (lv_at hl 0 rfl) ?_
        refine lv_iconst (v := 3) hx hb dX4_setGap_44 (by decide) ?_
        obtain ⟨r45, e45, h⟩ := bind_s h
        refine k_cIW (va_runV (As := [.int (3 : Int32)]) (rest := []) ⟨hx, hb, hml, hown, hts⟩ (kX4_throwing l D cI cR q G K (3 : Int32) hJ r45 e45) (cwV 1 hts gX4_setGap_X4_throwing rfl rfl rfl (by decide +kernel) ⟨Nat.le_of_ble_eq_true rfl, Nat.le_of_ble_eq_true rfl⟩) (mPreV hK hM 0 rfl rfl) rfl rfl hl.1 rfl (lv_room (Nat.le_of_ble_eq_true rfl)) dX4_setGap_45 ⟨Nat.le_of_ble_eq_true rfl, Nat.le_of_ble_eq_true rfl⟩) hS hA (fun H locs hM hS => ?_)
        have h := Option.some.inj h
        exact W.iret (v := r45.1) hx hb hr (fun t ht hW => ⟨⟨r45.1, (), rfl, p_fst h, w_end ht hM (p_snd h)⟩, hS.F ht⟩) hS.2.2 dX4_setGap_48
    · replace h := ite_t h c24
      refine lv_aload_n hx hb dX4_setGap_27 rfl (lv_at hl 0 rfl) ?_
      refine lv_iconst (v := 2) hx hb dX4_setGap_28 (by decide) ?_
      obtain ⟨r29, e29, h⟩ := bind_s h
      refine k_cIW (va_runV (As := [.int (2 : Int32)]) (rest := []) ⟨hx, hb, hml, hown, hts⟩ (kX4_throwing l D cI cR q G K (2 : Int32) hJ r29 e29) (cwV 1 hts gX4_setGap_X4_throwing rfl rfl rfl (by decide +kernel) ⟨Nat.le_of_ble_eq_true rfl, Nat.le_of_ble_eq_true rfl⟩) (mPreV hK hM 0 rfl rfl) rfl rfl hl.1 rfl (lv_room (Nat.le_of_ble_eq_true rfl)) dX4_setGap_29 ⟨Nat.le_of_ble_eq_true rfl, Nat.le_of_ble_eq_true rfl⟩) hS hA (fun H locs hM hS => ?_)
      have h := Option.some.inj h
      exact W.iret (v := r29.1) hx hb hr (fun t ht hW => ⟨⟨r29.1, (), rfl, p_fst h, w_end ht hM (p_snd h)⟩, hS.F ht⟩) hS.2.2 dX4_setGap_32
  · replace h := ite_t h c4
    refine lv_aload_n hx hb dX4_setGap_7 rfl (lv_at hl 0 rfl) ?_
    refine lv_iconst (v := 1) hx hb dX4_setGap_8 (by decide) ?_
    obtain ⟨r9, e9, h⟩ := bind_s h
    refine k_cIW (va_runV (As := [.int (1 : Int32)]) (rest := []) ⟨hx, hb, hml, hown, hts⟩ (kX4_throwing l D cI cR q G K (1 : Int32) hJ r9 e9) (cwV 1 hts gX4_setGap_X4_throwing rfl rfl rfl (by decide +kernel) ⟨Nat.le_of_ble_eq_true rfl, Nat.le_of_ble_eq_true rfl⟩) (mPreV hK hM 0 rfl rfl) rfl rfl hl.1 rfl (lv_room (Nat.le_of_ble_eq_true rfl)) dX4_setGap_9 ⟨Nat.le_of_ble_eq_true rfl, Nat.le_of_ble_eq_true rfl⟩) hS hA (fun H locs hM hS => ?_)
    have h := Option.some.inj h
    exact W.iret (v := r9.1) hx hb hr (fun t ht hW => ⟨⟨r9.1, (), rfl, p_fst h, w_end ht hM (p_snd h)⟩, hS.F ht⟩) hS.2.2 dX4_setGap_12
set_option maxHeartbeats 4000000 in
set_option maxRecDepth 100000 in
theorem kX4_inBag (l : Launch) (D : va_G) (cI cR : ClassId) (q : Nat → Nat) (G : Nat → Nat → Int32) (K : Nat) (p1 : Int32) (r : Int32) (hs : sX4_inBag K G p1 = some r) : Met l yX4_inBag wsX4_inBag ({ frames := 1, cells := 0, slots := 0, locals := 21 } : Room) (mPre [.ref (q 0), .int p1] D cI cR q tmM G) (mI r) 0 0 (fun _ => False) := by
  refine Met.ofW (cc := cX4_inBag) (maxL := 4) (ret := (some .int)) (by decide) rfl ?_
  intro p e s m args below meth c s₁ B hml hv
  obtain ⟨hargs, hM, hK⟩ := hv
  have hx := B.exec
  have hb := B.bytes
  have hr := B.returns
  have hts := atoms_spec (ws := wsX4_inBag) B.pre
  have hown : s.vm.findClass RX4 = some m.cls := findClass_of_methodNamed B.named
  have hlocks := B.notSynchronized
  have hS : va_S (fun _ => False) s.heap s.heap [] := va_S.rf
  have w0 := hts (Cond.fieldLink RX4 7 "CoinRailsModel" "all" "[I") (List.mem_of_getElem? (i := 1) (by decide +kernel))
  have iX4 : ∀ w ∈ wsX40, w ∈ wsX4_inBag := fun _ h => List.mem_cons_of_mem _ (List.mem_append_right _ (h))
  have L4 : ∀ (n : Nat), ∀ (G : Nat → Nat → Int32) (x2 : Int32) (x3 : Int32) (H : Heap) (locs : List Loc) (ls : Array Slot), sX4_inBag_L4 K G p1 n x2 x3 = some r → MW D cI cR q tmM G H → va_S (fun _ => False) s.heap H locs → lv_has ls 4 [(0, .ref (q 0)), (1, .int p1), (2, .int x2), (3, .int x3)] → W p l e (headSpec wsX4_inBag ({ frames := 1, cells := 0, slots := 0, locals := 21 } : Room)).room s m args below meth c H locs 0 0 (MQ below (mI r) args s 0 0 (fun _ => False)) (F0 m 4 ls []) := by
    clear hM hS
    intro n
    induction n with
    | zero => exact fun _ _ _ _ _ _ h => absurd h (by simp [sX4_inBag_L4])
    | succ n ih =>
      intro G x2 x3 H locs ls h hM hS hl
      rw [sX4_inBag_L4] at h
      refine lv_iload_n hx hb dX4_inBag_4 rfl (lv_at hl 3 rfl) ?_
      refine lv_aload_n hx hb dX4_inBag_5 rfl (lv_at hl 0 rfl) ?_
      refine k_getR (C := RX4) (T := TX4) (N := 10) hx hb hts iX4 hown hK hM 0 rfl rfl 0 (by decide) rfl w0 (fun _ h9 => h9) dX4_inBag_6 ?_
      refine lv_iconst (v := 0) hx hb dX4_inBag_9 (by decide) ?_
      obtain ⟨g10, h⟩ := grd_s h
      refine k_iald hx hb hK hM 1 rfl g10 dX4_inBag_10 ?_
      refine lv_icmp_ge (tgt := 33) hx hb dX4_inBag_11 (by decide) (fun c11 => ?_) (fun c11 => ?_)
      · replace h := ite_t h c11
        refine lv_iload_n hx hb dX4_inBag_33 rfl (lv_at hl 2 rfl) ?_
        exact W.iret (v := x2) hx hb hr (fun t ht hW => ⟨⟨x2, (), rfl, Option.some.inj h, trivial⟩, hS.F ht⟩) hS.2.2 dX4_inBag_34
      · replace h := ite_f h c11
        refine lv_iload_n hx hb dX4_inBag_14 rfl (lv_at hl 2 rfl) ?_
        refine lv_aload_n hx hb dX4_inBag_15 rfl (lv_at hl 0 rfl) ?_
        refine k_getR (C := RX4) (T := TX4) (N := 10) hx hb hts iX4 hown hK hM 0 rfl rfl 0 (by decide) rfl w0 (fun _ h9 => h9) dX4_inBag_16 ?_
        refine lv_iload_n hx hb dX4_inBag_19 rfl (lv_at hl 1 rfl) ?_
        refine lv_iload_n hx hb dX4_inBag_20 rfl (lv_at hl 3 rfl) ?_
        obtain ⟨r21, e21, h⟩ := bind_s h
        refine k_cI (va_runS (As := [.int p1, .int x3]) (rest := [.ref (q 1), .int x2]) ⟨hx, hb, hml, hown, hts⟩ (kX4_countAt l D cI cR q G K p1 x3 r21 e21) (va_cwS 2 hts gX4_inBag_X4_countAt rfl rfl rfl (by decide +kernel) ⟨Nat.le_of_ble_eq_true rfl, Nat.le_of_ble_eq_true rfl⟩) (mPreS hK hM) rfl rfl hl.1 rfl (lv_room (Nat.le_of_ble_eq_true rfl)) dX4_inBag_21 ⟨Nat.le_of_ble_eq_true rfl, Nat.le_of_ble_eq_true rfl⟩) hS hM (fun H locs hM hS => ?_)
        obtain ⟨g24, h⟩ := grd_s h
        refine k_iald hx hb hK hM 1 rfl g24 dX4_inBag_24 ?_
        refine lv_iadd hx hb dX4_inBag_25 ?_
        refine lv_istore_n (lv' := [(2, .int (x2 + (G 1 r21.toNatClampNeg))), (0, .ref (q 0)), (1, .int p1), (3, .int x3)]) hx hb dX4_inBag_26 rfl hl (by decide) rfl (fun ls hl => ?_)
        refine lv_iinc (v := (x3 + 1)) (lv' := [(3, .int (x3 + 1)), (2, .int (x2 + (G 1 r21.toNatClampNeg))), (0, .ref (q 0)), (1, .int p1)]) hx hb dX4_inBag_27 hl (k := 3) rfl (congrArg (fun z : Int32 => x3 + z) (show Int32.ofInt (1) = 1 by decide)) (by decide) rfl (fun ls hl => ?_)
        refine lv_goto (tgt := 4) hx hb dX4_inBag_30 (by decide) ?_
        exact ih G (x2 + (G 1 r21.toNatClampNeg)) (x3 + 1) _ _ _ h hM hS (lv_sub hl [2, 3, 1, 0] rfl)
  subst hargs
  have hl := lv_entry ([.ref (q 0), .int p1]) (n := 4) (Nat.le_of_ble_eq_true rfl)
  rw [lg_entry_eq]
  generalize (lg_sl ([.ref (q 0), .int p1]) ++ List.replicate (4 - (lg_sl ([.ref (q 0), .int p1])).length) Slot.unset).toArray = ls at hl ⊢
  have hl : lv_has ls 4 [(0, .ref (q 0)), (1, .int p1)] := hl
  have h := hs
  unfold sX4_inBag at h
  have hM0 := hM
  refine lv_iconst (v := 0) hx hb dX4_inBag_0 (by decide) ?_
  refine lv_istore_n (lv' := [(2, .int (0 : Int32)), (0, .ref (q 0)), (1, .int p1)]) hx hb dX4_inBag_1 rfl hl (by decide) rfl (fun ls hl => ?_)
  refine lv_iconst (v := 0) hx hb dX4_inBag_2 (by decide) ?_
  refine lv_istore_n (lv' := [(3, .int (0 : Int32)), (2, .int (0 : Int32)), (0, .ref (q 0)), (1, .int p1)]) hx hb dX4_inBag_3 rfl hl (by decide) rfl (fun ls hl => ?_)
  exact L4 K G (0 : Int32) (0 : Int32) _ _ _ h hM hS (lv_sub hl [2, 3, 1, 0] rfl)
set_option maxHeartbeats 4000000 in
set_option maxRecDepth 100000 in
theorem kX4_falls (l : Launch) (D : va_G) (cI cR : ClassId) (q : Nat → Nat) (G : Nat → Nat → Int32) (K : Nat) (p1 : Int32) (p2 : Int32) (hJ : MJ tmM q) (r : (Nat → Nat → Int32)) (hs : sX4_falls K G p1 p2 = some r) : Met l yX4_falls wsX4_falls ({ frames := 2, cells := 0, slots := 0, locals := 43 } : Room) (mPre [.ref (q 0), .int p1, .int p2] D cI cR q tmM G) (mVW D cI cR q tmM r) 0 0 (MA tmM q) := by
  refine Met.ofW (cc := cX4_falls) (maxL := 3) (ret := none) (by decide) rfl ?_
  intro p e s m args below meth c s₁ B hml hv
  obtain ⟨hargs, hM, hK⟩ := hv
  have hx := B.exec
  have hb := B.bytes
  have hr := B.returns
  have hts := atoms_spec (ws := wsX4_falls) B.pre
  have hown : s.vm.findClass RX4 = some m.cls := findClass_of_methodNamed B.named
  have hlocks := B.notSynchronized
  have hA : ∀ a, MA tmM q a → MA tmM q a := fun _ h => h
  have hS : va_S (MA tmM q) s.heap s.heap [] := va_S.rf
  have w0 := hts (Cond.fieldLink RX4 7 "CoinRailsModel" "all" "[I") (List.mem_of_getElem? (i := 1) (by decide +kernel))
  have iX4 : ∀ w ∈ wsX40, w ∈ wsX4_falls := fun _ h => List.mem_cons_of_mem _ (List.mem_append_right _ (h))
  subst hargs
  have hl := lv_entry ([.ref (q 0), .int p1, .int p2]) (n := 3) (Nat.le_of_ble_eq_true rfl)
  rw [lg_entry_eq]
  generalize (lg_sl ([.ref (q 0), .int p1, .int p2]) ++ List.replicate (3 - (lg_sl ([.ref (q 0), .int p1, .int p2])).length) Slot.unset).toArray = ls at hl ⊢
  have hl : lv_has ls 3 [(0, .ref (q 0)), (1, .int p1), (2, .int p2)] := hl
  have h := hs
  unfold sX4_falls at h
  have hM0 := hM
  refine lv_aload_n hx hb dX4_falls_0 rfl (lv_at hl 0 rfl) ?_
  refine k_getR (C := RX4) (T := TX4) (N := 10) hx hb hts iX4 hown hK hM 0 rfl rfl 0 (by decide) rfl w0 (fun _ h9 => h9) dX4_falls_1 ?_
  refine lv_iload_n hx hb dX4_falls_4 rfl (lv_at hl 1 rfl) ?_
  refine lv_iload_n hx hb dX4_falls_5 rfl (lv_at hl 2 rfl) ?_
  obtain ⟨r6, e6, h⟩ := bind_s h
  refine k_cI (va_runS (As := [.int p1, .int p2]) (rest := [.ref (q 1)]) ⟨hx, hb, hml, hown, hts⟩ (kX4_countAt l D cI cR q G K p1 p2 r6 e6) (va_cwS 2 hts gX4_falls_X4_countAt rfl rfl rfl (by decide +kernel) ⟨Nat.le_of_ble_eq_true rfl, Nat.le_of_ble_eq_true rfl⟩) (mPreS hK hM) rfl rfl hl.1 rfl (lv_room (Nat.le_of_ble_eq_true rfl)) dX4_falls_6 ⟨Nat.le_of_ble_eq_true rfl, Nat.le_of_ble_eq_true rfl⟩) hS hM (fun H locs hM hS => ?_)
  refine lv_dup2_11 hx hb dX4_falls_9 rfl rfl ?_
  obtain ⟨g10, h⟩ := grd_s h
  refine k_iald hx hb hK hM 1 rfl g10 dX4_falls_10 ?_
  refine lv_iconst (v := 1) hx hb dX4_falls_11 (by decide) ?_
  refine lv_iadd hx hb dX4_falls_12 ?_
  obtain ⟨g13, h⟩ := grd_s h
  refine k_iast (v := ((G 1 r6.toNatClampNeg) + (1 : Int32))) hx hb hK hM hJ hA hS 1 rfl g13 dX4_falls_13 (fun H locs hM hS => ?_)
  obtain ⟨G15, eG15, h⟩ := olet_s h
  rw [eG15] at hM
  refine lv_aload_n hx hb dX4_falls_14 rfl (lv_at hl 0 rfl) ?_
  refine k_getR (C := RX4) (T := TX4) (N := 10) hx hb hts iX4 hown hK hM 0 rfl rfl 0 (by decide) rfl w0 (fun _ h9 => h9) dX4_falls_15 ?_
  refine lv_iload_n hx hb dX4_falls_18 rfl (lv_at hl 1 rfl) ?_
  refine lv_iconst (v := 1) hx hb dX4_falls_19 (by decide) ?_
  obtain ⟨r20, e20, h⟩ := bind_s h
  refine k_cI (va_runS (As := [.int p1, .int (1 : Int32)]) (rest := [.ref (q 1)]) ⟨hx, hb, hml, hown, hts⟩ (kX4_railAt l D cI cR q G15 K p1 (1 : Int32) r20 e20) (va_cwS 2 hts gX4_falls_X4_railAt rfl rfl rfl (by decide +kernel) ⟨Nat.le_of_ble_eq_true rfl, Nat.le_of_ble_eq_true rfl⟩) (mPreS hK hM) rfl rfl hl.1 rfl (lv_room (Nat.le_of_ble_eq_true rfl)) dX4_falls_20 ⟨Nat.le_of_ble_eq_true rfl, Nat.le_of_ble_eq_true rfl⟩) hS hM (fun H locs hM hS => ?_)
  refine lv_dup2_11 hx hb dX4_falls_23 rfl rfl ?_
  obtain ⟨g24, h⟩ := grd_s h
  refine k_iald hx hb hK hM 1 rfl g24 dX4_falls_24 ?_
  refine lv_iconst (v := 1) hx hb dX4_falls_25 (by decide) ?_
  refine lv_iadd hx hb dX4_falls_26 ?_
  obtain ⟨g27, h⟩ := grd_s h
  refine k_iast (v := ((G15 1 r20.toNatClampNeg) + (1 : Int32))) hx hb hK hM hJ hA hS 1 rfl g27 dX4_falls_27 (fun H locs hM hS => ?_)
  obtain ⟨G29, eG29, h⟩ := olet_s h
  rw [eG29] at hM
  refine lv_aload_n hx hb dX4_falls_28 rfl (lv_at hl 0 rfl) ?_
  refine lv_iload_n hx hb dX4_falls_29 rfl (lv_at hl 1 rfl) ?_
  refine lv_iconst (v := 1) hx hb dX4_falls_30 (by decide) ?_
  obtain ⟨r31, e31, h⟩ := bind_s h
  refine k_cI (va_runV (As := [.int p1, .int (1 : Int32)]) (rest := []) ⟨hx, hb, hml, hown, hts⟩ (kX4_ofRail l D cI cR q G29 K p1 (1 : Int32) r31 e31) (cwV 2 hts gX4_falls_X4_ofRail rfl rfl rfl (by decide +kernel) ⟨Nat.le_of_ble_eq_true rfl, Nat.le_of_ble_eq_true rfl⟩) (mPreV hK hM 0 rfl rfl) rfl rfl hl.1 rfl (lv_room (Nat.le_of_ble_eq_true rfl)) dX4_falls_31 ⟨Nat.le_of_ble_eq_true rfl, Nat.le_of_ble_eq_true rfl⟩) hS hM (fun H locs hM hS => ?_)
  refine lv_bipush (v := 20) hx hb dX4_falls_34 (by decide) ?_
  refine lv_icmp_ne (tgt := 80) hx hb dX4_falls_36 (by decide) (fun c36 => ?_) (fun c36 => ?_)
  · replace h := ite_f h c36
    have h := Option.some.inj h
    exact W.vret hx hb hr (fun t ht hW => ⟨⟨(), rfl, trivial, w_end ht hM h⟩, hS.F ht⟩) hS.2.2 dX4_falls_80
  · replace h := ite_t h c36
    refine lv_aload_n hx hb dX4_falls_39 rfl (lv_at hl 0 rfl) ?_
    refine k_getR (C := RX4) (T := TX4) (N := 10) hx hb hts iX4 hown hK hM 0 rfl rfl 0 (by decide) rfl w0 (fun _ h9 => h9) dX4_falls_40 ?_
    refine lv_iload_n hx hb dX4_falls_43 rfl (lv_at hl 1 rfl) ?_
    refine lv_iconst (v := 1) hx hb dX4_falls_44 (by decide) ?_
    obtain ⟨r45, e45, h⟩ := bind_s h
    refine k_cI (va_runS (As := [.int p1, .int (1 : Int32)]) (rest := [.ref (q 1)]) ⟨hx, hb, hml, hown, hts⟩ (kX4_railAt l D cI cR q G29 K p1 (1 : Int32) r45 e45) (va_cwS 2 hts gX4_falls_X4_railAt rfl rfl rfl (by decide +kernel) ⟨Nat.le_of_ble_eq_true rfl, Nat.le_of_ble_eq_true rfl⟩) (mPreS hK hM) rfl rfl hl.1 rfl (lv_room (Nat.le_of_ble_eq_true rfl)) dX4_falls_45 ⟨Nat.le_of_ble_eq_true rfl, Nat.le_of_ble_eq_true rfl⟩) hS hM (fun H locs hM hS => ?_)
    refine lv_iconst (v := 0) hx hb dX4_falls_48 (by decide) ?_
    obtain ⟨g49, h⟩ := grd_s h
    refine k_iast (v := (0 : Int32)) hx hb hK hM hJ hA hS 1 rfl g49 dX4_falls_49 (fun H locs hM hS => ?_)
    obtain ⟨G51, eG51, h⟩ := olet_s h
    rw [eG51] at hM
    refine lv_aload_n hx hb dX4_falls_50 rfl (lv_at hl 0 rfl) ?_
    refine k_getR (C := RX4) (T := TX4) (N := 10) hx hb hts iX4 hown hK hM 0 rfl rfl 0 (by decide) rfl w0 (fun _ h9 => h9) dX4_falls_51 ?_
    refine lv_iload_n hx hb dX4_falls_54 rfl (lv_at hl 1 rfl) ?_
    refine lv_iconst (v := 0) hx hb dX4_falls_55 (by decide) ?_
    obtain ⟨r56, e56, h⟩ := bind_s h
    refine k_cI (va_runS (As := [.int p1, .int (0 : Int32)]) (rest := [.ref (q 1)]) ⟨hx, hb, hml, hown, hts⟩ (kX4_railAt l D cI cR q G51 K p1 (0 : Int32) r56 e56) (va_cwS 2 hts gX4_falls_X4_railAt rfl rfl rfl (by decide +kernel) ⟨Nat.le_of_ble_eq_true rfl, Nat.le_of_ble_eq_true rfl⟩) (mPreS hK hM) rfl rfl hl.1 rfl (lv_room (Nat.le_of_ble_eq_true rfl)) dX4_falls_56 ⟨Nat.le_of_ble_eq_true rfl, Nat.le_of_ble_eq_true rfl⟩) hS hM (fun H locs hM hS => ?_)
    refine lv_dup2_11 hx hb dX4_falls_59 rfl rfl ?_
    obtain ⟨g60, h⟩ := grd_s h
    refine k_iald hx hb hK hM 1 rfl g60 dX4_falls_60 ?_
    refine lv_aload_n hx hb dX4_falls_61 rfl (lv_at hl 0 rfl) ?_
    refine lv_iload_n hx hb dX4_falls_62 rfl (lv_at hl 1 rfl) ?_
    refine lv_iconst (v := 0) hx hb dX4_falls_63 (by decide) ?_
    obtain ⟨r64, e64, h⟩ := bind_s h
    refine k_cI (va_runV (As := [.int p1, .int (0 : Int32)]) (rest := [.int (G51 1 r56.toNatClampNeg), .int r56, .ref (q 1)]) ⟨hx, hb, hml, hown, hts⟩ (kX4_ofRail l D cI cR q G51 K p1 (0 : Int32) r64 e64) (cwV 2 hts gX4_falls_X4_ofRail rfl rfl rfl (by decide +kernel) ⟨Nat.le_of_ble_eq_true rfl, Nat.le_of_ble_eq_true rfl⟩) (mPreV hK hM 0 rfl rfl) rfl rfl hl.1 rfl (lv_room (Nat.le_of_ble_eq_true rfl)) dX4_falls_64 ⟨Nat.le_of_ble_eq_true rfl, Nat.le_of_ble_eq_true rfl⟩) hS hM (fun H locs hM hS => ?_)
    refine lv_sipush (v := 4100) hx hb dX4_falls_67 (by decide) ?_
    refine lv_icmp_ge (tgt := 77) hx hb dX4_falls_70 (by decide) (fun c70 => ?_) (fun c70 => ?_)
    · replace h := ite_t h c70
      refine lv_iconst (v := 0) hx hb dX4_falls_77 (by decide) ?_
      refine lv_iadd hx hb dX4_falls_78 ?_
      obtain ⟨g79, h⟩ := grd_s h
      refine k_iast (v := ((G51 1 r56.toNatClampNeg) + (0 : Int32))) hx hb hK hM hJ hA hS 1 rfl g79 dX4_falls_79 (fun H locs hM hS => ?_)
      obtain ⟨G81, eG81, h⟩ := olet_s h
      rw [eG81] at hM
      have h := Option.some.inj h
      exact W.vret hx hb hr (fun t ht hW => ⟨⟨(), rfl, trivial, w_end ht hM h⟩, hS.F ht⟩) hS.2.2 dX4_falls_80
    · replace h := ite_f h c70
      refine lv_iconst (v := 1) hx hb dX4_falls_73 (by decide) ?_
      refine lv_goto (tgt := 78) hx hb dX4_falls_74 (by decide) ?_
      refine lv_iadd hx hb dX4_falls_78 ?_
      obtain ⟨g79, h⟩ := grd_s h
      refine k_iast (v := ((G51 1 r56.toNatClampNeg) + (1 : Int32))) hx hb hK hM hJ hA hS 1 rfl g79 dX4_falls_79 (fun H locs hM hS => ?_)
      obtain ⟨G81, eG81, h⟩ := olet_s h
      rw [eG81] at hM
      have h := Option.some.inj h
      exact W.vret hx hb hr (fun t ht hW => ⟨⟨(), rfl, trivial, w_end ht hM h⟩, hS.F ht⟩) hS.2.2 dX4_falls_80
set_option maxHeartbeats 4000000 in
set_option maxRecDepth 100000 in
theorem kX4_sizeOf (l : Launch) (D : va_G) (cI cR : ClassId) (q : Nat → Nat) (G : Nat → Nat → Int32) (K : Nat) (p1 : Int32) (p2 : Int32) (r : Int32) (hs : sX4_sizeOf K G p1 p2 = some r) : Met l yX4_sizeOf wsX4_sizeOf ({ frames := 2, cells := 0, slots := 0, locals := 43 } : Room) (mPre [.ref (q 0), .int p1, .int p2] D cI cR q tmM G) (mI r) 0 0 (fun _ => False) := by
  refine Met.ofW (cc := cX4_sizeOf) (maxL := 4) (ret := (some .int)) (by decide) rfl ?_
  intro p e s m args below meth c s₁ B hml hv
  obtain ⟨hargs, hM, hK⟩ := hv
  have hx := B.exec
  have hb := B.bytes
  have hr := B.returns
  have hts := atoms_spec (ws := wsX4_sizeOf) B.pre
  have hown : s.vm.findClass RX4 = some m.cls := findClass_of_methodNamed B.named
  have hlocks := B.notSynchronized
  have hS : va_S (fun _ => False) s.heap s.heap [] := va_S.rf
  subst hargs
  have hl := lv_entry ([.ref (q 0), .int p1, .int p2]) (n := 4) (Nat.le_of_ble_eq_true rfl)
  rw [lg_entry_eq]
  generalize (lg_sl ([.ref (q 0), .int p1, .int p2]) ++ List.replicate (4 - (lg_sl ([.ref (q 0), .int p1, .int p2])).length) Slot.unset).toArray = ls at hl ⊢
  have hl : lv_has ls 4 [(0, .ref (q 0)), (1, .int p1), (2, .int p2)] := hl
  have h := hs
  unfold sX4_sizeOf at h
  have hM0 := hM
  refine lv_aload_n hx hb dX4_sizeOf_0 rfl (lv_at hl 0 rfl) ?_
  refine lv_iload_n hx hb dX4_sizeOf_1 rfl (lv_at hl 1 rfl) ?_
  refine lv_iconst (v := 0) hx hb dX4_sizeOf_2 (by decide) ?_
  obtain ⟨r3, e3, h⟩ := bind_s h
  refine k_cI (va_runV (As := [.int p1, .int (0 : Int32)]) (rest := []) ⟨hx, hb, hml, hown, hts⟩ (kX4_ofKind l D cI cR q G K p1 (0 : Int32) r3 e3) (cwV 2 hts gX4_sizeOf_X4_ofKind rfl rfl rfl (by decide +kernel) ⟨Nat.le_of_ble_eq_true rfl, Nat.le_of_ble_eq_true rfl⟩) (mPreV hK hM 0 rfl rfl) rfl rfl hl.1 rfl (lv_room (Nat.le_of_ble_eq_true rfl)) dX4_sizeOf_3 ⟨Nat.le_of_ble_eq_true rfl, Nat.le_of_ble_eq_true rfl⟩) hS hM (fun H locs hM hS => ?_)
  refine lv_iload_n hx hb dX4_sizeOf_6 rfl (lv_at hl 2 rfl) ?_
  refine lv_isub hx hb dX4_sizeOf_7 ?_
  refine lv_istore_n (lv' := [(3, .int (r3 - p2)), (0, .ref (q 0)), (1, .int p1), (2, .int p2)]) hx hb dX4_sizeOf_8 rfl hl (by decide) rfl (fun ls hl => ?_)
  refine lv_iload_n hx hb dX4_sizeOf_9 rfl (lv_at hl 0 rfl) ?_
  refine lv_iconst (v := 1) hx hb dX4_sizeOf_10 (by decide) ?_
  refine lv_icmp_ge (tgt := 18) hx hb dX4_sizeOf_11 (by decide) (fun c11 => ?_) (fun c11 => ?_)
  · replace h := ite_t h c11
    refine lv_iload_n hx hb dX4_sizeOf_18 rfl (lv_at hl 0 rfl) ?_
    exact W.iret (v := (r3 - p2)) hx hb hr (fun t ht hW => ⟨⟨(r3 - p2), (), rfl, Option.some.inj h, trivial⟩, hS.F ht⟩) hS.2.2 dX4_sizeOf_19
  · replace h := ite_f h c11
    refine lv_iconst (v := 1) hx hb dX4_sizeOf_14 (by decide) ?_
    refine lv_goto (tgt := 19) hx hb dX4_sizeOf_15 (by decide) ?_
    exact W.iret (v := (1 : Int32)) hx hb hr (fun t ht hW => ⟨⟨(1 : Int32), (), rfl, Option.some.inj h, trivial⟩, hS.F ht⟩) hS.2.2 dX4_sizeOf_19
set_option maxHeartbeats 4000000 in
set_option maxRecDepth 100000 in
theorem kX4_feeds (l : Launch) (D : va_G) (cI cR : ClassId) (q : Nat → Nat) (G : Nat → Nat → Int32) (K : Nat) (p1 : Int32) (p2 : Int32) (hJ : MJ tmM q) (r : (Int32 × (Nat → Nat → Int32))) (hs : sX4_feeds K G p1 p2 = some r) : Met l yX4_feeds wsX4_feeds ({ frames := 3, cells := 0, slots := 0, locals := 66 } : Room) (mPre [.ref (q 0), .int p1, .int p2] D cI cR q tmM G) (mIW D cI cR q tmM r) 0 0 (MA tmM q) := by
  refine Met.ofW (cc := cX4_feeds) (maxL := 6) (ret := (some .int)) (by decide) rfl ?_
  intro p e s m args below meth c s₁ B hml hv
  obtain ⟨hargs, hM, hK⟩ := hv
  have hx := B.exec
  have hb := B.bytes
  have hr := B.returns
  have hts := atoms_spec (ws := wsX4_feeds) B.pre
  have hown : s.vm.findClass RX4 = some m.cls := findClass_of_methodNamed B.named
  have hlocks := B.notSynchronized
  have hA : ∀ a, MA tmM q a → MA tmM q a := fun _ h => h
  have hS : va_S (MA tmM q) s.heap s.heap [] := va_S.rf
  have w0 := hts (Cond.fieldLink RX4 7 "CoinRailsModel" "all" "[I") (List.mem_of_getElem? (i := 1) (by decide +kernel))
  have iX4 : ∀ w ∈ wsX40, w ∈ wsX4_feeds := fun _ h => List.mem_cons_of_mem _ (List.mem_append_right _ (h))
  have L29 : ∀ (n : Nat), ∀ (G1 : Nat → Nat → Int32) (x3 : Int32) (x4 : Int32) (H : Heap) (locs : List Loc) (ls : Array Slot), sX4_feeds_L29 K p1 p2 n G1 x3 x4 = some r → MW D cI cR q tmM G1 H → va_S (MA tmM q) s.heap H locs → lv_has ls 6 [(0, .ref (q 0)), (1, .int p1), (2, .int p2), (3, .int x3), (4, .int x4)] → W p l e (headSpec wsX4_feeds ({ frames := 3, cells := 0, slots := 0, locals := 66 } : Room)).room s m args below meth c H locs 0 0 (MQ below (mIW D cI cR q tmM r) args s 0 0 (MA tmM q)) (F0 m 29 ls []) := by
    clear hM hS
    intro n
    induction n with
    | zero => exact fun _ _ _ _ _ _ h => absurd h (by simp [sX4_feeds_L29])
    | succ n ih =>
      intro G1 x3 x4 H locs ls h hM hS hl
      rw [sX4_feeds_L29] at h
      refine lv_iload hx hb dX4_feeds_29 (lv_at hl 4 rfl) ?_
      refine lv_bipush (v := 6) hx hb dX4_feeds_31 (by decide) ?_
      refine lv_icmp_ge (tgt := 164) hx hb dX4_feeds_33 (by decide) (fun c33 => ?_) (fun c33 => ?_)
      · replace h := ite_t h c33
        refine lv_aload_n hx hb dX4_feeds_164 rfl (lv_at hl 0 rfl) ?_
        refine k_getR (C := RX4) (T := TX4) (N := 10) hx hb hts iX4 hown hK hM 0 rfl rfl 0 (by decide) rfl w0 (fun _ h9 => h9) dX4_feeds_165 ?_
        refine lv_iload_n hx hb dX4_feeds_168 rfl (lv_at hl 1 rfl) ?_
        refine lv_iconst (v := 4) hx hb dX4_feeds_169 (by decide) ?_
        obtain ⟨r170, e170, h⟩ := bind_s h
        refine k_cI (va_runS (As := [.int p1, .int (4 : Int32)]) (rest := [.ref (q 1)]) ⟨hx, hb, hml, hown, hts⟩ (kX4_kindAt l D cI cR q G1 K p1 (4 : Int32) r170 e170) (va_cwS 2 hts gX4_feeds_X4_kindAt rfl rfl rfl (by decide +kernel) ⟨Nat.le_of_ble_eq_true rfl, Nat.le_of_ble_eq_true rfl⟩) (mPreS hK hM) rfl rfl hl.1 rfl (lv_room (Nat.le_of_ble_eq_true rfl)) dX4_feeds_170 ⟨Nat.le_of_ble_eq_true rfl, Nat.le_of_ble_eq_true rfl⟩) hS hM (fun H locs hM hS => ?_)
        refine lv_dup2_11 hx hb dX4_feeds_173 rfl rfl ?_
        obtain ⟨g174, h⟩ := grd_s h
        refine k_iald hx hb hK hM 1 rfl g174 dX4_feeds_174 ?_
        refine lv_iconst (v := 1) hx hb dX4_feeds_175 (by decide) ?_
        refine lv_iadd hx hb dX4_feeds_176 ?_
        obtain ⟨g177, h⟩ := grd_s h
        refine k_iast (v := ((G1 1 r170.toNatClampNeg) + (1 : Int32))) hx hb hK hM hJ hA hS 1 rfl g177 dX4_feeds_177 (fun H locs hM hS => ?_)
        obtain ⟨G179, eG179, h⟩ := olet_s h
        rw [eG179] at hM
        refine lv_iconst (v := -1) hx hb dX4_feeds_178 (by decide) ?_
        have h := Option.some.inj h
        exact W.iret (v := (-1 : Int32)) hx hb hr (fun t ht hW => ⟨⟨(-1 : Int32), (), rfl, p_fst h, w_end ht hM (p_snd h)⟩, hS.F ht⟩) hS.2.2 dX4_feeds_179
      · replace h := ite_f h c33
        refine lv_aload_n hx hb dX4_feeds_36 rfl (lv_at hl 0 rfl) ?_
        refine lv_iload hx hb dX4_feeds_37 (lv_at hl 4 rfl) ?_
        refine lv_iconst (v := 0) hx hb dX4_feeds_39 (by decide) ?_
        obtain ⟨r40, e40, h⟩ := bind_s h
        refine k_cI (va_runV (As := [.int x4, .int (0 : Int32)]) (rest := []) ⟨hx, hb, hml, hown, hts⟩ (kX4_ofRail l D cI cR q G1 K x4 (0 : Int32) r40 e40) (cwV 2 hts gX4_feeds_X4_ofRail rfl rfl rfl (by decide +kernel) ⟨Nat.le_of_ble_eq_true rfl, Nat.le_of_ble_eq_true rfl⟩) (mPreV hK hM 0 rfl rfl) rfl rfl hl.1 rfl (lv_room (Nat.le_of_ble_eq_true rfl)) dX4_feeds_40 ⟨Nat.le_of_ble_eq_true rfl, Nat.le_of_ble_eq_true rfl⟩) hS hM (fun H locs hM hS => ?_)
        refine lv_aload_n hx hb dX4_feeds_43 rfl (lv_at hl 0 rfl) ?_
        refine lv_iload_n hx hb dX4_feeds_44 rfl (lv_at hl 1 rfl) ?_
        refine lv_iload_n hx hb dX4_feeds_45 rfl (lv_at hl 3 rfl) ?_
        obtain ⟨r46, e46, h⟩ := bind_s h
        refine k_cI (va_runV (As := [.int p1, .int x3]) (rest := [.int r40]) ⟨hx, hb, hml, hown, hts⟩ (kX4_sizeOf l D cI cR q G1 K p1 x3 r46 e46) (cwV 2 hts gX4_feeds_X4_sizeOf rfl rfl rfl (by decide +kernel) ⟨Nat.le_of_ble_eq_true rfl, Nat.le_of_ble_eq_true rfl⟩) (mPreV hK hM 0 rfl rfl) rfl rfl hl.1 rfl (lv_room (Nat.le_of_ble_eq_true rfl)) dX4_feeds_46 ⟨Nat.le_of_ble_eq_true rfl, Nat.le_of_ble_eq_true rfl⟩) hS hM (fun H locs hM hS => ?_)
        refine lv_isub hx hb dX4_feeds_49 ?_
        refine lv_istore (lv' := [(5, .int (r40 - r46)), (0, .ref (q 0)), (1, .int p1), (2, .int p2), (3, .int x3), (4, .int x4)]) hx hb dX4_feeds_50 hl (by decide) rfl (fun ls hl => ?_)
        refine lv_aload_n hx hb dX4_feeds_52 rfl (lv_at hl 1 rfl) ?_
        refine lv_iload hx hb dX4_feeds_53 (lv_at hl 5 rfl) ?_
        refine lv_iconst (v := 2) hx hb dX4_feeds_55 (by decide) ?_
        obtain ⟨r56, e56, h⟩ := bind_s h
        refine k_cI (va_runV (As := [.int x4, .int (2 : Int32)]) (rest := []) ⟨hx, hb, hml, hown, hts⟩ (kX4_ofRail l D cI cR q G1 K x4 (2 : Int32) r56 e56) (cwV 2 hts gX4_feeds_X4_ofRail rfl rfl rfl (by decide +kernel) ⟨Nat.le_of_ble_eq_true rfl, Nat.le_of_ble_eq_true rfl⟩) (mPreV hK hM 0 rfl rfl) rfl rfl hl.1 rfl (lv_room (Nat.le_of_ble_eq_true rfl)) dX4_feeds_56 ⟨Nat.le_of_ble_eq_true rfl, Nat.le_of_ble_eq_true rfl⟩) hS hM (fun H locs hM hS => ?_)
        refine lv_iconst (v := -1) hx hb dX4_feeds_59 (by decide) ?_
        refine lv_icmp_ne (tgt := 79) hx hb dX4_feeds_60 (by decide) (fun c60 => ?_) (fun c60 => ?_)
        · replace h := ite_f h c60
          refine lv_iload_n hx hb dX4_feeds_79 rfl (lv_at hl 4 rfl) ?_
          refine lv_iload_n hx hb dX4_feeds_80 rfl (lv_at hl 4 rfl) ?_
          refine lv_sipush (v := 999) hx hb dX4_feeds_81 (by decide) ?_
          refine lv_icmp_ge (tgt := 91) hx hb dX4_feeds_84 (by decide) (fun c84 => ?_) (fun c84 => ?_)
          · replace h := ite_t h c84
            refine lv_iconst (v := 0) hx hb dX4_feeds_91 (by decide) ?_
            refine lv_iadd hx hb dX4_feeds_92 ?_
            refine lv_istore_n (lv' := [(3, .int (x3 + (0 : Int32))), (5, .int (r40 - r46)), (0, .ref (q 0)), (1, .int p1), (2, .int p2), (4, .int x4)]) hx hb dX4_feeds_93 rfl hl (by decide) rfl (fun ls hl => ?_)
            refine lv_aload_n hx hb dX4_feeds_94 rfl (lv_at hl 2 rfl) ?_
            refine k_getR (C := RX4) (T := TX4) (N := 10) hx hb hts iX4 hown hK hM 0 rfl rfl 0 (by decide) rfl w0 (fun _ h9 => h9) dX4_feeds_95 ?_
            refine lv_iload hx hb dX4_feeds_98 (lv_at hl 5 rfl) ?_
            refine lv_iconst (v := 4) hx hb dX4_feeds_100 (by decide) ?_
            obtain ⟨r101, e101, h⟩ := bind_s h
            refine k_cI (va_runS (As := [.int x4, .int (4 : Int32)]) (rest := [.ref (q 1)]) ⟨hx, hb, hml, hown, hts⟩ (kX4_railAt l D cI cR q G1 K x4 (4 : Int32) r101 e101) (va_cwS 2 hts gX4_feeds_X4_railAt rfl rfl rfl (by decide +kernel) ⟨Nat.le_of_ble_eq_true rfl, Nat.le_of_ble_eq_true rfl⟩) (mPreS hK hM) rfl rfl hl.1 rfl (lv_room (Nat.le_of_ble_eq_true rfl)) dX4_feeds_101 ⟨Nat.le_of_ble_eq_true rfl, Nat.le_of_ble_eq_true rfl⟩) hS hM (fun H locs hM hS => ?_)
            refine lv_dup2_11 hx hb dX4_feeds_104 rfl rfl ?_
            obtain ⟨g105, h⟩ := grd_s h
            refine k_iald hx hb hK hM 1 rfl g105 dX4_feeds_105 ?_
            refine lv_iconst (v := 1) hx hb dX4_feeds_106 (by decide) ?_
            refine lv_iadd hx hb dX4_feeds_107 ?_
            obtain ⟨g108, h⟩ := grd_s h
            refine k_iast (v := ((G1 1 r101.toNatClampNeg) + (1 : Int32))) hx hb hK hM hJ hA hS 1 rfl g108 dX4_feeds_108 (fun H locs hM hS => ?_)
            obtain ⟨G110, eG110, h⟩ := olet_s h
            rw [eG110] at hM
            refine lv_goto (tgt := 158) hx hb dX4_feeds_109 (by decide) ?_
            refine lv_iinc (v := (x4 + 1)) (lv' := [(4, .int (x4 + 1)), (3, .int (x3 + (0 : Int32))), (5, .int (r40 - r46)), (0, .ref (q 0)), (1, .int p1), (2, .int p2)]) hx hb dX4_feeds_158 hl (k := 5) rfl (congrArg (fun z : Int32 => x4 + z) (show Int32.ofInt (1) = 1 by decide)) (by decide) rfl (fun ls hl => ?_)
            refine lv_goto (tgt := 29) hx hb dX4_feeds_161 (by decide) ?_
            exact ih G110 (x3 + (0 : Int32)) (x4 + 1) _ _ _ h hM hS (lv_sub hl [3, 4, 5, 1, 0] rfl)
          · replace h := ite_f h c84
            refine lv_iconst (v := 1) hx hb dX4_feeds_87 (by decide) ?_
            refine lv_goto (tgt := 92) hx hb dX4_feeds_88 (by decide) ?_
            refine lv_iadd hx hb dX4_feeds_92 ?_
            refine lv_istore_n (lv' := [(3, .int (x3 + (1 : Int32))), (5, .int (r40 - r46)), (0, .ref (q 0)), (1, .int p1), (2, .int p2), (4, .int x4)]) hx hb dX4_feeds_93 rfl hl (by decide) rfl (fun ls hl => ?_)
            refine lv_aload_n hx hb dX4_feeds_94 rfl (lv_at hl 2 rfl) ?_
            refine k_getR (C := RX4) (T := TX4) (N := 10) hx hb hts iX4 hown hK hM 0 rfl rfl 0 (by decide) rfl w0 (fun _ h9 => h9) dX4_feeds_95 ?_
            refine lv_iload hx hb dX4_feeds_98 (lv_at hl 5 rfl) ?_
            refine lv_iconst (v := 4) hx hb dX4_feeds_100 (by decide) ?_
            obtain ⟨r101, e101, h⟩ := bind_s h
            refine k_cI (va_runS (As := [.int x4, .int (4 : Int32)]) (rest := [.ref (q 1)]) ⟨hx, hb, hml, hown, hts⟩ (kX4_railAt l D cI cR q G1 K x4 (4 : Int32) r101 e101) (va_cwS 2 hts gX4_feeds_X4_railAt rfl rfl rfl (by decide +kernel) ⟨Nat.le_of_ble_eq_true rfl, Nat.le_of_ble_eq_true rfl⟩) (mPreS hK hM) rfl rfl hl.1 rfl (lv_room (Nat.le_of_ble_eq_true rfl)) dX4_feeds_101 ⟨Nat.le_of_ble_eq_true rfl, Nat.le_of_ble_eq_true rfl⟩) hS hM (fun H locs hM hS => ?_)
            refine lv_dup2_11 hx hb dX4_feeds_104 rfl rfl ?_
            obtain ⟨g105, h⟩ := grd_s h
            refine k_iald hx hb hK hM 1 rfl g105 dX4_feeds_105 ?_
            refine lv_iconst (v := 1) hx hb dX4_feeds_106 (by decide) ?_
            refine lv_iadd hx hb dX4_feeds_107 ?_
            obtain ⟨g108, h⟩ := grd_s h
            refine k_iast (v := ((G1 1 r101.toNatClampNeg) + (1 : Int32))) hx hb hK hM hJ hA hS 1 rfl g108 dX4_feeds_108 (fun H locs hM hS => ?_)
            obtain ⟨G110, eG110, h⟩ := olet_s h
            rw [eG110] at hM
            refine lv_goto (tgt := 158) hx hb dX4_feeds_109 (by decide) ?_
            refine lv_iinc (v := (x4 + 1)) (lv' := [(4, .int (x4 + 1)), (3, .int (x3 + (1 : Int32))), (5, .int (r40 - r46)), (0, .ref (q 0)), (1, .int p1), (2, .int p2)]) hx hb dX4_feeds_158 hl (k := 5) rfl (congrArg (fun z : Int32 => x4 + z) (show Int32.ofInt (1) = 1 by decide)) (by decide) rfl (fun ls hl => ?_)
            refine lv_goto (tgt := 29) hx hb dX4_feeds_161 (by decide) ?_
            exact ih G110 (x3 + (1 : Int32)) (x4 + 1) _ _ _ h hM hS (lv_sub hl [3, 4, 5, 1, 0] rfl)
        · replace h := ite_t h c60
          refine lv_aload_n hx hb dX4_feeds_63 rfl (lv_at hl 1 rfl) ?_
          refine lv_iload hx hb dX4_feeds_64 (lv_at hl 5 rfl) ?_
          obtain ⟨r66, e66, h⟩ := bind_s h
          refine k_cI (va_runV (As := [.int x4]) (rest := []) ⟨hx, hb, hml, hown, hts⟩ (kX4_inBag l D cI cR q G1 K x4 r66 e66) (cwV 1 hts gX4_feeds_X4_inBag rfl rfl rfl (by decide +kernel) ⟨Nat.le_of_ble_eq_true rfl, Nat.le_of_ble_eq_true rfl⟩) (mPreV hK hM 0 rfl rfl) rfl rfl hl.1 rfl (lv_room (Nat.le_of_ble_eq_true rfl)) dX4_feeds_66 ⟨Nat.le_of_ble_eq_true rfl, Nat.le_of_ble_eq_true rfl⟩) hS hM (fun H locs hM hS => ?_)
          refine lv_bipush (v := 40) hx hb dX4_feeds_69 (by decide) ?_
          refine lv_icmp_eq (tgt := 79) hx hb dX4_feeds_71 (by decide) (fun c71 => ?_) (fun c71 => ?_)
          · replace h := ite_t h c71
            refine lv_iload_n hx hb dX4_feeds_79 rfl (lv_at hl 4 rfl) ?_
            refine lv_iload_n hx hb dX4_feeds_80 rfl (lv_at hl 4 rfl) ?_
            refine lv_sipush (v := 999) hx hb dX4_feeds_81 (by decide) ?_
            refine lv_icmp_ge (tgt := 91) hx hb dX4_feeds_84 (by decide) (fun c84 => ?_) (fun c84 => ?_)
            · replace h := ite_t h c84
              refine lv_iconst (v := 0) hx hb dX4_feeds_91 (by decide) ?_
              refine lv_iadd hx hb dX4_feeds_92 ?_
              refine lv_istore_n (lv' := [(3, .int (x3 + (0 : Int32))), (5, .int (r40 - r46)), (0, .ref (q 0)), (1, .int p1), (2, .int p2), (4, .int x4)]) hx hb dX4_feeds_93 rfl hl (by decide) rfl (fun ls hl => ?_)
              refine lv_aload_n hx hb dX4_feeds_94 rfl (lv_at hl 2 rfl) ?_
              refine k_getR (C := RX4) (T := TX4) (N := 10) hx hb hts iX4 hown hK hM 0 rfl rfl 0 (by decide) rfl w0 (fun _ h9 => h9) dX4_feeds_95 ?_
              refine lv_iload hx hb dX4_feeds_98 (lv_at hl 5 rfl) ?_
              refine lv_iconst (v := 4) hx hb dX4_feeds_100 (by decide) ?_
              obtain ⟨r101, e101, h⟩ := bind_s h
              refine k_cI (va_runS (As := [.int x4, .int (4 : Int32)]) (rest := [.ref (q 1)]) ⟨hx, hb, hml, hown, hts⟩ (kX4_railAt l D cI cR q G1 K x4 (4 : Int32) r101 e101) (va_cwS 2 hts gX4_feeds_X4_railAt rfl rfl rfl (by decide +kernel) ⟨Nat.le_of_ble_eq_true rfl, Nat.le_of_ble_eq_true rfl⟩) (mPreS hK hM) rfl rfl hl.1 rfl (lv_room (Nat.le_of_ble_eq_true rfl)) dX4_feeds_101 ⟨Nat.le_of_ble_eq_true rfl, Nat.le_of_ble_eq_true rfl⟩) hS hM (fun H locs hM hS => ?_)
              refine lv_dup2_11 hx hb dX4_feeds_104 rfl rfl ?_
              obtain ⟨g105, h⟩ := grd_s h
              refine k_iald hx hb hK hM 1 rfl g105 dX4_feeds_105 ?_
              refine lv_iconst (v := 1) hx hb dX4_feeds_106 (by decide) ?_
              refine lv_iadd hx hb dX4_feeds_107 ?_
              obtain ⟨g108, h⟩ := grd_s h
              refine k_iast (v := ((G1 1 r101.toNatClampNeg) + (1 : Int32))) hx hb hK hM hJ hA hS 1 rfl g108 dX4_feeds_108 (fun H locs hM hS => ?_)
              obtain ⟨G110, eG110, h⟩ := olet_s h
              rw [eG110] at hM
              refine lv_goto (tgt := 158) hx hb dX4_feeds_109 (by decide) ?_
              refine lv_iinc (v := (x4 + 1)) (lv' := [(4, .int (x4 + 1)), (3, .int (x3 + (0 : Int32))), (5, .int (r40 - r46)), (0, .ref (q 0)), (1, .int p1), (2, .int p2)]) hx hb dX4_feeds_158 hl (k := 5) rfl (congrArg (fun z : Int32 => x4 + z) (show Int32.ofInt (1) = 1 by decide)) (by decide) rfl (fun ls hl => ?_)
              refine lv_goto (tgt := 29) hx hb dX4_feeds_161 (by decide) ?_
              exact ih G110 (x3 + (0 : Int32)) (x4 + 1) _ _ _ h hM hS (lv_sub hl [3, 4, 5, 1, 0] rfl)
            · replace h := ite_f h c84
              refine lv_iconst (v := 1) hx hb dX4_feeds_87 (by decide) ?_
              refine lv_goto (tgt := 92) hx hb dX4_feeds_88 (by decide) ?_
              refine lv_iadd hx hb dX4_feeds_92 ?_
              refine lv_istore_n (lv' := [(3, .int (x3 + (1 : Int32))), (5, .int (r40 - r46)), (0, .ref (q 0)), (1, .int p1), (2, .int p2), (4, .int x4)]) hx hb dX4_feeds_93 rfl hl (by decide) rfl (fun ls hl => ?_)
              refine lv_aload_n hx hb dX4_feeds_94 rfl (lv_at hl 2 rfl) ?_
              refine k_getR (C := RX4) (T := TX4) (N := 10) hx hb hts iX4 hown hK hM 0 rfl rfl 0 (by decide) rfl w0 (fun _ h9 => h9) dX4_feeds_95 ?_
              refine lv_iload hx hb dX4_feeds_98 (lv_at hl 5 rfl) ?_
              refine lv_iconst (v := 4) hx hb dX4_feeds_100 (by decide) ?_
              obtain ⟨r101, e101, h⟩ := bind_s h
              refine k_cI (va_runS (As := [.int x4, .int (4 : Int32)]) (rest := [.ref (q 1)]) ⟨hx, hb, hml, hown, hts⟩ (kX4_railAt l D cI cR q G1 K x4 (4 : Int32) r101 e101) (va_cwS 2 hts gX4_feeds_X4_railAt rfl rfl rfl (by decide +kernel) ⟨Nat.le_of_ble_eq_true rfl, Nat.le_of_ble_eq_true rfl⟩) (mPreS hK hM) rfl rfl hl.1 rfl (lv_room (Nat.le_of_ble_eq_true rfl)) dX4_feeds_101 ⟨Nat.le_of_ble_eq_true rfl, Nat.le_of_ble_eq_true rfl⟩) hS hM (fun H locs hM hS => ?_)
              refine lv_dup2_11 hx hb dX4_feeds_104 rfl rfl ?_
              obtain ⟨g105, h⟩ := grd_s h
              refine k_iald hx hb hK hM 1 rfl g105 dX4_feeds_105 ?_
              refine lv_iconst (v := 1) hx hb dX4_feeds_106 (by decide) ?_
              refine lv_iadd hx hb dX4_feeds_107 ?_
              obtain ⟨g108, h⟩ := grd_s h
              refine k_iast (v := ((G1 1 r101.toNatClampNeg) + (1 : Int32))) hx hb hK hM hJ hA hS 1 rfl g108 dX4_feeds_108 (fun H locs hM hS => ?_)
              obtain ⟨G110, eG110, h⟩ := olet_s h
              rw [eG110] at hM
              refine lv_goto (tgt := 158) hx hb dX4_feeds_109 (by decide) ?_
              refine lv_iinc (v := (x4 + 1)) (lv' := [(4, .int (x4 + 1)), (3, .int (x3 + (1 : Int32))), (5, .int (r40 - r46)), (0, .ref (q 0)), (1, .int p1), (2, .int p2)]) hx hb dX4_feeds_158 hl (k := 5) rfl (congrArg (fun z : Int32 => x4 + z) (show Int32.ofInt (1) = 1 by decide)) (by decide) rfl (fun ls hl => ?_)
              refine lv_goto (tgt := 29) hx hb dX4_feeds_161 (by decide) ?_
              exact ih G110 (x3 + (1 : Int32)) (x4 + 1) _ _ _ h hM hS (lv_sub hl [3, 4, 5, 1, 0] rfl)
          · replace h := ite_f h c71
            refine lv_iload hx hb dX4_feeds_74 (lv_at hl 0 rfl) ?_
            refine lv_if_gt (tgt := 112) hx hb dX4_feeds_76 (by decide) (fun c76 => ?_) (fun c76 => ?_)
            · replace h := ite_t h c76
              refine lv_iload hx hb dX4_feeds_112 (lv_at hl 0 rfl) ?_
              refine lv_iconst (v := 5) hx hb dX4_feeds_114 (by decide) ?_
              refine lv_icmp_ge (tgt := 148) hx hb dX4_feeds_115 (by decide) (fun c115 => ?_) (fun c115 => ?_)
              · replace h := ite_t h c115
                refine lv_aload_n hx hb dX4_feeds_148 rfl (lv_at hl 1 rfl) ?_
                refine lv_iload hx hb dX4_feeds_149 (lv_at hl 5 rfl) ?_
                refine lv_iload_n hx hb dX4_feeds_151 rfl (lv_at hl 2 rfl) ?_
                obtain ⟨r152, e152, h⟩ := bind_s h
                refine k_cVW (va_runV (As := [.int x4, .int p1]) (rest := []) ⟨hx, hb, hml, hown, hts⟩ (kX4_falls l D cI cR q G1 K x4 p1 hJ r152 e152) (cwV 2 hts gX4_feeds_X4_falls rfl rfl rfl (by decide +kernel) ⟨Nat.le_of_ble_eq_true rfl, Nat.le_of_ble_eq_true rfl⟩) (mPreV hK hM 0 rfl rfl) rfl rfl hl.1 rfl (lv_room (Nat.le_of_ble_eq_true rfl)) dX4_feeds_152 ⟨Nat.le_of_ble_eq_true rfl, Nat.le_of_ble_eq_true rfl⟩) hS hA (fun H locs hM hS => ?_)
                refine lv_iload hx hb dX4_feeds_155 (lv_at hl 5 rfl) ?_
                have h := Option.some.inj h
                exact W.iret (v := x4) hx hb hr (fun t ht hW => ⟨⟨x4, (), rfl, p_fst h, w_end ht hM (p_snd h)⟩, hS.F ht⟩) hS.2.2 dX4_feeds_157
              · replace h := ite_f h c115
                refine lv_aload_n hx hb dX4_feeds_118 rfl (lv_at hl 1 rfl) ?_
                refine k_getR (C := RX4) (T := TX4) (N := 10) hx hb hts iX4 hown hK hM 0 rfl rfl 0 (by decide) rfl w0 (fun _ h9 => h9) dX4_feeds_119 ?_
                refine lv_iload hx hb dX4_feeds_122 (lv_at hl 5 rfl) ?_
                refine lv_iconst (v := 2) hx hb dX4_feeds_124 (by decide) ?_
                obtain ⟨r125, e125, h⟩ := bind_s h
                refine k_cI (va_runS (As := [.int x4, .int (2 : Int32)]) (rest := [.ref (q 1)]) ⟨hx, hb, hml, hown, hts⟩ (kX4_railAt l D cI cR q G1 K x4 (2 : Int32) r125 e125) (va_cwS 2 hts gX4_feeds_X4_railAt rfl rfl rfl (by decide +kernel) ⟨Nat.le_of_ble_eq_true rfl, Nat.le_of_ble_eq_true rfl⟩) (mPreS hK hM) rfl rfl hl.1 rfl (lv_room (Nat.le_of_ble_eq_true rfl)) dX4_feeds_125 ⟨Nat.le_of_ble_eq_true rfl, Nat.le_of_ble_eq_true rfl⟩) hS hM (fun H locs hM hS => ?_)
                refine lv_iload_n hx hb dX4_feeds_128 rfl (lv_at hl 2 rfl) ?_
                obtain ⟨g129, h⟩ := grd_s h
                refine k_iast (v := p1) hx hb hK hM hJ hA hS 1 rfl g129 dX4_feeds_129 (fun H locs hM hS => ?_)
                obtain ⟨G131, eG131, h⟩ := olet_s h
                rw [eG131] at hM
                refine lv_aload_n hx hb dX4_feeds_130 rfl (lv_at hl 1 rfl) ?_
                refine k_getR (C := RX4) (T := TX4) (N := 10) hx hb hts iX4 hown hK hM 0 rfl rfl 0 (by decide) rfl w0 (fun _ h9 => h9) dX4_feeds_131 ?_
                refine lv_iload hx hb dX4_feeds_134 (lv_at hl 5 rfl) ?_
                refine lv_iconst (v := 3) hx hb dX4_feeds_136 (by decide) ?_
                obtain ⟨r137, e137, h⟩ := bind_s h
                refine k_cI (va_runS (As := [.int x4, .int (3 : Int32)]) (rest := [.ref (q 1)]) ⟨hx, hb, hml, hown, hts⟩ (kX4_railAt l D cI cR q G131 K x4 (3 : Int32) r137 e137) (va_cwS 2 hts gX4_feeds_X4_railAt rfl rfl rfl (by decide +kernel) ⟨Nat.le_of_ble_eq_true rfl, Nat.le_of_ble_eq_true rfl⟩) (mPreS hK hM) rfl rfl hl.1 rfl (lv_room (Nat.le_of_ble_eq_true rfl)) dX4_feeds_137 ⟨Nat.le_of_ble_eq_true rfl, Nat.le_of_ble_eq_true rfl⟩) hS hM (fun H locs hM hS => ?_)
                refine lv_iload_n hx hb dX4_feeds_140 rfl (lv_at hl 4 rfl) ?_
                obtain ⟨g141, h⟩ := grd_s h
                refine k_iast (v := x3) hx hb hK hM hJ hA hS 1 rfl g141 dX4_feeds_141 (fun H locs hM hS => ?_)
                obtain ⟨G143, eG143, h⟩ := olet_s h
                rw [eG143] at hM
                refine lv_bipush (v := 10) hx hb dX4_feeds_142 (by decide) ?_
                refine lv_iload hx hb dX4_feeds_144 (lv_at hl 5 rfl) ?_
                refine lv_iadd hx hb dX4_feeds_146 ?_
                have h := Option.some.inj h
                exact W.iret (v := ((10 : Int32) + x4)) hx hb hr (fun t ht hW => ⟨⟨((10 : Int32) + x4), (), rfl, p_fst h, w_end ht hM (p_snd h)⟩, hS.F ht⟩) hS.2.2 dX4_feeds_147
            · replace h := ite_f h c76
              refine lv_iload_n hx hb dX4_feeds_79 rfl (lv_at hl 4 rfl) ?_
              refine lv_iload_n hx hb dX4_feeds_80 rfl (lv_at hl 4 rfl) ?_
              refine lv_sipush (v := 999) hx hb dX4_feeds_81 (by decide) ?_
              refine lv_icmp_ge (tgt := 91) hx hb dX4_feeds_84 (by decide) (fun c84 => ?_) (fun c84 => ?_)
              · replace h := ite_t h c84
                refine lv_iconst (v := 0) hx hb dX4_feeds_91 (by decide) ?_
                refine lv_iadd hx hb dX4_feeds_92 ?_
                refine lv_istore_n (lv' := [(3, .int (x3 + (0 : Int32))), (5, .int (r40 - r46)), (0, .ref (q 0)), (1, .int p1), (2, .int p2), (4, .int x4)]) hx hb dX4_feeds_93 rfl hl (by decide) rfl (fun ls hl => ?_)
                refine lv_aload_n hx hb dX4_feeds_94 rfl (lv_at hl 2 rfl) ?_
                refine k_getR (C := RX4) (T := TX4) (N := 10) hx hb hts iX4 hown hK hM 0 rfl rfl 0 (by decide) rfl w0 (fun _ h9 => h9) dX4_feeds_95 ?_
                refine lv_iload hx hb dX4_feeds_98 (lv_at hl 5 rfl) ?_
                refine lv_iconst (v := 4) hx hb dX4_feeds_100 (by decide) ?_
                obtain ⟨r101, e101, h⟩ := bind_s h
                refine k_cI (va_runS (As := [.int x4, .int (4 : Int32)]) (rest := [.ref (q 1)]) ⟨hx, hb, hml, hown, hts⟩ (kX4_railAt l D cI cR q G1 K x4 (4 : Int32) r101 e101) (va_cwS 2 hts gX4_feeds_X4_railAt rfl rfl rfl (by decide +kernel) ⟨Nat.le_of_ble_eq_true rfl, Nat.le_of_ble_eq_true rfl⟩) (mPreS hK hM) rfl rfl hl.1 rfl (lv_room (Nat.le_of_ble_eq_true rfl)) dX4_feeds_101 ⟨Nat.le_of_ble_eq_true rfl, Nat.le_of_ble_eq_true rfl⟩) hS hM (fun H locs hM hS => ?_)
                refine lv_dup2_11 hx hb dX4_feeds_104 rfl rfl ?_
                obtain ⟨g105, h⟩ := grd_s h
                refine k_iald hx hb hK hM 1 rfl g105 dX4_feeds_105 ?_
                refine lv_iconst (v := 1) hx hb dX4_feeds_106 (by decide) ?_
                refine lv_iadd hx hb dX4_feeds_107 ?_
                obtain ⟨g108, h⟩ := grd_s h
                refine k_iast (v := ((G1 1 r101.toNatClampNeg) + (1 : Int32))) hx hb hK hM hJ hA hS 1 rfl g108 dX4_feeds_108 (fun H locs hM hS => ?_)
                obtain ⟨G110, eG110, h⟩ := olet_s h
                rw [eG110] at hM
                refine lv_goto (tgt := 158) hx hb dX4_feeds_109 (by decide) ?_
                refine lv_iinc (v := (x4 + 1)) (lv' := [(4, .int (x4 + 1)), (3, .int (x3 + (0 : Int32))), (5, .int (r40 - r46)), (0, .ref (q 0)), (1, .int p1), (2, .int p2)]) hx hb dX4_feeds_158 hl (k := 5) rfl (congrArg (fun z : Int32 => x4 + z) (show Int32.ofInt (1) = 1 by decide)) (by decide) rfl (fun ls hl => ?_)
                refine lv_goto (tgt := 29) hx hb dX4_feeds_161 (by decide) ?_
                exact ih G110 (x3 + (0 : Int32)) (x4 + 1) _ _ _ h hM hS (lv_sub hl [3, 4, 5, 1, 0] rfl)
              · replace h := ite_f h c84
                refine lv_iconst (v := 1) hx hb dX4_feeds_87 (by decide) ?_
                refine lv_goto (tgt := 92) hx hb dX4_feeds_88 (by decide) ?_
                refine lv_iadd hx hb dX4_feeds_92 ?_
                refine lv_istore_n (lv' := [(3, .int (x3 + (1 : Int32))), (5, .int (r40 - r46)), (0, .ref (q 0)), (1, .int p1), (2, .int p2), (4, .int x4)]) hx hb dX4_feeds_93 rfl hl (by decide) rfl (fun ls hl => ?_)
                refine lv_aload_n hx hb dX4_feeds_94 rfl (lv_at hl 2 rfl) ?_
                refine k_getR (C := RX4) (T := TX4) (N := 10) hx hb hts iX4 hown hK hM 0 rfl rfl 0 (by decide) rfl w0 (fun _ h9 => h9) dX4_feeds_95 ?_
                refine lv_iload hx hb dX4_feeds_98 (lv_at hl 5 rfl) ?_
                refine lv_iconst (v := 4) hx hb dX4_feeds_100 (by decide) ?_
                obtain ⟨r101, e101, h⟩ := bind_s h
                refine k_cI (va_runS (As := [.int x4, .int (4 : Int32)]) (rest := [.ref (q 1)]) ⟨hx, hb, hml, hown, hts⟩ (kX4_railAt l D cI cR q G1 K x4 (4 : Int32) r101 e101) (va_cwS 2 hts gX4_feeds_X4_railAt rfl rfl rfl (by decide +kernel) ⟨Nat.le_of_ble_eq_true rfl, Nat.le_of_ble_eq_true rfl⟩) (mPreS hK hM) rfl rfl hl.1 rfl (lv_room (Nat.le_of_ble_eq_true rfl)) dX4_feeds_101 ⟨Nat.le_of_ble_eq_true rfl, Nat.le_of_ble_eq_true rfl⟩) hS hM (fun H locs hM hS => ?_)
                refine lv_dup2_11 hx hb dX4_feeds_104 rfl rfl ?_
                obtain ⟨g105, h⟩ := grd_s h
                refine k_iald hx hb hK hM 1 rfl g105 dX4_feeds_105 ?_
                refine lv_iconst (v := 1) hx hb dX4_feeds_106 (by decide) ?_
                refine lv_iadd hx hb dX4_feeds_107 ?_
                obtain ⟨g108, h⟩ := grd_s h
                refine k_iast (v := ((G1 1 r101.toNatClampNeg) + (1 : Int32))) hx hb hK hM hJ hA hS 1 rfl g108 dX4_feeds_108 (fun H locs hM hS => ?_)
                obtain ⟨G110, eG110, h⟩ := olet_s h
                rw [eG110] at hM
                refine lv_goto (tgt := 158) hx hb dX4_feeds_109 (by decide) ?_
                refine lv_iinc (v := (x4 + 1)) (lv' := [(4, .int (x4 + 1)), (3, .int (x3 + (1 : Int32))), (5, .int (r40 - r46)), (0, .ref (q 0)), (1, .int p1), (2, .int p2)]) hx hb dX4_feeds_158 hl (k := 5) rfl (congrArg (fun z : Int32 => x4 + z) (show Int32.ofInt (1) = 1 by decide)) (by decide) rfl (fun ls hl => ?_)
                refine lv_goto (tgt := 29) hx hb dX4_feeds_161 (by decide) ?_
                exact ih G110 (x3 + (1 : Int32)) (x4 + 1) _ _ _ h hM hS (lv_sub hl [3, 4, 5, 1, 0] rfl)
  subst hargs
  have hl := lv_entry ([.ref (q 0), .int p1, .int p2]) (n := 6) (Nat.le_of_ble_eq_true rfl)
  rw [lg_entry_eq]
  generalize (lg_sl ([.ref (q 0), .int p1, .int p2]) ++ List.replicate (6 - (lg_sl ([.ref (q 0), .int p1, .int p2])).length) Slot.unset).toArray = ls at hl ⊢
  have hl : lv_has ls 6 [(0, .ref (q 0)), (1, .int p1), (2, .int p2)] := hl
  have h := hs
  unfold sX4_feeds at h
  have hM0 := hM
  refine lv_iload_n hx hb dX4_feeds_0 rfl (lv_at hl 2 rfl) ?_
  refine lv_istore_n (lv' := [(3, .int p2), (0, .ref (q 0)), (1, .int p1), (2, .int p2)]) hx hb dX4_feeds_1 rfl hl (by decide) rfl (fun ls hl => ?_)
  refine lv_aload_n hx hb dX4_feeds_2 rfl (lv_at hl 1 rfl) ?_
  refine k_getR (C := RX4) (T := TX4) (N := 10) hx hb hts iX4 hown hK hM 0 rfl rfl 0 (by decide) rfl w0 (fun _ h9 => h9) dX4_feeds_3 ?_
  refine lv_iconst (v := 1) hx hb dX4_feeds_6 (by decide) ?_
  refine lv_dup2_11 hx hb dX4_feeds_7 rfl rfl ?_
  obtain ⟨g8, h⟩ := grd_s h
  refine k_iald hx hb hK hM 1 rfl g8 dX4_feeds_8 ?_
  refine lv_iconst (v := 1) hx hb dX4_feeds_9 (by decide) ?_
  refine lv_iadd hx hb dX4_feeds_10 ?_
  obtain ⟨g11, h⟩ := grd_s h
  refine k_iast (v := ((G 1 (1 : Int32).toNatClampNeg) + (1 : Int32))) hx hb hK hM hJ hA hS 1 rfl g11 dX4_feeds_11 (fun H locs hM hS => ?_)
  obtain ⟨G13, eG13, h⟩ := olet_s h
  rw [eG13] at hM
  refine lv_aload_n hx hb dX4_feeds_12 rfl (lv_at hl 1 rfl) ?_
  refine k_getR (C := RX4) (T := TX4) (N := 10) hx hb hts iX4 hown hK hM 0 rfl rfl 0 (by decide) rfl w0 (fun _ h9 => h9) dX4_feeds_13 ?_
  refine lv_iload_n hx hb dX4_feeds_16 rfl (lv_at hl 2 rfl) ?_
  refine lv_iconst (v := 3) hx hb dX4_feeds_17 (by decide) ?_
  obtain ⟨r18, e18, h⟩ := bind_s h
  refine k_cI (va_runS (As := [.int p1, .int (3 : Int32)]) (rest := [.ref (q 1)]) ⟨hx, hb, hml, hown, hts⟩ (kX4_kindAt l D cI cR q G13 K p1 (3 : Int32) r18 e18) (va_cwS 2 hts gX4_feeds_X4_kindAt rfl rfl rfl (by decide +kernel) ⟨Nat.le_of_ble_eq_true rfl, Nat.le_of_ble_eq_true rfl⟩) (mPreS hK hM) rfl rfl hl.1 rfl (lv_room (Nat.le_of_ble_eq_true rfl)) dX4_feeds_18 ⟨Nat.le_of_ble_eq_true rfl, Nat.le_of_ble_eq_true rfl⟩) hS hM (fun H locs hM hS => ?_)
  refine lv_dup2_11 hx hb dX4_feeds_21 rfl rfl ?_
  obtain ⟨g22, h⟩ := grd_s h
  refine k_iald hx hb hK hM 1 rfl g22 dX4_feeds_22 ?_
  refine lv_iconst (v := 1) hx hb dX4_feeds_23 (by decide) ?_
  refine lv_iadd hx hb dX4_feeds_24 ?_
  obtain ⟨g25, h⟩ := grd_s h
  refine k_iast (v := ((G13 1 r18.toNatClampNeg) + (1 : Int32))) hx hb hK hM hJ hA hS 1 rfl g25 dX4_feeds_25 (fun H locs hM hS => ?_)
  obtain ⟨G27, eG27, h⟩ := olet_s h
  rw [eG27] at hM
  refine lv_iconst (v := 0) hx hb dX4_feeds_26 (by decide) ?_
  refine lv_istore (lv' := [(4, .int (0 : Int32)), (3, .int p2), (0, .ref (q 0)), (1, .int p1), (2, .int p2)]) hx hb dX4_feeds_27 hl (by decide) rfl (fun ls hl => ?_)
  exact L29 K G27 p2 (0 : Int32) _ _ _ h hM hS (lv_sub hl [2, 3, 4, 1, 0] rfl)
set_option maxHeartbeats 4000000 in
set_option maxRecDepth 100000 in
theorem kX4_feed (l : Launch) (D : va_G) (cI cR : ClassId) (q : Nat → Nat) (G : Nat → Nat → Int32) (K : Nat) (p1 : Int32) (p2 : Int32) (hJ : MJ tmM q) (r : (Int32 × (Nat → Nat → Int32))) (hs : sX4_feed K G p1 p2 = some r) : Met l yX4_feed wsX4_feed ({ frames := 4, cells := 0, slots := 0, locals := 91 } : Room) (mPre [.ref (q 0), .int p1, .int p2] D cI cR q tmM G) (mIW D cI cR q tmM r) 0 0 (MA tmM q) := by
  refine Met.ofW (cc := cX4_feed) (maxL := 3) (ret := (some .int)) (by decide) rfl ?_
  intro p e s m args below meth c s₁ B hml hv
  obtain ⟨hargs, hM, hK⟩ := hv
  have hx := B.exec
  have hb := B.bytes
  have hr := B.returns
  have hts := atoms_spec (ws := wsX4_feed) B.pre
  have hown : s.vm.findClass RX4 = some m.cls := findClass_of_methodNamed B.named
  have hlocks := B.notSynchronized
  have hA : ∀ a, MA tmM q a → MA tmM q a := fun _ h => h
  have hS : va_S (MA tmM q) s.heap s.heap [] := va_S.rf
  have w0 := hts (Cond.constantLong RX4 92 (999)) (List.mem_of_getElem? (i := 1) (by decide +kernel))
  subst hargs
  have hl := lv_entry ([.ref (q 0), .int p1, .int p2]) (n := 3) (Nat.le_of_ble_eq_true rfl)
  rw [lg_entry_eq]
  generalize (lg_sl ([.ref (q 0), .int p1, .int p2]) ++ List.replicate (3 - (lg_sl ([.ref (q 0), .int p1, .int p2])).length) Slot.unset).toArray = ls at hl ⊢
  have hl : lv_has ls 3 [(0, .ref (q 0)), (1, .int p1), (2, .int p2)] := hl
  have h := hs
  unfold sX4_feed at h
  have hM0 := hM
  refine lv_aload_n hx hb dX4_feed_0 rfl (lv_at hl 0 rfl) ?_
  refine lv_iload_n hx hb dX4_feed_1 rfl (lv_at hl 1 rfl) ?_
  obtain ⟨r2, e2, h⟩ := bind_s h
  refine k_cI (va_runV (As := [.int p1]) (rest := []) ⟨hx, hb, hml, hown, hts⟩ (kX4_isKind l D cI cR q G K p1 r2 e2) (cwV 1 hts gX4_feed_X4_isKind rfl rfl rfl (by decide +kernel) ⟨Nat.le_of_ble_eq_true rfl, Nat.le_of_ble_eq_true rfl⟩) (mPreV hK hM 0 rfl rfl) rfl rfl hl.1 rfl (lv_room (Nat.le_of_ble_eq_true rfl)) dX4_feed_2 ⟨Nat.le_of_ble_eq_true rfl, Nat.le_of_ble_eq_true rfl⟩) hS hM (fun H locs hM hS => ?_)
  refine lv_if_ne (tgt := 14) hx hb dX4_feed_5 (by decide) (fun c5 => ?_) (fun c5 => ?_)
  · replace h := ite_f h c5
    refine lv_iload_n hx hb dX4_feed_14 rfl (lv_at hl 2 rfl) ?_
    refine lv_i2l (v := p2.toInt64) hx hb dX4_feed_15 rfl ?_
    refine lv_lconst (v := 0) hx hb dX4_feed_16 (by decide) ?_
    refine lv_ldc2 hx hb hown w0 dX4_feed_17 ?_
    obtain ⟨r20, e20, h⟩ := bind_s h
    refine k_cI (va_runS (As := [.long p2.toInt64, .long (0 : Int64), .long (999 : Int64)]) (rest := []) ⟨hx, hb, hml, hown, hts⟩ (kX4_in l D cI cR q G K p2.toInt64 (0 : Int64) (999 : Int64) r20 e20) (va_cwS 3 hts gX4_feed_X4_in rfl rfl rfl (by decide +kernel) ⟨Nat.le_of_ble_eq_true rfl, Nat.le_of_ble_eq_true rfl⟩) (mPreS hK hM) rfl rfl hl.1 rfl (lv_room (Nat.le_of_ble_eq_true rfl)) dX4_feed_20 ⟨Nat.le_of_ble_eq_true rfl, Nat.le_of_ble_eq_true rfl⟩) hS hM (fun H locs hM hS => ?_)
    refine lv_if_ne (tgt := 32) hx hb dX4_feed_23 (by decide) (fun c23 => ?_) (fun c23 => ?_)
    · replace h := ite_f h c23
      refine lv_aload_n hx hb dX4_feed_32 rfl (lv_at hl 0 rfl) ?_
      obtain ⟨r33, e33, h⟩ := bind_s h
      refine k_cVW (va_runV (As := []) (rest := []) ⟨hx, hb, hml, hown, hts⟩ (kX4_save l D cI cR q G K hJ r33 e33) (cwV 0 hts gX4_feed_X4_save rfl rfl rfl (by decide +kernel) ⟨Nat.le_of_ble_eq_true rfl, Nat.le_of_ble_eq_true rfl⟩) (mPreV hK hM 0 rfl rfl) rfl rfl hl.1 rfl (lv_room (Nat.le_of_ble_eq_true rfl)) dX4_feed_33 ⟨Nat.le_of_ble_eq_true rfl, Nat.le_of_ble_eq_true rfl⟩) hS hA (fun H locs hM hS => ?_)
      refine lv_aload_n hx hb dX4_feed_36 rfl (lv_at hl 0 rfl) ?_
      refine lv_aload_n hx hb dX4_feed_37 rfl (lv_at hl 0 rfl) ?_
      refine lv_iload_n hx hb dX4_feed_38 rfl (lv_at hl 1 rfl) ?_
      refine lv_iload_n hx hb dX4_feed_39 rfl (lv_at hl 2 rfl) ?_
      obtain ⟨r40, e40, h⟩ := bind_s h
      refine k_cIW (va_runV (As := [.int p1, .int p2]) (rest := [.ref (q 0)]) ⟨hx, hb, hml, hown, hts⟩ (kX4_feeds l D cI cR q r33 K p1 p2 hJ r40 e40) (cwV 2 hts gX4_feed_X4_feeds rfl rfl rfl (by decide +kernel) ⟨Nat.le_of_ble_eq_true rfl, Nat.le_of_ble_eq_true rfl⟩) (mPreV hK hM 0 rfl rfl) rfl rfl hl.1 rfl (lv_room (Nat.le_of_ble_eq_true rfl)) dX4_feed_40 ⟨Nat.le_of_ble_eq_true rfl, Nat.le_of_ble_eq_true rfl⟩) hS hA (fun H locs hM hS => ?_)
      obtain ⟨r43, e43, h⟩ := bind_s h
      refine k_cIW (va_runV (As := [.int r40.1]) (rest := []) ⟨hx, hb, hml, hown, hts⟩ (kX4_fine l D cI cR q r40.2 K r40.1 hJ r43 e43) (cwV 1 hts gX4_feed_X4_fine rfl rfl rfl (by decide +kernel) ⟨Nat.le_of_ble_eq_true rfl, Nat.le_of_ble_eq_true rfl⟩) (mPreV hK hM 0 rfl rfl) rfl rfl hl.1 rfl (lv_room (Nat.le_of_ble_eq_true rfl)) dX4_feed_43 ⟨Nat.le_of_ble_eq_true rfl, Nat.le_of_ble_eq_true rfl⟩) hS hA (fun H locs hM hS => ?_)
      have h := Option.some.inj h
      exact W.iret (v := r43.1) hx hb hr (fun t ht hW => ⟨⟨r43.1, (), rfl, p_fst h, w_end ht hM (p_snd h)⟩, hS.F ht⟩) hS.2.2 dX4_feed_46
    · replace h := ite_t h c23
      refine lv_aload_n hx hb dX4_feed_26 rfl (lv_at hl 0 rfl) ?_
      refine lv_iconst (v := 2) hx hb dX4_feed_27 (by decide) ?_
      obtain ⟨r28, e28, h⟩ := bind_s h
      refine k_cIW (va_runV (As := [.int (2 : Int32)]) (rest := []) ⟨hx, hb, hml, hown, hts⟩ (kX4_throwing l D cI cR q G K (2 : Int32) hJ r28 e28) (cwV 1 hts gX4_feed_X4_throwing rfl rfl rfl (by decide +kernel) ⟨Nat.le_of_ble_eq_true rfl, Nat.le_of_ble_eq_true rfl⟩) (mPreV hK hM 0 rfl rfl) rfl rfl hl.1 rfl (lv_room (Nat.le_of_ble_eq_true rfl)) dX4_feed_28 ⟨Nat.le_of_ble_eq_true rfl, Nat.le_of_ble_eq_true rfl⟩) hS hA (fun H locs hM hS => ?_)
      have h := Option.some.inj h
      exact W.iret (v := r28.1) hx hb hr (fun t ht hW => ⟨⟨r28.1, (), rfl, p_fst h, w_end ht hM (p_snd h)⟩, hS.F ht⟩) hS.2.2 dX4_feed_31
  · replace h := ite_t h c5
    refine lv_aload_n hx hb dX4_feed_8 rfl (lv_at hl 0 rfl) ?_
    refine lv_iconst (v := 1) hx hb dX4_feed_9 (by decide) ?_
    obtain ⟨r10, e10, h⟩ := bind_s h
    refine k_cIW (va_runV (As := [.int (1 : Int32)]) (rest := []) ⟨hx, hb, hml, hown, hts⟩ (kX4_throwing l D cI cR q G K (1 : Int32) hJ r10 e10) (cwV 1 hts gX4_feed_X4_throwing rfl rfl rfl (by decide +kernel) ⟨Nat.le_of_ble_eq_true rfl, Nat.le_of_ble_eq_true rfl⟩) (mPreV hK hM 0 rfl rfl) rfl rfl hl.1 rfl (lv_room (Nat.le_of_ble_eq_true rfl)) dX4_feed_10 ⟨Nat.le_of_ble_eq_true rfl, Nat.le_of_ble_eq_true rfl⟩) hS hA (fun H locs hM hS => ?_)
    have h := Option.some.inj h
    exact W.iret (v := r10.1) hx hb hr (fun t ht hW => ⟨⟨r10.1, (), rfl, p_fst h, w_end ht hM (p_snd h)⟩, hS.F ht⟩) hS.2.2 dX4_feed_13
set_option maxHeartbeats 4000000 in
set_option maxRecDepth 100000 in
theorem kX4_feedSome (l : Launch) (D : va_G) (cI cR : ClassId) (q : Nat → Nat) (G : Nat → Nat → Int32) (K : Nat) (p1 : Int32) (p2 : Int32) (hJ : MJ tmM q) (r : (Int32 × (Nat → Nat → Int32))) (hs : sX4_feedSome K G p1 p2 = some r) : Met l yX4_feedSome wsX4_feedSome ({ frames := 4, cells := 0, slots := 0, locals := 91 } : Room) (mPre [.ref (q 0), .int p1, .int p2] D cI cR q tmM G) (mIW D cI cR q tmM r) 0 0 (MA tmM q) := by
  refine Met.ofW (cc := cX4_feedSome) (maxL := 8) (ret := (some .int)) (by decide) rfl ?_
  intro p e s m args below meth c s₁ B hml hv
  obtain ⟨hargs, hM, hK⟩ := hv
  have hx := B.exec
  have hb := B.bytes
  have hr := B.returns
  have hts := atoms_spec (ws := wsX4_feedSome) B.pre
  have hown : s.vm.findClass RX4 = some m.cls := findClass_of_methodNamed B.named
  have hlocks := B.notSynchronized
  have hA : ∀ a, MA tmM q a → MA tmM q a := fun _ h => h
  have hS : va_S (MA tmM q) s.heap s.heap [] := va_S.rf
  have w0 := hts (Cond.constantLong RX4 97 (200)) (List.mem_of_getElem? (i := 1) (by decide +kernel))
  have w1 := hts (Cond.constantLong RX4 99 (999999)) (List.mem_of_getElem? (i := 2) (by decide +kernel))
  have w2 := hts (Cond.fieldLink RX4 7 "CoinRailsModel" "all" "[I") (List.mem_of_getElem? (i := 3) (by decide +kernel))
  have iX4 : ∀ w ∈ wsX40, w ∈ wsX4_feedSome := fun _ h => List.mem_cons_of_mem _ (List.mem_append_right _ (h))
  have w4 := hts (Cond.constantLong RX4 101 (1103515245)) (List.mem_of_getElem? (i := 4) (by decide +kernel))
  have w5 := hts (Cond.constantLong RX4 103 (12345)) (List.mem_of_getElem? (i := 5) (by decide +kernel))
  have w6 := hts (Cond.constantLong RX4 105 (2147483648)) (List.mem_of_getElem? (i := 6) (by decide +kernel))
  have w7 := hts (Cond.constantLong RX4 107 (65536)) (List.mem_of_getElem? (i := 7) (by decide +kernel))
  have w8 := hts (Cond.constantLong RX4 109 (1048576)) (List.mem_of_getElem? (i := 8) (by decide +kernel))
  have w9 := hts (Cond.constantLong RX4 111 (40)) (List.mem_of_getElem? (i := 9) (by decide +kernel))
  have L58 : ∀ (n : Nat), ∀ (G1 : Nat → Nat → Int32) (x3 : Int64) (x5 : Int32) (x6 : Int32) (H : Heap) (locs : List Loc) (ls : Array Slot), sX4_feedSome_L58 K p1 p2 n G1 x3 x5 x6 = some r → MW D cI cR q tmM G1 H → va_S (MA tmM q) s.heap H locs → lv_has ls 8 [(0, .ref (q 0)), (1, .int p1), (2, .int p2), (3, .long x3), (5, .int x5), (6, .int x6)] → W p l e (headSpec wsX4_feedSome ({ frames := 4, cells := 0, slots := 0, locals := 91 } : Room)).room s m args below meth c H locs 0 0 (MQ below (mIW D cI cR q tmM r) args s 0 0 (MA tmM q)) (F0 m 58 ls []) := by
    clear hM hS
    intro n
    induction n with
    | zero => exact fun _ _ _ _ _ _ _ h => absurd h (by simp [sX4_feedSome_L58])
    | succ n ih =>
      intro G1 x3 x5 x6 H locs ls h hM hS hl
      rw [sX4_feedSome_L58] at h
      refine lv_iload hx hb dX4_feedSome_58 (lv_at hl 5 rfl) ?_
      refine lv_iload_n hx hb dX4_feedSome_60 rfl (lv_at hl 1 rfl) ?_
      refine lv_icmp_ge (tgt := 130) hx hb dX4_feedSome_61 (by decide) (fun c61 => ?_) (fun c61 => ?_)
      · replace h := ite_t h c61
        refine lv_aload_n hx hb dX4_feedSome_130 rfl (lv_at hl 0 rfl) ?_
        refine lv_iload hx hb dX4_feedSome_131 (lv_at hl 4 rfl) ?_
        obtain ⟨r133, e133, h⟩ := bind_s h
        refine k_cIW (va_runV (As := [.int x5]) (rest := []) ⟨hx, hb, hml, hown, hts⟩ (kX4_fine l D cI cR q G1 K x5 hJ r133 e133) (cwV 1 hts gX4_feedSome_X4_fine rfl rfl rfl (by decide +kernel) ⟨Nat.le_of_ble_eq_true rfl, Nat.le_of_ble_eq_true rfl⟩) (mPreV hK hM 0 rfl rfl) rfl rfl hl.1 rfl (lv_room (Nat.le_of_ble_eq_true rfl)) dX4_feedSome_133 ⟨Nat.le_of_ble_eq_true rfl, Nat.le_of_ble_eq_true rfl⟩) hS hA (fun H locs hM hS => ?_)
        have h := Option.some.inj h
        exact W.iret (v := r133.1) hx hb hr (fun t ht hW => ⟨⟨r133.1, (), rfl, p_fst h, w_end ht hM (p_snd h)⟩, hS.F ht⟩) hS.2.2 dX4_feedSome_136
      · replace h := ite_f h c61
        refine lv_ldc2 hx hb hown w4 dX4_feedSome_64 ?_
        refine lv_lload_n hx hb dX4_feedSome_67 rfl (lv_at hl 3 rfl) ?_
        refine lv_lmul hx hb dX4_feedSome_68 ?_
        refine lv_ldc2 hx hb hown w5 dX4_feedSome_69 ?_
        refine lv_ladd hx hb dX4_feedSome_72 ?_
        refine lv_ldc2 hx hb hown w6 dX4_feedSome_73 ?_
        refine lv_lrem hx hb dX4_feedSome_76 (by decide) ?_
        refine lv_lstore_n (lv' := [(3, .long ((((1103515245 : Int64) * x3) + (12345 : Int64)) - (((1103515245 : Int64) * x3) + (12345 : Int64)) / (2147483648 : Int64) * (2147483648 : Int64))), (0, .ref (q 0)), (1, .int p1), (2, .int p2), (5, .int x5), (6, .int x6)]) hx hb dX4_feedSome_77 rfl hl (by decide) rfl (fun ls hl => ?_)
        refine lv_aload_n hx hb dX4_feedSome_78 rfl (lv_at hl 1 rfl) ?_
        refine lv_lload_n hx hb dX4_feedSome_79 rfl (lv_at hl 0 rfl) ?_
        refine lv_ldc2 hx hb hown w7 dX4_feedSome_80 ?_
        refine lv_ldiv hx hb dX4_feedSome_83 (by decide) ?_
        refine lv_aload_n hx hb dX4_feedSome_84 rfl (lv_at hl 1 rfl) ?_
        refine k_getR (C := RX4) (T := TX4) (N := 10) hx hb hts iX4 hown hK hM 0 rfl rfl 0 (by decide) rfl w2 (fun _ h9 => h9) dX4_feedSome_85 ?_
        refine lv_iconst (v := 0) hx hb dX4_feedSome_88 (by decide) ?_
        obtain ⟨g89, h⟩ := grd_s h
        refine k_iald hx hb hK hM 1 rfl g89 dX4_feedSome_89 ?_
        refine lv_i2l (v := (G1 1 (0 : Int32).toNatClampNeg).toInt64) hx hb dX4_feedSome_90 rfl ?_
        obtain ⟨g91, h⟩ := grd_s h
        refine lv_lrem hx hb dX4_feedSome_91 (of_decide_eq_true g91) ?_
        refine lv_l2i (v := ((((((1103515245 : Int64) * x3) + (12345 : Int64)) - (((1103515245 : Int64) * x3) + (12345 : Int64)) / (2147483648 : Int64) * (2147483648 : Int64)) / (65536 : Int64)) - (((((1103515245 : Int64) * x3) + (12345 : Int64)) - (((1103515245 : Int64) * x3) + (12345 : Int64)) / (2147483648 : Int64) * (2147483648 : Int64)) / (65536 : Int64)) / (G1 1 (0 : Int32).toNatClampNeg).toInt64 * (G1 1 (0 : Int32).toNatClampNeg).toInt64).toInt32) hx hb dX4_feedSome_92 rfl ?_
        refine lv_lload_n hx hb dX4_feedSome_93 rfl (lv_at hl 0 rfl) ?_
        refine lv_ldc2 hx hb hown w8 dX4_feedSome_94 ?_
        refine lv_ldiv hx hb dX4_feedSome_97 (by decide) ?_
        refine lv_ldc2 hx hb hown w9 dX4_feedSome_98 ?_
        refine lv_lrem hx hb dX4_feedSome_101 (by decide) ?_
        refine lv_l2i (v := ((((((1103515245 : Int64) * x3) + (12345 : Int64)) - (((1103515245 : Int64) * x3) + (12345 : Int64)) / (2147483648 : Int64) * (2147483648 : Int64)) / (1048576 : Int64)) - (((((1103515245 : Int64) * x3) + (12345 : Int64)) - (((1103515245 : Int64) * x3) + (12345 : Int64)) / (2147483648 : Int64) * (2147483648 : Int64)) / (1048576 : Int64)) / (40 : Int64) * (40 : Int64)).toInt32) hx hb dX4_feedSome_102 rfl ?_
        obtain ⟨r103, e103, h⟩ := bind_s h
        refine k_cIW (va_runV (As := [.int (((((((1103515245 : Int64) * x3) + (12345 : Int64)) - (((1103515245 : Int64) * x3) + (12345 : Int64)) / (2147483648 : Int64) * (2147483648 : Int64)) / (65536 : Int64)) - (((((1103515245 : Int64) * x3) + (12345 : Int64)) - (((1103515245 : Int64) * x3) + (12345 : Int64)) / (2147483648 : Int64) * (2147483648 : Int64)) / (65536 : Int64)) / (G1 1 (0 : Int32).toNatClampNeg).toInt64 * (G1 1 (0 : Int32).toNatClampNeg).toInt64).toInt32), .int (((((((1103515245 : Int64) * x3) + (12345 : Int64)) - (((1103515245 : Int64) * x3) + (12345 : Int64)) / (2147483648 : Int64) * (2147483648 : Int64)) / (1048576 : Int64)) - (((((1103515245 : Int64) * x3) + (12345 : Int64)) - (((1103515245 : Int64) * x3) + (12345 : Int64)) / (2147483648 : Int64) * (2147483648 : Int64)) / (1048576 : Int64)) / (40 : Int64) * (40 : Int64)).toInt32)]) (rest := []) ⟨hx, hb, hml, hown, hts⟩ (kX4_feeds l D cI cR q G1 K (((((((1103515245 : Int64) * x3) + (12345 : Int64)) - (((1103515245 : Int64) * x3) + (12345 : Int64)) / (2147483648 : Int64) * (2147483648 : Int64)) / (65536 : Int64)) - (((((1103515245 : Int64) * x3) + (12345 : Int64)) - (((1103515245 : Int64) * x3) + (12345 : Int64)) / (2147483648 : Int64) * (2147483648 : Int64)) / (65536 : Int64)) / (G1 1 (0 : Int32).toNatClampNeg).toInt64 * (G1 1 (0 : Int32).toNatClampNeg).toInt64).toInt32) (((((((1103515245 : Int64) * x3) + (12345 : Int64)) - (((1103515245 : Int64) * x3) + (12345 : Int64)) / (2147483648 : Int64) * (2147483648 : Int64)) / (1048576 : Int64)) - (((((1103515245 : Int64) * x3) + (12345 : Int64)) - (((1103515245 : Int64) * x3) + (12345 : Int64)) / (2147483648 : Int64) * (2147483648 : Int64)) / (1048576 : Int64)) / (40 : Int64) * (40 : Int64)).toInt32) hJ r103 e103) (cwV 2 hts gX4_feedSome_X4_feeds rfl rfl rfl (by decide +kernel) ⟨Nat.le_of_ble_eq_true rfl, Nat.le_of_ble_eq_true rfl⟩) (mPreV hK hM 0 rfl rfl) rfl rfl hl.1 rfl (lv_room (Nat.le_of_ble_eq_true rfl)) dX4_feedSome_103 ⟨Nat.le_of_ble_eq_true rfl, Nat.le_of_ble_eq_true rfl⟩) hS hA (fun H locs hM hS => ?_)
        refine lv_istore (lv' := [(7, .int r103.1), (3, .long ((((1103515245 : Int64) * x3) + (12345 : Int64)) - (((1103515245 : Int64) * x3) + (12345 : Int64)) / (2147483648 : Int64) * (2147483648 : Int64))), (0, .ref (q 0)), (1, .int p1), (2, .int p2), (5, .int x5), (6, .int x6)]) hx hb dX4_feedSome_106 hl (by decide) rfl (fun ls hl => ?_)
        refine lv_iload hx hb dX4_feedSome_108 (lv_at hl 5 rfl) ?_
        refine lv_iload hx hb dX4_feedSome_110 (lv_at hl 0 rfl) ?_
        refine lv_iconst (v := -1) hx hb dX4_feedSome_112 (by decide) ?_
        refine lv_icmp_ne (tgt := 120) hx hb dX4_feedSome_113 (by decide) (fun c113 => ?_) (fun c113 => ?_)
        · replace h := ite_f h c113
          refine lv_iconst (v := 0) hx hb dX4_feedSome_120 (by decide) ?_
          refine lv_iadd hx hb dX4_feedSome_121 ?_
          refine lv_istore (lv' := [(5, .int (x5 + (0 : Int32))), (7, .int r103.1), (3, .long ((((1103515245 : Int64) * x3) + (12345 : Int64)) - (((1103515245 : Int64) * x3) + (12345 : Int64)) / (2147483648 : Int64) * (2147483648 : Int64))), (0, .ref (q 0)), (1, .int p1), (2, .int p2), (6, .int x6)]) hx hb dX4_feedSome_122 hl (by decide) rfl (fun ls hl => ?_)
          refine lv_iinc (v := (x6 + 1)) (lv' := [(6, .int (x6 + 1)), (5, .int (x5 + (0 : Int32))), (7, .int r103.1), (3, .long ((((1103515245 : Int64) * x3) + (12345 : Int64)) - (((1103515245 : Int64) * x3) + (12345 : Int64)) / (2147483648 : Int64) * (2147483648 : Int64))), (0, .ref (q 0)), (1, .int p1), (2, .int p2)]) hx hb dX4_feedSome_124 hl (k := 6) rfl (congrArg (fun z : Int32 => x6 + z) (show Int32.ofInt (1) = 1 by decide)) (by decide) rfl (fun ls hl => ?_)
          refine lv_goto (tgt := 58) hx hb dX4_feedSome_127 (by decide) ?_
          exact ih r103.2 ((((1103515245 : Int64) * x3) + (12345 : Int64)) - (((1103515245 : Int64) * x3) + (12345 : Int64)) / (2147483648 : Int64) * (2147483648 : Int64)) (x5 + (0 : Int32)) (x6 + 1) _ _ _ h hM hS (lv_sub hl [4, 5, 6, 3, 1, 0] rfl)
        · replace h := ite_t h c113
          refine lv_iconst (v := 1) hx hb dX4_feedSome_116 (by decide) ?_
          refine lv_goto (tgt := 121) hx hb dX4_feedSome_117 (by decide) ?_
          refine lv_iadd hx hb dX4_feedSome_121 ?_
          refine lv_istore (lv' := [(5, .int (x5 + (1 : Int32))), (7, .int r103.1), (3, .long ((((1103515245 : Int64) * x3) + (12345 : Int64)) - (((1103515245 : Int64) * x3) + (12345 : Int64)) / (2147483648 : Int64) * (2147483648 : Int64))), (0, .ref (q 0)), (1, .int p1), (2, .int p2), (6, .int x6)]) hx hb dX4_feedSome_122 hl (by decide) rfl (fun ls hl => ?_)
          refine lv_iinc (v := (x6 + 1)) (lv' := [(6, .int (x6 + 1)), (5, .int (x5 + (1 : Int32))), (7, .int r103.1), (3, .long ((((1103515245 : Int64) * x3) + (12345 : Int64)) - (((1103515245 : Int64) * x3) + (12345 : Int64)) / (2147483648 : Int64) * (2147483648 : Int64))), (0, .ref (q 0)), (1, .int p1), (2, .int p2)]) hx hb dX4_feedSome_124 hl (k := 6) rfl (congrArg (fun z : Int32 => x6 + z) (show Int32.ofInt (1) = 1 by decide)) (by decide) rfl (fun ls hl => ?_)
          refine lv_goto (tgt := 58) hx hb dX4_feedSome_127 (by decide) ?_
          exact ih r103.2 ((((1103515245 : Int64) * x3) + (12345 : Int64)) - (((1103515245 : Int64) * x3) + (12345 : Int64)) / (2147483648 : Int64) * (2147483648 : Int64)) (x5 + (1 : Int32)) (x6 + 1) _ _ _ h hM hS (lv_sub hl [4, 5, 6, 3, 1, 0] rfl)
  subst hargs
  have hl := lv_entry ([.ref (q 0), .int p1, .int p2]) (n := 8) (Nat.le_of_ble_eq_true rfl)
  rw [lg_entry_eq]
  generalize (lg_sl ([.ref (q 0), .int p1, .int p2]) ++ List.replicate (8 - (lg_sl ([.ref (q 0), .int p1, .int p2])).length) Slot.unset).toArray = ls at hl ⊢
  have hl : lv_has ls 8 [(0, .ref (q 0)), (1, .int p1), (2, .int p2)] := hl
  have h := hs
  unfold sX4_feedSome at h
  have hM0 := hM
  refine lv_iload_n hx hb dX4_feedSome_0 rfl (lv_at hl 1 rfl) ?_
  refine lv_i2l (v := p1.toInt64) hx hb dX4_feedSome_1 rfl ?_
  refine lv_lconst (v := 0) hx hb dX4_feedSome_2 (by decide) ?_
  refine lv_ldc2 hx hb hown w0 dX4_feedSome_3 ?_
  obtain ⟨r6, e6, h⟩ := bind_s h
  refine k_cI (va_runS (As := [.long p1.toInt64, .long (0 : Int64), .long (200 : Int64)]) (rest := []) ⟨hx, hb, hml, hown, hts⟩ (kX4_in l D cI cR q G K p1.toInt64 (0 : Int64) (200 : Int64) r6 e6) (va_cwS 3 hts gX4_feedSome_X4_in rfl rfl rfl (by decide +kernel) ⟨Nat.le_of_ble_eq_true rfl, Nat.le_of_ble_eq_true rfl⟩) (mPreS hK hM) rfl rfl hl.1 rfl (lv_room (Nat.le_of_ble_eq_true rfl)) dX4_feedSome_6 ⟨Nat.le_of_ble_eq_true rfl, Nat.le_of_ble_eq_true rfl⟩) hS hM (fun H locs hM hS => ?_)
  refine lv_if_eq (tgt := 24) hx hb dX4_feedSome_9 (by decide) (fun c9 => ?_) (fun c9 => ?_)
  · replace h := ite_t h c9
    refine lv_aload_n hx hb dX4_feedSome_24 rfl (lv_at hl 0 rfl) ?_
    refine lv_iconst (v := 1) hx hb dX4_feedSome_25 (by decide) ?_
    obtain ⟨r26, e26, h⟩ := bind_s h
    refine k_cIW (va_runV (As := [.int (1 : Int32)]) (rest := []) ⟨hx, hb, hml, hown, hts⟩ (kX4_throwing l D cI cR q G K (1 : Int32) hJ r26 e26) (cwV 1 hts gX4_feedSome_X4_throwing rfl rfl rfl (by decide +kernel) ⟨Nat.le_of_ble_eq_true rfl, Nat.le_of_ble_eq_true rfl⟩) (mPreV hK hM 0 rfl rfl) rfl rfl hl.1 rfl (lv_room (Nat.le_of_ble_eq_true rfl)) dX4_feedSome_26 ⟨Nat.le_of_ble_eq_true rfl, Nat.le_of_ble_eq_true rfl⟩) hS hA (fun H locs hM hS => ?_)
    have h := Option.some.inj h
    exact W.iret (v := r26.1) hx hb hr (fun t ht hW => ⟨⟨r26.1, (), rfl, p_fst h, w_end ht hM (p_snd h)⟩, hS.F ht⟩) hS.2.2 dX4_feedSome_29
  · replace h := ite_f h c9
    refine lv_iload_n hx hb dX4_feedSome_12 rfl (lv_at hl 2 rfl) ?_
    refine lv_i2l (v := p2.toInt64) hx hb dX4_feedSome_13 rfl ?_
    refine lv_lconst (v := 0) hx hb dX4_feedSome_14 (by decide) ?_
    refine lv_ldc2 hx hb hown w1 dX4_feedSome_15 ?_
    obtain ⟨r18, e18, h⟩ := bind_s h
    refine k_cI (va_runS (As := [.long p2.toInt64, .long (0 : Int64), .long (999999 : Int64)]) (rest := []) ⟨hx, hb, hml, hown, hts⟩ (kX4_in l D cI cR q G K p2.toInt64 (0 : Int64) (999999 : Int64) r18 e18) (va_cwS 3 hts gX4_feedSome_X4_in rfl rfl rfl (by decide +kernel) ⟨Nat.le_of_ble_eq_true rfl, Nat.le_of_ble_eq_true rfl⟩) (mPreS hK hM) rfl rfl hl.1 rfl (lv_room (Nat.le_of_ble_eq_true rfl)) dX4_feedSome_18 ⟨Nat.le_of_ble_eq_true rfl, Nat.le_of_ble_eq_true rfl⟩) hS hM (fun H locs hM hS => ?_)
    refine lv_if_ne (tgt := 30) hx hb dX4_feedSome_21 (by decide) (fun c21 => ?_) (fun c21 => ?_)
    · replace h := ite_f h c21
      refine lv_aload_n hx hb dX4_feedSome_30 rfl (lv_at hl 0 rfl) ?_
      refine k_getR (C := RX4) (T := TX4) (N := 10) hx hb hts iX4 hown hK hM 0 rfl rfl 0 (by decide) rfl w2 (fun _ h9 => h9) dX4_feedSome_31 ?_
      refine lv_iconst (v := 0) hx hb dX4_feedSome_34 (by decide) ?_
      obtain ⟨g35, h⟩ := grd_s h
      refine k_iald hx hb hK hM 1 rfl g35 dX4_feedSome_35 ?_
      refine lv_if_ne (tgt := 45) hx hb dX4_feedSome_36 (by decide) (fun c36 => ?_) (fun c36 => ?_)
      · replace h := ite_f h c36
        refine lv_aload_n hx hb dX4_feedSome_45 rfl (lv_at hl 0 rfl) ?_
        obtain ⟨r46, e46, h⟩ := bind_s h
        refine k_cVW (va_runV (As := []) (rest := []) ⟨hx, hb, hml, hown, hts⟩ (kX4_save l D cI cR q G K hJ r46 e46) (cwV 0 hts gX4_feedSome_X4_save rfl rfl rfl (by decide +kernel) ⟨Nat.le_of_ble_eq_true rfl, Nat.le_of_ble_eq_true rfl⟩) (mPreV hK hM 0 rfl rfl) rfl rfl hl.1 rfl (lv_room (Nat.le_of_ble_eq_true rfl)) dX4_feedSome_46 ⟨Nat.le_of_ble_eq_true rfl, Nat.le_of_ble_eq_true rfl⟩) hS hA (fun H locs hM hS => ?_)
        refine lv_iload_n hx hb dX4_feedSome_49 rfl (lv_at hl 2 rfl) ?_
        refine lv_i2l (v := p2.toInt64) hx hb dX4_feedSome_50 rfl ?_
        refine lv_lstore_n (lv' := [(3, .long p2.toInt64), (0, .ref (q 0)), (1, .int p1), (2, .int p2)]) hx hb dX4_feedSome_51 rfl hl (by decide) rfl (fun ls hl => ?_)
        refine lv_iconst (v := 0) hx hb dX4_feedSome_52 (by decide) ?_
        refine lv_istore (lv' := [(5, .int (0 : Int32)), (3, .long p2.toInt64), (0, .ref (q 0)), (1, .int p1), (2, .int p2)]) hx hb dX4_feedSome_53 hl (by decide) rfl (fun ls hl => ?_)
        refine lv_iconst (v := 0) hx hb dX4_feedSome_55 (by decide) ?_
        refine lv_istore (lv' := [(6, .int (0 : Int32)), (5, .int (0 : Int32)), (3, .long p2.toInt64), (0, .ref (q 0)), (1, .int p1), (2, .int p2)]) hx hb dX4_feedSome_56 hl (by decide) rfl (fun ls hl => ?_)
        exact L58 K r46 p2.toInt64 (0 : Int32) (0 : Int32) _ _ _ h hM hS (lv_sub hl [3, 4, 5, 2, 1, 0] rfl)
      · replace h := ite_t h c36
        refine lv_aload_n hx hb dX4_feedSome_39 rfl (lv_at hl 0 rfl) ?_
        refine lv_iconst (v := 2) hx hb dX4_feedSome_40 (by decide) ?_
        obtain ⟨r41, e41, h⟩ := bind_s h
        refine k_cIW (va_runV (As := [.int (2 : Int32)]) (rest := []) ⟨hx, hb, hml, hown, hts⟩ (kX4_throwing l D cI cR q G K (2 : Int32) hJ r41 e41) (cwV 1 hts gX4_feedSome_X4_throwing rfl rfl rfl (by decide +kernel) ⟨Nat.le_of_ble_eq_true rfl, Nat.le_of_ble_eq_true rfl⟩) (mPreV hK hM 0 rfl rfl) rfl rfl hl.1 rfl (lv_room (Nat.le_of_ble_eq_true rfl)) dX4_feedSome_41 ⟨Nat.le_of_ble_eq_true rfl, Nat.le_of_ble_eq_true rfl⟩) hS hA (fun H locs hM hS => ?_)
        have h := Option.some.inj h
        exact W.iret (v := r41.1) hx hb hr (fun t ht hW => ⟨⟨r41.1, (), rfl, p_fst h, w_end ht hM (p_snd h)⟩, hS.F ht⟩) hS.2.2 dX4_feedSome_44
    · replace h := ite_t h c21
      refine lv_aload_n hx hb dX4_feedSome_24 rfl (lv_at hl 0 rfl) ?_
      refine lv_iconst (v := 1) hx hb dX4_feedSome_25 (by decide) ?_
      obtain ⟨r26, e26, h⟩ := bind_s h
      refine k_cIW (va_runV (As := [.int (1 : Int32)]) (rest := []) ⟨hx, hb, hml, hown, hts⟩ (kX4_throwing l D cI cR q G K (1 : Int32) hJ r26 e26) (cwV 1 hts gX4_feedSome_X4_throwing rfl rfl rfl (by decide +kernel) ⟨Nat.le_of_ble_eq_true rfl, Nat.le_of_ble_eq_true rfl⟩) (mPreV hK hM 0 rfl rfl) rfl rfl hl.1 rfl (lv_room (Nat.le_of_ble_eq_true rfl)) dX4_feedSome_26 ⟨Nat.le_of_ble_eq_true rfl, Nat.le_of_ble_eq_true rfl⟩) hS hA (fun H locs hM hS => ?_)
      have h := Option.some.inj h
      exact W.iret (v := r26.1) hx hb hr (fun t ht hW => ⟨⟨r26.1, (), rfl, p_fst h, w_end ht hM (p_snd h)⟩, hS.F ht⟩) hS.2.2 dX4_feedSome_29
set_option maxHeartbeats 4000000 in
set_option maxRecDepth 100000 in
theorem kX4_free (l : Launch) (D : va_G) (cI cR : ClassId) (q : Nat → Nat) (G : Nat → Nat → Int32) (K : Nat) (p1 : Int32) (hJ : MJ tmM q) (r : (Int32 × (Nat → Nat → Int32))) (hs : sX4_free K G p1 = some r) : Met l yX4_free wsX4_free ({ frames := 2, cells := 0, slots := 0, locals := 45 } : Room) (mPre [.ref (q 0), .int p1] D cI cR q tmM G) (mIW D cI cR q tmM r) 0 0 (MA tmM q) := by
  refine Met.ofW (cc := cX4_free) (maxL := 3) (ret := (some .int)) (by decide) rfl ?_
  intro p e s m args below meth c s₁ B hml hv
  obtain ⟨hargs, hM, hK⟩ := hv
  have hx := B.exec
  have hb := B.bytes
  have hr := B.returns
  have hts := atoms_spec (ws := wsX4_free) B.pre
  have hown : s.vm.findClass RX4 = some m.cls := findClass_of_methodNamed B.named
  have hlocks := B.notSynchronized
  have hA : ∀ a, MA tmM q a → MA tmM q a := fun _ h => h
  have hS : va_S (MA tmM q) s.heap s.heap [] := va_S.rf
  have w0 := hts (Cond.fieldLink RX4 7 "CoinRailsModel" "all" "[I") (List.mem_of_getElem? (i := 1) (by decide +kernel))
  have iX4 : ∀ w ∈ wsX40, w ∈ wsX4_free := fun _ h => List.mem_cons_of_mem _ (List.mem_append_right _ (h))
  subst hargs
  have hl := lv_entry ([.ref (q 0), .int p1]) (n := 3) (Nat.le_of_ble_eq_true rfl)
  rw [lg_entry_eq]
  generalize (lg_sl ([.ref (q 0), .int p1]) ++ List.replicate (3 - (lg_sl ([.ref (q 0), .int p1])).length) Slot.unset).toArray = ls at hl ⊢
  have hl : lv_has ls 3 [(0, .ref (q 0)), (1, .int p1)] := hl
  have h := hs
  unfold sX4_free at h
  have hM0 := hM
  refine lv_iload_n hx hb dX4_free_0 rfl (lv_at hl 1 rfl) ?_
  obtain ⟨r1, e1, h⟩ := bind_s h
  refine k_cI (va_runS (As := [.int p1]) (rest := []) ⟨hx, hb, hml, hown, hts⟩ (kX4_isRail l D cI cR q G K p1 r1 e1) (va_cwS 1 hts gX4_free_X4_isRail rfl rfl rfl (by decide +kernel) ⟨Nat.le_of_ble_eq_true rfl, Nat.le_of_ble_eq_true rfl⟩) (mPreS hK hM) rfl rfl hl.1 rfl (lv_room (Nat.le_of_ble_eq_true rfl)) dX4_free_1 ⟨Nat.le_of_ble_eq_true rfl, Nat.le_of_ble_eq_true rfl⟩) hS hM (fun H locs hM hS => ?_)
  refine lv_if_ne (tgt := 13) hx hb dX4_free_4 (by decide) (fun c4 => ?_) (fun c4 => ?_)
  · replace h := ite_f h c4
    refine lv_aload_n hx hb dX4_free_13 rfl (lv_at hl 0 rfl) ?_
    refine lv_iload_n hx hb dX4_free_14 rfl (lv_at hl 1 rfl) ?_
    refine lv_iconst (v := 2) hx hb dX4_free_15 (by decide) ?_
    obtain ⟨r16, e16, h⟩ := bind_s h
    refine k_cI (va_runV (As := [.int p1, .int (2 : Int32)]) (rest := []) ⟨hx, hb, hml, hown, hts⟩ (kX4_ofRail l D cI cR q G K p1 (2 : Int32) r16 e16) (cwV 2 hts gX4_free_X4_ofRail rfl rfl rfl (by decide +kernel) ⟨Nat.le_of_ble_eq_true rfl, Nat.le_of_ble_eq_true rfl⟩) (mPreV hK hM 0 rfl rfl) rfl rfl hl.1 rfl (lv_room (Nat.le_of_ble_eq_true rfl)) dX4_free_16 ⟨Nat.le_of_ble_eq_true rfl, Nat.le_of_ble_eq_true rfl⟩) hS hM (fun H locs hM hS => ?_)
    refine lv_istore_n (lv' := [(2, .int r16), (0, .ref (q 0)), (1, .int p1)]) hx hb dX4_free_19 rfl hl (by decide) rfl (fun ls hl => ?_)
    refine lv_iload_n hx hb dX4_free_20 rfl (lv_at hl 0 rfl) ?_
    refine lv_iconst (v := -1) hx hb dX4_free_21 (by decide) ?_
    refine lv_icmp_ne (tgt := 31) hx hb dX4_free_22 (by decide) (fun c22 => ?_) (fun c22 => ?_)
    · replace h := ite_f h c22
      refine lv_aload_n hx hb dX4_free_31 rfl (lv_at hl 1 rfl) ?_
      obtain ⟨r32, e32, h⟩ := bind_s h
      refine k_cVW (va_runV (As := []) (rest := []) ⟨hx, hb, hml, hown, hts⟩ (kX4_save l D cI cR q G K hJ r32 e32) (cwV 0 hts gX4_free_X4_save rfl rfl rfl (by decide +kernel) ⟨Nat.le_of_ble_eq_true rfl, Nat.le_of_ble_eq_true rfl⟩) (mPreV hK hM 0 rfl rfl) rfl rfl hl.1 rfl (lv_room (Nat.le_of_ble_eq_true rfl)) dX4_free_32 ⟨Nat.le_of_ble_eq_true rfl, Nat.le_of_ble_eq_true rfl⟩) hS hA (fun H locs hM hS => ?_)
      refine lv_aload_n hx hb dX4_free_35 rfl (lv_at hl 1 rfl) ?_
      refine lv_iload_n hx hb dX4_free_36 rfl (lv_at hl 2 rfl) ?_
      obtain ⟨r37, e37, h⟩ := bind_s h
      refine k_cI (va_runV (As := [.int p1]) (rest := []) ⟨hx, hb, hml, hown, hts⟩ (kX4_inBag l D cI cR q r32 K p1 r37 e37) (cwV 1 hts gX4_free_X4_inBag rfl rfl rfl (by decide +kernel) ⟨Nat.le_of_ble_eq_true rfl, Nat.le_of_ble_eq_true rfl⟩) (mPreV hK hM 0 rfl rfl) rfl rfl hl.1 rfl (lv_room (Nat.le_of_ble_eq_true rfl)) dX4_free_37 ⟨Nat.le_of_ble_eq_true rfl, Nat.le_of_ble_eq_true rfl⟩) hS hM (fun H locs hM hS => ?_)
      refine lv_bipush (v := 40) hx hb dX4_free_40 (by decide) ?_
      refine lv_icmp_ge (tgt := 62) hx hb dX4_free_42 (by decide) (fun c42 => ?_) (fun c42 => ?_)
      · replace h := ite_t h c42
        refine lv_aload_n hx hb dX4_free_62 rfl (lv_at hl 1 rfl) ?_
        refine k_getR (C := RX4) (T := TX4) (N := 10) hx hb hts iX4 hown hK hM 0 rfl rfl 0 (by decide) rfl w0 (fun _ h9 => h9) dX4_free_63 ?_
        refine lv_iload_n hx hb dX4_free_66 rfl (lv_at hl 0 rfl) ?_
        refine lv_iconst (v := 4) hx hb dX4_free_67 (by decide) ?_
        obtain ⟨r68, e68, h⟩ := bind_s h
        refine k_cI (va_runS (As := [.int r16, .int (4 : Int32)]) (rest := [.ref (q 1)]) ⟨hx, hb, hml, hown, hts⟩ (kX4_kindAt l D cI cR q r32 K r16 (4 : Int32) r68 e68) (va_cwS 2 hts gX4_free_X4_kindAt rfl rfl rfl (by decide +kernel) ⟨Nat.le_of_ble_eq_true rfl, Nat.le_of_ble_eq_true rfl⟩) (mPreS hK hM) rfl rfl hl.1 rfl (lv_room (Nat.le_of_ble_eq_true rfl)) dX4_free_68 ⟨Nat.le_of_ble_eq_true rfl, Nat.le_of_ble_eq_true rfl⟩) hS hM (fun H locs hM hS => ?_)
        refine lv_dup2_11 hx hb dX4_free_71 rfl rfl ?_
        obtain ⟨g72, h⟩ := grd_s h
        refine k_iald hx hb hK hM 1 rfl g72 dX4_free_72 ?_
        refine lv_iconst (v := 1) hx hb dX4_free_73 (by decide) ?_
        refine lv_iadd hx hb dX4_free_74 ?_
        obtain ⟨g75, h⟩ := grd_s h
        refine k_iast (v := ((r32 1 r68.toNatClampNeg) + (1 : Int32))) hx hb hK hM hJ hA hS 1 rfl g75 dX4_free_75 (fun H locs hM hS => ?_)
        obtain ⟨G77, eG77, h⟩ := olet_s h
        rw [eG77] at hM
        refine lv_aload_n hx hb dX4_free_76 rfl (lv_at hl 1 rfl) ?_
        refine lv_iload_n hx hb dX4_free_77 rfl (lv_at hl 2 rfl) ?_
        obtain ⟨r78, e78, h⟩ := bind_s h
        refine k_cVW (va_runV (As := [.int p1]) (rest := []) ⟨hx, hb, hml, hown, hts⟩ (kX4_clears l D cI cR q G77 K p1 hJ r78 e78) (cwV 1 hts gX4_free_X4_clears rfl rfl rfl (by decide +kernel) ⟨Nat.le_of_ble_eq_true rfl, Nat.le_of_ble_eq_true rfl⟩) (mPreV hK hM 0 rfl rfl) rfl rfl hl.1 rfl (lv_room (Nat.le_of_ble_eq_true rfl)) dX4_free_78 ⟨Nat.le_of_ble_eq_true rfl, Nat.le_of_ble_eq_true rfl⟩) hS hA (fun H locs hM hS => ?_)
        refine lv_aload_n hx hb dX4_free_81 rfl (lv_at hl 1 rfl) ?_
        refine lv_iload_n hx hb dX4_free_82 rfl (lv_at hl 0 rfl) ?_
        obtain ⟨r83, e83, h⟩ := bind_s h
        refine k_cIW (va_runV (As := [.int r16]) (rest := []) ⟨hx, hb, hml, hown, hts⟩ (kX4_fine l D cI cR q r78 K r16 hJ r83 e83) (cwV 1 hts gX4_free_X4_fine rfl rfl rfl (by decide +kernel) ⟨Nat.le_of_ble_eq_true rfl, Nat.le_of_ble_eq_true rfl⟩) (mPreV hK hM 0 rfl rfl) rfl rfl hl.1 rfl (lv_room (Nat.le_of_ble_eq_true rfl)) dX4_free_83 ⟨Nat.le_of_ble_eq_true rfl, Nat.le_of_ble_eq_true rfl⟩) hS hA (fun H locs hM hS => ?_)
        have h := Option.some.inj h
        exact W.iret (v := r83.1) hx hb hr (fun t ht hW => ⟨⟨r83.1, (), rfl, p_fst h, w_end ht hM (p_snd h)⟩, hS.F ht⟩) hS.2.2 dX4_free_86
      · replace h := ite_f h c42
        refine lv_aload_n hx hb dX4_free_45 rfl (lv_at hl 1 rfl) ?_
        refine k_getR (C := RX4) (T := TX4) (N := 10) hx hb hts iX4 hown hK hM 0 rfl rfl 0 (by decide) rfl w0 (fun _ h9 => h9) dX4_free_46 ?_
        refine lv_iload_n hx hb dX4_free_49 rfl (lv_at hl 2 rfl) ?_
        refine lv_iload_n hx hb dX4_free_50 rfl (lv_at hl 0 rfl) ?_
        obtain ⟨r51, e51, h⟩ := bind_s h
        refine k_cI (va_runS (As := [.int p1, .int r16]) (rest := [.ref (q 1)]) ⟨hx, hb, hml, hown, hts⟩ (kX4_countAt l D cI cR q r32 K p1 r16 r51 e51) (va_cwS 2 hts gX4_free_X4_countAt rfl rfl rfl (by decide +kernel) ⟨Nat.le_of_ble_eq_true rfl, Nat.le_of_ble_eq_true rfl⟩) (mPreS hK hM) rfl rfl hl.1 rfl (lv_room (Nat.le_of_ble_eq_true rfl)) dX4_free_51 ⟨Nat.le_of_ble_eq_true rfl, Nat.le_of_ble_eq_true rfl⟩) hS hM (fun H locs hM hS => ?_)
        refine lv_dup2_11 hx hb dX4_free_54 rfl rfl ?_
        obtain ⟨g55, h⟩ := grd_s h
        refine k_iald hx hb hK hM 1 rfl g55 dX4_free_55 ?_
        refine lv_iconst (v := 1) hx hb dX4_free_56 (by decide) ?_
        refine lv_iadd hx hb dX4_free_57 ?_
        obtain ⟨g58, h⟩ := grd_s h
        refine k_iast (v := ((r32 1 r51.toNatClampNeg) + (1 : Int32))) hx hb hK hM hJ hA hS 1 rfl g58 dX4_free_58 (fun H locs hM hS => ?_)
        obtain ⟨G60, eG60, h⟩ := olet_s h
        rw [eG60] at hM
        refine lv_goto (tgt := 76) hx hb dX4_free_59 (by decide) ?_
        refine lv_aload_n hx hb dX4_free_76 rfl (lv_at hl 1 rfl) ?_
        refine lv_iload_n hx hb dX4_free_77 rfl (lv_at hl 2 rfl) ?_
        obtain ⟨r78, e78, h⟩ := bind_s h
        refine k_cVW (va_runV (As := [.int p1]) (rest := []) ⟨hx, hb, hml, hown, hts⟩ (kX4_clears l D cI cR q G60 K p1 hJ r78 e78) (cwV 1 hts gX4_free_X4_clears rfl rfl rfl (by decide +kernel) ⟨Nat.le_of_ble_eq_true rfl, Nat.le_of_ble_eq_true rfl⟩) (mPreV hK hM 0 rfl rfl) rfl rfl hl.1 rfl (lv_room (Nat.le_of_ble_eq_true rfl)) dX4_free_78 ⟨Nat.le_of_ble_eq_true rfl, Nat.le_of_ble_eq_true rfl⟩) hS hA (fun H locs hM hS => ?_)
        refine lv_aload_n hx hb dX4_free_81 rfl (lv_at hl 1 rfl) ?_
        refine lv_iload_n hx hb dX4_free_82 rfl (lv_at hl 0 rfl) ?_
        obtain ⟨r83, e83, h⟩ := bind_s h
        refine k_cIW (va_runV (As := [.int r16]) (rest := []) ⟨hx, hb, hml, hown, hts⟩ (kX4_fine l D cI cR q r78 K r16 hJ r83 e83) (cwV 1 hts gX4_free_X4_fine rfl rfl rfl (by decide +kernel) ⟨Nat.le_of_ble_eq_true rfl, Nat.le_of_ble_eq_true rfl⟩) (mPreV hK hM 0 rfl rfl) rfl rfl hl.1 rfl (lv_room (Nat.le_of_ble_eq_true rfl)) dX4_free_83 ⟨Nat.le_of_ble_eq_true rfl, Nat.le_of_ble_eq_true rfl⟩) hS hA (fun H locs hM hS => ?_)
        have h := Option.some.inj h
        exact W.iret (v := r83.1) hx hb hr (fun t ht hW => ⟨⟨r83.1, (), rfl, p_fst h, w_end ht hM (p_snd h)⟩, hS.F ht⟩) hS.2.2 dX4_free_86
    · replace h := ite_t h c22
      refine lv_aload_n hx hb dX4_free_25 rfl (lv_at hl 1 rfl) ?_
      refine lv_iconst (v := 2) hx hb dX4_free_26 (by decide) ?_
      obtain ⟨r27, e27, h⟩ := bind_s h
      refine k_cIW (va_runV (As := [.int (2 : Int32)]) (rest := []) ⟨hx, hb, hml, hown, hts⟩ (kX4_throwing l D cI cR q G K (2 : Int32) hJ r27 e27) (cwV 1 hts gX4_free_X4_throwing rfl rfl rfl (by decide +kernel) ⟨Nat.le_of_ble_eq_true rfl, Nat.le_of_ble_eq_true rfl⟩) (mPreV hK hM 0 rfl rfl) rfl rfl hl.1 rfl (lv_room (Nat.le_of_ble_eq_true rfl)) dX4_free_27 ⟨Nat.le_of_ble_eq_true rfl, Nat.le_of_ble_eq_true rfl⟩) hS hA (fun H locs hM hS => ?_)
      have h := Option.some.inj h
      exact W.iret (v := r27.1) hx hb hr (fun t ht hW => ⟨⟨r27.1, (), rfl, p_fst h, w_end ht hM (p_snd h)⟩, hS.F ht⟩) hS.2.2 dX4_free_30
  · replace h := ite_t h c4
    refine lv_aload_n hx hb dX4_free_7 rfl (lv_at hl 0 rfl) ?_
    refine lv_iconst (v := 1) hx hb dX4_free_8 (by decide) ?_
    obtain ⟨r9, e9, h⟩ := bind_s h
    refine k_cIW (va_runV (As := [.int (1 : Int32)]) (rest := []) ⟨hx, hb, hml, hown, hts⟩ (kX4_throwing l D cI cR q G K (1 : Int32) hJ r9 e9) (cwV 1 hts gX4_free_X4_throwing rfl rfl rfl (by decide +kernel) ⟨Nat.le_of_ble_eq_true rfl, Nat.le_of_ble_eq_true rfl⟩) (mPreV hK hM 0 rfl rfl) rfl rfl hl.1 rfl (lv_room (Nat.le_of_ble_eq_true rfl)) dX4_free_9 ⟨Nat.le_of_ble_eq_true rfl, Nat.le_of_ble_eq_true rfl⟩) hS hA (fun H locs hM hS => ?_)
    have h := Option.some.inj h
    exact W.iret (v := r9.1) hx hb hr (fun t ht hW => ⟨⟨r9.1, (), rfl, p_fst h, w_end ht hM (p_snd h)⟩, hS.F ht⟩) hS.2.2 dX4_free_12
set_option maxHeartbeats 4000000 in
set_option maxRecDepth 100000 in
theorem kX4_takeBag (l : Launch) (D : va_G) (cI cR : ClassId) (q : Nat → Nat) (G : Nat → Nat → Int32) (K : Nat) (p1 : Int32) (hJ : MJ tmM q) (r : (Int32 × (Nat → Nat → Int32))) (hs : sX4_takeBag K G p1 = some r) : Met l yX4_takeBag wsX4_takeBag ({ frames := 2, cells := 0, slots := 0, locals := 45 } : Room) (mPre [.ref (q 0), .int p1] D cI cR q tmM G) (mIW D cI cR q tmM r) 0 0 (MA tmM q) := by
  refine Met.ofW (cc := cX4_takeBag) (maxL := 4) (ret := (some .int)) (by decide) rfl ?_
  intro p e s m args below meth c s₁ B hml hv
  obtain ⟨hargs, hM, hK⟩ := hv
  have hx := B.exec
  have hb := B.bytes
  have hr := B.returns
  have hts := atoms_spec (ws := wsX4_takeBag) B.pre
  have hown : s.vm.findClass RX4 = some m.cls := findClass_of_methodNamed B.named
  have hlocks := B.notSynchronized
  have hA : ∀ a, MA tmM q a → MA tmM q a := fun _ h => h
  have hS : va_S (MA tmM q) s.heap s.heap [] := va_S.rf
  have w0 := hts (Cond.fieldLink RX4 7 "CoinRailsModel" "all" "[I") (List.mem_of_getElem? (i := 1) (by decide +kernel))
  have iX4 : ∀ w ∈ wsX40, w ∈ wsX4_takeBag := fun _ h => List.mem_cons_of_mem _ (List.mem_append_right _ (h))
  have L35 : ∀ (n : Nat), ∀ (G1 : Nat → Nat → Int32) (x2 : Int32) (x3 : Int32) (H : Heap) (locs : List Loc) (ls : Array Slot), sX4_takeBag_L35 K p1 n G1 x2 x3 = some r → MW D cI cR q tmM G1 H → va_S (MA tmM q) s.heap H locs → lv_has ls 4 [(0, .ref (q 0)), (1, .int p1), (2, .int x2), (3, .int x3)] → W p l e (headSpec wsX4_takeBag ({ frames := 2, cells := 0, slots := 0, locals := 45 } : Room)).room s m args below meth c H locs 0 0 (MQ below (mIW D cI cR q tmM r) args s 0 0 (MA tmM q)) (F0 m 35 ls []) := by
    clear hM hS
    intro n
    induction n with
    | zero => exact fun _ _ _ _ _ _ h => absurd h (by simp [sX4_takeBag_L35])
    | succ n ih =>
      intro G1 x2 x3 H locs ls h hM hS hl
      rw [sX4_takeBag_L35] at h
      refine lv_iload_n hx hb dX4_takeBag_35 rfl (lv_at hl 3 rfl) ?_
      refine lv_bipush (v := 6) hx hb dX4_takeBag_36 (by decide) ?_
      refine lv_icmp_ge (tgt := 58) hx hb dX4_takeBag_38 (by decide) (fun c38 => ?_) (fun c38 => ?_)
      · replace h := ite_t h c38
        refine lv_aload_n hx hb dX4_takeBag_58 rfl (lv_at hl 0 rfl) ?_
        refine lv_iload_n hx hb dX4_takeBag_59 rfl (lv_at hl 2 rfl) ?_
        obtain ⟨r60, e60, h⟩ := bind_s h
        refine k_cIW (va_runV (As := [.int x2]) (rest := []) ⟨hx, hb, hml, hown, hts⟩ (kX4_fine l D cI cR q G1 K x2 hJ r60 e60) (cwV 1 hts gX4_takeBag_X4_fine rfl rfl rfl (by decide +kernel) ⟨Nat.le_of_ble_eq_true rfl, Nat.le_of_ble_eq_true rfl⟩) (mPreV hK hM 0 rfl rfl) rfl rfl hl.1 rfl (lv_room (Nat.le_of_ble_eq_true rfl)) dX4_takeBag_60 ⟨Nat.le_of_ble_eq_true rfl, Nat.le_of_ble_eq_true rfl⟩) hS hA (fun H locs hM hS => ?_)
        have h := Option.some.inj h
        exact W.iret (v := r60.1) hx hb hr (fun t ht hW => ⟨⟨r60.1, (), rfl, p_fst h, w_end ht hM (p_snd h)⟩, hS.F ht⟩) hS.2.2 dX4_takeBag_63
      · replace h := ite_f h c38
        refine lv_aload_n hx hb dX4_takeBag_41 rfl (lv_at hl 0 rfl) ?_
        refine k_getR (C := RX4) (T := TX4) (N := 10) hx hb hts iX4 hown hK hM 0 rfl rfl 0 (by decide) rfl w0 (fun _ h9 => h9) dX4_takeBag_42 ?_
        refine lv_iload_n hx hb dX4_takeBag_45 rfl (lv_at hl 1 rfl) ?_
        refine lv_iload_n hx hb dX4_takeBag_46 rfl (lv_at hl 3 rfl) ?_
        obtain ⟨r47, e47, h⟩ := bind_s h
        refine k_cI (va_runS (As := [.int p1, .int x3]) (rest := [.ref (q 1)]) ⟨hx, hb, hml, hown, hts⟩ (kX4_countAt l D cI cR q G1 K p1 x3 r47 e47) (va_cwS 2 hts gX4_takeBag_X4_countAt rfl rfl rfl (by decide +kernel) ⟨Nat.le_of_ble_eq_true rfl, Nat.le_of_ble_eq_true rfl⟩) (mPreS hK hM) rfl rfl hl.1 rfl (lv_room (Nat.le_of_ble_eq_true rfl)) dX4_takeBag_47 ⟨Nat.le_of_ble_eq_true rfl, Nat.le_of_ble_eq_true rfl⟩) hS hM (fun H locs hM hS => ?_)
        refine lv_iconst (v := 0) hx hb dX4_takeBag_50 (by decide) ?_
        obtain ⟨g51, h⟩ := grd_s h
        refine k_iast (v := (0 : Int32)) hx hb hK hM hJ hA hS 1 rfl g51 dX4_takeBag_51 (fun H locs hM hS => ?_)
        obtain ⟨G53, eG53, h⟩ := olet_s h
        rw [eG53] at hM
        refine lv_iinc (v := (x3 + 1)) (lv' := [(3, .int (x3 + 1)), (0, .ref (q 0)), (1, .int p1), (2, .int x2)]) hx hb dX4_takeBag_52 hl (k := 3) rfl (congrArg (fun z : Int32 => x3 + z) (show Int32.ofInt (1) = 1 by decide)) (by decide) rfl (fun ls hl => ?_)
        refine lv_goto (tgt := 35) hx hb dX4_takeBag_55 (by decide) ?_
        exact ih G53 x2 (x3 + 1) _ _ _ h hM hS (lv_sub hl [1, 2, 3, 0] rfl)
  subst hargs
  have hl := lv_entry ([.ref (q 0), .int p1]) (n := 4) (Nat.le_of_ble_eq_true rfl)
  rw [lg_entry_eq]
  generalize (lg_sl ([.ref (q 0), .int p1]) ++ List.replicate (4 - (lg_sl ([.ref (q 0), .int p1])).length) Slot.unset).toArray = ls at hl ⊢
  have hl : lv_has ls 4 [(0, .ref (q 0)), (1, .int p1)] := hl
  have h := hs
  unfold sX4_takeBag at h
  have hM0 := hM
  refine lv_iload_n hx hb dX4_takeBag_0 rfl (lv_at hl 1 rfl) ?_
  obtain ⟨r1, e1, h⟩ := bind_s h
  refine k_cI (va_runS (As := [.int p1]) (rest := []) ⟨hx, hb, hml, hown, hts⟩ (kX4_isRail l D cI cR q G K p1 r1 e1) (va_cwS 1 hts gX4_takeBag_X4_isRail rfl rfl rfl (by decide +kernel) ⟨Nat.le_of_ble_eq_true rfl, Nat.le_of_ble_eq_true rfl⟩) (mPreS hK hM) rfl rfl hl.1 rfl (lv_room (Nat.le_of_ble_eq_true rfl)) dX4_takeBag_1 ⟨Nat.le_of_ble_eq_true rfl, Nat.le_of_ble_eq_true rfl⟩) hS hM (fun H locs hM hS => ?_)
  refine lv_if_ne (tgt := 13) hx hb dX4_takeBag_4 (by decide) (fun c4 => ?_) (fun c4 => ?_)
  · replace h := ite_f h c4
    refine lv_aload_n hx hb dX4_takeBag_13 rfl (lv_at hl 0 rfl) ?_
    obtain ⟨r14, e14, h⟩ := bind_s h
    refine k_cVW (va_runV (As := []) (rest := []) ⟨hx, hb, hml, hown, hts⟩ (kX4_save l D cI cR q G K hJ r14 e14) (cwV 0 hts gX4_takeBag_X4_save rfl rfl rfl (by decide +kernel) ⟨Nat.le_of_ble_eq_true rfl, Nat.le_of_ble_eq_true rfl⟩) (mPreV hK hM 0 rfl rfl) rfl rfl hl.1 rfl (lv_room (Nat.le_of_ble_eq_true rfl)) dX4_takeBag_14 ⟨Nat.le_of_ble_eq_true rfl, Nat.le_of_ble_eq_true rfl⟩) hS hA (fun H locs hM hS => ?_)
    refine lv_aload_n hx hb dX4_takeBag_17 rfl (lv_at hl 0 rfl) ?_
    refine lv_iload_n hx hb dX4_takeBag_18 rfl (lv_at hl 1 rfl) ?_
    obtain ⟨r19, e19, h⟩ := bind_s h
    refine k_cI (va_runV (As := [.int p1]) (rest := []) ⟨hx, hb, hml, hown, hts⟩ (kX4_inBag l D cI cR q r14 K p1 r19 e19) (cwV 1 hts gX4_takeBag_X4_inBag rfl rfl rfl (by decide +kernel) ⟨Nat.le_of_ble_eq_true rfl, Nat.le_of_ble_eq_true rfl⟩) (mPreV hK hM 0 rfl rfl) rfl rfl hl.1 rfl (lv_room (Nat.le_of_ble_eq_true rfl)) dX4_takeBag_19 ⟨Nat.le_of_ble_eq_true rfl, Nat.le_of_ble_eq_true rfl⟩) hS hM (fun H locs hM hS => ?_)
    refine lv_istore_n (lv' := [(2, .int r19), (0, .ref (q 0)), (1, .int p1)]) hx hb dX4_takeBag_22 rfl hl (by decide) rfl (fun ls hl => ?_)
    refine lv_aload_n hx hb dX4_takeBag_23 rfl (lv_at hl 1 rfl) ?_
    refine k_getR (C := RX4) (T := TX4) (N := 10) hx hb hts iX4 hown hK hM 0 rfl rfl 0 (by decide) rfl w0 (fun _ h9 => h9) dX4_takeBag_24 ?_
    refine lv_iconst (v := 2) hx hb dX4_takeBag_27 (by decide) ?_
    refine lv_dup2_11 hx hb dX4_takeBag_28 rfl rfl ?_
    obtain ⟨g29, h⟩ := grd_s h
    refine k_iald hx hb hK hM 1 rfl g29 dX4_takeBag_29 ?_
    refine lv_iload_n hx hb dX4_takeBag_30 rfl (lv_at hl 0 rfl) ?_
    refine lv_iadd hx hb dX4_takeBag_31 ?_
    obtain ⟨g32, h⟩ := grd_s h
    refine k_iast (v := ((r14 1 (2 : Int32).toNatClampNeg) + r19)) hx hb hK hM hJ hA hS 1 rfl g32 dX4_takeBag_32 (fun H locs hM hS => ?_)
    obtain ⟨G34, eG34, h⟩ := olet_s h
    rw [eG34] at hM
    refine lv_iconst (v := 0) hx hb dX4_takeBag_33 (by decide) ?_
    refine lv_istore_n (lv' := [(3, .int (0 : Int32)), (2, .int r19), (0, .ref (q 0)), (1, .int p1)]) hx hb dX4_takeBag_34 rfl hl (by decide) rfl (fun ls hl => ?_)
    exact L35 K G34 r19 (0 : Int32) _ _ _ h hM hS (lv_sub hl [2, 3, 1, 0] rfl)
  · replace h := ite_t h c4
    refine lv_aload_n hx hb dX4_takeBag_7 rfl (lv_at hl 0 rfl) ?_
    refine lv_iconst (v := 1) hx hb dX4_takeBag_8 (by decide) ?_
    obtain ⟨r9, e9, h⟩ := bind_s h
    refine k_cIW (va_runV (As := [.int (1 : Int32)]) (rest := []) ⟨hx, hb, hml, hown, hts⟩ (kX4_throwing l D cI cR q G K (1 : Int32) hJ r9 e9) (cwV 1 hts gX4_takeBag_X4_throwing rfl rfl rfl (by decide +kernel) ⟨Nat.le_of_ble_eq_true rfl, Nat.le_of_ble_eq_true rfl⟩) (mPreV hK hM 0 rfl rfl) rfl rfl hl.1 rfl (lv_room (Nat.le_of_ble_eq_true rfl)) dX4_takeBag_9 ⟨Nat.le_of_ble_eq_true rfl, Nat.le_of_ble_eq_true rfl⟩) hS hA (fun H locs hM hS => ?_)
    have h := Option.some.inj h
    exact W.iret (v := r9.1) hx hb hr (fun t ht hW => ⟨⟨r9.1, (), rfl, p_fst h, w_end ht hM (p_snd h)⟩, hS.F ht⟩) hS.2.2 dX4_takeBag_12
set_option maxHeartbeats 4000000 in
set_option maxRecDepth 100000 in
theorem kX4_rejects (l : Launch) (D : va_G) (cI cR : ClassId) (q : Nat → Nat) (G : Nat → Nat → Int32) (K : Nat) (r : Int32) (hs : sX4_rejects K G  = some r) : Met l yX4_rejects wsX4_rejects ({ frames := 2, cells := 0, slots := 0, locals := 43 } : Room) (mPre [.ref (q 0)] D cI cR q tmM G) (mI r) 0 0 (fun _ => False) := by
  refine Met.ofW (cc := cX4_rejects) (maxL := 3) (ret := (some .int)) (by decide) rfl ?_
  intro p e s m args below meth c s₁ B hml hv
  obtain ⟨hargs, hM, hK⟩ := hv
  have hx := B.exec
  have hb := B.bytes
  have hr := B.returns
  have hts := atoms_spec (ws := wsX4_rejects) B.pre
  have hown : s.vm.findClass RX4 = some m.cls := findClass_of_methodNamed B.named
  have hlocks := B.notSynchronized
  have hS : va_S (fun _ => False) s.heap s.heap [] := va_S.rf
  have w0 := hts (Cond.fieldLink RX4 7 "CoinRailsModel" "all" "[I") (List.mem_of_getElem? (i := 1) (by decide +kernel))
  have iX4 : ∀ w ∈ wsX40, w ∈ wsX4_rejects := fun _ h => List.mem_cons_of_mem _ (List.mem_append_right _ (h))
  have L4 : ∀ (n : Nat), ∀ (G : Nat → Nat → Int32) (x1 : Int32) (x2 : Int32) (H : Heap) (locs : List Loc) (ls : Array Slot), sX4_rejects_L4 K G n x1 x2 = some r → MW D cI cR q tmM G H → va_S (fun _ => False) s.heap H locs → lv_has ls 3 [(0, .ref (q 0)), (1, .int x1), (2, .int x2)] → W p l e (headSpec wsX4_rejects ({ frames := 2, cells := 0, slots := 0, locals := 43 } : Room)).room s m args below meth c H locs 0 0 (MQ below (mI r) args s 0 0 (fun _ => False)) (F0 m 4 ls []) := by
    clear hM hS
    intro n
    induction n with
    | zero => exact fun _ _ _ _ _ _ h => absurd h (by simp [sX4_rejects_L4])
    | succ n ih =>
      intro G x1 x2 H locs ls h hM hS hl
      rw [sX4_rejects_L4] at h
      refine lv_iload_n hx hb dX4_rejects_4 rfl (lv_at hl 2 rfl) ?_
      refine lv_aload_n hx hb dX4_rejects_5 rfl (lv_at hl 0 rfl) ?_
      refine k_getR (C := RX4) (T := TX4) (N := 10) hx hb hts iX4 hown hK hM 0 rfl rfl 0 (by decide) rfl w0 (fun _ h9 => h9) dX4_rejects_6 ?_
      refine lv_iconst (v := 0) hx hb dX4_rejects_9 (by decide) ?_
      obtain ⟨g10, h⟩ := grd_s h
      refine k_iald hx hb hK hM 1 rfl g10 dX4_rejects_10 ?_
      refine lv_icmp_ge (tgt := 29) hx hb dX4_rejects_11 (by decide) (fun c11 => ?_) (fun c11 => ?_)
      · replace h := ite_t h c11
        refine lv_iload_n hx hb dX4_rejects_29 rfl (lv_at hl 1 rfl) ?_
        exact W.iret (v := x1) hx hb hr (fun t ht hW => ⟨⟨x1, (), rfl, Option.some.inj h, trivial⟩, hS.F ht⟩) hS.2.2 dX4_rejects_30
      · replace h := ite_f h c11
        refine lv_iload_n hx hb dX4_rejects_14 rfl (lv_at hl 1 rfl) ?_
        refine lv_aload_n hx hb dX4_rejects_15 rfl (lv_at hl 0 rfl) ?_
        refine lv_iload_n hx hb dX4_rejects_16 rfl (lv_at hl 2 rfl) ?_
        refine lv_iconst (v := 4) hx hb dX4_rejects_17 (by decide) ?_
        obtain ⟨r18, e18, h⟩ := bind_s h
        refine k_cI (va_runV (As := [.int x2, .int (4 : Int32)]) (rest := [.int x1]) ⟨hx, hb, hml, hown, hts⟩ (kX4_ofKind l D cI cR q G K x2 (4 : Int32) r18 e18) (cwV 2 hts gX4_rejects_X4_ofKind rfl rfl rfl (by decide +kernel) ⟨Nat.le_of_ble_eq_true rfl, Nat.le_of_ble_eq_true rfl⟩) (mPreV hK hM 0 rfl rfl) rfl rfl hl.1 rfl (lv_room (Nat.le_of_ble_eq_true rfl)) dX4_rejects_18 ⟨Nat.le_of_ble_eq_true rfl, Nat.le_of_ble_eq_true rfl⟩) hS hM (fun H locs hM hS => ?_)
        refine lv_iadd hx hb dX4_rejects_21 ?_
        refine lv_istore_n (lv' := [(1, .int (x1 + r18)), (0, .ref (q 0)), (2, .int x2)]) hx hb dX4_rejects_22 rfl hl (by decide) rfl (fun ls hl => ?_)
        refine lv_iinc (v := (x2 + 1)) (lv' := [(2, .int (x2 + 1)), (1, .int (x1 + r18)), (0, .ref (q 0))]) hx hb dX4_rejects_23 hl (k := 2) rfl (congrArg (fun z : Int32 => x2 + z) (show Int32.ofInt (1) = 1 by decide)) (by decide) rfl (fun ls hl => ?_)
        refine lv_goto (tgt := 4) hx hb dX4_rejects_26 (by decide) ?_
        exact ih G (x1 + r18) (x2 + 1) _ _ _ h hM hS (lv_sub hl [2, 1, 0] rfl)
  subst hargs
  have hl := lv_entry ([.ref (q 0)]) (n := 3) (Nat.le_of_ble_eq_true rfl)
  rw [lg_entry_eq]
  generalize (lg_sl ([.ref (q 0)]) ++ List.replicate (3 - (lg_sl ([.ref (q 0)])).length) Slot.unset).toArray = ls at hl ⊢
  have hl : lv_has ls 3 [(0, .ref (q 0))] := hl
  have h := hs
  unfold sX4_rejects at h
  have hM0 := hM
  refine lv_iconst (v := 0) hx hb dX4_rejects_0 (by decide) ?_
  refine lv_istore_n (lv' := [(1, .int (0 : Int32)), (0, .ref (q 0))]) hx hb dX4_rejects_1 rfl hl (by decide) rfl (fun ls hl => ?_)
  refine lv_iconst (v := 0) hx hb dX4_rejects_2 (by decide) ?_
  refine lv_istore_n (lv' := [(2, .int (0 : Int32)), (1, .int (0 : Int32)), (0, .ref (q 0))]) hx hb dX4_rejects_3 rfl hl (by decide) rfl (fun ls hl => ?_)
  exact L4 K G (0 : Int32) (0 : Int32) _ _ _ h hM hS (lv_sub hl [2, 1, 0] rfl)
set_option maxHeartbeats 4000000 in
set_option maxRecDepth 100000 in
theorem kX4_takeRejects (l : Launch) (D : va_G) (cI cR : ClassId) (q : Nat → Nat) (G : Nat → Nat → Int32) (K : Nat) (hJ : MJ tmM q) (r : (Int32 × (Nat → Nat → Int32))) (hs : sX4_takeRejects K G  = some r) : Met l yX4_takeRejects wsX4_takeRejects ({ frames := 3, cells := 0, slots := 0, locals := 65 } : Room) (mPre [.ref (q 0)] D cI cR q tmM G) (mIW D cI cR q tmM r) 0 0 (MA tmM q) := by
  refine Met.ofW (cc := cX4_takeRejects) (maxL := 3) (ret := (some .int)) (by decide) rfl ?_
  intro p e s m args below meth c s₁ B hml hv
  obtain ⟨hargs, hM, hK⟩ := hv
  have hx := B.exec
  have hb := B.bytes
  have hr := B.returns
  have hts := atoms_spec (ws := wsX4_takeRejects) B.pre
  have hown : s.vm.findClass RX4 = some m.cls := findClass_of_methodNamed B.named
  have hlocks := B.notSynchronized
  have hA : ∀ a, MA tmM q a → MA tmM q a := fun _ h => h
  have hS : va_S (MA tmM q) s.heap s.heap [] := va_S.rf
  have w0 := hts (Cond.fieldLink RX4 7 "CoinRailsModel" "all" "[I") (List.mem_of_getElem? (i := 1) (by decide +kernel))
  have iX4 : ∀ w ∈ wsX40, w ∈ wsX4_takeRejects := fun _ h => List.mem_cons_of_mem _ (List.mem_append_right _ (h))
  have L21 : ∀ (n : Nat), ∀ (G1 : Nat → Nat → Int32) (x1 : Int32) (x2 : Int32) (H : Heap) (locs : List Loc) (ls : Array Slot), sX4_takeRejects_L21 K n G1 x1 x2 = some r → MW D cI cR q tmM G1 H → va_S (MA tmM q) s.heap H locs → lv_has ls 3 [(0, .ref (q 0)), (1, .int x1), (2, .int x2)] → W p l e (headSpec wsX4_takeRejects ({ frames := 3, cells := 0, slots := 0, locals := 65 } : Room)).room s m args below meth c H locs 0 0 (MQ below (mIW D cI cR q tmM r) args s 0 0 (MA tmM q)) (F0 m 21 ls []) := by
    clear hM hS
    intro n
    induction n with
    | zero => exact fun _ _ _ _ _ _ h => absurd h (by simp [sX4_takeRejects_L21])
    | succ n ih =>
      intro G1 x1 x2 H locs ls h hM hS hl
      rw [sX4_takeRejects_L21] at h
      refine lv_iload_n hx hb dX4_takeRejects_21 rfl (lv_at hl 2 rfl) ?_
      refine lv_aload_n hx hb dX4_takeRejects_22 rfl (lv_at hl 0 rfl) ?_
      refine k_getR (C := RX4) (T := TX4) (N := 10) hx hb hts iX4 hown hK hM 0 rfl rfl 0 (by decide) rfl w0 (fun _ h9 => h9) dX4_takeRejects_23 ?_
      refine lv_iconst (v := 0) hx hb dX4_takeRejects_26 (by decide) ?_
      obtain ⟨g27, h⟩ := grd_s h
      refine k_iald hx hb hK hM 1 rfl g27 dX4_takeRejects_27 ?_
      refine lv_icmp_ge (tgt := 48) hx hb dX4_takeRejects_28 (by decide) (fun c28 => ?_) (fun c28 => ?_)
      · replace h := ite_t h c28
        refine lv_aload_n hx hb dX4_takeRejects_48 rfl (lv_at hl 0 rfl) ?_
        refine lv_iload_n hx hb dX4_takeRejects_49 rfl (lv_at hl 1 rfl) ?_
        obtain ⟨r50, e50, h⟩ := bind_s h
        refine k_cIW (va_runV (As := [.int x1]) (rest := []) ⟨hx, hb, hml, hown, hts⟩ (kX4_fine l D cI cR q G1 K x1 hJ r50 e50) (cwV 1 hts gX4_takeRejects_X4_fine rfl rfl rfl (by decide +kernel) ⟨Nat.le_of_ble_eq_true rfl, Nat.le_of_ble_eq_true rfl⟩) (mPreV hK hM 0 rfl rfl) rfl rfl hl.1 rfl (lv_room (Nat.le_of_ble_eq_true rfl)) dX4_takeRejects_50 ⟨Nat.le_of_ble_eq_true rfl, Nat.le_of_ble_eq_true rfl⟩) hS hA (fun H locs hM hS => ?_)
        have h := Option.some.inj h
        exact W.iret (v := r50.1) hx hb hr (fun t ht hW => ⟨⟨r50.1, (), rfl, p_fst h, w_end ht hM (p_snd h)⟩, hS.F ht⟩) hS.2.2 dX4_takeRejects_53
      · replace h := ite_f h c28
        refine lv_aload_n hx hb dX4_takeRejects_31 rfl (lv_at hl 0 rfl) ?_
        refine k_getR (C := RX4) (T := TX4) (N := 10) hx hb hts iX4 hown hK hM 0 rfl rfl 0 (by decide) rfl w0 (fun _ h9 => h9) dX4_takeRejects_32 ?_
        refine lv_iload_n hx hb dX4_takeRejects_35 rfl (lv_at hl 2 rfl) ?_
        refine lv_iconst (v := 4) hx hb dX4_takeRejects_36 (by decide) ?_
        obtain ⟨r37, e37, h⟩ := bind_s h
        refine k_cI (va_runS (As := [.int x2, .int (4 : Int32)]) (rest := [.ref (q 1)]) ⟨hx, hb, hml, hown, hts⟩ (kX4_kindAt l D cI cR q G1 K x2 (4 : Int32) r37 e37) (va_cwS 2 hts gX4_takeRejects_X4_kindAt rfl rfl rfl (by decide +kernel) ⟨Nat.le_of_ble_eq_true rfl, Nat.le_of_ble_eq_true rfl⟩) (mPreS hK hM) rfl rfl hl.1 rfl (lv_room (Nat.le_of_ble_eq_true rfl)) dX4_takeRejects_37 ⟨Nat.le_of_ble_eq_true rfl, Nat.le_of_ble_eq_true rfl⟩) hS hM (fun H locs hM hS => ?_)
        refine lv_iconst (v := 0) hx hb dX4_takeRejects_40 (by decide) ?_
        obtain ⟨g41, h⟩ := grd_s h
        refine k_iast (v := (0 : Int32)) hx hb hK hM hJ hA hS 1 rfl g41 dX4_takeRejects_41 (fun H locs hM hS => ?_)
        obtain ⟨G43, eG43, h⟩ := olet_s h
        rw [eG43] at hM
        refine lv_iinc (v := (x2 + 1)) (lv' := [(2, .int (x2 + 1)), (0, .ref (q 0)), (1, .int x1)]) hx hb dX4_takeRejects_42 hl (k := 2) rfl (congrArg (fun z : Int32 => x2 + z) (show Int32.ofInt (1) = 1 by decide)) (by decide) rfl (fun ls hl => ?_)
        refine lv_goto (tgt := 21) hx hb dX4_takeRejects_45 (by decide) ?_
        exact ih G43 x1 (x2 + 1) _ _ _ h hM hS (lv_sub hl [1, 2, 0] rfl)
  subst hargs
  have hl := lv_entry ([.ref (q 0)]) (n := 3) (Nat.le_of_ble_eq_true rfl)
  rw [lg_entry_eq]
  generalize (lg_sl ([.ref (q 0)]) ++ List.replicate (3 - (lg_sl ([.ref (q 0)])).length) Slot.unset).toArray = ls at hl ⊢
  have hl : lv_has ls 3 [(0, .ref (q 0))] := hl
  have h := hs
  unfold sX4_takeRejects at h
  have hM0 := hM
  refine lv_aload_n hx hb dX4_takeRejects_0 rfl (lv_at hl 0 rfl) ?_
  obtain ⟨r1, e1, h⟩ := bind_s h
  refine k_cVW (va_runV (As := []) (rest := []) ⟨hx, hb, hml, hown, hts⟩ (kX4_save l D cI cR q G K hJ r1 e1) (cwV 0 hts gX4_takeRejects_X4_save rfl rfl rfl (by decide +kernel) ⟨Nat.le_of_ble_eq_true rfl, Nat.le_of_ble_eq_true rfl⟩) (mPreV hK hM 0 rfl rfl) rfl rfl hl.1 rfl (lv_room (Nat.le_of_ble_eq_true rfl)) dX4_takeRejects_1 ⟨Nat.le_of_ble_eq_true rfl, Nat.le_of_ble_eq_true rfl⟩) hS hA (fun H locs hM hS => ?_)
  refine lv_aload_n hx hb dX4_takeRejects_4 rfl (lv_at hl 0 rfl) ?_
  obtain ⟨r5, e5, h⟩ := bind_s h
  refine k_cI (va_runV (As := []) (rest := []) ⟨hx, hb, hml, hown, hts⟩ (kX4_rejects l D cI cR q r1 K r5 e5) (cwV 0 hts gX4_takeRejects_X4_rejects rfl rfl rfl (by decide +kernel) ⟨Nat.le_of_ble_eq_true rfl, Nat.le_of_ble_eq_true rfl⟩) (mPreV hK hM 0 rfl rfl) rfl rfl hl.1 rfl (lv_room (Nat.le_of_ble_eq_true rfl)) dX4_takeRejects_5 ⟨Nat.le_of_ble_eq_true rfl, Nat.le_of_ble_eq_true rfl⟩) hS hM (fun H locs hM hS => ?_)
  refine lv_istore_n (lv' := [(1, .int r5), (0, .ref (q 0))]) hx hb dX4_takeRejects_8 rfl hl (by decide) rfl (fun ls hl => ?_)
  refine lv_aload_n hx hb dX4_takeRejects_9 rfl (lv_at hl 1 rfl) ?_
  refine k_getR (C := RX4) (T := TX4) (N := 10) hx hb hts iX4 hown hK hM 0 rfl rfl 0 (by decide) rfl w0 (fun _ h9 => h9) dX4_takeRejects_10 ?_
  refine lv_iconst (v := 2) hx hb dX4_takeRejects_13 (by decide) ?_
  refine lv_dup2_11 hx hb dX4_takeRejects_14 rfl rfl ?_
  obtain ⟨g15, h⟩ := grd_s h
  refine k_iald hx hb hK hM 1 rfl g15 dX4_takeRejects_15 ?_
  refine lv_iload_n hx hb dX4_takeRejects_16 rfl (lv_at hl 0 rfl) ?_
  refine lv_iadd hx hb dX4_takeRejects_17 ?_
  obtain ⟨g18, h⟩ := grd_s h
  refine k_iast (v := ((r1 1 (2 : Int32).toNatClampNeg) + r5)) hx hb hK hM hJ hA hS 1 rfl g18 dX4_takeRejects_18 (fun H locs hM hS => ?_)
  obtain ⟨G20, eG20, h⟩ := olet_s h
  rw [eG20] at hM
  refine lv_iconst (v := 0) hx hb dX4_takeRejects_19 (by decide) ?_
  refine lv_istore_n (lv' := [(2, .int (0 : Int32)), (1, .int r5), (0, .ref (q 0))]) hx hb dX4_takeRejects_20 rfl hl (by decide) rfl (fun ls hl => ?_)
  exact L21 K G20 r5 (0 : Int32) _ _ _ h hM hS (lv_sub hl [2, 1, 0] rfl)
set_option maxHeartbeats 4000000 in
set_option maxRecDepth 100000 in
theorem kX4_inBags (l : Launch) (D : va_G) (cI cR : ClassId) (q : Nat → Nat) (G : Nat → Nat → Int32) (K : Nat) (p1 : Int32) (r : Int32) (hs : sX4_inBags K G p1 = some r) : Met l yX4_inBags wsX4_inBags ({ frames := 1, cells := 0, slots := 0, locals := 21 } : Room) (mPre [.ref (q 0), .int p1] D cI cR q tmM G) (mI r) 0 0 (fun _ => False) := by
  refine Met.ofW (cc := cX4_inBags) (maxL := 4) (ret := (some .int)) (by decide) rfl ?_
  intro p e s m args below meth c s₁ B hml hv
  obtain ⟨hargs, hM, hK⟩ := hv
  have hx := B.exec
  have hb := B.bytes
  have hr := B.returns
  have hts := atoms_spec (ws := wsX4_inBags) B.pre
  have hown : s.vm.findClass RX4 = some m.cls := findClass_of_methodNamed B.named
  have hlocks := B.notSynchronized
  have hS : va_S (fun _ => False) s.heap s.heap [] := va_S.rf
  have w0 := hts (Cond.fieldLink RX4 7 "CoinRailsModel" "all" "[I") (List.mem_of_getElem? (i := 1) (by decide +kernel))
  have iX4 : ∀ w ∈ wsX40, w ∈ wsX4_inBags := fun _ h => List.mem_cons_of_mem _ (List.mem_append_right _ (h))
  have L4 : ∀ (n : Nat), ∀ (G : Nat → Nat → Int32) (x2 : Int32) (x3 : Int32) (H : Heap) (locs : List Loc) (ls : Array Slot), sX4_inBags_L4 K G p1 n x2 x3 = some r → MW D cI cR q tmM G H → va_S (fun _ => False) s.heap H locs → lv_has ls 4 [(0, .ref (q 0)), (1, .int p1), (2, .int x2), (3, .int x3)] → W p l e (headSpec wsX4_inBags ({ frames := 1, cells := 0, slots := 0, locals := 21 } : Room)).room s m args below meth c H locs 0 0 (MQ below (mI r) args s 0 0 (fun _ => False)) (F0 m 4 ls []) := by
    clear hM hS
    intro n
    induction n with
    | zero => exact fun _ _ _ _ _ _ h => absurd h (by simp [sX4_inBags_L4])
    | succ n ih =>
      intro G x2 x3 H locs ls h hM hS hl
      rw [sX4_inBags_L4] at h
      refine lv_iload_n hx hb dX4_inBags_4 rfl (lv_at hl 3 rfl) ?_
      refine lv_bipush (v := 6) hx hb dX4_inBags_5 (by decide) ?_
      refine lv_icmp_ge (tgt := 29) hx hb dX4_inBags_7 (by decide) (fun c7 => ?_) (fun c7 => ?_)
      · replace h := ite_t h c7
        refine lv_iload_n hx hb dX4_inBags_29 rfl (lv_at hl 2 rfl) ?_
        exact W.iret (v := x2) hx hb hr (fun t ht hW => ⟨⟨x2, (), rfl, Option.some.inj h, trivial⟩, hS.F ht⟩) hS.2.2 dX4_inBags_30
      · replace h := ite_f h c7
        refine lv_iload_n hx hb dX4_inBags_10 rfl (lv_at hl 2 rfl) ?_
        refine lv_aload_n hx hb dX4_inBags_11 rfl (lv_at hl 0 rfl) ?_
        refine k_getR (C := RX4) (T := TX4) (N := 10) hx hb hts iX4 hown hK hM 0 rfl rfl 0 (by decide) rfl w0 (fun _ h9 => h9) dX4_inBags_12 ?_
        refine lv_iload_n hx hb dX4_inBags_15 rfl (lv_at hl 3 rfl) ?_
        refine lv_iload_n hx hb dX4_inBags_16 rfl (lv_at hl 1 rfl) ?_
        obtain ⟨r17, e17, h⟩ := bind_s h
        refine k_cI (va_runS (As := [.int x3, .int p1]) (rest := [.ref (q 1), .int x2]) ⟨hx, hb, hml, hown, hts⟩ (kX4_countAt l D cI cR q G K x3 p1 r17 e17) (va_cwS 2 hts gX4_inBags_X4_countAt rfl rfl rfl (by decide +kernel) ⟨Nat.le_of_ble_eq_true rfl, Nat.le_of_ble_eq_true rfl⟩) (mPreS hK hM) rfl rfl hl.1 rfl (lv_room (Nat.le_of_ble_eq_true rfl)) dX4_inBags_17 ⟨Nat.le_of_ble_eq_true rfl, Nat.le_of_ble_eq_true rfl⟩) hS hM (fun H locs hM hS => ?_)
        obtain ⟨g20, h⟩ := grd_s h
        refine k_iald hx hb hK hM 1 rfl g20 dX4_inBags_20 ?_
        refine lv_iadd hx hb dX4_inBags_21 ?_
        refine lv_istore_n (lv' := [(2, .int (x2 + (G 1 r17.toNatClampNeg))), (0, .ref (q 0)), (1, .int p1), (3, .int x3)]) hx hb dX4_inBags_22 rfl hl (by decide) rfl (fun ls hl => ?_)
        refine lv_iinc (v := (x3 + 1)) (lv' := [(3, .int (x3 + 1)), (2, .int (x2 + (G 1 r17.toNatClampNeg))), (0, .ref (q 0)), (1, .int p1)]) hx hb dX4_inBags_23 hl (k := 3) rfl (congrArg (fun z : Int32 => x3 + z) (show Int32.ofInt (1) = 1 by decide)) (by decide) rfl (fun ls hl => ?_)
        refine lv_goto (tgt := 4) hx hb dX4_inBags_26 (by decide) ?_
        exact ih G (x2 + (G 1 r17.toNatClampNeg)) (x3 + 1) _ _ _ h hM hS (lv_sub hl [2, 3, 1, 0] rfl)
  subst hargs
  have hl := lv_entry ([.ref (q 0), .int p1]) (n := 4) (Nat.le_of_ble_eq_true rfl)
  rw [lg_entry_eq]
  generalize (lg_sl ([.ref (q 0), .int p1]) ++ List.replicate (4 - (lg_sl ([.ref (q 0), .int p1])).length) Slot.unset).toArray = ls at hl ⊢
  have hl : lv_has ls 4 [(0, .ref (q 0)), (1, .int p1)] := hl
  have h := hs
  unfold sX4_inBags at h
  have hM0 := hM
  refine lv_iconst (v := 0) hx hb dX4_inBags_0 (by decide) ?_
  refine lv_istore_n (lv' := [(2, .int (0 : Int32)), (0, .ref (q 0)), (1, .int p1)]) hx hb dX4_inBags_1 rfl hl (by decide) rfl (fun ls hl => ?_)
  refine lv_iconst (v := 0) hx hb dX4_inBags_2 (by decide) ?_
  refine lv_istore_n (lv' := [(3, .int (0 : Int32)), (2, .int (0 : Int32)), (0, .ref (q 0)), (1, .int p1)]) hx hb dX4_inBags_3 rfl hl (by decide) rfl (fun ls hl => ?_)
  exact L4 K G (0 : Int32) (0 : Int32) _ _ _ h hM hS (lv_sub hl [2, 3, 1, 0] rfl)
set_option maxHeartbeats 4000000 in
set_option maxRecDepth 100000 in
theorem kX4_stuckBy (l : Launch) (D : va_G) (cI cR : ClassId) (q : Nat → Nat) (G : Nat → Nat → Int32) (K : Nat) (p1 : Int32) (r : Int32) (hs : sX4_stuckBy K G p1 = some r) : Met l yX4_stuckBy wsX4_stuckBy ({ frames := 2, cells := 0, slots := 0, locals := 43 } : Room) (mPre [.ref (q 0), .int p1] D cI cR q tmM G) (mI r) 0 0 (fun _ => False) := by
  refine Met.ofW (cc := cX4_stuckBy) (maxL := 5) (ret := (some .int)) (by decide) rfl ?_
  intro p e s m args below meth c s₁ B hml hv
  obtain ⟨hargs, hM, hK⟩ := hv
  have hx := B.exec
  have hb := B.bytes
  have hr := B.returns
  have hts := atoms_spec (ws := wsX4_stuckBy) B.pre
  have hown : s.vm.findClass RX4 = some m.cls := findClass_of_methodNamed B.named
  have hlocks := B.notSynchronized
  have hS : va_S (fun _ => False) s.heap s.heap [] := va_S.rf
  have L4 : ∀ (n : Nat), ∀ (G : Nat → Nat → Int32) (x2 : Int32) (x3 : Int32) (H : Heap) (locs : List Loc) (ls : Array Slot), sX4_stuckBy_L4 K G p1 n x2 x3 = some r → MW D cI cR q tmM G H → va_S (fun _ => False) s.heap H locs → lv_has ls 5 [(0, .ref (q 0)), (1, .int p1), (2, .int x2), (3, .int x3)] → W p l e (headSpec wsX4_stuckBy ({ frames := 2, cells := 0, slots := 0, locals := 43 } : Room)).room s m args below meth c H locs 0 0 (MQ below (mI r) args s 0 0 (fun _ => False)) (F0 m 4 ls []) := by
    clear hM hS
    intro n
    induction n with
    | zero => exact fun _ _ _ _ _ _ h => absurd h (by simp [sX4_stuckBy_L4])
    | succ n ih =>
      intro G x2 x3 H locs ls h hM hS hl
      rw [sX4_stuckBy_L4] at h
      refine lv_iload_n hx hb dX4_stuckBy_4 rfl (lv_at hl 3 rfl) ?_
      refine lv_bipush (v := 6) hx hb dX4_stuckBy_5 (by decide) ?_
      refine lv_icmp_ge (tgt := 49) hx hb dX4_stuckBy_7 (by decide) (fun c7 => ?_) (fun c7 => ?_)
      · replace h := ite_t h c7
        refine lv_iload_n hx hb dX4_stuckBy_49 rfl (lv_at hl 2 rfl) ?_
        exact W.iret (v := x2) hx hb hr (fun t ht hW => ⟨⟨x2, (), rfl, Option.some.inj h, trivial⟩, hS.F ht⟩) hS.2.2 dX4_stuckBy_50
      · replace h := ite_f h c7
        refine lv_aload_n hx hb dX4_stuckBy_10 rfl (lv_at hl 0 rfl) ?_
        refine lv_iload_n hx hb dX4_stuckBy_11 rfl (lv_at hl 3 rfl) ?_
        refine lv_iconst (v := 2) hx hb dX4_stuckBy_12 (by decide) ?_
        obtain ⟨r13, e13, h⟩ := bind_s h
        refine k_cI (va_runV (As := [.int x3, .int (2 : Int32)]) (rest := []) ⟨hx, hb, hml, hown, hts⟩ (kX4_ofRail l D cI cR q G K x3 (2 : Int32) r13 e13) (cwV 2 hts gX4_stuckBy_X4_ofRail rfl rfl rfl (by decide +kernel) ⟨Nat.le_of_ble_eq_true rfl, Nat.le_of_ble_eq_true rfl⟩) (mPreV hK hM 0 rfl rfl) rfl rfl hl.1 rfl (lv_room (Nat.le_of_ble_eq_true rfl)) dX4_stuckBy_13 ⟨Nat.le_of_ble_eq_true rfl, Nat.le_of_ble_eq_true rfl⟩) hS hM (fun H locs hM hS => ?_)
        refine lv_istore (lv' := [(4, .int r13), (0, .ref (q 0)), (1, .int p1), (2, .int x2), (3, .int x3)]) hx hb dX4_stuckBy_16 hl (by decide) rfl (fun ls hl => ?_)
        refine lv_iload_n hx hb dX4_stuckBy_18 rfl (lv_at hl 3 rfl) ?_
        refine lv_iload hx hb dX4_stuckBy_19 (lv_at hl 0 rfl) ?_
        refine lv_iconst (v := -1) hx hb dX4_stuckBy_21 (by decide) ?_
        refine lv_icmp_eq (tgt := 40) hx hb dX4_stuckBy_22 (by decide) (fun c22 => ?_) (fun c22 => ?_)
        · replace h := ite_t h c22
          refine lv_iconst (v := 0) hx hb dX4_stuckBy_40 (by decide) ?_
          refine lv_iadd hx hb dX4_stuckBy_41 ?_
          refine lv_istore_n (lv' := [(2, .int (x2 + (0 : Int32))), (4, .int r13), (0, .ref (q 0)), (1, .int p1), (3, .int x3)]) hx hb dX4_stuckBy_42 rfl hl (by decide) rfl (fun ls hl => ?_)
          refine lv_iinc (v := (x3 + 1)) (lv' := [(3, .int (x3 + 1)), (2, .int (x2 + (0 : Int32))), (4, .int r13), (0, .ref (q 0)), (1, .int p1)]) hx hb dX4_stuckBy_43 hl (k := 4) rfl (congrArg (fun z : Int32 => x3 + z) (show Int32.ofInt (1) = 1 by decide)) (by decide) rfl (fun ls hl => ?_)
          refine lv_goto (tgt := 4) hx hb dX4_stuckBy_46 (by decide) ?_
          exact ih G (x2 + (0 : Int32)) (x3 + 1) _ _ _ h hM hS (lv_sub hl [3, 4, 1, 0] rfl)
        · replace h := ite_f h c22
          refine lv_iload_n hx hb dX4_stuckBy_25 rfl (lv_at hl 2 rfl) ?_
          refine lv_iconst (v := -1) hx hb dX4_stuckBy_26 (by decide) ?_
          refine lv_icmp_eq (tgt := 36) hx hb dX4_stuckBy_27 (by decide) (fun c27 => ?_) (fun c27 => ?_)
          · replace h := ite_t h c27
            refine lv_iconst (v := 1) hx hb dX4_stuckBy_36 (by decide) ?_
            refine lv_goto (tgt := 41) hx hb dX4_stuckBy_37 (by decide) ?_
            refine lv_iadd hx hb dX4_stuckBy_41 ?_
            refine lv_istore_n (lv' := [(2, .int (x2 + (1 : Int32))), (4, .int r13), (0, .ref (q 0)), (1, .int p1), (3, .int x3)]) hx hb dX4_stuckBy_42 rfl hl (by decide) rfl (fun ls hl => ?_)
            refine lv_iinc (v := (x3 + 1)) (lv' := [(3, .int (x3 + 1)), (2, .int (x2 + (1 : Int32))), (4, .int r13), (0, .ref (q 0)), (1, .int p1)]) hx hb dX4_stuckBy_43 hl (k := 4) rfl (congrArg (fun z : Int32 => x3 + z) (show Int32.ofInt (1) = 1 by decide)) (by decide) rfl (fun ls hl => ?_)
            refine lv_goto (tgt := 4) hx hb dX4_stuckBy_46 (by decide) ?_
            exact ih G (x2 + (1 : Int32)) (x3 + 1) _ _ _ h hM hS (lv_sub hl [3, 4, 1, 0] rfl)
          · replace h := ite_f h c27
            refine lv_iload hx hb dX4_stuckBy_30 (lv_at hl 0 rfl) ?_
            refine lv_iload_n hx hb dX4_stuckBy_32 rfl (lv_at hl 2 rfl) ?_
            refine lv_icmp_ne (tgt := 40) hx hb dX4_stuckBy_33 (by decide) (fun c33 => ?_) (fun c33 => ?_)
            · replace h := ite_f h c33
              refine lv_iconst (v := 0) hx hb dX4_stuckBy_40 (by decide) ?_
              refine lv_iadd hx hb dX4_stuckBy_41 ?_
              refine lv_istore_n (lv' := [(2, .int (x2 + (0 : Int32))), (4, .int r13), (0, .ref (q 0)), (1, .int p1), (3, .int x3)]) hx hb dX4_stuckBy_42 rfl hl (by decide) rfl (fun ls hl => ?_)
              refine lv_iinc (v := (x3 + 1)) (lv' := [(3, .int (x3 + 1)), (2, .int (x2 + (0 : Int32))), (4, .int r13), (0, .ref (q 0)), (1, .int p1)]) hx hb dX4_stuckBy_43 hl (k := 4) rfl (congrArg (fun z : Int32 => x3 + z) (show Int32.ofInt (1) = 1 by decide)) (by decide) rfl (fun ls hl => ?_)
              refine lv_goto (tgt := 4) hx hb dX4_stuckBy_46 (by decide) ?_
              exact ih G (x2 + (0 : Int32)) (x3 + 1) _ _ _ h hM hS (lv_sub hl [3, 4, 1, 0] rfl)
            · replace h := ite_t h c33
              refine lv_iconst (v := 1) hx hb dX4_stuckBy_36 (by decide) ?_
              refine lv_goto (tgt := 41) hx hb dX4_stuckBy_37 (by decide) ?_
              refine lv_iadd hx hb dX4_stuckBy_41 ?_
              refine lv_istore_n (lv' := [(2, .int (x2 + (1 : Int32))), (4, .int r13), (0, .ref (q 0)), (1, .int p1), (3, .int x3)]) hx hb dX4_stuckBy_42 rfl hl (by decide) rfl (fun ls hl => ?_)
              refine lv_iinc (v := (x3 + 1)) (lv' := [(3, .int (x3 + 1)), (2, .int (x2 + (1 : Int32))), (4, .int r13), (0, .ref (q 0)), (1, .int p1)]) hx hb dX4_stuckBy_43 hl (k := 4) rfl (congrArg (fun z : Int32 => x3 + z) (show Int32.ofInt (1) = 1 by decide)) (by decide) rfl (fun ls hl => ?_)
              refine lv_goto (tgt := 4) hx hb dX4_stuckBy_46 (by decide) ?_
              exact ih G (x2 + (1 : Int32)) (x3 + 1) _ _ _ h hM hS (lv_sub hl [3, 4, 1, 0] rfl)
  subst hargs
  have hl := lv_entry ([.ref (q 0), .int p1]) (n := 5) (Nat.le_of_ble_eq_true rfl)
  rw [lg_entry_eq]
  generalize (lg_sl ([.ref (q 0), .int p1]) ++ List.replicate (5 - (lg_sl ([.ref (q 0), .int p1])).length) Slot.unset).toArray = ls at hl ⊢
  have hl : lv_has ls 5 [(0, .ref (q 0)), (1, .int p1)] := hl
  have h := hs
  unfold sX4_stuckBy at h
  have hM0 := hM
  refine lv_iconst (v := 0) hx hb dX4_stuckBy_0 (by decide) ?_
  refine lv_istore_n (lv' := [(2, .int (0 : Int32)), (0, .ref (q 0)), (1, .int p1)]) hx hb dX4_stuckBy_1 rfl hl (by decide) rfl (fun ls hl => ?_)
  refine lv_iconst (v := 0) hx hb dX4_stuckBy_2 (by decide) ?_
  refine lv_istore_n (lv' := [(3, .int (0 : Int32)), (2, .int (0 : Int32)), (0, .ref (q 0)), (1, .int p1)]) hx hb dX4_stuckBy_3 rfl hl (by decide) rfl (fun ls hl => ?_)
  exact L4 K G (0 : Int32) (0 : Int32) _ _ _ h hM hS (lv_sub hl [2, 3, 1, 0] rfl)
set_option maxHeartbeats 4000000 in
set_option maxRecDepth 100000 in
theorem kX4_kindOf (l : Launch) (D : va_G) (cI cR : ClassId) (q : Nat → Nat) (G : Nat → Nat → Int32) (K : Nat) (p1 : Int32) (p2 : Int32) (r : Int32) (hs : sX4_kindOf K G p1 p2 = some r) : Met l yX4_kindOf wsX4_kindOf ({ frames := 3, cells := 0, slots := 0, locals := 67 } : Room) (mPre [.ref (q 0), .int p1, .int p2] D cI cR q tmM G) (mI r) 0 0 (fun _ => False) := by
  refine Met.ofW (cc := cX4_kindOf) (maxL := 3) (ret := (some .int)) (by decide) rfl ?_
  intro p e s m args below meth c s₁ B hml hv
  obtain ⟨hargs, hM, hK⟩ := hv
  have hx := B.exec
  have hb := B.bytes
  have hr := B.returns
  have hts := atoms_spec (ws := wsX4_kindOf) B.pre
  have hown : s.vm.findClass RX4 = some m.cls := findClass_of_methodNamed B.named
  have hlocks := B.notSynchronized
  have hS : va_S (fun _ => False) s.heap s.heap [] := va_S.rf
  subst hargs
  have hl := lv_entry ([.ref (q 0), .int p1, .int p2]) (n := 3) (Nat.le_of_ble_eq_true rfl)
  rw [lg_entry_eq]
  generalize (lg_sl ([.ref (q 0), .int p1, .int p2]) ++ List.replicate (3 - (lg_sl ([.ref (q 0), .int p1, .int p2])).length) Slot.unset).toArray = ls at hl ⊢
  have hl : lv_has ls 3 [(0, .ref (q 0)), (1, .int p1), (2, .int p2)] := hl
  have h := hs
  unfold sX4_kindOf at h
  have hM0 := hM
  refine lv_iload_n hx hb dX4_kindOf_0 rfl (lv_at hl 2 rfl) ?_
  rcases Decidable.em (p2 = (3 : Int32)) with c1_3 | c1_3
  · replace h := ite_t h c1_3
    refine lv_tableIn (off := 31) (tgt := 32) hx hb dX4_kindOf_1 (by rw [c1_3]; decide) (by rw [c1_3]; decide) (by rw [c1_3]; rfl) (by decide) ?_
    refine lv_aload_n hx hb dX4_kindOf_32 rfl (lv_at hl 0 rfl) ?_
    refine lv_iload_n hx hb dX4_kindOf_33 rfl (lv_at hl 1 rfl) ?_
    obtain ⟨r34, e34, h⟩ := bind_s h
    refine k_cI (va_runV (As := [.int p1]) (rest := []) ⟨hx, hb, hml, hown, hts⟩ (kX4_inBags l D cI cR q G K p1 r34 e34) (cwV 1 hts gX4_kindOf_X4_inBags rfl rfl rfl (by decide +kernel) ⟨Nat.le_of_ble_eq_true rfl, Nat.le_of_ble_eq_true rfl⟩) (mPreV hK hM 0 rfl rfl) rfl rfl hl.1 rfl (lv_room (Nat.le_of_ble_eq_true rfl)) dX4_kindOf_34 ⟨Nat.le_of_ble_eq_true rfl, Nat.le_of_ble_eq_true rfl⟩) hS hM (fun H locs hM hS => ?_)
    exact W.iret (v := r34) hx hb hr (fun t ht hW => ⟨⟨r34, (), rfl, Option.some.inj h, trivial⟩, hS.F ht⟩) hS.2.2 dX4_kindOf_37
  · replace h := ite_f h c1_3
    rcases Decidable.em (p2 = (4 : Int32)) with c1_4 | c1_4
    · replace h := ite_t h c1_4
      refine lv_tableIn (off := 37) (tgt := 38) hx hb dX4_kindOf_1 (by rw [c1_4]; decide) (by rw [c1_4]; decide) (by rw [c1_4]; rfl) (by decide) ?_
      refine lv_aload_n hx hb dX4_kindOf_38 rfl (lv_at hl 0 rfl) ?_
      refine lv_iload_n hx hb dX4_kindOf_39 rfl (lv_at hl 1 rfl) ?_
      obtain ⟨r40, e40, h⟩ := bind_s h
      refine k_cI (va_runV (As := [.int p1]) (rest := []) ⟨hx, hb, hml, hown, hts⟩ (kX4_stuckBy l D cI cR q G K p1 r40 e40) (cwV 1 hts gX4_kindOf_X4_stuckBy rfl rfl rfl (by decide +kernel) ⟨Nat.le_of_ble_eq_true rfl, Nat.le_of_ble_eq_true rfl⟩) (mPreV hK hM 0 rfl rfl) rfl rfl hl.1 rfl (lv_room (Nat.le_of_ble_eq_true rfl)) dX4_kindOf_40 ⟨Nat.le_of_ble_eq_true rfl, Nat.le_of_ble_eq_true rfl⟩) hS hM (fun H locs hM hS => ?_)
      exact W.iret (v := r40) hx hb hr (fun t ht hW => ⟨⟨r40, (), rfl, Option.some.inj h, trivial⟩, hS.F ht⟩) hS.2.2 dX4_kindOf_43
    · replace h := ite_f h c1_4
      rcases Decidable.em (p2 = (5 : Int32)) with c1_5 | c1_5
      · replace h := ite_t h c1_5
        refine lv_tableIn (off := 43) (tgt := 44) hx hb dX4_kindOf_1 (by rw [c1_5]; decide) (by rw [c1_5]; decide) (by rw [c1_5]; rfl) (by decide) ?_
        refine lv_aload_n hx hb dX4_kindOf_44 rfl (lv_at hl 0 rfl) ?_
        refine lv_iload_n hx hb dX4_kindOf_45 rfl (lv_at hl 1 rfl) ?_
        refine lv_iconst (v := 4) hx hb dX4_kindOf_46 (by decide) ?_
        obtain ⟨r47, e47, h⟩ := bind_s h
        refine k_cI (va_runV (As := [.int p1, .int (4 : Int32)]) (rest := []) ⟨hx, hb, hml, hown, hts⟩ (kX4_ofKind l D cI cR q G K p1 (4 : Int32) r47 e47) (cwV 2 hts gX4_kindOf_X4_ofKind rfl rfl rfl (by decide +kernel) ⟨Nat.le_of_ble_eq_true rfl, Nat.le_of_ble_eq_true rfl⟩) (mPreV hK hM 0 rfl rfl) rfl rfl hl.1 rfl (lv_room (Nat.le_of_ble_eq_true rfl)) dX4_kindOf_47 ⟨Nat.le_of_ble_eq_true rfl, Nat.le_of_ble_eq_true rfl⟩) hS hM (fun H locs hM hS => ?_)
        exact W.iret (v := r47) hx hb hr (fun t ht hW => ⟨⟨r47, (), rfl, Option.some.inj h, trivial⟩, hS.F ht⟩) hS.2.2 dX4_kindOf_50
      · replace h := ite_f h c1_5
        rcases Decidable.em (p2 = (6 : Int32)) with c1_6 | c1_6
        · replace h := ite_t h c1_6
          refine lv_tableIn (off := 50) (tgt := 51) hx hb dX4_kindOf_1 (by rw [c1_6]; decide) (by rw [c1_6]; decide) (by rw [c1_6]; rfl) (by decide) ?_
          refine lv_aload_n hx hb dX4_kindOf_51 rfl (lv_at hl 0 rfl) ?_
          refine lv_iload_n hx hb dX4_kindOf_52 rfl (lv_at hl 1 rfl) ?_
          refine lv_iconst (v := 3) hx hb dX4_kindOf_53 (by decide) ?_
          obtain ⟨r54, e54, h⟩ := bind_s h
          refine k_cI (va_runV (As := [.int p1, .int (3 : Int32)]) (rest := []) ⟨hx, hb, hml, hown, hts⟩ (kX4_ofKind l D cI cR q G K p1 (3 : Int32) r54 e54) (cwV 2 hts gX4_kindOf_X4_ofKind rfl rfl rfl (by decide +kernel) ⟨Nat.le_of_ble_eq_true rfl, Nat.le_of_ble_eq_true rfl⟩) (mPreV hK hM 0 rfl rfl) rfl rfl hl.1 rfl (lv_room (Nat.le_of_ble_eq_true rfl)) dX4_kindOf_54 ⟨Nat.le_of_ble_eq_true rfl, Nat.le_of_ble_eq_true rfl⟩) hS hM (fun H locs hM hS => ?_)
          exact W.iret (v := r54) hx hb hr (fun t ht hW => ⟨⟨r54, (), rfl, Option.some.inj h, trivial⟩, hS.F ht⟩) hS.2.2 dX4_kindOf_57
        · replace h := ite_f h c1_6
          have e1_3 : (p2).toInt ≠ (3 : Int) := tsw_ne c1_3
          have e1_4 : (p2).toInt ≠ (4 : Int) := tsw_ne c1_4
          have e1_5 : (p2).toInt ≠ (5 : Int) := tsw_ne c1_5
          have e1_6 : (p2).toInt ≠ (6 : Int) := tsw_ne c1_6
          refine lv_tableOut (tgt := 58) hx hb dX4_kindOf_1 (by omega) (by decide) ?_
          refine lv_aload_n hx hb dX4_kindOf_58 rfl (lv_at hl 0 rfl) ?_
          refine lv_iload_n hx hb dX4_kindOf_59 rfl (lv_at hl 1 rfl) ?_
          refine lv_iload_n hx hb dX4_kindOf_60 rfl (lv_at hl 2 rfl) ?_
          obtain ⟨r61, e61, h⟩ := bind_s h
          refine k_cI (va_runV (As := [.int p1, .int p2]) (rest := []) ⟨hx, hb, hml, hown, hts⟩ (kX4_ofKind l D cI cR q G K p1 p2 r61 e61) (cwV 2 hts gX4_kindOf_X4_ofKind rfl rfl rfl (by decide +kernel) ⟨Nat.le_of_ble_eq_true rfl, Nat.le_of_ble_eq_true rfl⟩) (mPreV hK hM 0 rfl rfl) rfl rfl hl.1 rfl (lv_room (Nat.le_of_ble_eq_true rfl)) dX4_kindOf_61 ⟨Nat.le_of_ble_eq_true rfl, Nat.le_of_ble_eq_true rfl⟩) hS hM (fun H locs hM hS => ?_)
          exact W.iret (v := r61) hx hb hr (fun t ht hW => ⟨⟨r61, (), rfl, Option.some.inj h, trivial⟩, hS.F ht⟩) hS.2.2 dX4_kindOf_64
set_option maxHeartbeats 4000000 in
set_option maxRecDepth 100000 in
theorem kX4_kind (l : Launch) (D : va_G) (cI cR : ClassId) (q : Nat → Nat) (G : Nat → Nat → Int32) (K : Nat) (p1 : Int32) (p2 : Int32) (hJ : MJ tmM q) (r : (Int32 × (Nat → Nat → Int32))) (hs : sX4_kind K G p1 p2 = some r) : Met l yX4_kind wsX4_kind ({ frames := 4, cells := 0, slots := 0, locals := 89 } : Room) (mPre [.ref (q 0), .int p1, .int p2] D cI cR q tmM G) (mIW D cI cR q tmM r) 0 0 (MA tmM q) := by
  refine Met.ofW (cc := cX4_kind) (maxL := 3) (ret := (some .int)) (by decide) rfl ?_
  intro p e s m args below meth c s₁ B hml hv
  obtain ⟨hargs, hM, hK⟩ := hv
  have hx := B.exec
  have hb := B.bytes
  have hr := B.returns
  have hts := atoms_spec (ws := wsX4_kind) B.pre
  have hown : s.vm.findClass RX4 = some m.cls := findClass_of_methodNamed B.named
  have hlocks := B.notSynchronized
  have hA : ∀ a, MA tmM q a → MA tmM q a := fun _ h => h
  have hS : va_S (MA tmM q) s.heap s.heap [] := va_S.rf
  have w0 := hts (Cond.constantLong RX4 123 (6)) (List.mem_of_getElem? (i := 1) (by decide +kernel))
  subst hargs
  have hl := lv_entry ([.ref (q 0), .int p1, .int p2]) (n := 3) (Nat.le_of_ble_eq_true rfl)
  rw [lg_entry_eq]
  generalize (lg_sl ([.ref (q 0), .int p1, .int p2]) ++ List.replicate (3 - (lg_sl ([.ref (q 0), .int p1, .int p2])).length) Slot.unset).toArray = ls at hl ⊢
  have hl : lv_has ls 3 [(0, .ref (q 0)), (1, .int p1), (2, .int p2)] := hl
  have h := hs
  unfold sX4_kind at h
  have hM0 := hM
  refine lv_aload_n hx hb dX4_kind_0 rfl (lv_at hl 0 rfl) ?_
  refine lv_iload_n hx hb dX4_kind_1 rfl (lv_at hl 1 rfl) ?_
  obtain ⟨r2, e2, h⟩ := bind_s h
  refine k_cI (va_runV (As := [.int p1]) (rest := []) ⟨hx, hb, hml, hown, hts⟩ (kX4_isKind l D cI cR q G K p1 r2 e2) (cwV 1 hts gX4_kind_X4_isKind rfl rfl rfl (by decide +kernel) ⟨Nat.le_of_ble_eq_true rfl, Nat.le_of_ble_eq_true rfl⟩) (mPreV hK hM 0 rfl rfl) rfl rfl hl.1 rfl (lv_room (Nat.le_of_ble_eq_true rfl)) dX4_kind_2 ⟨Nat.le_of_ble_eq_true rfl, Nat.le_of_ble_eq_true rfl⟩) hS hM (fun H locs hM hS => ?_)
  refine lv_if_ne (tgt := 14) hx hb dX4_kind_5 (by decide) (fun c5 => ?_) (fun c5 => ?_)
  · replace h := ite_f h c5
    refine lv_iload_n hx hb dX4_kind_14 rfl (lv_at hl 2 rfl) ?_
    refine lv_i2l (v := p2.toInt64) hx hb dX4_kind_15 rfl ?_
    refine lv_lconst (v := 0) hx hb dX4_kind_16 (by decide) ?_
    refine lv_ldc2 hx hb hown w0 dX4_kind_17 ?_
    obtain ⟨r20, e20, h⟩ := bind_s h
    refine k_cI (va_runS (As := [.long p2.toInt64, .long (0 : Int64), .long (6 : Int64)]) (rest := []) ⟨hx, hb, hml, hown, hts⟩ (kX4_in l D cI cR q G K p2.toInt64 (0 : Int64) (6 : Int64) r20 e20) (va_cwS 3 hts gX4_kind_X4_in rfl rfl rfl (by decide +kernel) ⟨Nat.le_of_ble_eq_true rfl, Nat.le_of_ble_eq_true rfl⟩) (mPreS hK hM) rfl rfl hl.1 rfl (lv_room (Nat.le_of_ble_eq_true rfl)) dX4_kind_20 ⟨Nat.le_of_ble_eq_true rfl, Nat.le_of_ble_eq_true rfl⟩) hS hM (fun H locs hM hS => ?_)
    refine lv_if_eq (tgt := 39) hx hb dX4_kind_23 (by decide) (fun c23 => ?_) (fun c23 => ?_)
    · replace h := ite_t h c23
      refine lv_aload_n hx hb dX4_kind_39 rfl (lv_at hl 0 rfl) ?_
      refine lv_iconst (v := 2) hx hb dX4_kind_40 (by decide) ?_
      obtain ⟨r41, e41, h⟩ := bind_s h
      refine k_cIW (va_runV (As := [.int (2 : Int32)]) (rest := []) ⟨hx, hb, hml, hown, hts⟩ (kX4_throwing l D cI cR q G K (2 : Int32) hJ r41 e41) (cwV 1 hts gX4_kind_X4_throwing rfl rfl rfl (by decide +kernel) ⟨Nat.le_of_ble_eq_true rfl, Nat.le_of_ble_eq_true rfl⟩) (mPreV hK hM 0 rfl rfl) rfl rfl hl.1 rfl (lv_room (Nat.le_of_ble_eq_true rfl)) dX4_kind_41 ⟨Nat.le_of_ble_eq_true rfl, Nat.le_of_ble_eq_true rfl⟩) hS hA (fun H locs hM hS => ?_)
      have h := Option.some.inj h
      exact W.iret (v := r41.1) hx hb hr (fun t ht hW => ⟨⟨r41.1, (), rfl, p_fst h, w_end ht hM (p_snd h)⟩, hS.F ht⟩) hS.2.2 dX4_kind_44
    · replace h := ite_f h c23
      refine lv_aload_n hx hb dX4_kind_26 rfl (lv_at hl 0 rfl) ?_
      refine lv_aload_n hx hb dX4_kind_27 rfl (lv_at hl 0 rfl) ?_
      refine lv_iload_n hx hb dX4_kind_28 rfl (lv_at hl 1 rfl) ?_
      refine lv_iload_n hx hb dX4_kind_29 rfl (lv_at hl 2 rfl) ?_
      obtain ⟨r30, e30, h⟩ := bind_s h
      refine k_cI (va_runV (As := [.int p1, .int p2]) (rest := [.ref (q 0)]) ⟨hx, hb, hml, hown, hts⟩ (kX4_kindOf l D cI cR q G K p1 p2 r30 e30) (cwV 2 hts gX4_kind_X4_kindOf rfl rfl rfl (by decide +kernel) ⟨Nat.le_of_ble_eq_true rfl, Nat.le_of_ble_eq_true rfl⟩) (mPreV hK hM 0 rfl rfl) rfl rfl hl.1 rfl (lv_room (Nat.le_of_ble_eq_true rfl)) dX4_kind_30 ⟨Nat.le_of_ble_eq_true rfl, Nat.le_of_ble_eq_true rfl⟩) hS hM (fun H locs hM hS => ?_)
      obtain ⟨r33, e33, h⟩ := bind_s h
      refine k_cIW (va_runV (As := [.int r30]) (rest := []) ⟨hx, hb, hml, hown, hts⟩ (kX4_fine l D cI cR q G K r30 hJ r33 e33) (cwV 1 hts gX4_kind_X4_fine rfl rfl rfl (by decide +kernel) ⟨Nat.le_of_ble_eq_true rfl, Nat.le_of_ble_eq_true rfl⟩) (mPreV hK hM 0 rfl rfl) rfl rfl hl.1 rfl (lv_room (Nat.le_of_ble_eq_true rfl)) dX4_kind_33 ⟨Nat.le_of_ble_eq_true rfl, Nat.le_of_ble_eq_true rfl⟩) hS hA (fun H locs hM hS => ?_)
      refine lv_goto (tgt := 44) hx hb dX4_kind_36 (by decide) ?_
      have h := Option.some.inj h
      exact W.iret (v := r33.1) hx hb hr (fun t ht hW => ⟨⟨r33.1, (), rfl, p_fst h, w_end ht hM (p_snd h)⟩, hS.F ht⟩) hS.2.2 dX4_kind_44
  · replace h := ite_t h c5
    refine lv_aload_n hx hb dX4_kind_8 rfl (lv_at hl 0 rfl) ?_
    refine lv_iconst (v := 1) hx hb dX4_kind_9 (by decide) ?_
    obtain ⟨r10, e10, h⟩ := bind_s h
    refine k_cIW (va_runV (As := [.int (1 : Int32)]) (rest := []) ⟨hx, hb, hml, hown, hts⟩ (kX4_throwing l D cI cR q G K (1 : Int32) hJ r10 e10) (cwV 1 hts gX4_kind_X4_throwing rfl rfl rfl (by decide +kernel) ⟨Nat.le_of_ble_eq_true rfl, Nat.le_of_ble_eq_true rfl⟩) (mPreV hK hM 0 rfl rfl) rfl rfl hl.1 rfl (lv_room (Nat.le_of_ble_eq_true rfl)) dX4_kind_10 ⟨Nat.le_of_ble_eq_true rfl, Nat.le_of_ble_eq_true rfl⟩) hS hA (fun H locs hM hS => ?_)
    have h := Option.some.inj h
    exact W.iret (v := r10.1) hx hb hr (fun t ht hW => ⟨⟨r10.1, (), rfl, p_fst h, w_end ht hM (p_snd h)⟩, hS.F ht⟩) hS.2.2 dX4_kind_13
set_option maxHeartbeats 4000000 in
set_option maxRecDepth 100000 in
theorem kX4_due (l : Launch) (D : va_G) (cI cR : ClassId) (q : Nat → Nat) (G : Nat → Nat → Int32) (K : Nat) (p1 : Int32) (r : Int32) (hs : sX4_due K G p1 = some r) : Met l yX4_due wsX4_due ({ frames := 2, cells := 0, slots := 0, locals := 43 } : Room) (mPre [.ref (q 0), .int p1] D cI cR q tmM G) (mI r) 0 0 (fun _ => False) := by
  refine Met.ofW (cc := cX4_due) (maxL := 4) (ret := (some .int)) (by decide) rfl ?_
  intro p e s m args below meth c s₁ B hml hv
  obtain ⟨hargs, hM, hK⟩ := hv
  have hx := B.exec
  have hb := B.bytes
  have hr := B.returns
  have hts := atoms_spec (ws := wsX4_due) B.pre
  have hown : s.vm.findClass RX4 = some m.cls := findClass_of_methodNamed B.named
  have hlocks := B.notSynchronized
  have hS : va_S (fun _ => False) s.heap s.heap [] := va_S.rf
  have w0 := hts (Cond.fieldLink RX4 7 "CoinRailsModel" "all" "[I") (List.mem_of_getElem? (i := 1) (by decide +kernel))
  have iX4 : ∀ w ∈ wsX40, w ∈ wsX4_due := fun _ h => List.mem_cons_of_mem _ (List.mem_append_right _ (h))
  have L11 : ∀ (n : Nat), ∀ (G : Nat → Nat → Int32) (x2 : Int32) (x3 : Int32) (H : Heap) (locs : List Loc) (ls : Array Slot), sX4_due_L11 K G p1 n x2 x3 = some r → MW D cI cR q tmM G H → va_S (fun _ => False) s.heap H locs → lv_has ls 4 [(0, .ref (q 0)), (1, .int p1), (2, .int x2), (3, .int x3)] → W p l e (headSpec wsX4_due ({ frames := 2, cells := 0, slots := 0, locals := 43 } : Room)).room s m args below meth c H locs 0 0 (MQ below (mI r) args s 0 0 (fun _ => False)) (F0 m 11 ls []) := by
    clear hM hS
    intro n
    induction n with
    | zero => exact fun _ _ _ _ _ _ h => absurd h (by simp [sX4_due_L11])
    | succ n ih =>
      intro G x2 x3 H locs ls h hM hS hl
      rw [sX4_due_L11] at h
      refine lv_iload_n hx hb dX4_due_11 rfl (lv_at hl 3 rfl) ?_
      refine lv_if_lt (tgt := 37) hx hb dX4_due_12 (by decide) (fun c12 => ?_) (fun c12 => ?_)
      · replace h := ite_t h c12
        refine lv_iload_n hx hb dX4_due_37 rfl (lv_at hl 2 rfl) ?_
        exact W.iret (v := x2) hx hb hr (fun t ht hW => ⟨⟨x2, (), rfl, Option.some.inj h, trivial⟩, hS.F ht⟩) hS.2.2 dX4_due_38
      · replace h := ite_f h c12
        refine lv_aload_n hx hb dX4_due_15 rfl (lv_at hl 0 rfl) ?_
        refine lv_iload_n hx hb dX4_due_16 rfl (lv_at hl 3 rfl) ?_
        refine lv_iconst (v := 2) hx hb dX4_due_17 (by decide) ?_
        obtain ⟨r18, e18, h⟩ := bind_s h
        refine k_cI (va_runV (As := [.int x3, .int (2 : Int32)]) (rest := []) ⟨hx, hb, hml, hown, hts⟩ (kX4_ofKind l D cI cR q G K x3 (2 : Int32) r18 e18) (cwV 2 hts gX4_due_X4_ofKind rfl rfl rfl (by decide +kernel) ⟨Nat.le_of_ble_eq_true rfl, Nat.le_of_ble_eq_true rfl⟩) (mPreV hK hM 0 rfl rfl) rfl rfl hl.1 rfl (lv_room (Nat.le_of_ble_eq_true rfl)) dX4_due_18 ⟨Nat.le_of_ble_eq_true rfl, Nat.le_of_ble_eq_true rfl⟩) hS hM (fun H locs hM hS => ?_)
        refine lv_iload_n hx hb dX4_due_21 rfl (lv_at hl 1 rfl) ?_
        refine lv_icmp_ne (tgt := 29) hx hb dX4_due_22 (by decide) (fun c22 => ?_) (fun c22 => ?_)
        · replace h := ite_f h c22
          refine lv_iload_n hx hb dX4_due_29 rfl (lv_at hl 2 rfl) ?_
          refine lv_istore_n (lv' := [(2, .int x2), (0, .ref (q 0)), (1, .int p1), (3, .int x3)]) hx hb dX4_due_30 rfl hl (by decide) rfl (fun ls hl => ?_)
          refine lv_iinc (v := (x3 + (-1))) (lv' := [(3, .int (x3 + (-1))), (2, .int x2), (0, .ref (q 0)), (1, .int p1)]) hx hb dX4_due_31 hl (k := 3) rfl (congrArg (fun z : Int32 => x3 + z) (show Int32.ofInt (-1) = -1 by decide)) (by decide) rfl (fun ls hl => ?_)
          refine lv_goto (tgt := 11) hx hb dX4_due_34 (by decide) ?_
          exact ih G x2 (x3 + (-1)) _ _ _ h hM hS (lv_sub hl [2, 3, 1, 0] rfl)
        · replace h := ite_t h c22
          refine lv_iload_n hx hb dX4_due_25 rfl (lv_at hl 3 rfl) ?_
          refine lv_goto (tgt := 30) hx hb dX4_due_26 (by decide) ?_
          refine lv_istore_n (lv' := [(2, .int x3), (0, .ref (q 0)), (1, .int p1), (3, .int x3)]) hx hb dX4_due_30 rfl hl (by decide) rfl (fun ls hl => ?_)
          refine lv_iinc (v := (x3 + (-1))) (lv' := [(3, .int (x3 + (-1))), (2, .int x3), (0, .ref (q 0)), (1, .int p1)]) hx hb dX4_due_31 hl (k := 3) rfl (congrArg (fun z : Int32 => x3 + z) (show Int32.ofInt (-1) = -1 by decide)) (by decide) rfl (fun ls hl => ?_)
          refine lv_goto (tgt := 11) hx hb dX4_due_34 (by decide) ?_
          exact ih G x3 (x3 + (-1)) _ _ _ h hM hS (lv_sub hl [2, 3, 1, 0] rfl)
  subst hargs
  have hl := lv_entry ([.ref (q 0), .int p1]) (n := 4) (Nat.le_of_ble_eq_true rfl)
  rw [lg_entry_eq]
  generalize (lg_sl ([.ref (q 0), .int p1]) ++ List.replicate (4 - (lg_sl ([.ref (q 0), .int p1])).length) Slot.unset).toArray = ls at hl ⊢
  have hl : lv_has ls 4 [(0, .ref (q 0)), (1, .int p1)] := hl
  have h := hs
  unfold sX4_due at h
  have hM0 := hM
  refine lv_iconst (v := -1) hx hb dX4_due_0 (by decide) ?_
  refine lv_istore_n (lv' := [(2, .int (-1 : Int32)), (0, .ref (q 0)), (1, .int p1)]) hx hb dX4_due_1 rfl hl (by decide) rfl (fun ls hl => ?_)
  refine lv_aload_n hx hb dX4_due_2 rfl (lv_at hl 1 rfl) ?_
  refine k_getR (C := RX4) (T := TX4) (N := 10) hx hb hts iX4 hown hK hM 0 rfl rfl 0 (by decide) rfl w0 (fun _ h9 => h9) dX4_due_3 ?_
  refine lv_iconst (v := 0) hx hb dX4_due_6 (by decide) ?_
  obtain ⟨g7, h⟩ := grd_s h
  refine k_iald hx hb hK hM 1 rfl g7 dX4_due_7 ?_
  refine lv_iconst (v := 1) hx hb dX4_due_8 (by decide) ?_
  refine lv_isub hx hb dX4_due_9 ?_
  refine lv_istore_n (lv' := [(3, .int ((G 1 (0 : Int32).toNatClampNeg) - (1 : Int32))), (2, .int (-1 : Int32)), (0, .ref (q 0)), (1, .int p1)]) hx hb dX4_due_10 rfl hl (by decide) rfl (fun ls hl => ?_)
  exact L11 K G (-1 : Int32) ((G 1 (0 : Int32).toNatClampNeg) - (1 : Int32)) _ _ _ h hM hS (lv_sub hl [2, 3, 1, 0] rfl)
set_option maxHeartbeats 4000000 in
set_option maxRecDepth 100000 in
theorem kX4_taken (l : Launch) (D : va_G) (cI cR : ClassId) (q : Nat → Nat) (G : Nat → Nat → Int32) (K : Nat) (p1 : Int32) (r : Int32) (hs : sX4_taken K G p1 = some r) : Met l yX4_taken wsX4_taken ({ frames := 3, cells := 0, slots := 0, locals := 66 } : Room) (mPre [.ref (q 0), .int p1] D cI cR q tmM G) (mI r) 0 0 (fun _ => False) := by
  refine Met.ofW (cc := cX4_taken) (maxL := 3) (ret := (some .int)) (by decide) rfl ?_
  intro p e s m args below meth c s₁ B hml hv
  obtain ⟨hargs, hM, hK⟩ := hv
  have hx := B.exec
  have hb := B.bytes
  have hr := B.returns
  have hts := atoms_spec (ws := wsX4_taken) B.pre
  have hown : s.vm.findClass RX4 = some m.cls := findClass_of_methodNamed B.named
  have hlocks := B.notSynchronized
  have hS : va_S (fun _ => False) s.heap s.heap [] := va_S.rf
  subst hargs
  have hl := lv_entry ([.ref (q 0), .int p1]) (n := 3) (Nat.le_of_ble_eq_true rfl)
  rw [lg_entry_eq]
  generalize (lg_sl ([.ref (q 0), .int p1]) ++ List.replicate (3 - (lg_sl ([.ref (q 0), .int p1])).length) Slot.unset).toArray = ls at hl ⊢
  have hl : lv_has ls 3 [(0, .ref (q 0)), (1, .int p1)] := hl
  have h := hs
  unfold sX4_taken at h
  have hM0 := hM
  refine lv_aload_n hx hb dX4_taken_0 rfl (lv_at hl 0 rfl) ?_
  refine lv_iload_n hx hb dX4_taken_1 rfl (lv_at hl 1 rfl) ?_
  obtain ⟨r2, e2, h⟩ := bind_s h
  refine k_cI (va_runV (As := [.int p1]) (rest := []) ⟨hx, hb, hml, hown, hts⟩ (kX4_due l D cI cR q G K p1 r2 e2) (cwV 1 hts gX4_taken_X4_due rfl rfl rfl (by decide +kernel) ⟨Nat.le_of_ble_eq_true rfl, Nat.le_of_ble_eq_true rfl⟩) (mPreV hK hM 0 rfl rfl) rfl rfl hl.1 rfl (lv_room (Nat.le_of_ble_eq_true rfl)) dX4_taken_2 ⟨Nat.le_of_ble_eq_true rfl, Nat.le_of_ble_eq_true rfl⟩) hS hM (fun H locs hM hS => ?_)
  refine lv_istore_n (lv' := [(2, .int r2), (0, .ref (q 0)), (1, .int p1)]) hx hb dX4_taken_5 rfl hl (by decide) rfl (fun ls hl => ?_)
  refine lv_iload_n hx hb dX4_taken_6 rfl (lv_at hl 0 rfl) ?_
  refine lv_iconst (v := -1) hx hb dX4_taken_7 (by decide) ?_
  refine lv_icmp_ne (tgt := 15) hx hb dX4_taken_8 (by decide) (fun c8 => ?_) (fun c8 => ?_)
  · replace h := ite_f h c8
    refine lv_aload_n hx hb dX4_taken_15 rfl (lv_at hl 1 rfl) ?_
    refine lv_iload_n hx hb dX4_taken_16 rfl (lv_at hl 2 rfl) ?_
    obtain ⟨r17, e17, h⟩ := bind_s h
    refine k_cI (va_runV (As := [.int p1]) (rest := []) ⟨hx, hb, hml, hown, hts⟩ (kX4_inBag l D cI cR q G K p1 r17 e17) (cwV 1 hts gX4_taken_X4_inBag rfl rfl rfl (by decide +kernel) ⟨Nat.le_of_ble_eq_true rfl, Nat.le_of_ble_eq_true rfl⟩) (mPreV hK hM 0 rfl rfl) rfl rfl hl.1 rfl (lv_room (Nat.le_of_ble_eq_true rfl)) dX4_taken_17 ⟨Nat.le_of_ble_eq_true rfl, Nat.le_of_ble_eq_true rfl⟩) hS hM (fun H locs hM hS => ?_)
    refine lv_aload_n hx hb dX4_taken_20 rfl (lv_at hl 1 rfl) ?_
    refine lv_iload_n hx hb dX4_taken_21 rfl (lv_at hl 0 rfl) ?_
    refine lv_iconst (v := 1) hx hb dX4_taken_22 (by decide) ?_
    obtain ⟨r23, e23, h⟩ := bind_s h
    refine k_cI (va_runV (As := [.int r2, .int (1 : Int32)]) (rest := [.int r17]) ⟨hx, hb, hml, hown, hts⟩ (kX4_ofKind l D cI cR q G K r2 (1 : Int32) r23 e23) (cwV 2 hts gX4_taken_X4_ofKind rfl rfl rfl (by decide +kernel) ⟨Nat.le_of_ble_eq_true rfl, Nat.le_of_ble_eq_true rfl⟩) (mPreV hK hM 0 rfl rfl) rfl rfl hl.1 rfl (lv_room (Nat.le_of_ble_eq_true rfl)) dX4_taken_23 ⟨Nat.le_of_ble_eq_true rfl, Nat.le_of_ble_eq_true rfl⟩) hS hM (fun H locs hM hS => ?_)
    refine lv_imul hx hb dX4_taken_26 ?_
    exact W.iret (v := (r17 * r23)) hx hb hr (fun t ht hW => ⟨⟨(r17 * r23), (), rfl, Option.some.inj h, trivial⟩, hS.F ht⟩) hS.2.2 dX4_taken_27
  · replace h := ite_t h c8
    refine lv_iconst (v := 0) hx hb dX4_taken_11 (by decide) ?_
    refine lv_goto (tgt := 27) hx hb dX4_taken_12 (by decide) ?_
    exact W.iret (v := (0 : Int32)) hx hb hr (fun t ht hW => ⟨⟨(0 : Int32), (), rfl, Option.some.inj h, trivial⟩, hS.F ht⟩) hS.2.2 dX4_taken_27
set_option maxHeartbeats 4000000 in
set_option maxRecDepth 100000 in
theorem kX4_worth (l : Launch) (D : va_G) (cI cR : ClassId) (q : Nat → Nat) (G : Nat → Nat → Int32) (K : Nat) (p1 : Int32) (r : Int32) (hs : sX4_worth K G p1 = some r) : Met l yX4_worth wsX4_worth ({ frames := 2, cells := 0, slots := 0, locals := 43 } : Room) (mPre [.ref (q 0), .int p1] D cI cR q tmM G) (mI r) 0 0 (fun _ => False) := by
  refine Met.ofW (cc := cX4_worth) (maxL := 4) (ret := (some .int)) (by decide) rfl ?_
  intro p e s m args below meth c s₁ B hml hv
  obtain ⟨hargs, hM, hK⟩ := hv
  have hx := B.exec
  have hb := B.bytes
  have hr := B.returns
  have hts := atoms_spec (ws := wsX4_worth) B.pre
  have hown : s.vm.findClass RX4 = some m.cls := findClass_of_methodNamed B.named
  have hlocks := B.notSynchronized
  have hS : va_S (fun _ => False) s.heap s.heap [] := va_S.rf
  have w0 := hts (Cond.fieldLink RX4 7 "CoinRailsModel" "all" "[I") (List.mem_of_getElem? (i := 1) (by decide +kernel))
  have iX4 : ∀ w ∈ wsX40, w ∈ wsX4_worth := fun _ h => List.mem_cons_of_mem _ (List.mem_append_right _ (h))
  have L4 : ∀ (n : Nat), ∀ (G : Nat → Nat → Int32) (x2 : Int32) (x3 : Int32) (H : Heap) (locs : List Loc) (ls : Array Slot), sX4_worth_L4 K G p1 n x2 x3 = some r → MW D cI cR q tmM G H → va_S (fun _ => False) s.heap H locs → lv_has ls 4 [(0, .ref (q 0)), (1, .int p1), (2, .int x2), (3, .int x3)] → W p l e (headSpec wsX4_worth ({ frames := 2, cells := 0, slots := 0, locals := 43 } : Room)).room s m args below meth c H locs 0 0 (MQ below (mI r) args s 0 0 (fun _ => False)) (F0 m 4 ls []) := by
    clear hM hS
    intro n
    induction n with
    | zero => exact fun _ _ _ _ _ _ h => absurd h (by simp [sX4_worth_L4])
    | succ n ih =>
      intro G x2 x3 H locs ls h hM hS hl
      rw [sX4_worth_L4] at h
      refine lv_iload_n hx hb dX4_worth_4 rfl (lv_at hl 3 rfl) ?_
      refine lv_aload_n hx hb dX4_worth_5 rfl (lv_at hl 0 rfl) ?_
      refine k_getR (C := RX4) (T := TX4) (N := 10) hx hb hts iX4 hown hK hM 0 rfl rfl 0 (by decide) rfl w0 (fun _ h9 => h9) dX4_worth_6 ?_
      refine lv_iconst (v := 0) hx hb dX4_worth_9 (by decide) ?_
      obtain ⟨g10, h⟩ := grd_s h
      refine k_iald hx hb hK hM 1 rfl g10 dX4_worth_10 ?_
      refine lv_icmp_ge (tgt := 40) hx hb dX4_worth_11 (by decide) (fun c11 => ?_) (fun c11 => ?_)
      · replace h := ite_t h c11
        refine lv_iload_n hx hb dX4_worth_40 rfl (lv_at hl 2 rfl) ?_
        exact W.iret (v := x2) hx hb hr (fun t ht hW => ⟨⟨x2, (), rfl, Option.some.inj h, trivial⟩, hS.F ht⟩) hS.2.2 dX4_worth_41
      · replace h := ite_f h c11
        refine lv_iload_n hx hb dX4_worth_14 rfl (lv_at hl 2 rfl) ?_
        refine lv_aload_n hx hb dX4_worth_15 rfl (lv_at hl 0 rfl) ?_
        refine k_getR (C := RX4) (T := TX4) (N := 10) hx hb hts iX4 hown hK hM 0 rfl rfl 0 (by decide) rfl w0 (fun _ h9 => h9) dX4_worth_16 ?_
        refine lv_iload_n hx hb dX4_worth_19 rfl (lv_at hl 1 rfl) ?_
        refine lv_iload_n hx hb dX4_worth_20 rfl (lv_at hl 3 rfl) ?_
        obtain ⟨r21, e21, h⟩ := bind_s h
        refine k_cI (va_runS (As := [.int p1, .int x3]) (rest := [.ref (q 1), .int x2]) ⟨hx, hb, hml, hown, hts⟩ (kX4_countAt l D cI cR q G K p1 x3 r21 e21) (va_cwS 2 hts gX4_worth_X4_countAt rfl rfl rfl (by decide +kernel) ⟨Nat.le_of_ble_eq_true rfl, Nat.le_of_ble_eq_true rfl⟩) (mPreS hK hM) rfl rfl hl.1 rfl (lv_room (Nat.le_of_ble_eq_true rfl)) dX4_worth_21 ⟨Nat.le_of_ble_eq_true rfl, Nat.le_of_ble_eq_true rfl⟩) hS hM (fun H locs hM hS => ?_)
        obtain ⟨g24, h⟩ := grd_s h
        refine k_iald hx hb hK hM 1 rfl g24 dX4_worth_24 ?_
        refine lv_aload_n hx hb dX4_worth_25 rfl (lv_at hl 0 rfl) ?_
        refine lv_iload_n hx hb dX4_worth_26 rfl (lv_at hl 3 rfl) ?_
        refine lv_iconst (v := 1) hx hb dX4_worth_27 (by decide) ?_
        obtain ⟨r28, e28, h⟩ := bind_s h
        refine k_cI (va_runV (As := [.int x3, .int (1 : Int32)]) (rest := [.int (G 1 r21.toNatClampNeg), .int x2]) ⟨hx, hb, hml, hown, hts⟩ (kX4_ofKind l D cI cR q G K x3 (1 : Int32) r28 e28) (cwV 2 hts gX4_worth_X4_ofKind rfl rfl rfl (by decide +kernel) ⟨Nat.le_of_ble_eq_true rfl, Nat.le_of_ble_eq_true rfl⟩) (mPreV hK hM 0 rfl rfl) rfl rfl hl.1 rfl (lv_room (Nat.le_of_ble_eq_true rfl)) dX4_worth_28 ⟨Nat.le_of_ble_eq_true rfl, Nat.le_of_ble_eq_true rfl⟩) hS hM (fun H locs hM hS => ?_)
        refine lv_imul hx hb dX4_worth_31 ?_
        refine lv_iadd hx hb dX4_worth_32 ?_
        refine lv_istore_n (lv' := [(2, .int (x2 + ((G 1 r21.toNatClampNeg) * r28))), (0, .ref (q 0)), (1, .int p1), (3, .int x3)]) hx hb dX4_worth_33 rfl hl (by decide) rfl (fun ls hl => ?_)
        refine lv_iinc (v := (x3 + 1)) (lv' := [(3, .int (x3 + 1)), (2, .int (x2 + ((G 1 r21.toNatClampNeg) * r28))), (0, .ref (q 0)), (1, .int p1)]) hx hb dX4_worth_34 hl (k := 3) rfl (congrArg (fun z : Int32 => x3 + z) (show Int32.ofInt (1) = 1 by decide)) (by decide) rfl (fun ls hl => ?_)
        refine lv_goto (tgt := 4) hx hb dX4_worth_37 (by decide) ?_
        exact ih G (x2 + ((G 1 r21.toNatClampNeg) * r28)) (x3 + 1) _ _ _ h hM hS (lv_sub hl [2, 3, 1, 0] rfl)
  subst hargs
  have hl := lv_entry ([.ref (q 0), .int p1]) (n := 4) (Nat.le_of_ble_eq_true rfl)
  rw [lg_entry_eq]
  generalize (lg_sl ([.ref (q 0), .int p1]) ++ List.replicate (4 - (lg_sl ([.ref (q 0), .int p1])).length) Slot.unset).toArray = ls at hl ⊢
  have hl : lv_has ls 4 [(0, .ref (q 0)), (1, .int p1)] := hl
  have h := hs
  unfold sX4_worth at h
  have hM0 := hM
  refine lv_iconst (v := 0) hx hb dX4_worth_0 (by decide) ?_
  refine lv_istore_n (lv' := [(2, .int (0 : Int32)), (0, .ref (q 0)), (1, .int p1)]) hx hb dX4_worth_1 rfl hl (by decide) rfl (fun ls hl => ?_)
  refine lv_iconst (v := 0) hx hb dX4_worth_2 (by decide) ?_
  refine lv_istore_n (lv' := [(3, .int (0 : Int32)), (2, .int (0 : Int32)), (0, .ref (q 0)), (1, .int p1)]) hx hb dX4_worth_3 rfl hl (by decide) rfl (fun ls hl => ?_)
  exact L4 K G (0 : Int32) (0 : Int32) _ _ _ h hM hS (lv_sub hl [2, 3, 1, 0] rfl)
set_option maxHeartbeats 4000000 in
set_option maxRecDepth 100000 in
theorem kX4_misfits (l : Launch) (D : va_G) (cI cR : ClassId) (q : Nat → Nat) (G : Nat → Nat → Int32) (K : Nat) (p1 : Int32) (r : Int32) (hs : sX4_misfits K G p1 = some r) : Met l yX4_misfits wsX4_misfits ({ frames := 2, cells := 0, slots := 0, locals := 43 } : Room) (mPre [.ref (q 0), .int p1] D cI cR q tmM G) (mI r) 0 0 (fun _ => False) := by
  refine Met.ofW (cc := cX4_misfits) (maxL := 4) (ret := (some .int)) (by decide) rfl ?_
  intro p e s m args below meth c s₁ B hml hv
  obtain ⟨hargs, hM, hK⟩ := hv
  have hx := B.exec
  have hb := B.bytes
  have hr := B.returns
  have hts := atoms_spec (ws := wsX4_misfits) B.pre
  have hown : s.vm.findClass RX4 = some m.cls := findClass_of_methodNamed B.named
  have hlocks := B.notSynchronized
  have hS : va_S (fun _ => False) s.heap s.heap [] := va_S.rf
  have w0 := hts (Cond.fieldLink RX4 7 "CoinRailsModel" "all" "[I") (List.mem_of_getElem? (i := 1) (by decide +kernel))
  have iX4 : ∀ w ∈ wsX40, w ∈ wsX4_misfits := fun _ h => List.mem_cons_of_mem _ (List.mem_append_right _ (h))
  have L4 : ∀ (n : Nat), ∀ (G : Nat → Nat → Int32) (x2 : Int32) (x3 : Int32) (H : Heap) (locs : List Loc) (ls : Array Slot), sX4_misfits_L4 K G p1 n x2 x3 = some r → MW D cI cR q tmM G H → va_S (fun _ => False) s.heap H locs → lv_has ls 4 [(0, .ref (q 0)), (1, .int p1), (2, .int x2), (3, .int x3)] → W p l e (headSpec wsX4_misfits ({ frames := 2, cells := 0, slots := 0, locals := 43 } : Room)).room s m args below meth c H locs 0 0 (MQ below (mI r) args s 0 0 (fun _ => False)) (F0 m 4 ls []) := by
    clear hM hS
    intro n
    induction n with
    | zero => exact fun _ _ _ _ _ _ h => absurd h (by simp [sX4_misfits_L4])
    | succ n ih =>
      intro G x2 x3 H locs ls h hM hS hl
      rw [sX4_misfits_L4] at h
      refine lv_iload_n hx hb dX4_misfits_4 rfl (lv_at hl 3 rfl) ?_
      refine lv_aload_n hx hb dX4_misfits_5 rfl (lv_at hl 0 rfl) ?_
      refine k_getR (C := RX4) (T := TX4) (N := 10) hx hb hts iX4 hown hK hM 0 rfl rfl 0 (by decide) rfl w0 (fun _ h9 => h9) dX4_misfits_6 ?_
      refine lv_iconst (v := 0) hx hb dX4_misfits_9 (by decide) ?_
      obtain ⟨g10, h⟩ := grd_s h
      refine k_iald hx hb hK hM 1 rfl g10 dX4_misfits_10 ?_
      refine lv_icmp_ge (tgt := 47) hx hb dX4_misfits_11 (by decide) (fun c11 => ?_) (fun c11 => ?_)
      · replace h := ite_t h c11
        refine lv_iload_n hx hb dX4_misfits_47 rfl (lv_at hl 2 rfl) ?_
        exact W.iret (v := x2) hx hb hr (fun t ht hW => ⟨⟨x2, (), rfl, Option.some.inj h, trivial⟩, hS.F ht⟩) hS.2.2 dX4_misfits_48
      · replace h := ite_f h c11
        refine lv_iload_n hx hb dX4_misfits_14 rfl (lv_at hl 2 rfl) ?_
        refine lv_aload_n hx hb dX4_misfits_15 rfl (lv_at hl 0 rfl) ?_
        refine lv_iload_n hx hb dX4_misfits_16 rfl (lv_at hl 3 rfl) ?_
        refine lv_iconst (v := 2) hx hb dX4_misfits_17 (by decide) ?_
        obtain ⟨r18, e18, h⟩ := bind_s h
        refine k_cI (va_runV (As := [.int x3, .int (2 : Int32)]) (rest := [.int x2]) ⟨hx, hb, hml, hown, hts⟩ (kX4_ofKind l D cI cR q G K x3 (2 : Int32) r18 e18) (cwV 2 hts gX4_misfits_X4_ofKind rfl rfl rfl (by decide +kernel) ⟨Nat.le_of_ble_eq_true rfl, Nat.le_of_ble_eq_true rfl⟩) (mPreV hK hM 0 rfl rfl) rfl rfl hl.1 rfl (lv_room (Nat.le_of_ble_eq_true rfl)) dX4_misfits_18 ⟨Nat.le_of_ble_eq_true rfl, Nat.le_of_ble_eq_true rfl⟩) hS hM (fun H locs hM hS => ?_)
        refine lv_iload_n hx hb dX4_misfits_21 rfl (lv_at hl 1 rfl) ?_
        refine lv_icmp_ne (tgt := 29) hx hb dX4_misfits_22 (by decide) (fun c22 => ?_) (fun c22 => ?_)
        · replace h := ite_f h c22
          refine lv_aload_n hx hb dX4_misfits_29 rfl (lv_at hl 0 rfl) ?_
          refine k_getR (C := RX4) (T := TX4) (N := 10) hx hb hts iX4 hown hK hM 0 rfl rfl 0 (by decide) rfl w0 (fun _ h9 => h9) dX4_misfits_30 ?_
          refine lv_iload_n hx hb dX4_misfits_33 rfl (lv_at hl 1 rfl) ?_
          refine lv_iload_n hx hb dX4_misfits_34 rfl (lv_at hl 3 rfl) ?_
          obtain ⟨r35, e35, h⟩ := bind_s h
          refine k_cI (va_runS (As := [.int p1, .int x3]) (rest := [.ref (q 1), .int x2]) ⟨hx, hb, hml, hown, hts⟩ (kX4_countAt l D cI cR q G K p1 x3 r35 e35) (va_cwS 2 hts gX4_misfits_X4_countAt rfl rfl rfl (by decide +kernel) ⟨Nat.le_of_ble_eq_true rfl, Nat.le_of_ble_eq_true rfl⟩) (mPreS hK hM) rfl rfl hl.1 rfl (lv_room (Nat.le_of_ble_eq_true rfl)) dX4_misfits_35 ⟨Nat.le_of_ble_eq_true rfl, Nat.le_of_ble_eq_true rfl⟩) hS hM (fun H locs hM hS => ?_)
          obtain ⟨g38, h⟩ := grd_s h
          refine k_iald hx hb hK hM 1 rfl g38 dX4_misfits_38 ?_
          refine lv_iadd hx hb dX4_misfits_39 ?_
          refine lv_istore_n (lv' := [(2, .int (x2 + (G 1 r35.toNatClampNeg))), (0, .ref (q 0)), (1, .int p1), (3, .int x3)]) hx hb dX4_misfits_40 rfl hl (by decide) rfl (fun ls hl => ?_)
          refine lv_iinc (v := (x3 + 1)) (lv' := [(3, .int (x3 + 1)), (2, .int (x2 + (G 1 r35.toNatClampNeg))), (0, .ref (q 0)), (1, .int p1)]) hx hb dX4_misfits_41 hl (k := 3) rfl (congrArg (fun z : Int32 => x3 + z) (show Int32.ofInt (1) = 1 by decide)) (by decide) rfl (fun ls hl => ?_)
          refine lv_goto (tgt := 4) hx hb dX4_misfits_44 (by decide) ?_
          exact ih G (x2 + (G 1 r35.toNatClampNeg)) (x3 + 1) _ _ _ h hM hS (lv_sub hl [2, 3, 1, 0] rfl)
        · replace h := ite_t h c22
          refine lv_iconst (v := 0) hx hb dX4_misfits_25 (by decide) ?_
          refine lv_goto (tgt := 39) hx hb dX4_misfits_26 (by decide) ?_
          refine lv_iadd hx hb dX4_misfits_39 ?_
          refine lv_istore_n (lv' := [(2, .int (x2 + (0 : Int32))), (0, .ref (q 0)), (1, .int p1), (3, .int x3)]) hx hb dX4_misfits_40 rfl hl (by decide) rfl (fun ls hl => ?_)
          refine lv_iinc (v := (x3 + 1)) (lv' := [(3, .int (x3 + 1)), (2, .int (x2 + (0 : Int32))), (0, .ref (q 0)), (1, .int p1)]) hx hb dX4_misfits_41 hl (k := 3) rfl (congrArg (fun z : Int32 => x3 + z) (show Int32.ofInt (1) = 1 by decide)) (by decide) rfl (fun ls hl => ?_)
          refine lv_goto (tgt := 4) hx hb dX4_misfits_44 (by decide) ?_
          exact ih G (x2 + (0 : Int32)) (x3 + 1) _ _ _ h hM hS (lv_sub hl [2, 3, 1, 0] rfl)
  subst hargs
  have hl := lv_entry ([.ref (q 0), .int p1]) (n := 4) (Nat.le_of_ble_eq_true rfl)
  rw [lg_entry_eq]
  generalize (lg_sl ([.ref (q 0), .int p1]) ++ List.replicate (4 - (lg_sl ([.ref (q 0), .int p1])).length) Slot.unset).toArray = ls at hl ⊢
  have hl : lv_has ls 4 [(0, .ref (q 0)), (1, .int p1)] := hl
  have h := hs
  unfold sX4_misfits at h
  have hM0 := hM
  refine lv_iconst (v := 0) hx hb dX4_misfits_0 (by decide) ?_
  refine lv_istore_n (lv' := [(2, .int (0 : Int32)), (0, .ref (q 0)), (1, .int p1)]) hx hb dX4_misfits_1 rfl hl (by decide) rfl (fun ls hl => ?_)
  refine lv_iconst (v := 0) hx hb dX4_misfits_2 (by decide) ?_
  refine lv_istore_n (lv' := [(3, .int (0 : Int32)), (2, .int (0 : Int32)), (0, .ref (q 0)), (1, .int p1)]) hx hb dX4_misfits_3 rfl hl (by decide) rfl (fun ls hl => ?_)
  exact L4 K G (0 : Int32) (0 : Int32) _ _ _ h hM hS (lv_sub hl [2, 3, 1, 0] rfl)
set_option maxHeartbeats 4000000 in
set_option maxRecDepth 100000 in
theorem kX4_railOf (l : Launch) (D : va_G) (cI cR : ClassId) (q : Nat → Nat) (G : Nat → Nat → Int32) (K : Nat) (p1 : Int32) (p2 : Int32) (r : Int32) (hs : sX4_railOf K G p1 p2 = some r) : Met l yX4_railOf wsX4_railOf ({ frames := 4, cells := 0, slots := 0, locals := 88 } : Room) (mPre [.ref (q 0), .int p1, .int p2] D cI cR q tmM G) (mI r) 0 0 (fun _ => False) := by
  refine Met.ofW (cc := cX4_railOf) (maxL := 3) (ret := (some .int)) (by decide) rfl ?_
  intro p e s m args below meth c s₁ B hml hv
  obtain ⟨hargs, hM, hK⟩ := hv
  have hx := B.exec
  have hb := B.bytes
  have hr := B.returns
  have hts := atoms_spec (ws := wsX4_railOf) B.pre
  have hown : s.vm.findClass RX4 = some m.cls := findClass_of_methodNamed B.named
  have hlocks := B.notSynchronized
  have hS : va_S (fun _ => False) s.heap s.heap [] := va_S.rf
  subst hargs
  have hl := lv_entry ([.ref (q 0), .int p1, .int p2]) (n := 3) (Nat.le_of_ble_eq_true rfl)
  rw [lg_entry_eq]
  generalize (lg_sl ([.ref (q 0), .int p1, .int p2]) ++ List.replicate (3 - (lg_sl ([.ref (q 0), .int p1, .int p2])).length) Slot.unset).toArray = ls at hl ⊢
  have hl : lv_has ls 3 [(0, .ref (q 0)), (1, .int p1), (2, .int p2)] := hl
  have h := hs
  unfold sX4_railOf at h
  have hM0 := hM
  refine lv_iload_n hx hb dX4_railOf_0 rfl (lv_at hl 2 rfl) ?_
  rcases Decidable.em (p2 = (2 : Int32)) with c1_2 | c1_2
  · replace h := ite_t h c1_2
    refine lv_tableIn (off := 47) (tgt := 48) hx hb dX4_railOf_1 (by rw [c1_2]; decide) (by rw [c1_2]; decide) (by rw [c1_2]; rfl) (by decide) ?_
    refine lv_aload_n hx hb dX4_railOf_48 rfl (lv_at hl 0 rfl) ?_
    refine lv_iload_n hx hb dX4_railOf_49 rfl (lv_at hl 1 rfl) ?_
    obtain ⟨r50, e50, h⟩ := bind_s h
    refine k_cI (va_runV (As := [.int p1]) (rest := []) ⟨hx, hb, hml, hown, hts⟩ (kX4_inBag l D cI cR q G K p1 r50 e50) (cwV 1 hts gX4_railOf_X4_inBag rfl rfl rfl (by decide +kernel) ⟨Nat.le_of_ble_eq_true rfl, Nat.le_of_ble_eq_true rfl⟩) (mPreV hK hM 0 rfl rfl) rfl rfl hl.1 rfl (lv_room (Nat.le_of_ble_eq_true rfl)) dX4_railOf_50 ⟨Nat.le_of_ble_eq_true rfl, Nat.le_of_ble_eq_true rfl⟩) hS hM (fun H locs hM hS => ?_)
    exact W.iret (v := r50) hx hb hr (fun t ht hW => ⟨⟨r50, (), rfl, Option.some.inj h, trivial⟩, hS.F ht⟩) hS.2.2 dX4_railOf_53
  · replace h := ite_f h c1_2
    rcases Decidable.em (p2 = (3 : Int32)) with c1_3 | c1_3
    · replace h := ite_t h c1_3
      refine lv_tableIn (off := 53) (tgt := 54) hx hb dX4_railOf_1 (by rw [c1_3]; decide) (by rw [c1_3]; decide) (by rw [c1_3]; rfl) (by decide) ?_
      refine lv_aload_n hx hb dX4_railOf_54 rfl (lv_at hl 0 rfl) ?_
      refine lv_iload_n hx hb dX4_railOf_55 rfl (lv_at hl 1 rfl) ?_
      refine lv_iconst (v := 2) hx hb dX4_railOf_56 (by decide) ?_
      obtain ⟨r57, e57, h⟩ := bind_s h
      refine k_cI (va_runV (As := [.int p1, .int (2 : Int32)]) (rest := []) ⟨hx, hb, hml, hown, hts⟩ (kX4_ofRail l D cI cR q G K p1 (2 : Int32) r57 e57) (cwV 2 hts gX4_railOf_X4_ofRail rfl rfl rfl (by decide +kernel) ⟨Nat.le_of_ble_eq_true rfl, Nat.le_of_ble_eq_true rfl⟩) (mPreV hK hM 0 rfl rfl) rfl rfl hl.1 rfl (lv_room (Nat.le_of_ble_eq_true rfl)) dX4_railOf_57 ⟨Nat.le_of_ble_eq_true rfl, Nat.le_of_ble_eq_true rfl⟩) hS hM (fun H locs hM hS => ?_)
      exact W.iret (v := r57) hx hb hr (fun t ht hW => ⟨⟨r57, (), rfl, Option.some.inj h, trivial⟩, hS.F ht⟩) hS.2.2 dX4_railOf_60
    · replace h := ite_f h c1_3
      rcases Decidable.em (p2 = (4 : Int32)) with c1_4 | c1_4
      · replace h := ite_t h c1_4
        refine lv_tableIn (off := 60) (tgt := 61) hx hb dX4_railOf_1 (by rw [c1_4]; decide) (by rw [c1_4]; decide) (by rw [c1_4]; rfl) (by decide) ?_
        refine lv_aload_n hx hb dX4_railOf_61 rfl (lv_at hl 0 rfl) ?_
        refine lv_iload_n hx hb dX4_railOf_62 rfl (lv_at hl 1 rfl) ?_
        refine lv_iconst (v := 3) hx hb dX4_railOf_63 (by decide) ?_
        obtain ⟨r64, e64, h⟩ := bind_s h
        refine k_cI (va_runV (As := [.int p1, .int (3 : Int32)]) (rest := []) ⟨hx, hb, hml, hown, hts⟩ (kX4_ofRail l D cI cR q G K p1 (3 : Int32) r64 e64) (cwV 2 hts gX4_railOf_X4_ofRail rfl rfl rfl (by decide +kernel) ⟨Nat.le_of_ble_eq_true rfl, Nat.le_of_ble_eq_true rfl⟩) (mPreV hK hM 0 rfl rfl) rfl rfl hl.1 rfl (lv_room (Nat.le_of_ble_eq_true rfl)) dX4_railOf_64 ⟨Nat.le_of_ble_eq_true rfl, Nat.le_of_ble_eq_true rfl⟩) hS hM (fun H locs hM hS => ?_)
        exact W.iret (v := r64) hx hb hr (fun t ht hW => ⟨⟨r64, (), rfl, Option.some.inj h, trivial⟩, hS.F ht⟩) hS.2.2 dX4_railOf_67
      · replace h := ite_f h c1_4
        rcases Decidable.em (p2 = (5 : Int32)) with c1_5 | c1_5
        · replace h := ite_t h c1_5
          refine lv_tableIn (off := 67) (tgt := 68) hx hb dX4_railOf_1 (by rw [c1_5]; decide) (by rw [c1_5]; decide) (by rw [c1_5]; rfl) (by decide) ?_
          refine lv_aload_n hx hb dX4_railOf_68 rfl (lv_at hl 0 rfl) ?_
          refine lv_iload_n hx hb dX4_railOf_69 rfl (lv_at hl 1 rfl) ?_
          obtain ⟨r70, e70, h⟩ := bind_s h
          refine k_cI (va_runV (As := [.int p1]) (rest := []) ⟨hx, hb, hml, hown, hts⟩ (kX4_taken l D cI cR q G K p1 r70 e70) (cwV 1 hts gX4_railOf_X4_taken rfl rfl rfl (by decide +kernel) ⟨Nat.le_of_ble_eq_true rfl, Nat.le_of_ble_eq_true rfl⟩) (mPreV hK hM 0 rfl rfl) rfl rfl hl.1 rfl (lv_room (Nat.le_of_ble_eq_true rfl)) dX4_railOf_70 ⟨Nat.le_of_ble_eq_true rfl, Nat.le_of_ble_eq_true rfl⟩) hS hM (fun H locs hM hS => ?_)
          exact W.iret (v := r70) hx hb hr (fun t ht hW => ⟨⟨r70, (), rfl, Option.some.inj h, trivial⟩, hS.F ht⟩) hS.2.2 dX4_railOf_73
        · replace h := ite_f h c1_5
          rcases Decidable.em (p2 = (6 : Int32)) with c1_6 | c1_6
          · replace h := ite_t h c1_6
            refine lv_tableIn (off := 73) (tgt := 74) hx hb dX4_railOf_1 (by rw [c1_6]; decide) (by rw [c1_6]; decide) (by rw [c1_6]; rfl) (by decide) ?_
            refine lv_aload_n hx hb dX4_railOf_74 rfl (lv_at hl 0 rfl) ?_
            refine lv_iload_n hx hb dX4_railOf_75 rfl (lv_at hl 1 rfl) ?_
            obtain ⟨r76, e76, h⟩ := bind_s h
            refine k_cI (va_runV (As := [.int p1]) (rest := []) ⟨hx, hb, hml, hown, hts⟩ (kX4_worth l D cI cR q G K p1 r76 e76) (cwV 1 hts gX4_railOf_X4_worth rfl rfl rfl (by decide +kernel) ⟨Nat.le_of_ble_eq_true rfl, Nat.le_of_ble_eq_true rfl⟩) (mPreV hK hM 0 rfl rfl) rfl rfl hl.1 rfl (lv_room (Nat.le_of_ble_eq_true rfl)) dX4_railOf_76 ⟨Nat.le_of_ble_eq_true rfl, Nat.le_of_ble_eq_true rfl⟩) hS hM (fun H locs hM hS => ?_)
            exact W.iret (v := r76) hx hb hr (fun t ht hW => ⟨⟨r76, (), rfl, Option.some.inj h, trivial⟩, hS.F ht⟩) hS.2.2 dX4_railOf_79
          · replace h := ite_f h c1_6
            rcases Decidable.em (p2 = (7 : Int32)) with c1_7 | c1_7
            · replace h := ite_t h c1_7
              refine lv_tableIn (off := 79) (tgt := 80) hx hb dX4_railOf_1 (by rw [c1_7]; decide) (by rw [c1_7]; decide) (by rw [c1_7]; rfl) (by decide) ?_
              refine lv_aload_n hx hb dX4_railOf_80 rfl (lv_at hl 0 rfl) ?_
              refine lv_iload_n hx hb dX4_railOf_81 rfl (lv_at hl 1 rfl) ?_
              obtain ⟨r82, e82, h⟩ := bind_s h
              refine k_cI (va_runV (As := [.int p1]) (rest := []) ⟨hx, hb, hml, hown, hts⟩ (kX4_misfits l D cI cR q G K p1 r82 e82) (cwV 1 hts gX4_railOf_X4_misfits rfl rfl rfl (by decide +kernel) ⟨Nat.le_of_ble_eq_true rfl, Nat.le_of_ble_eq_true rfl⟩) (mPreV hK hM 0 rfl rfl) rfl rfl hl.1 rfl (lv_room (Nat.le_of_ble_eq_true rfl)) dX4_railOf_82 ⟨Nat.le_of_ble_eq_true rfl, Nat.le_of_ble_eq_true rfl⟩) hS hM (fun H locs hM hS => ?_)
              exact W.iret (v := r82) hx hb hr (fun t ht hW => ⟨⟨r82, (), rfl, Option.some.inj h, trivial⟩, hS.F ht⟩) hS.2.2 dX4_railOf_85
            · replace h := ite_f h c1_7
              rcases Decidable.em (p2 = (8 : Int32)) with c1_8 | c1_8
              · replace h := ite_t h c1_8
                refine lv_tableIn (off := 85) (tgt := 86) hx hb dX4_railOf_1 (by rw [c1_8]; decide) (by rw [c1_8]; decide) (by rw [c1_8]; rfl) (by decide) ?_
                refine lv_aload_n hx hb dX4_railOf_86 rfl (lv_at hl 0 rfl) ?_
                refine lv_iload_n hx hb dX4_railOf_87 rfl (lv_at hl 1 rfl) ?_
                obtain ⟨r88, e88, h⟩ := bind_s h
                refine k_cI (va_runV (As := [.int p1]) (rest := []) ⟨hx, hb, hml, hown, hts⟩ (kX4_due l D cI cR q G K p1 r88 e88) (cwV 1 hts gX4_railOf_X4_due rfl rfl rfl (by decide +kernel) ⟨Nat.le_of_ble_eq_true rfl, Nat.le_of_ble_eq_true rfl⟩) (mPreV hK hM 0 rfl rfl) rfl rfl hl.1 rfl (lv_room (Nat.le_of_ble_eq_true rfl)) dX4_railOf_88 ⟨Nat.le_of_ble_eq_true rfl, Nat.le_of_ble_eq_true rfl⟩) hS hM (fun H locs hM hS => ?_)
                exact W.iret (v := r88) hx hb hr (fun t ht hW => ⟨⟨r88, (), rfl, Option.some.inj h, trivial⟩, hS.F ht⟩) hS.2.2 dX4_railOf_91
              · replace h := ite_f h c1_8
                rcases Decidable.em (p2 = (9 : Int32)) with c1_9 | c1_9
                · replace h := ite_t h c1_9
                  refine lv_tableIn (off := 91) (tgt := 92) hx hb dX4_railOf_1 (by rw [c1_9]; decide) (by rw [c1_9]; decide) (by rw [c1_9]; rfl) (by decide) ?_
                  refine lv_aload_n hx hb dX4_railOf_92 rfl (lv_at hl 0 rfl) ?_
                  refine lv_iload_n hx hb dX4_railOf_93 rfl (lv_at hl 1 rfl) ?_
                  refine lv_iconst (v := 4) hx hb dX4_railOf_94 (by decide) ?_
                  obtain ⟨r95, e95, h⟩ := bind_s h
                  refine k_cI (va_runV (As := [.int p1, .int (4 : Int32)]) (rest := []) ⟨hx, hb, hml, hown, hts⟩ (kX4_ofRail l D cI cR q G K p1 (4 : Int32) r95 e95) (cwV 2 hts gX4_railOf_X4_ofRail rfl rfl rfl (by decide +kernel) ⟨Nat.le_of_ble_eq_true rfl, Nat.le_of_ble_eq_true rfl⟩) (mPreV hK hM 0 rfl rfl) rfl rfl hl.1 rfl (lv_room (Nat.le_of_ble_eq_true rfl)) dX4_railOf_95 ⟨Nat.le_of_ble_eq_true rfl, Nat.le_of_ble_eq_true rfl⟩) hS hM (fun H locs hM hS => ?_)
                  exact W.iret (v := r95) hx hb hr (fun t ht hW => ⟨⟨r95, (), rfl, Option.some.inj h, trivial⟩, hS.F ht⟩) hS.2.2 dX4_railOf_98
                · replace h := ite_f h c1_9
                  have e1_2 : (p2).toInt ≠ (2 : Int) := tsw_ne c1_2
                  have e1_3 : (p2).toInt ≠ (3 : Int) := tsw_ne c1_3
                  have e1_4 : (p2).toInt ≠ (4 : Int) := tsw_ne c1_4
                  have e1_5 : (p2).toInt ≠ (5 : Int) := tsw_ne c1_5
                  have e1_6 : (p2).toInt ≠ (6 : Int) := tsw_ne c1_6
                  have e1_7 : (p2).toInt ≠ (7 : Int) := tsw_ne c1_7
                  have e1_8 : (p2).toInt ≠ (8 : Int) := tsw_ne c1_8
                  have e1_9 : (p2).toInt ≠ (9 : Int) := tsw_ne c1_9
                  refine lv_tableOut (tgt := 99) hx hb dX4_railOf_1 (by omega) (by decide) ?_
                  refine lv_aload_n hx hb dX4_railOf_99 rfl (lv_at hl 0 rfl) ?_
                  refine lv_iload_n hx hb dX4_railOf_100 rfl (lv_at hl 1 rfl) ?_
                  refine lv_iload_n hx hb dX4_railOf_101 rfl (lv_at hl 2 rfl) ?_
                  obtain ⟨r102, e102, h⟩ := bind_s h
                  refine k_cI (va_runV (As := [.int p1, .int p2]) (rest := []) ⟨hx, hb, hml, hown, hts⟩ (kX4_ofRail l D cI cR q G K p1 p2 r102 e102) (cwV 2 hts gX4_railOf_X4_ofRail rfl rfl rfl (by decide +kernel) ⟨Nat.le_of_ble_eq_true rfl, Nat.le_of_ble_eq_true rfl⟩) (mPreV hK hM 0 rfl rfl) rfl rfl hl.1 rfl (lv_room (Nat.le_of_ble_eq_true rfl)) dX4_railOf_102 ⟨Nat.le_of_ble_eq_true rfl, Nat.le_of_ble_eq_true rfl⟩) hS hM (fun H locs hM hS => ?_)
                  exact W.iret (v := r102) hx hb hr (fun t ht hW => ⟨⟨r102, (), rfl, Option.some.inj h, trivial⟩, hS.F ht⟩) hS.2.2 dX4_railOf_105
set_option maxHeartbeats 4000000 in
set_option maxRecDepth 100000 in
theorem kX4_rail (l : Launch) (D : va_G) (cI cR : ClassId) (q : Nat → Nat) (G : Nat → Nat → Int32) (K : Nat) (p1 : Int32) (p2 : Int32) (hJ : MJ tmM q) (r : (Int32 × (Nat → Nat → Int32))) (hs : sX4_rail K G p1 p2 = some r) : Met l yX4_rail wsX4_rail ({ frames := 5, cells := 0, slots := 0, locals := 110 } : Room) (mPre [.ref (q 0), .int p1, .int p2] D cI cR q tmM G) (mIW D cI cR q tmM r) 0 0 (MA tmM q) := by
  refine Met.ofW (cc := cX4_rail) (maxL := 3) (ret := (some .int)) (by decide) rfl ?_
  intro p e s m args below meth c s₁ B hml hv
  obtain ⟨hargs, hM, hK⟩ := hv
  have hx := B.exec
  have hb := B.bytes
  have hr := B.returns
  have hts := atoms_spec (ws := wsX4_rail) B.pre
  have hown : s.vm.findClass RX4 = some m.cls := findClass_of_methodNamed B.named
  have hlocks := B.notSynchronized
  have hA : ∀ a, MA tmM q a → MA tmM q a := fun _ h => h
  have hS : va_S (MA tmM q) s.heap s.heap [] := va_S.rf
  have w0 := hts (Cond.constantLong RX4 140 (9)) (List.mem_of_getElem? (i := 1) (by decide +kernel))
  subst hargs
  have hl := lv_entry ([.ref (q 0), .int p1, .int p2]) (n := 3) (Nat.le_of_ble_eq_true rfl)
  rw [lg_entry_eq]
  generalize (lg_sl ([.ref (q 0), .int p1, .int p2]) ++ List.replicate (3 - (lg_sl ([.ref (q 0), .int p1, .int p2])).length) Slot.unset).toArray = ls at hl ⊢
  have hl : lv_has ls 3 [(0, .ref (q 0)), (1, .int p1), (2, .int p2)] := hl
  have h := hs
  unfold sX4_rail at h
  have hM0 := hM
  refine lv_iload_n hx hb dX4_rail_0 rfl (lv_at hl 1 rfl) ?_
  obtain ⟨r1, e1, h⟩ := bind_s h
  refine k_cI (va_runS (As := [.int p1]) (rest := []) ⟨hx, hb, hml, hown, hts⟩ (kX4_isRail l D cI cR q G K p1 r1 e1) (va_cwS 1 hts gX4_rail_X4_isRail rfl rfl rfl (by decide +kernel) ⟨Nat.le_of_ble_eq_true rfl, Nat.le_of_ble_eq_true rfl⟩) (mPreS hK hM) rfl rfl hl.1 rfl (lv_room (Nat.le_of_ble_eq_true rfl)) dX4_rail_1 ⟨Nat.le_of_ble_eq_true rfl, Nat.le_of_ble_eq_true rfl⟩) hS hM (fun H locs hM hS => ?_)
  refine lv_if_ne (tgt := 13) hx hb dX4_rail_4 (by decide) (fun c4 => ?_) (fun c4 => ?_)
  · replace h := ite_f h c4
    refine lv_iload_n hx hb dX4_rail_13 rfl (lv_at hl 2 rfl) ?_
    refine lv_i2l (v := p2.toInt64) hx hb dX4_rail_14 rfl ?_
    refine lv_lconst (v := 0) hx hb dX4_rail_15 (by decide) ?_
    refine lv_ldc2 hx hb hown w0 dX4_rail_16 ?_
    obtain ⟨r19, e19, h⟩ := bind_s h
    refine k_cI (va_runS (As := [.long p2.toInt64, .long (0 : Int64), .long (9 : Int64)]) (rest := []) ⟨hx, hb, hml, hown, hts⟩ (kX4_in l D cI cR q G K p2.toInt64 (0 : Int64) (9 : Int64) r19 e19) (va_cwS 3 hts gX4_rail_X4_in rfl rfl rfl (by decide +kernel) ⟨Nat.le_of_ble_eq_true rfl, Nat.le_of_ble_eq_true rfl⟩) (mPreS hK hM) rfl rfl hl.1 rfl (lv_room (Nat.le_of_ble_eq_true rfl)) dX4_rail_19 ⟨Nat.le_of_ble_eq_true rfl, Nat.le_of_ble_eq_true rfl⟩) hS hM (fun H locs hM hS => ?_)
    refine lv_if_eq (tgt := 38) hx hb dX4_rail_22 (by decide) (fun c22 => ?_) (fun c22 => ?_)
    · replace h := ite_t h c22
      refine lv_aload_n hx hb dX4_rail_38 rfl (lv_at hl 0 rfl) ?_
      refine lv_iconst (v := 2) hx hb dX4_rail_39 (by decide) ?_
      obtain ⟨r40, e40, h⟩ := bind_s h
      refine k_cIW (va_runV (As := [.int (2 : Int32)]) (rest := []) ⟨hx, hb, hml, hown, hts⟩ (kX4_throwing l D cI cR q G K (2 : Int32) hJ r40 e40) (cwV 1 hts gX4_rail_X4_throwing rfl rfl rfl (by decide +kernel) ⟨Nat.le_of_ble_eq_true rfl, Nat.le_of_ble_eq_true rfl⟩) (mPreV hK hM 0 rfl rfl) rfl rfl hl.1 rfl (lv_room (Nat.le_of_ble_eq_true rfl)) dX4_rail_40 ⟨Nat.le_of_ble_eq_true rfl, Nat.le_of_ble_eq_true rfl⟩) hS hA (fun H locs hM hS => ?_)
      have h := Option.some.inj h
      exact W.iret (v := r40.1) hx hb hr (fun t ht hW => ⟨⟨r40.1, (), rfl, p_fst h, w_end ht hM (p_snd h)⟩, hS.F ht⟩) hS.2.2 dX4_rail_43
    · replace h := ite_f h c22
      refine lv_aload_n hx hb dX4_rail_25 rfl (lv_at hl 0 rfl) ?_
      refine lv_aload_n hx hb dX4_rail_26 rfl (lv_at hl 0 rfl) ?_
      refine lv_iload_n hx hb dX4_rail_27 rfl (lv_at hl 1 rfl) ?_
      refine lv_iload_n hx hb dX4_rail_28 rfl (lv_at hl 2 rfl) ?_
      obtain ⟨r29, e29, h⟩ := bind_s h
      refine k_cI (va_runV (As := [.int p1, .int p2]) (rest := [.ref (q 0)]) ⟨hx, hb, hml, hown, hts⟩ (kX4_railOf l D cI cR q G K p1 p2 r29 e29) (cwV 2 hts gX4_rail_X4_railOf rfl rfl rfl (by decide +kernel) ⟨Nat.le_of_ble_eq_true rfl, Nat.le_of_ble_eq_true rfl⟩) (mPreV hK hM 0 rfl rfl) rfl rfl hl.1 rfl (lv_room (Nat.le_of_ble_eq_true rfl)) dX4_rail_29 ⟨Nat.le_of_ble_eq_true rfl, Nat.le_of_ble_eq_true rfl⟩) hS hM (fun H locs hM hS => ?_)
      obtain ⟨r32, e32, h⟩ := bind_s h
      refine k_cIW (va_runV (As := [.int r29]) (rest := []) ⟨hx, hb, hml, hown, hts⟩ (kX4_fine l D cI cR q G K r29 hJ r32 e32) (cwV 1 hts gX4_rail_X4_fine rfl rfl rfl (by decide +kernel) ⟨Nat.le_of_ble_eq_true rfl, Nat.le_of_ble_eq_true rfl⟩) (mPreV hK hM 0 rfl rfl) rfl rfl hl.1 rfl (lv_room (Nat.le_of_ble_eq_true rfl)) dX4_rail_32 ⟨Nat.le_of_ble_eq_true rfl, Nat.le_of_ble_eq_true rfl⟩) hS hA (fun H locs hM hS => ?_)
      refine lv_goto (tgt := 43) hx hb dX4_rail_35 (by decide) ?_
      have h := Option.some.inj h
      exact W.iret (v := r32.1) hx hb hr (fun t ht hW => ⟨⟨r32.1, (), rfl, p_fst h, w_end ht hM (p_snd h)⟩, hS.F ht⟩) hS.2.2 dX4_rail_43
  · replace h := ite_t h c4
    refine lv_aload_n hx hb dX4_rail_7 rfl (lv_at hl 0 rfl) ?_
    refine lv_iconst (v := 1) hx hb dX4_rail_8 (by decide) ?_
    obtain ⟨r9, e9, h⟩ := bind_s h
    refine k_cIW (va_runV (As := [.int (1 : Int32)]) (rest := []) ⟨hx, hb, hml, hown, hts⟩ (kX4_throwing l D cI cR q G K (1 : Int32) hJ r9 e9) (cwV 1 hts gX4_rail_X4_throwing rfl rfl rfl (by decide +kernel) ⟨Nat.le_of_ble_eq_true rfl, Nat.le_of_ble_eq_true rfl⟩) (mPreV hK hM 0 rfl rfl) rfl rfl hl.1 rfl (lv_room (Nat.le_of_ble_eq_true rfl)) dX4_rail_9 ⟨Nat.le_of_ble_eq_true rfl, Nat.le_of_ble_eq_true rfl⟩) hS hA (fun H locs hM hS => ?_)
    have h := Option.some.inj h
    exact W.iret (v := r9.1) hx hb hr (fun t ht hW => ⟨⟨r9.1, (), rfl, p_fst h, w_end ht hM (p_snd h)⟩, hS.F ht⟩) hS.2.2 dX4_rail_12
set_option maxHeartbeats 4000000 in
set_option maxRecDepth 100000 in
theorem kX4_count (l : Launch) (D : va_G) (cI cR : ClassId) (q : Nat → Nat) (G : Nat → Nat → Int32) (K : Nat) (p1 : Int32) (p2 : Int32) (hJ : MJ tmM q) (r : (Int32 × (Nat → Nat → Int32))) (hs : sX4_count K G p1 p2 = some r) : Met l yX4_count wsX4_count ({ frames := 2, cells := 0, slots := 0, locals := 46 } : Room) (mPre [.ref (q 0), .int p1, .int p2] D cI cR q tmM G) (mIW D cI cR q tmM r) 0 0 (MA tmM q) := by
  refine Met.ofW (cc := cX4_count) (maxL := 3) (ret := (some .int)) (by decide) rfl ?_
  intro p e s m args below meth c s₁ B hml hv
  obtain ⟨hargs, hM, hK⟩ := hv
  have hx := B.exec
  have hb := B.bytes
  have hr := B.returns
  have hts := atoms_spec (ws := wsX4_count) B.pre
  have hown : s.vm.findClass RX4 = some m.cls := findClass_of_methodNamed B.named
  have hlocks := B.notSynchronized
  have hA : ∀ a, MA tmM q a → MA tmM q a := fun _ h => h
  have hS : va_S (MA tmM q) s.heap s.heap [] := va_S.rf
  have w0 := hts (Cond.fieldLink RX4 7 "CoinRailsModel" "all" "[I") (List.mem_of_getElem? (i := 1) (by decide +kernel))
  have iX4 : ∀ w ∈ wsX40, w ∈ wsX4_count := fun _ h => List.mem_cons_of_mem _ (List.mem_append_right _ (h))
  subst hargs
  have hl := lv_entry ([.ref (q 0), .int p1, .int p2]) (n := 3) (Nat.le_of_ble_eq_true rfl)
  rw [lg_entry_eq]
  generalize (lg_sl ([.ref (q 0), .int p1, .int p2]) ++ List.replicate (3 - (lg_sl ([.ref (q 0), .int p1, .int p2])).length) Slot.unset).toArray = ls at hl ⊢
  have hl : lv_has ls 3 [(0, .ref (q 0)), (1, .int p1), (2, .int p2)] := hl
  have h := hs
  unfold sX4_count at h
  have hM0 := hM
  refine lv_iload_n hx hb dX4_count_0 rfl (lv_at hl 1 rfl) ?_
  obtain ⟨r1, e1, h⟩ := bind_s h
  refine k_cI (va_runS (As := [.int p1]) (rest := []) ⟨hx, hb, hml, hown, hts⟩ (kX4_isRail l D cI cR q G K p1 r1 e1) (va_cwS 1 hts gX4_count_X4_isRail rfl rfl rfl (by decide +kernel) ⟨Nat.le_of_ble_eq_true rfl, Nat.le_of_ble_eq_true rfl⟩) (mPreS hK hM) rfl rfl hl.1 rfl (lv_room (Nat.le_of_ble_eq_true rfl)) dX4_count_1 ⟨Nat.le_of_ble_eq_true rfl, Nat.le_of_ble_eq_true rfl⟩) hS hM (fun H locs hM hS => ?_)
  refine lv_if_eq (tgt := 32) hx hb dX4_count_4 (by decide) (fun c4 => ?_) (fun c4 => ?_)
  · replace h := ite_t h c4
    refine lv_aload_n hx hb dX4_count_32 rfl (lv_at hl 0 rfl) ?_
    refine lv_iconst (v := 1) hx hb dX4_count_33 (by decide) ?_
    obtain ⟨r34, e34, h⟩ := bind_s h
    refine k_cIW (va_runV (As := [.int (1 : Int32)]) (rest := []) ⟨hx, hb, hml, hown, hts⟩ (kX4_throwing l D cI cR q G K (1 : Int32) hJ r34 e34) (cwV 1 hts gX4_count_X4_throwing rfl rfl rfl (by decide +kernel) ⟨Nat.le_of_ble_eq_true rfl, Nat.le_of_ble_eq_true rfl⟩) (mPreV hK hM 0 rfl rfl) rfl rfl hl.1 rfl (lv_room (Nat.le_of_ble_eq_true rfl)) dX4_count_34 ⟨Nat.le_of_ble_eq_true rfl, Nat.le_of_ble_eq_true rfl⟩) hS hA (fun H locs hM hS => ?_)
    have h := Option.some.inj h
    exact W.iret (v := r34.1) hx hb hr (fun t ht hW => ⟨⟨r34.1, (), rfl, p_fst h, w_end ht hM (p_snd h)⟩, hS.F ht⟩) hS.2.2 dX4_count_37
  · replace h := ite_f h c4
    refine lv_aload_n hx hb dX4_count_7 rfl (lv_at hl 0 rfl) ?_
    refine lv_iload_n hx hb dX4_count_8 rfl (lv_at hl 2 rfl) ?_
    obtain ⟨r9, e9, h⟩ := bind_s h
    refine k_cI (va_runV (As := [.int p2]) (rest := []) ⟨hx, hb, hml, hown, hts⟩ (kX4_isKind l D cI cR q G K p2 r9 e9) (cwV 1 hts gX4_count_X4_isKind rfl rfl rfl (by decide +kernel) ⟨Nat.le_of_ble_eq_true rfl, Nat.le_of_ble_eq_true rfl⟩) (mPreV hK hM 0 rfl rfl) rfl rfl hl.1 rfl (lv_room (Nat.le_of_ble_eq_true rfl)) dX4_count_9 ⟨Nat.le_of_ble_eq_true rfl, Nat.le_of_ble_eq_true rfl⟩) hS hM (fun H locs hM hS => ?_)
    refine lv_if_eq (tgt := 32) hx hb dX4_count_12 (by decide) (fun c12 => ?_) (fun c12 => ?_)
    · replace h := ite_t h c12
      refine lv_aload_n hx hb dX4_count_32 rfl (lv_at hl 0 rfl) ?_
      refine lv_iconst (v := 1) hx hb dX4_count_33 (by decide) ?_
      obtain ⟨r34, e34, h⟩ := bind_s h
      refine k_cIW (va_runV (As := [.int (1 : Int32)]) (rest := []) ⟨hx, hb, hml, hown, hts⟩ (kX4_throwing l D cI cR q G K (1 : Int32) hJ r34 e34) (cwV 1 hts gX4_count_X4_throwing rfl rfl rfl (by decide +kernel) ⟨Nat.le_of_ble_eq_true rfl, Nat.le_of_ble_eq_true rfl⟩) (mPreV hK hM 0 rfl rfl) rfl rfl hl.1 rfl (lv_room (Nat.le_of_ble_eq_true rfl)) dX4_count_34 ⟨Nat.le_of_ble_eq_true rfl, Nat.le_of_ble_eq_true rfl⟩) hS hA (fun H locs hM hS => ?_)
      have h := Option.some.inj h
      exact W.iret (v := r34.1) hx hb hr (fun t ht hW => ⟨⟨r34.1, (), rfl, p_fst h, w_end ht hM (p_snd h)⟩, hS.F ht⟩) hS.2.2 dX4_count_37
    · replace h := ite_f h c12
      refine lv_aload_n hx hb dX4_count_15 rfl (lv_at hl 0 rfl) ?_
      refine lv_aload_n hx hb dX4_count_16 rfl (lv_at hl 0 rfl) ?_
      refine k_getR (C := RX4) (T := TX4) (N := 10) hx hb hts iX4 hown hK hM 0 rfl rfl 0 (by decide) rfl w0 (fun _ h9 => h9) dX4_count_17 ?_
      refine lv_iload_n hx hb dX4_count_20 rfl (lv_at hl 1 rfl) ?_
      refine lv_iload_n hx hb dX4_count_21 rfl (lv_at hl 2 rfl) ?_
      obtain ⟨r22, e22, h⟩ := bind_s h
      refine k_cI (va_runS (As := [.int p1, .int p2]) (rest := [.ref (q 1), .ref (q 0)]) ⟨hx, hb, hml, hown, hts⟩ (kX4_countAt l D cI cR q G K p1 p2 r22 e22) (va_cwS 2 hts gX4_count_X4_countAt rfl rfl rfl (by decide +kernel) ⟨Nat.le_of_ble_eq_true rfl, Nat.le_of_ble_eq_true rfl⟩) (mPreS hK hM) rfl rfl hl.1 rfl (lv_room (Nat.le_of_ble_eq_true rfl)) dX4_count_22 ⟨Nat.le_of_ble_eq_true rfl, Nat.le_of_ble_eq_true rfl⟩) hS hM (fun H locs hM hS => ?_)
      obtain ⟨g25, h⟩ := grd_s h
      refine k_iald hx hb hK hM 1 rfl g25 dX4_count_25 ?_
      obtain ⟨r26, e26, h⟩ := bind_s h
      refine k_cIW (va_runV (As := [.int (G 1 r22.toNatClampNeg)]) (rest := []) ⟨hx, hb, hml, hown, hts⟩ (kX4_fine l D cI cR q G K (G 1 r22.toNatClampNeg) hJ r26 e26) (cwV 1 hts gX4_count_X4_fine rfl rfl rfl (by decide +kernel) ⟨Nat.le_of_ble_eq_true rfl, Nat.le_of_ble_eq_true rfl⟩) (mPreV hK hM 0 rfl rfl) rfl rfl hl.1 rfl (lv_room (Nat.le_of_ble_eq_true rfl)) dX4_count_26 ⟨Nat.le_of_ble_eq_true rfl, Nat.le_of_ble_eq_true rfl⟩) hS hA (fun H locs hM hS => ?_)
      refine lv_goto (tgt := 37) hx hb dX4_count_29 (by decide) ?_
      have h := Option.some.inj h
      exact W.iret (v := r26.1) hx hb hr (fun t ht hW => ⟨⟨r26.1, (), rfl, p_fst h, w_end ht hM (p_snd h)⟩, hS.F ht⟩) hS.2.2 dX4_count_37
set_option maxHeartbeats 4000000 in
set_option maxRecDepth 100000 in
theorem kX4_sumOf (l : Launch) (D : va_G) (cI cR : ClassId) (q : Nat → Nat) (G : Nat → Nat → Int32) (K : Nat) (p1 : Int32) (r : Int32) (hs : sX4_sumOf K G p1 = some r) : Met l yX4_sumOf wsX4_sumOf ({ frames := 5, cells := 0, slots := 0, locals := 110 } : Room) (mPre [.ref (q 0), .int p1] D cI cR q tmM G) (mI r) 0 0 (fun _ => False) := by
  refine Met.ofW (cc := cX4_sumOf) (maxL := 4) (ret := (some .int)) (by decide) rfl ?_
  intro p e s m args below meth c s₁ B hml hv
  obtain ⟨hargs, hM, hK⟩ := hv
  have hx := B.exec
  have hb := B.bytes
  have hr := B.returns
  have hts := atoms_spec (ws := wsX4_sumOf) B.pre
  have hown : s.vm.findClass RX4 = some m.cls := findClass_of_methodNamed B.named
  have hlocks := B.notSynchronized
  have hS : va_S (fun _ => False) s.heap s.heap [] := va_S.rf
  have L4 : ∀ (n : Nat), ∀ (G : Nat → Nat → Int32) (x2 : Int32) (x3 : Int32) (H : Heap) (locs : List Loc) (ls : Array Slot), sX4_sumOf_L4 K G p1 n x2 x3 = some r → MW D cI cR q tmM G H → va_S (fun _ => False) s.heap H locs → lv_has ls 4 [(0, .ref (q 0)), (1, .int p1), (2, .int x2), (3, .int x3)] → W p l e (headSpec wsX4_sumOf ({ frames := 5, cells := 0, slots := 0, locals := 110 } : Room)).room s m args below meth c H locs 0 0 (MQ below (mI r) args s 0 0 (fun _ => False)) (F0 m 4 ls []) := by
    clear hM hS
    intro n
    induction n with
    | zero => exact fun _ _ _ _ _ _ h => absurd h (by simp [sX4_sumOf_L4])
    | succ n ih =>
      intro G x2 x3 H locs ls h hM hS hl
      rw [sX4_sumOf_L4] at h
      refine lv_iload_n hx hb dX4_sumOf_4 rfl (lv_at hl 3 rfl) ?_
      refine lv_bipush (v := 6) hx hb dX4_sumOf_5 (by decide) ?_
      refine lv_icmp_ge (tgt := 49) hx hb dX4_sumOf_7 (by decide) (fun c7 => ?_) (fun c7 => ?_)
      · replace h := ite_t h c7
        refine lv_iload_n hx hb dX4_sumOf_49 rfl (lv_at hl 2 rfl) ?_
        exact W.iret (v := x2) hx hb hr (fun t ht hW => ⟨⟨x2, (), rfl, Option.some.inj h, trivial⟩, hS.F ht⟩) hS.2.2 dX4_sumOf_50
      · replace h := ite_f h c7
        refine lv_iload_n hx hb dX4_sumOf_10 rfl (lv_at hl 2 rfl) ?_
        refine lv_iload_n hx hb dX4_sumOf_11 rfl (lv_at hl 1 rfl) ?_
        refine lv_bipush (v := 9) hx hb dX4_sumOf_12 (by decide) ?_
        refine lv_icmp_ne (tgt := 35) hx hb dX4_sumOf_14 (by decide) (fun c14 => ?_) (fun c14 => ?_)
        · replace h := ite_f h c14
          refine lv_aload_n hx hb dX4_sumOf_35 rfl (lv_at hl 0 rfl) ?_
          refine lv_iload_n hx hb dX4_sumOf_36 rfl (lv_at hl 3 rfl) ?_
          refine lv_iload_n hx hb dX4_sumOf_37 rfl (lv_at hl 1 rfl) ?_
          obtain ⟨r38, e38, h⟩ := bind_s h
          refine k_cI (va_runV (As := [.int x3, .int p1]) (rest := [.int x2]) ⟨hx, hb, hml, hown, hts⟩ (kX4_railOf l D cI cR q G K x3 p1 r38 e38) (cwV 2 hts gX4_sumOf_X4_railOf rfl rfl rfl (by decide +kernel) ⟨Nat.le_of_ble_eq_true rfl, Nat.le_of_ble_eq_true rfl⟩) (mPreV hK hM 0 rfl rfl) rfl rfl hl.1 rfl (lv_room (Nat.le_of_ble_eq_true rfl)) dX4_sumOf_38 ⟨Nat.le_of_ble_eq_true rfl, Nat.le_of_ble_eq_true rfl⟩) hS hM (fun H locs hM hS => ?_)
          refine lv_iadd hx hb dX4_sumOf_41 ?_
          refine lv_istore_n (lv' := [(2, .int (x2 + r38)), (0, .ref (q 0)), (1, .int p1), (3, .int x3)]) hx hb dX4_sumOf_42 rfl hl (by decide) rfl (fun ls hl => ?_)
          refine lv_iinc (v := (x3 + 1)) (lv' := [(3, .int (x3 + 1)), (2, .int (x2 + r38)), (0, .ref (q 0)), (1, .int p1)]) hx hb dX4_sumOf_43 hl (k := 3) rfl (congrArg (fun z : Int32 => x3 + z) (show Int32.ofInt (1) = 1 by decide)) (by decide) rfl (fun ls hl => ?_)
          refine lv_goto (tgt := 4) hx hb dX4_sumOf_46 (by decide) ?_
          exact ih G (x2 + r38) (x3 + 1) _ _ _ h hM hS (lv_sub hl [2, 3, 1, 0] rfl)
        · replace h := ite_t h c14
          refine lv_aload_n hx hb dX4_sumOf_17 rfl (lv_at hl 0 rfl) ?_
          refine lv_iload_n hx hb dX4_sumOf_18 rfl (lv_at hl 3 rfl) ?_
          obtain ⟨r19, e19, h⟩ := bind_s h
          refine k_cI (va_runV (As := [.int x3]) (rest := [.int x2]) ⟨hx, hb, hml, hown, hts⟩ (kX4_inBag l D cI cR q G K x3 r19 e19) (cwV 1 hts gX4_sumOf_X4_inBag rfl rfl rfl (by decide +kernel) ⟨Nat.le_of_ble_eq_true rfl, Nat.le_of_ble_eq_true rfl⟩) (mPreV hK hM 0 rfl rfl) rfl rfl hl.1 rfl (lv_room (Nat.le_of_ble_eq_true rfl)) dX4_sumOf_19 ⟨Nat.le_of_ble_eq_true rfl, Nat.le_of_ble_eq_true rfl⟩) hS hM (fun H locs hM hS => ?_)
          refine lv_bipush (v := 40) hx hb dX4_sumOf_22 (by decide) ?_
          refine lv_icmp_ne (tgt := 31) hx hb dX4_sumOf_24 (by decide) (fun c24 => ?_) (fun c24 => ?_)
          · replace h := ite_f h c24
            refine lv_iconst (v := 0) hx hb dX4_sumOf_31 (by decide) ?_
            refine lv_goto (tgt := 41) hx hb dX4_sumOf_32 (by decide) ?_
            refine lv_iadd hx hb dX4_sumOf_41 ?_
            refine lv_istore_n (lv' := [(2, .int (x2 + (0 : Int32))), (0, .ref (q 0)), (1, .int p1), (3, .int x3)]) hx hb dX4_sumOf_42 rfl hl (by decide) rfl (fun ls hl => ?_)
            refine lv_iinc (v := (x3 + 1)) (lv' := [(3, .int (x3 + 1)), (2, .int (x2 + (0 : Int32))), (0, .ref (q 0)), (1, .int p1)]) hx hb dX4_sumOf_43 hl (k := 3) rfl (congrArg (fun z : Int32 => x3 + z) (show Int32.ofInt (1) = 1 by decide)) (by decide) rfl (fun ls hl => ?_)
            refine lv_goto (tgt := 4) hx hb dX4_sumOf_46 (by decide) ?_
            exact ih G (x2 + (0 : Int32)) (x3 + 1) _ _ _ h hM hS (lv_sub hl [2, 3, 1, 0] rfl)
          · replace h := ite_t h c24
            refine lv_iconst (v := 1) hx hb dX4_sumOf_27 (by decide) ?_
            refine lv_goto (tgt := 41) hx hb dX4_sumOf_28 (by decide) ?_
            refine lv_iadd hx hb dX4_sumOf_41 ?_
            refine lv_istore_n (lv' := [(2, .int (x2 + (1 : Int32))), (0, .ref (q 0)), (1, .int p1), (3, .int x3)]) hx hb dX4_sumOf_42 rfl hl (by decide) rfl (fun ls hl => ?_)
            refine lv_iinc (v := (x3 + 1)) (lv' := [(3, .int (x3 + 1)), (2, .int (x2 + (1 : Int32))), (0, .ref (q 0)), (1, .int p1)]) hx hb dX4_sumOf_43 hl (k := 3) rfl (congrArg (fun z : Int32 => x3 + z) (show Int32.ofInt (1) = 1 by decide)) (by decide) rfl (fun ls hl => ?_)
            refine lv_goto (tgt := 4) hx hb dX4_sumOf_46 (by decide) ?_
            exact ih G (x2 + (1 : Int32)) (x3 + 1) _ _ _ h hM hS (lv_sub hl [2, 3, 1, 0] rfl)
  subst hargs
  have hl := lv_entry ([.ref (q 0), .int p1]) (n := 4) (Nat.le_of_ble_eq_true rfl)
  rw [lg_entry_eq]
  generalize (lg_sl ([.ref (q 0), .int p1]) ++ List.replicate (4 - (lg_sl ([.ref (q 0), .int p1])).length) Slot.unset).toArray = ls at hl ⊢
  have hl : lv_has ls 4 [(0, .ref (q 0)), (1, .int p1)] := hl
  have h := hs
  unfold sX4_sumOf at h
  have hM0 := hM
  refine lv_iconst (v := 0) hx hb dX4_sumOf_0 (by decide) ?_
  refine lv_istore_n (lv' := [(2, .int (0 : Int32)), (0, .ref (q 0)), (1, .int p1)]) hx hb dX4_sumOf_1 rfl hl (by decide) rfl (fun ls hl => ?_)
  refine lv_iconst (v := 0) hx hb dX4_sumOf_2 (by decide) ?_
  refine lv_istore_n (lv' := [(3, .int (0 : Int32)), (2, .int (0 : Int32)), (0, .ref (q 0)), (1, .int p1)]) hx hb dX4_sumOf_3 rfl hl (by decide) rfl (fun ls hl => ?_)
  exact L4 K G (0 : Int32) (0 : Int32) _ _ _ h hM hS (lv_sub hl [2, 3, 1, 0] rfl)
set_option maxHeartbeats 4000000 in
set_option maxRecDepth 100000 in
theorem kX4_valueOf (l : Launch) (D : va_G) (cI cR : ClassId) (q : Nat → Nat) (G : Nat → Nat → Int32) (K : Nat) (p1 : Int32) (r : Int32) (hs : sX4_valueOf K G p1 = some r) : Met l yX4_valueOf wsX4_valueOf ({ frames := 6, cells := 0, slots := 0, locals := 133 } : Room) (mPre [.ref (q 0), .int p1] D cI cR q tmM G) (mI r) 0 0 (fun _ => False) := by
  refine Met.ofW (cc := cX4_valueOf) (maxL := 2) (ret := (some .int)) (by decide) rfl ?_
  intro p e s m args below meth c s₁ B hml hv
  obtain ⟨hargs, hM, hK⟩ := hv
  have hx := B.exec
  have hb := B.bytes
  have hr := B.returns
  have hts := atoms_spec (ws := wsX4_valueOf) B.pre
  have hown : s.vm.findClass RX4 = some m.cls := findClass_of_methodNamed B.named
  have hlocks := B.notSynchronized
  have hS : va_S (fun _ => False) s.heap s.heap [] := va_S.rf
  have w0 := hts (Cond.fieldLink RX4 7 "CoinRailsModel" "all" "[I") (List.mem_of_getElem? (i := 1) (by decide +kernel))
  have iX4 : ∀ w ∈ wsX40, w ∈ wsX4_valueOf := fun _ h => List.mem_cons_of_mem _ (List.mem_append_right _ (h))
  subst hargs
  have hl := lv_entry ([.ref (q 0), .int p1]) (n := 2) (Nat.le_of_ble_eq_true rfl)
  rw [lg_entry_eq]
  generalize (lg_sl ([.ref (q 0), .int p1]) ++ List.replicate (2 - (lg_sl ([.ref (q 0), .int p1])).length) Slot.unset).toArray = ls at hl ⊢
  have hl : lv_has ls 2 [(0, .ref (q 0)), (1, .int p1)] := hl
  have h := hs
  unfold sX4_valueOf at h
  have hM0 := hM
  refine lv_iload_n hx hb dX4_valueOf_0 rfl (lv_at hl 1 rfl) ?_
  rcases Decidable.em (p1 = (0 : Int32)) with c1_0 | c1_0
  · replace h := ite_t h c1_0
    refine lv_tableIn (off := 51) (tgt := 52) hx hb dX4_valueOf_1 (by rw [c1_0]; decide) (by rw [c1_0]; decide) (by rw [c1_0]; rfl) (by decide) ?_
    refine lv_aload_n hx hb dX4_valueOf_52 rfl (lv_at hl 0 rfl) ?_
    refine k_getR (C := RX4) (T := TX4) (N := 10) hx hb hts iX4 hown hK hM 0 rfl rfl 0 (by decide) rfl w0 (fun _ h9 => h9) dX4_valueOf_53 ?_
    refine lv_iconst (v := 0) hx hb dX4_valueOf_56 (by decide) ?_
    obtain ⟨g57, h⟩ := grd_s h
    refine k_iald hx hb hK hM 1 rfl g57 dX4_valueOf_57 ?_
    exact W.iret (v := (G 1 (0 : Int32).toNatClampNeg)) hx hb hr (fun t ht hW => ⟨⟨(G 1 (0 : Int32).toNatClampNeg), (), rfl, Option.some.inj h, trivial⟩, hS.F ht⟩) hS.2.2 dX4_valueOf_58
  · replace h := ite_f h c1_0
    rcases Decidable.em (p1 = (1 : Int32)) with c1_1 | c1_1
    · replace h := ite_t h c1_1
      refine lv_tableIn (off := 58) (tgt := 59) hx hb dX4_valueOf_1 (by rw [c1_1]; decide) (by rw [c1_1]; decide) (by rw [c1_1]; rfl) (by decide) ?_
      refine lv_aload_n hx hb dX4_valueOf_59 rfl (lv_at hl 0 rfl) ?_
      refine k_getR (C := RX4) (T := TX4) (N := 10) hx hb hts iX4 hown hK hM 0 rfl rfl 0 (by decide) rfl w0 (fun _ h9 => h9) dX4_valueOf_60 ?_
      refine lv_iconst (v := 1) hx hb dX4_valueOf_63 (by decide) ?_
      obtain ⟨g64, h⟩ := grd_s h
      refine k_iald hx hb hK hM 1 rfl g64 dX4_valueOf_64 ?_
      exact W.iret (v := (G 1 (1 : Int32).toNatClampNeg)) hx hb hr (fun t ht hW => ⟨⟨(G 1 (1 : Int32).toNatClampNeg), (), rfl, Option.some.inj h, trivial⟩, hS.F ht⟩) hS.2.2 dX4_valueOf_65
    · replace h := ite_f h c1_1
      rcases Decidable.em (p1 = (2 : Int32)) with c1_2 | c1_2
      · replace h := ite_t h c1_2
        refine lv_tableIn (off := 65) (tgt := 66) hx hb dX4_valueOf_1 (by rw [c1_2]; decide) (by rw [c1_2]; decide) (by rw [c1_2]; rfl) (by decide) ?_
        refine lv_aload_n hx hb dX4_valueOf_66 rfl (lv_at hl 0 rfl) ?_
        refine lv_iconst (v := 2) hx hb dX4_valueOf_67 (by decide) ?_
        obtain ⟨r68, e68, h⟩ := bind_s h
        refine k_cI (va_runV (As := [.int (2 : Int32)]) (rest := []) ⟨hx, hb, hml, hown, hts⟩ (kX4_sumOf l D cI cR q G K (2 : Int32) r68 e68) (cwV 1 hts gX4_valueOf_X4_sumOf rfl rfl rfl (by decide +kernel) ⟨Nat.le_of_ble_eq_true rfl, Nat.le_of_ble_eq_true rfl⟩) (mPreV hK hM 0 rfl rfl) rfl rfl hl.1 rfl (lv_room (Nat.le_of_ble_eq_true rfl)) dX4_valueOf_68 ⟨Nat.le_of_ble_eq_true rfl, Nat.le_of_ble_eq_true rfl⟩) hS hM (fun H locs hM hS => ?_)
        exact W.iret (v := r68) hx hb hr (fun t ht hW => ⟨⟨r68, (), rfl, Option.some.inj h, trivial⟩, hS.F ht⟩) hS.2.2 dX4_valueOf_71
      · replace h := ite_f h c1_2
        rcases Decidable.em (p1 = (3 : Int32)) with c1_3 | c1_3
        · replace h := ite_t h c1_3
          refine lv_tableIn (off := 71) (tgt := 72) hx hb dX4_valueOf_1 (by rw [c1_3]; decide) (by rw [c1_3]; decide) (by rw [c1_3]; rfl) (by decide) ?_
          refine lv_aload_n hx hb dX4_valueOf_72 rfl (lv_at hl 0 rfl) ?_
          refine lv_iconst (v := -1) hx hb dX4_valueOf_73 (by decide) ?_
          obtain ⟨r74, e74, h⟩ := bind_s h
          refine k_cI (va_runV (As := [.int (-1 : Int32)]) (rest := []) ⟨hx, hb, hml, hown, hts⟩ (kX4_stuckBy l D cI cR q G K (-1 : Int32) r74 e74) (cwV 1 hts gX4_valueOf_X4_stuckBy rfl rfl rfl (by decide +kernel) ⟨Nat.le_of_ble_eq_true rfl, Nat.le_of_ble_eq_true rfl⟩) (mPreV hK hM 0 rfl rfl) rfl rfl hl.1 rfl (lv_room (Nat.le_of_ble_eq_true rfl)) dX4_valueOf_74 ⟨Nat.le_of_ble_eq_true rfl, Nat.le_of_ble_eq_true rfl⟩) hS hM (fun H locs hM hS => ?_)
          exact W.iret (v := r74) hx hb hr (fun t ht hW => ⟨⟨r74, (), rfl, Option.some.inj h, trivial⟩, hS.F ht⟩) hS.2.2 dX4_valueOf_77
        · replace h := ite_f h c1_3
          rcases Decidable.em (p1 = (4 : Int32)) with c1_4 | c1_4
          · replace h := ite_t h c1_4
            refine lv_tableIn (off := 77) (tgt := 78) hx hb dX4_valueOf_1 (by rw [c1_4]; decide) (by rw [c1_4]; decide) (by rw [c1_4]; rfl) (by decide) ?_
            refine lv_aload_n hx hb dX4_valueOf_78 rfl (lv_at hl 0 rfl) ?_
            obtain ⟨r79, e79, h⟩ := bind_s h
            refine k_cI (va_runV (As := []) (rest := []) ⟨hx, hb, hml, hown, hts⟩ (kX4_rejects l D cI cR q G K r79 e79) (cwV 0 hts gX4_valueOf_X4_rejects rfl rfl rfl (by decide +kernel) ⟨Nat.le_of_ble_eq_true rfl, Nat.le_of_ble_eq_true rfl⟩) (mPreV hK hM 0 rfl rfl) rfl rfl hl.1 rfl (lv_room (Nat.le_of_ble_eq_true rfl)) dX4_valueOf_79 ⟨Nat.le_of_ble_eq_true rfl, Nat.le_of_ble_eq_true rfl⟩) hS hM (fun H locs hM hS => ?_)
            exact W.iret (v := r79) hx hb hr (fun t ht hW => ⟨⟨r79, (), rfl, Option.some.inj h, trivial⟩, hS.F ht⟩) hS.2.2 dX4_valueOf_82
          · replace h := ite_f h c1_4
            rcases Decidable.em (p1 = (5 : Int32)) with c1_5 | c1_5
            · replace h := ite_t h c1_5
              refine lv_tableIn (off := 82) (tgt := 83) hx hb dX4_valueOf_1 (by rw [c1_5]; decide) (by rw [c1_5]; decide) (by rw [c1_5]; rfl) (by decide) ?_
              refine lv_aload_n hx hb dX4_valueOf_83 rfl (lv_at hl 0 rfl) ?_
              refine k_getR (C := RX4) (T := TX4) (N := 10) hx hb hts iX4 hown hK hM 0 rfl rfl 0 (by decide) rfl w0 (fun _ h9 => h9) dX4_valueOf_84 ?_
              refine lv_iconst (v := 2) hx hb dX4_valueOf_87 (by decide) ?_
              obtain ⟨g88, h⟩ := grd_s h
              refine k_iald hx hb hK hM 1 rfl g88 dX4_valueOf_88 ?_
              exact W.iret (v := (G 1 (2 : Int32).toNatClampNeg)) hx hb hr (fun t ht hW => ⟨⟨(G 1 (2 : Int32).toNatClampNeg), (), rfl, Option.some.inj h, trivial⟩, hS.F ht⟩) hS.2.2 dX4_valueOf_89
            · replace h := ite_f h c1_5
              rcases Decidable.em (p1 = (6 : Int32)) with c1_6 | c1_6
              · replace h := ite_t h c1_6
                refine lv_tableIn (off := 89) (tgt := 90) hx hb dX4_valueOf_1 (by rw [c1_6]; decide) (by rw [c1_6]; decide) (by rw [c1_6]; rfl) (by decide) ?_
                refine lv_aload_n hx hb dX4_valueOf_90 rfl (lv_at hl 0 rfl) ?_
                refine lv_bipush (v := 7) hx hb dX4_valueOf_91 (by decide) ?_
                obtain ⟨r93, e93, h⟩ := bind_s h
                refine k_cI (va_runV (As := [.int (7 : Int32)]) (rest := []) ⟨hx, hb, hml, hown, hts⟩ (kX4_sumOf l D cI cR q G K (7 : Int32) r93 e93) (cwV 1 hts gX4_valueOf_X4_sumOf rfl rfl rfl (by decide +kernel) ⟨Nat.le_of_ble_eq_true rfl, Nat.le_of_ble_eq_true rfl⟩) (mPreV hK hM 0 rfl rfl) rfl rfl hl.1 rfl (lv_room (Nat.le_of_ble_eq_true rfl)) dX4_valueOf_93 ⟨Nat.le_of_ble_eq_true rfl, Nat.le_of_ble_eq_true rfl⟩) hS hM (fun H locs hM hS => ?_)
                exact W.iret (v := r93) hx hb hr (fun t ht hW => ⟨⟨r93, (), rfl, Option.some.inj h, trivial⟩, hS.F ht⟩) hS.2.2 dX4_valueOf_96
              · replace h := ite_f h c1_6
                rcases Decidable.em (p1 = (7 : Int32)) with c1_7 | c1_7
                · replace h := ite_t h c1_7
                  refine lv_tableIn (off := 96) (tgt := 97) hx hb dX4_valueOf_1 (by rw [c1_7]; decide) (by rw [c1_7]; decide) (by rw [c1_7]; rfl) (by decide) ?_
                  refine lv_aload_n hx hb dX4_valueOf_97 rfl (lv_at hl 0 rfl) ?_
                  refine lv_iconst (v := 5) hx hb dX4_valueOf_98 (by decide) ?_
                  obtain ⟨r99, e99, h⟩ := bind_s h
                  refine k_cI (va_runV (As := [.int (5 : Int32)]) (rest := []) ⟨hx, hb, hml, hown, hts⟩ (kX4_sumOf l D cI cR q G K (5 : Int32) r99 e99) (cwV 1 hts gX4_valueOf_X4_sumOf rfl rfl rfl (by decide +kernel) ⟨Nat.le_of_ble_eq_true rfl, Nat.le_of_ble_eq_true rfl⟩) (mPreV hK hM 0 rfl rfl) rfl rfl hl.1 rfl (lv_room (Nat.le_of_ble_eq_true rfl)) dX4_valueOf_99 ⟨Nat.le_of_ble_eq_true rfl, Nat.le_of_ble_eq_true rfl⟩) hS hM (fun H locs hM hS => ?_)
                  exact W.iret (v := r99) hx hb hr (fun t ht hW => ⟨⟨r99, (), rfl, Option.some.inj h, trivial⟩, hS.F ht⟩) hS.2.2 dX4_valueOf_102
                · replace h := ite_f h c1_7
                  rcases Decidable.em (p1 = (8 : Int32)) with c1_8 | c1_8
                  · replace h := ite_t h c1_8
                    refine lv_tableIn (off := 102) (tgt := 103) hx hb dX4_valueOf_1 (by rw [c1_8]; decide) (by rw [c1_8]; decide) (by rw [c1_8]; rfl) (by decide) ?_
                    refine lv_aload_n hx hb dX4_valueOf_103 rfl (lv_at hl 0 rfl) ?_
                    refine lv_bipush (v := 6) hx hb dX4_valueOf_104 (by decide) ?_
                    obtain ⟨r106, e106, h⟩ := bind_s h
                    refine k_cI (va_runV (As := [.int (6 : Int32)]) (rest := []) ⟨hx, hb, hml, hown, hts⟩ (kX4_sumOf l D cI cR q G K (6 : Int32) r106 e106) (cwV 1 hts gX4_valueOf_X4_sumOf rfl rfl rfl (by decide +kernel) ⟨Nat.le_of_ble_eq_true rfl, Nat.le_of_ble_eq_true rfl⟩) (mPreV hK hM 0 rfl rfl) rfl rfl hl.1 rfl (lv_room (Nat.le_of_ble_eq_true rfl)) dX4_valueOf_106 ⟨Nat.le_of_ble_eq_true rfl, Nat.le_of_ble_eq_true rfl⟩) hS hM (fun H locs hM hS => ?_)
                    exact W.iret (v := r106) hx hb hr (fun t ht hW => ⟨⟨r106, (), rfl, Option.some.inj h, trivial⟩, hS.F ht⟩) hS.2.2 dX4_valueOf_109
                  · replace h := ite_f h c1_8
                    have e1_0 : (p1).toInt ≠ (0 : Int) := tsw_ne c1_0
                    have e1_1 : (p1).toInt ≠ (1 : Int) := tsw_ne c1_1
                    have e1_2 : (p1).toInt ≠ (2 : Int) := tsw_ne c1_2
                    have e1_3 : (p1).toInt ≠ (3 : Int) := tsw_ne c1_3
                    have e1_4 : (p1).toInt ≠ (4 : Int) := tsw_ne c1_4
                    have e1_5 : (p1).toInt ≠ (5 : Int) := tsw_ne c1_5
                    have e1_6 : (p1).toInt ≠ (6 : Int) := tsw_ne c1_6
                    have e1_7 : (p1).toInt ≠ (7 : Int) := tsw_ne c1_7
                    have e1_8 : (p1).toInt ≠ (8 : Int) := tsw_ne c1_8
                    refine lv_tableOut (tgt := 110) hx hb dX4_valueOf_1 (by omega) (by decide) ?_
                    refine lv_aload_n hx hb dX4_valueOf_110 rfl (lv_at hl 0 rfl) ?_
                    refine lv_bipush (v := 9) hx hb dX4_valueOf_111 (by decide) ?_
                    obtain ⟨r113, e113, h⟩ := bind_s h
                    refine k_cI (va_runV (As := [.int (9 : Int32)]) (rest := []) ⟨hx, hb, hml, hown, hts⟩ (kX4_sumOf l D cI cR q G K (9 : Int32) r113 e113) (cwV 1 hts gX4_valueOf_X4_sumOf rfl rfl rfl (by decide +kernel) ⟨Nat.le_of_ble_eq_true rfl, Nat.le_of_ble_eq_true rfl⟩) (mPreV hK hM 0 rfl rfl) rfl rfl hl.1 rfl (lv_room (Nat.le_of_ble_eq_true rfl)) dX4_valueOf_113 ⟨Nat.le_of_ble_eq_true rfl, Nat.le_of_ble_eq_true rfl⟩) hS hM (fun H locs hM hS => ?_)
                    exact W.iret (v := r113) hx hb hr (fun t ht hW => ⟨⟨r113, (), rfl, Option.some.inj h, trivial⟩, hS.F ht⟩) hS.2.2 dX4_valueOf_116
set_option maxHeartbeats 4000000 in
set_option maxRecDepth 100000 in
theorem kX4_value (l : Launch) (D : va_G) (cI cR : ClassId) (q : Nat → Nat) (G : Nat → Nat → Int32) (K : Nat) (p1 : Int32) (hJ : MJ tmM q) (r : (Int32 × (Nat → Nat → Int32))) (hs : sX4_value K G p1 = some r) : Met l yX4_value wsX4_value ({ frames := 7, cells := 0, slots := 0, locals := 154 } : Room) (mPre [.ref (q 0), .int p1] D cI cR q tmM G) (mIW D cI cR q tmM r) 0 0 (MA tmM q) := by
  refine Met.ofW (cc := cX4_value) (maxL := 2) (ret := (some .int)) (by decide) rfl ?_
  intro p e s m args below meth c s₁ B hml hv
  obtain ⟨hargs, hM, hK⟩ := hv
  have hx := B.exec
  have hb := B.bytes
  have hr := B.returns
  have hts := atoms_spec (ws := wsX4_value) B.pre
  have hown : s.vm.findClass RX4 = some m.cls := findClass_of_methodNamed B.named
  have hlocks := B.notSynchronized
  have hA : ∀ a, MA tmM q a → MA tmM q a := fun _ h => h
  have hS : va_S (MA tmM q) s.heap s.heap [] := va_S.rf
  have w0 := hts (Cond.constantLong RX4 140 (9)) (List.mem_of_getElem? (i := 1) (by decide +kernel))
  subst hargs
  have hl := lv_entry ([.ref (q 0), .int p1]) (n := 2) (Nat.le_of_ble_eq_true rfl)
  rw [lg_entry_eq]
  generalize (lg_sl ([.ref (q 0), .int p1]) ++ List.replicate (2 - (lg_sl ([.ref (q 0), .int p1])).length) Slot.unset).toArray = ls at hl ⊢
  have hl : lv_has ls 2 [(0, .ref (q 0)), (1, .int p1)] := hl
  have h := hs
  unfold sX4_value at h
  have hM0 := hM
  refine lv_iload_n hx hb dX4_value_0 rfl (lv_at hl 1 rfl) ?_
  refine lv_i2l (v := p1.toInt64) hx hb dX4_value_1 rfl ?_
  refine lv_lconst (v := 0) hx hb dX4_value_2 (by decide) ?_
  refine lv_ldc2 hx hb hown w0 dX4_value_3 ?_
  obtain ⟨r6, e6, h⟩ := bind_s h
  refine k_cI (va_runS (As := [.long p1.toInt64, .long (0 : Int64), .long (9 : Int64)]) (rest := []) ⟨hx, hb, hml, hown, hts⟩ (kX4_in l D cI cR q G K p1.toInt64 (0 : Int64) (9 : Int64) r6 e6) (va_cwS 3 hts gX4_value_X4_in rfl rfl rfl (by decide +kernel) ⟨Nat.le_of_ble_eq_true rfl, Nat.le_of_ble_eq_true rfl⟩) (mPreS hK hM) rfl rfl hl.1 rfl (lv_room (Nat.le_of_ble_eq_true rfl)) dX4_value_6 ⟨Nat.le_of_ble_eq_true rfl, Nat.le_of_ble_eq_true rfl⟩) hS hM (fun H locs hM hS => ?_)
  refine lv_if_eq (tgt := 24) hx hb dX4_value_9 (by decide) (fun c9 => ?_) (fun c9 => ?_)
  · replace h := ite_t h c9
    refine lv_aload_n hx hb dX4_value_24 rfl (lv_at hl 0 rfl) ?_
    refine lv_iconst (v := 1) hx hb dX4_value_25 (by decide) ?_
    obtain ⟨r26, e26, h⟩ := bind_s h
    refine k_cIW (va_runV (As := [.int (1 : Int32)]) (rest := []) ⟨hx, hb, hml, hown, hts⟩ (kX4_throwing l D cI cR q G K (1 : Int32) hJ r26 e26) (cwV 1 hts gX4_value_X4_throwing rfl rfl rfl (by decide +kernel) ⟨Nat.le_of_ble_eq_true rfl, Nat.le_of_ble_eq_true rfl⟩) (mPreV hK hM 0 rfl rfl) rfl rfl hl.1 rfl (lv_room (Nat.le_of_ble_eq_true rfl)) dX4_value_26 ⟨Nat.le_of_ble_eq_true rfl, Nat.le_of_ble_eq_true rfl⟩) hS hA (fun H locs hM hS => ?_)
    have h := Option.some.inj h
    exact W.iret (v := r26.1) hx hb hr (fun t ht hW => ⟨⟨r26.1, (), rfl, p_fst h, w_end ht hM (p_snd h)⟩, hS.F ht⟩) hS.2.2 dX4_value_29
  · replace h := ite_f h c9
    refine lv_aload_n hx hb dX4_value_12 rfl (lv_at hl 0 rfl) ?_
    refine lv_aload_n hx hb dX4_value_13 rfl (lv_at hl 0 rfl) ?_
    refine lv_iload_n hx hb dX4_value_14 rfl (lv_at hl 1 rfl) ?_
    obtain ⟨r15, e15, h⟩ := bind_s h
    refine k_cI (va_runV (As := [.int p1]) (rest := [.ref (q 0)]) ⟨hx, hb, hml, hown, hts⟩ (kX4_valueOf l D cI cR q G K p1 r15 e15) (cwV 1 hts gX4_value_X4_valueOf rfl rfl rfl (by decide +kernel) ⟨Nat.le_of_ble_eq_true rfl, Nat.le_of_ble_eq_true rfl⟩) (mPreV hK hM 0 rfl rfl) rfl rfl hl.1 rfl (lv_room (Nat.le_of_ble_eq_true rfl)) dX4_value_15 ⟨Nat.le_of_ble_eq_true rfl, Nat.le_of_ble_eq_true rfl⟩) hS hM (fun H locs hM hS => ?_)
    obtain ⟨r18, e18, h⟩ := bind_s h
    refine k_cIW (va_runV (As := [.int r15]) (rest := []) ⟨hx, hb, hml, hown, hts⟩ (kX4_fine l D cI cR q G K r15 hJ r18 e18) (cwV 1 hts gX4_value_X4_fine rfl rfl rfl (by decide +kernel) ⟨Nat.le_of_ble_eq_true rfl, Nat.le_of_ble_eq_true rfl⟩) (mPreV hK hM 0 rfl rfl) rfl rfl hl.1 rfl (lv_room (Nat.le_of_ble_eq_true rfl)) dX4_value_18 ⟨Nat.le_of_ble_eq_true rfl, Nat.le_of_ble_eq_true rfl⟩) hS hA (fun H locs hM hS => ?_)
    refine lv_goto (tgt := 29) hx hb dX4_value_21 (by decide) ?_
    have h := Option.some.inj h
    exact W.iret (v := r18.1) hx hb hr (fun t ht hW => ⟨⟨r18.1, (), rfl, p_fst h, w_end ht hM (p_snd h)⟩, hS.F ht⟩) hS.2.2 dX4_value_29
set_option maxHeartbeats 4000000 in
set_option maxRecDepth 100000 in
theorem kX4_whereIf (l : Launch) (D : va_G) (cI cR : ClassId) (q : Nat → Nat) (G : Nat → Nat → Int32) (K : Nat) (p1 : Int32) (p2 : Int32) (hJ : MJ tmM q) (r : (Int32 × (Nat → Nat → Int32))) (hs : sX4_whereIf K G p1 p2 = some r) : Met l yX4_whereIf wsX4_whereIf ({ frames := 4, cells := 0, slots := 0, locals := 91 } : Room) (mPre [.ref (q 0), .int p1, .int p2] D cI cR q tmM G) (mIW D cI cR q tmM r) 0 0 (MA tmM q) := by
  refine Met.ofW (cc := cX4_whereIf) (maxL := 4) (ret := (some .int)) (by decide) rfl ?_
  intro p e s m args below meth c s₁ B hml hv
  obtain ⟨hargs, hM, hK⟩ := hv
  have hx := B.exec
  have hb := B.bytes
  have hr := B.returns
  have hts := atoms_spec (ws := wsX4_whereIf) B.pre
  have hown : s.vm.findClass RX4 = some m.cls := findClass_of_methodNamed B.named
  have hlocks := B.notSynchronized
  have hA : ∀ a, MA tmM q a → MA tmM q a := fun _ h => h
  have hS : va_S (MA tmM q) s.heap s.heap [] := va_S.rf
  subst hargs
  have hl := lv_entry ([.ref (q 0), .int p1, .int p2]) (n := 4) (Nat.le_of_ble_eq_true rfl)
  rw [lg_entry_eq]
  generalize (lg_sl ([.ref (q 0), .int p1, .int p2]) ++ List.replicate (4 - (lg_sl ([.ref (q 0), .int p1, .int p2])).length) Slot.unset).toArray = ls at hl ⊢
  have hl : lv_has ls 4 [(0, .ref (q 0)), (1, .int p1), (2, .int p2)] := hl
  have h := hs
  unfold sX4_whereIf at h
  have hM0 := hM
  refine lv_aload_n hx hb dX4_whereIf_0 rfl (lv_at hl 0 rfl) ?_
  obtain ⟨r1, e1, h⟩ := bind_s h
  refine k_cVW (va_runV (As := []) (rest := []) ⟨hx, hb, hml, hown, hts⟩ (kX4_laysAside l D cI cR q G K hJ r1 e1) (cwV 0 hts gX4_whereIf_X4_laysAside rfl rfl rfl (by decide +kernel) ⟨Nat.le_of_ble_eq_true rfl, Nat.le_of_ble_eq_true rfl⟩) (mPreV hK hM 0 rfl rfl) rfl rfl hl.1 rfl (lv_room (Nat.le_of_ble_eq_true rfl)) dX4_whereIf_1 ⟨Nat.le_of_ble_eq_true rfl, Nat.le_of_ble_eq_true rfl⟩) hS hA (fun H locs hM hS => ?_)
  refine lv_aload_n hx hb dX4_whereIf_4 rfl (lv_at hl 0 rfl) ?_
  refine lv_iload_n hx hb dX4_whereIf_5 rfl (lv_at hl 1 rfl) ?_
  refine lv_iload_n hx hb dX4_whereIf_6 rfl (lv_at hl 2 rfl) ?_
  obtain ⟨r7, e7, h⟩ := bind_s h
  refine k_cIW (va_runV (As := [.int p1, .int p2]) (rest := []) ⟨hx, hb, hml, hown, hts⟩ (kX4_feeds l D cI cR q r1 K p1 p2 hJ r7 e7) (cwV 2 hts gX4_whereIf_X4_feeds rfl rfl rfl (by decide +kernel) ⟨Nat.le_of_ble_eq_true rfl, Nat.le_of_ble_eq_true rfl⟩) (mPreV hK hM 0 rfl rfl) rfl rfl hl.1 rfl (lv_room (Nat.le_of_ble_eq_true rfl)) dX4_whereIf_7 ⟨Nat.le_of_ble_eq_true rfl, Nat.le_of_ble_eq_true rfl⟩) hS hA (fun H locs hM hS => ?_)
  refine lv_istore_n (lv' := [(3, .int r7.1), (0, .ref (q 0)), (1, .int p1), (2, .int p2)]) hx hb dX4_whereIf_10 rfl hl (by decide) rfl (fun ls hl => ?_)
  refine lv_aload_n hx hb dX4_whereIf_11 rfl (lv_at hl 1 rfl) ?_
  obtain ⟨r12, e12, h⟩ := bind_s h
  refine k_cVW (va_runV (As := []) (rest := []) ⟨hx, hb, hml, hown, hts⟩ (kX4_takesBack l D cI cR q r7.2 K hJ r12 e12) (cwV 0 hts gX4_whereIf_X4_takesBack rfl rfl rfl (by decide +kernel) ⟨Nat.le_of_ble_eq_true rfl, Nat.le_of_ble_eq_true rfl⟩) (mPreV hK hM 0 rfl rfl) rfl rfl hl.1 rfl (lv_room (Nat.le_of_ble_eq_true rfl)) dX4_whereIf_12 ⟨Nat.le_of_ble_eq_true rfl, Nat.le_of_ble_eq_true rfl⟩) hS hA (fun H locs hM hS => ?_)
  refine lv_iload_n hx hb dX4_whereIf_15 rfl (lv_at hl 0 rfl) ?_
  have h := Option.some.inj h
  exact W.iret (v := r7.1) hx hb hr (fun t ht hW => ⟨⟨r7.1, (), rfl, p_fst h, w_end ht hM (p_snd h)⟩, hS.F ht⟩) hS.2.2 dX4_whereIf_16
set_option maxHeartbeats 4000000 in
set_option maxRecDepth 100000 in
theorem kX4_where (l : Launch) (D : va_G) (cI cR : ClassId) (q : Nat → Nat) (G : Nat → Nat → Int32) (K : Nat) (p1 : Int32) (p2 : Int32) (hJ : MJ tmM q) (r : (Int32 × (Nat → Nat → Int32))) (hs : sX4_where K G p1 p2 = some r) : Met l yX4_where wsX4_where ({ frames := 5, cells := 0, slots := 0, locals := 114 } : Room) (mPre [.ref (q 0), .int p1, .int p2] D cI cR q tmM G) (mIW D cI cR q tmM r) 0 0 (MA tmM q) := by
  refine Met.ofW (cc := cX4_where) (maxL := 3) (ret := (some .int)) (by decide) rfl ?_
  intro p e s m args below meth c s₁ B hml hv
  obtain ⟨hargs, hM, hK⟩ := hv
  have hx := B.exec
  have hb := B.bytes
  have hr := B.returns
  have hts := atoms_spec (ws := wsX4_where) B.pre
  have hown : s.vm.findClass RX4 = some m.cls := findClass_of_methodNamed B.named
  have hlocks := B.notSynchronized
  have hA : ∀ a, MA tmM q a → MA tmM q a := fun _ h => h
  have hS : va_S (MA tmM q) s.heap s.heap [] := va_S.rf
  have w0 := hts (Cond.constantLong RX4 92 (999)) (List.mem_of_getElem? (i := 1) (by decide +kernel))
  subst hargs
  have hl := lv_entry ([.ref (q 0), .int p1, .int p2]) (n := 3) (Nat.le_of_ble_eq_true rfl)
  rw [lg_entry_eq]
  generalize (lg_sl ([.ref (q 0), .int p1, .int p2]) ++ List.replicate (3 - (lg_sl ([.ref (q 0), .int p1, .int p2])).length) Slot.unset).toArray = ls at hl ⊢
  have hl : lv_has ls 3 [(0, .ref (q 0)), (1, .int p1), (2, .int p2)] := hl
  have h := hs
  unfold sX4_where at h
  have hM0 := hM
  refine lv_aload_n hx hb dX4_where_0 rfl (lv_at hl 0 rfl) ?_
  refine lv_iload_n hx hb dX4_where_1 rfl (lv_at hl 1 rfl) ?_
  obtain ⟨r2, e2, h⟩ := bind_s h
  refine k_cI (va_runV (As := [.int p1]) (rest := []) ⟨hx, hb, hml, hown, hts⟩ (kX4_isKind l D cI cR q G K p1 r2 e2) (cwV 1 hts gX4_where_X4_isKind rfl rfl rfl (by decide +kernel) ⟨Nat.le_of_ble_eq_true rfl, Nat.le_of_ble_eq_true rfl⟩) (mPreV hK hM 0 rfl rfl) rfl rfl hl.1 rfl (lv_room (Nat.le_of_ble_eq_true rfl)) dX4_where_2 ⟨Nat.le_of_ble_eq_true rfl, Nat.le_of_ble_eq_true rfl⟩) hS hM (fun H locs hM hS => ?_)
  refine lv_if_ne (tgt := 14) hx hb dX4_where_5 (by decide) (fun c5 => ?_) (fun c5 => ?_)
  · replace h := ite_f h c5
    refine lv_iload_n hx hb dX4_where_14 rfl (lv_at hl 2 rfl) ?_
    refine lv_i2l (v := p2.toInt64) hx hb dX4_where_15 rfl ?_
    refine lv_lconst (v := 0) hx hb dX4_where_16 (by decide) ?_
    refine lv_ldc2 hx hb hown w0 dX4_where_17 ?_
    obtain ⟨r20, e20, h⟩ := bind_s h
    refine k_cI (va_runS (As := [.long p2.toInt64, .long (0 : Int64), .long (999 : Int64)]) (rest := []) ⟨hx, hb, hml, hown, hts⟩ (kX4_in l D cI cR q G K p2.toInt64 (0 : Int64) (999 : Int64) r20 e20) (va_cwS 3 hts gX4_where_X4_in rfl rfl rfl (by decide +kernel) ⟨Nat.le_of_ble_eq_true rfl, Nat.le_of_ble_eq_true rfl⟩) (mPreS hK hM) rfl rfl hl.1 rfl (lv_room (Nat.le_of_ble_eq_true rfl)) dX4_where_20 ⟨Nat.le_of_ble_eq_true rfl, Nat.le_of_ble_eq_true rfl⟩) hS hM (fun H locs hM hS => ?_)
    refine lv_if_eq (tgt := 39) hx hb dX4_where_23 (by decide) (fun c23 => ?_) (fun c23 => ?_)
    · replace h := ite_t h c23
      refine lv_aload_n hx hb dX4_where_39 rfl (lv_at hl 0 rfl) ?_
      refine lv_iconst (v := 2) hx hb dX4_where_40 (by decide) ?_
      obtain ⟨r41, e41, h⟩ := bind_s h
      refine k_cIW (va_runV (As := [.int (2 : Int32)]) (rest := []) ⟨hx, hb, hml, hown, hts⟩ (kX4_throwing l D cI cR q G K (2 : Int32) hJ r41 e41) (cwV 1 hts gX4_where_X4_throwing rfl rfl rfl (by decide +kernel) ⟨Nat.le_of_ble_eq_true rfl, Nat.le_of_ble_eq_true rfl⟩) (mPreV hK hM 0 rfl rfl) rfl rfl hl.1 rfl (lv_room (Nat.le_of_ble_eq_true rfl)) dX4_where_41 ⟨Nat.le_of_ble_eq_true rfl, Nat.le_of_ble_eq_true rfl⟩) hS hA (fun H locs hM hS => ?_)
      have h := Option.some.inj h
      exact W.iret (v := r41.1) hx hb hr (fun t ht hW => ⟨⟨r41.1, (), rfl, p_fst h, w_end ht hM (p_snd h)⟩, hS.F ht⟩) hS.2.2 dX4_where_44
    · replace h := ite_f h c23
      refine lv_aload_n hx hb dX4_where_26 rfl (lv_at hl 0 rfl) ?_
      refine lv_aload_n hx hb dX4_where_27 rfl (lv_at hl 0 rfl) ?_
      refine lv_iload_n hx hb dX4_where_28 rfl (lv_at hl 1 rfl) ?_
      refine lv_iload_n hx hb dX4_where_29 rfl (lv_at hl 2 rfl) ?_
      obtain ⟨r30, e30, h⟩ := bind_s h
      refine k_cIW (va_runV (As := [.int p1, .int p2]) (rest := [.ref (q 0)]) ⟨hx, hb, hml, hown, hts⟩ (kX4_whereIf l D cI cR q G K p1 p2 hJ r30 e30) (cwV 2 hts gX4_where_X4_whereIf rfl rfl rfl (by decide +kernel) ⟨Nat.le_of_ble_eq_true rfl, Nat.le_of_ble_eq_true rfl⟩) (mPreV hK hM 0 rfl rfl) rfl rfl hl.1 rfl (lv_room (Nat.le_of_ble_eq_true rfl)) dX4_where_30 ⟨Nat.le_of_ble_eq_true rfl, Nat.le_of_ble_eq_true rfl⟩) hS hA (fun H locs hM hS => ?_)
      obtain ⟨r33, e33, h⟩ := bind_s h
      refine k_cIW (va_runV (As := [.int r30.1]) (rest := []) ⟨hx, hb, hml, hown, hts⟩ (kX4_fine l D cI cR q r30.2 K r30.1 hJ r33 e33) (cwV 1 hts gX4_where_X4_fine rfl rfl rfl (by decide +kernel) ⟨Nat.le_of_ble_eq_true rfl, Nat.le_of_ble_eq_true rfl⟩) (mPreV hK hM 0 rfl rfl) rfl rfl hl.1 rfl (lv_room (Nat.le_of_ble_eq_true rfl)) dX4_where_33 ⟨Nat.le_of_ble_eq_true rfl, Nat.le_of_ble_eq_true rfl⟩) hS hA (fun H locs hM hS => ?_)
      refine lv_goto (tgt := 44) hx hb dX4_where_36 (by decide) ?_
      have h := Option.some.inj h
      exact W.iret (v := r33.1) hx hb hr (fun t ht hW => ⟨⟨r33.1, (), rfl, p_fst h, w_end ht hM (p_snd h)⟩, hS.F ht⟩) hS.2.2 dX4_where_44
  · replace h := ite_t h c5
    refine lv_aload_n hx hb dX4_where_8 rfl (lv_at hl 0 rfl) ?_
    refine lv_iconst (v := 1) hx hb dX4_where_9 (by decide) ?_
    obtain ⟨r10, e10, h⟩ := bind_s h
    refine k_cIW (va_runV (As := [.int (1 : Int32)]) (rest := []) ⟨hx, hb, hml, hown, hts⟩ (kX4_throwing l D cI cR q G K (1 : Int32) hJ r10 e10) (cwV 1 hts gX4_where_X4_throwing rfl rfl rfl (by decide +kernel) ⟨Nat.le_of_ble_eq_true rfl, Nat.le_of_ble_eq_true rfl⟩) (mPreV hK hM 0 rfl rfl) rfl rfl hl.1 rfl (lv_room (Nat.le_of_ble_eq_true rfl)) dX4_where_10 ⟨Nat.le_of_ble_eq_true rfl, Nat.le_of_ble_eq_true rfl⟩) hS hA (fun H locs hM hS => ?_)
    have h := Option.some.inj h
    exact W.iret (v := r10.1) hx hb hr (fun t ht hW => ⟨⟨r10.1, (), rfl, p_fst h, w_end ht hM (p_snd h)⟩, hS.F ht⟩) hS.2.2 dX4_where_13
set_option maxHeartbeats 4000000 in
set_option maxRecDepth 100000 in
theorem kX4_mostWearOf (l : Launch) (D : va_G) (cI cR : ClassId) (q : Nat → Nat) (G : Nat → Nat → Int32) (K : Nat) (p1 : Int32) (hJ : MJ tmM q) (r : (Int32 × (Nat → Nat → Int32))) (hs : sX4_mostWearOf K G p1 = some r) : Met l yX4_mostWearOf wsX4_mostWearOf ({ frames := 5, cells := 0, slots := 0, locals := 114 } : Room) (mPre [.ref (q 0), .int p1] D cI cR q tmM G) (mIW D cI cR q tmM r) 0 0 (MA tmM q) := by
  refine Met.ofW (cc := cX4_mostWearOf) (maxL := 3) (ret := (some .int)) (by decide) rfl ?_
  intro p e s m args below meth c s₁ B hml hv
  obtain ⟨hargs, hM, hK⟩ := hv
  have hx := B.exec
  have hb := B.bytes
  have hr := B.returns
  have hts := atoms_spec (ws := wsX4_mostWearOf) B.pre
  have hown : s.vm.findClass RX4 = some m.cls := findClass_of_methodNamed B.named
  have hlocks := B.notSynchronized
  have hA : ∀ a, MA tmM q a → MA tmM q a := fun _ h => h
  have hS : va_S (MA tmM q) s.heap s.heap [] := va_S.rf
  have L2 : ∀ (n : Nat), ∀ (G1 : Nat → Nat → Int32) (x2 : Int32) (H : Heap) (locs : List Loc) (ls : Array Slot), sX4_mostWearOf_L2 K p1 n G1 x2 = some r → MW D cI cR q tmM G1 H → va_S (MA tmM q) s.heap H locs → lv_has ls 3 [(0, .ref (q 0)), (1, .int p1), (2, .int x2)] → W p l e (headSpec wsX4_mostWearOf ({ frames := 5, cells := 0, slots := 0, locals := 114 } : Room)).room s m args below meth c H locs 0 0 (MQ below (mIW D cI cR q tmM r) args s 0 0 (MA tmM q)) (F0 m 2 ls []) := by
    clear hM hS
    intro n
    induction n with
    | zero => exact fun _ _ _ _ _ h => absurd h (by simp [sX4_mostWearOf_L2])
    | succ n ih =>
      intro G1 x2 H locs ls h hM hS hl
      rw [sX4_mostWearOf_L2] at h
      refine lv_iload_n hx hb dX4_mostWearOf_2 rfl (lv_at hl 2 rfl) ?_
      refine lv_sipush (v := 1000) hx hb dX4_mostWearOf_3 (by decide) ?_
      refine lv_icmp_ge (tgt := 30) hx hb dX4_mostWearOf_6 (by decide) (fun c6 => ?_) (fun c6 => ?_)
      · replace h := ite_t h c6
        refine lv_iload_n hx hb dX4_mostWearOf_30 rfl (lv_at hl 2 rfl) ?_
        refine lv_iconst (v := 1) hx hb dX4_mostWearOf_31 (by decide) ?_
        refine lv_isub hx hb dX4_mostWearOf_32 ?_
        have h := Option.some.inj h
        exact W.iret (v := (x2 - (1 : Int32))) hx hb hr (fun t ht hW => ⟨⟨(x2 - (1 : Int32)), (), rfl, p_fst h, w_end ht hM (p_snd h)⟩, hS.F ht⟩) hS.2.2 dX4_mostWearOf_33
      · replace h := ite_f h c6
        refine lv_aload_n hx hb dX4_mostWearOf_9 rfl (lv_at hl 0 rfl) ?_
        refine lv_iload_n hx hb dX4_mostWearOf_10 rfl (lv_at hl 1 rfl) ?_
        refine lv_iload_n hx hb dX4_mostWearOf_11 rfl (lv_at hl 2 rfl) ?_
        obtain ⟨r12, e12, h⟩ := bind_s h
        refine k_cIW (va_runV (As := [.int p1, .int x2]) (rest := []) ⟨hx, hb, hml, hown, hts⟩ (kX4_whereIf l D cI cR q G1 K p1 x2 hJ r12 e12) (cwV 2 hts gX4_mostWearOf_X4_whereIf rfl rfl rfl (by decide +kernel) ⟨Nat.le_of_ble_eq_true rfl, Nat.le_of_ble_eq_true rfl⟩) (mPreV hK hM 0 rfl rfl) rfl rfl hl.1 rfl (lv_room (Nat.le_of_ble_eq_true rfl)) dX4_mostWearOf_12 ⟨Nat.le_of_ble_eq_true rfl, Nat.le_of_ble_eq_true rfl⟩) hS hA (fun H locs hM hS => ?_)
        refine lv_aload_n hx hb dX4_mostWearOf_15 rfl (lv_at hl 0 rfl) ?_
        refine lv_iload_n hx hb dX4_mostWearOf_16 rfl (lv_at hl 1 rfl) ?_
        refine lv_iconst (v := 2) hx hb dX4_mostWearOf_17 (by decide) ?_
        obtain ⟨r18, e18, h⟩ := bind_s h
        refine k_cI (va_runV (As := [.int p1, .int (2 : Int32)]) (rest := [.int r12.1]) ⟨hx, hb, hml, hown, hts⟩ (kX4_ofKind l D cI cR q r12.2 K p1 (2 : Int32) r18 e18) (cwV 2 hts gX4_mostWearOf_X4_ofKind rfl rfl rfl (by decide +kernel) ⟨Nat.le_of_ble_eq_true rfl, Nat.le_of_ble_eq_true rfl⟩) (mPreV hK hM 0 rfl rfl) rfl rfl hl.1 rfl (lv_room (Nat.le_of_ble_eq_true rfl)) dX4_mostWearOf_18 ⟨Nat.le_of_ble_eq_true rfl, Nat.le_of_ble_eq_true rfl⟩) hS hM (fun H locs hM hS => ?_)
        refine lv_icmp_ne (tgt := 30) hx hb dX4_mostWearOf_21 (by decide) (fun c21 => ?_) (fun c21 => ?_)
        · replace h := ite_f h c21
          refine lv_iload_n hx hb dX4_mostWearOf_30 rfl (lv_at hl 2 rfl) ?_
          refine lv_iconst (v := 1) hx hb dX4_mostWearOf_31 (by decide) ?_
          refine lv_isub hx hb dX4_mostWearOf_32 ?_
          have h := Option.some.inj h
          exact W.iret (v := (x2 - (1 : Int32))) hx hb hr (fun t ht hW => ⟨⟨(x2 - (1 : Int32)), (), rfl, p_fst h, w_end ht hM (p_snd h)⟩, hS.F ht⟩) hS.2.2 dX4_mostWearOf_33
        · replace h := ite_t h c21
          refine lv_iinc (v := (x2 + 1)) (lv' := [(2, .int (x2 + 1)), (0, .ref (q 0)), (1, .int p1)]) hx hb dX4_mostWearOf_24 hl (k := 2) rfl (congrArg (fun z : Int32 => x2 + z) (show Int32.ofInt (1) = 1 by decide)) (by decide) rfl (fun ls hl => ?_)
          refine lv_goto (tgt := 2) hx hb dX4_mostWearOf_27 (by decide) ?_
          exact ih r12.2 (x2 + 1) _ _ _ h hM hS (lv_sub hl [1, 2, 0] rfl)
  subst hargs
  have hl := lv_entry ([.ref (q 0), .int p1]) (n := 3) (Nat.le_of_ble_eq_true rfl)
  rw [lg_entry_eq]
  generalize (lg_sl ([.ref (q 0), .int p1]) ++ List.replicate (3 - (lg_sl ([.ref (q 0), .int p1])).length) Slot.unset).toArray = ls at hl ⊢
  have hl : lv_has ls 3 [(0, .ref (q 0)), (1, .int p1)] := hl
  have h := hs
  unfold sX4_mostWearOf at h
  have hM0 := hM
  refine lv_iconst (v := 0) hx hb dX4_mostWearOf_0 (by decide) ?_
  refine lv_istore_n (lv' := [(2, .int (0 : Int32)), (0, .ref (q 0)), (1, .int p1)]) hx hb dX4_mostWearOf_1 rfl hl (by decide) rfl (fun ls hl => ?_)
  exact L2 K G (0 : Int32) _ _ _ h hM hS (lv_sub hl [1, 2, 0] rfl)
set_option maxHeartbeats 4000000 in
set_option maxRecDepth 100000 in
theorem kX4_mostWear (l : Launch) (D : va_G) (cI cR : ClassId) (q : Nat → Nat) (G : Nat → Nat → Int32) (K : Nat) (p1 : Int32) (hJ : MJ tmM q) (r : (Int32 × (Nat → Nat → Int32))) (hs : sX4_mostWear K G p1 = some r) : Met l yX4_mostWear wsX4_mostWear ({ frames := 6, cells := 0, slots := 0, locals := 136 } : Room) (mPre [.ref (q 0), .int p1] D cI cR q tmM G) (mIW D cI cR q tmM r) 0 0 (MA tmM q) := by
  refine Met.ofW (cc := cX4_mostWear) (maxL := 2) (ret := (some .int)) (by decide) rfl ?_
  intro p e s m args below meth c s₁ B hml hv
  obtain ⟨hargs, hM, hK⟩ := hv
  have hx := B.exec
  have hb := B.bytes
  have hr := B.returns
  have hts := atoms_spec (ws := wsX4_mostWear) B.pre
  have hown : s.vm.findClass RX4 = some m.cls := findClass_of_methodNamed B.named
  have hlocks := B.notSynchronized
  have hA : ∀ a, MA tmM q a → MA tmM q a := fun _ h => h
  have hS : va_S (MA tmM q) s.heap s.heap [] := va_S.rf
  subst hargs
  have hl := lv_entry ([.ref (q 0), .int p1]) (n := 2) (Nat.le_of_ble_eq_true rfl)
  rw [lg_entry_eq]
  generalize (lg_sl ([.ref (q 0), .int p1]) ++ List.replicate (2 - (lg_sl ([.ref (q 0), .int p1])).length) Slot.unset).toArray = ls at hl ⊢
  have hl : lv_has ls 2 [(0, .ref (q 0)), (1, .int p1)] := hl
  have h := hs
  unfold sX4_mostWear at h
  have hM0 := hM
  refine lv_aload_n hx hb dX4_mostWear_0 rfl (lv_at hl 0 rfl) ?_
  refine lv_iload_n hx hb dX4_mostWear_1 rfl (lv_at hl 1 rfl) ?_
  obtain ⟨r2, e2, h⟩ := bind_s h
  refine k_cI (va_runV (As := [.int p1]) (rest := []) ⟨hx, hb, hml, hown, hts⟩ (kX4_isKind l D cI cR q G K p1 r2 e2) (cwV 1 hts gX4_mostWear_X4_isKind rfl rfl rfl (by decide +kernel) ⟨Nat.le_of_ble_eq_true rfl, Nat.le_of_ble_eq_true rfl⟩) (mPreV hK hM 0 rfl rfl) rfl rfl hl.1 rfl (lv_room (Nat.le_of_ble_eq_true rfl)) dX4_mostWear_2 ⟨Nat.le_of_ble_eq_true rfl, Nat.le_of_ble_eq_true rfl⟩) hS hM (fun H locs hM hS => ?_)
  refine lv_if_eq (tgt := 20) hx hb dX4_mostWear_5 (by decide) (fun c5 => ?_) (fun c5 => ?_)
  · replace h := ite_t h c5
    refine lv_aload_n hx hb dX4_mostWear_20 rfl (lv_at hl 0 rfl) ?_
    refine lv_iconst (v := 1) hx hb dX4_mostWear_21 (by decide) ?_
    obtain ⟨r22, e22, h⟩ := bind_s h
    refine k_cIW (va_runV (As := [.int (1 : Int32)]) (rest := []) ⟨hx, hb, hml, hown, hts⟩ (kX4_throwing l D cI cR q G K (1 : Int32) hJ r22 e22) (cwV 1 hts gX4_mostWear_X4_throwing rfl rfl rfl (by decide +kernel) ⟨Nat.le_of_ble_eq_true rfl, Nat.le_of_ble_eq_true rfl⟩) (mPreV hK hM 0 rfl rfl) rfl rfl hl.1 rfl (lv_room (Nat.le_of_ble_eq_true rfl)) dX4_mostWear_22 ⟨Nat.le_of_ble_eq_true rfl, Nat.le_of_ble_eq_true rfl⟩) hS hA (fun H locs hM hS => ?_)
    have h := Option.some.inj h
    exact W.iret (v := r22.1) hx hb hr (fun t ht hW => ⟨⟨r22.1, (), rfl, p_fst h, w_end ht hM (p_snd h)⟩, hS.F ht⟩) hS.2.2 dX4_mostWear_25
  · replace h := ite_f h c5
    refine lv_aload_n hx hb dX4_mostWear_8 rfl (lv_at hl 0 rfl) ?_
    refine lv_aload_n hx hb dX4_mostWear_9 rfl (lv_at hl 0 rfl) ?_
    refine lv_iload_n hx hb dX4_mostWear_10 rfl (lv_at hl 1 rfl) ?_
    obtain ⟨r11, e11, h⟩ := bind_s h
    refine k_cIW (va_runV (As := [.int p1]) (rest := [.ref (q 0)]) ⟨hx, hb, hml, hown, hts⟩ (kX4_mostWearOf l D cI cR q G K p1 hJ r11 e11) (cwV 1 hts gX4_mostWear_X4_mostWearOf rfl rfl rfl (by decide +kernel) ⟨Nat.le_of_ble_eq_true rfl, Nat.le_of_ble_eq_true rfl⟩) (mPreV hK hM 0 rfl rfl) rfl rfl hl.1 rfl (lv_room (Nat.le_of_ble_eq_true rfl)) dX4_mostWear_11 ⟨Nat.le_of_ble_eq_true rfl, Nat.le_of_ble_eq_true rfl⟩) hS hA (fun H locs hM hS => ?_)
    obtain ⟨r14, e14, h⟩ := bind_s h
    refine k_cIW (va_runV (As := [.int r11.1]) (rest := []) ⟨hx, hb, hml, hown, hts⟩ (kX4_fine l D cI cR q r11.2 K r11.1 hJ r14 e14) (cwV 1 hts gX4_mostWear_X4_fine rfl rfl rfl (by decide +kernel) ⟨Nat.le_of_ble_eq_true rfl, Nat.le_of_ble_eq_true rfl⟩) (mPreV hK hM 0 rfl rfl) rfl rfl hl.1 rfl (lv_room (Nat.le_of_ble_eq_true rfl)) dX4_mostWear_14 ⟨Nat.le_of_ble_eq_true rfl, Nat.le_of_ble_eq_true rfl⟩) hS hA (fun H locs hM hS => ?_)
    refine lv_goto (tgt := 25) hx hb dX4_mostWear_17 (by decide) ?_
    have h := Option.some.inj h
    exact W.iret (v := r14.1) hx hb hr (fun t ht hW => ⟨⟨r14.1, (), rfl, p_fst h, w_end ht hM (p_snd h)⟩, hS.F ht⟩) hS.2.2 dX4_mostWear_25
set_option maxHeartbeats 4000000 in
set_option maxRecDepth 100000 in
theorem kX4_does (l : Launch) (D : va_G) (cI cR : ClassId) (q : Nat → Nat) (G : Nat → Nat → Int32) (K : Nat) (p1 : Int32) (p2 : Int32) (r : Int32) (hs : sX4_does K G p1 p2 = some r) : Met l yX4_does wsX4_does ({ frames := 2, cells := 0, slots := 0, locals := 43 } : Room) (mPre [.ref (q 0), .int p1, .int p2] D cI cR q tmM G) (mI r) 0 0 (fun _ => False) := by
  refine Met.ofW (cc := cX4_does) (maxL := 7) (ret := (some .boolean)) (by decide) rfl ?_
  intro p e s m args below meth c s₁ B hml hv
  obtain ⟨hargs, hM, hK⟩ := hv
  have hx := B.exec
  have hb := B.bytes
  have hr := B.returns
  have hts := atoms_spec (ws := wsX4_does) B.pre
  have hown : s.vm.findClass RX4 = some m.cls := findClass_of_methodNamed B.named
  have hlocks := B.notSynchronized
  have hS : va_S (fun _ => False) s.heap s.heap [] := va_S.rf
  have w0 := hts (Cond.fieldLink RX4 7 "CoinRailsModel" "all" "[I") (List.mem_of_getElem? (i := 1) (by decide +kernel))
  have iX4 : ∀ w ∈ wsX40, w ∈ wsX4_does := fun _ h => List.mem_cons_of_mem _ (List.mem_append_right _ (h))
  have L5 : ∀ (n : Nat), ∀ (G : Nat → Nat → Int32) (x3 : Int32) (x4 : Int32) (H : Heap) (locs : List Loc) (ls : Array Slot), sX4_does_L5 K G p1 p2 n x3 x4 = some r → MW D cI cR q tmM G H → va_S (fun _ => False) s.heap H locs → lv_has ls 7 [(0, .ref (q 0)), (1, .int p1), (2, .int p2), (3, .int x3), (4, .int x4)] → W p l e (headSpec wsX4_does ({ frames := 2, cells := 0, slots := 0, locals := 43 } : Room)).room s m args below meth c H locs 0 0 (MQ below (mI r) args s 0 0 (fun _ => False)) (F0 m 5 ls []) := by
    clear hM hS
    intro n
    induction n with
    | zero => exact fun _ _ _ _ _ _ h => absurd h (by simp [sX4_does_L5])
    | succ n ih =>
      intro G x3 x4 H locs ls h hM hS hl
      rw [sX4_does_L5] at h
      refine lv_iload hx hb dX4_does_5 (lv_at hl 4 rfl) ?_
      refine lv_aload_n hx hb dX4_does_7 rfl (lv_at hl 0 rfl) ?_
      refine k_getR (C := RX4) (T := TX4) (N := 10) hx hb hts iX4 hown hK hM 0 rfl rfl 0 (by decide) rfl w0 (fun _ h9 => h9) dX4_does_8 ?_
      refine lv_iconst (v := 0) hx hb dX4_does_11 (by decide) ?_
      obtain ⟨g12, h⟩ := grd_s h
      refine k_iald hx hb hK hM 1 rfl g12 dX4_does_12 ?_
      refine lv_icmp_ge (tgt := 75) hx hb dX4_does_13 (by decide) (fun c13 => ?_) (fun c13 => ?_)
      · replace h := ite_t h c13
        refine lv_iload_n hx hb dX4_does_75 rfl (lv_at hl 3 rfl) ?_
        obtain ⟨gz, h⟩ := grd_s h
        exact W.zret (ty := .boolean) (v := x3) hx hb hr (bv_n gz) (fun t ht hW => ⟨⟨x3, (), rfl, Option.some.inj h, trivial⟩, hS.F ht⟩) hS.2.2 dX4_does_76
      · replace h := ite_f h c13
        refine lv_iload_n hx hb dX4_does_16 rfl (lv_at hl 2 rfl) ?_
        refine lv_aload_n hx hb dX4_does_17 rfl (lv_at hl 0 rfl) ?_
        refine lv_iload hx hb dX4_does_18 (lv_at hl 4 rfl) ?_
        refine lv_iconst (v := 0) hx hb dX4_does_20 (by decide) ?_
        obtain ⟨r21, e21, h⟩ := bind_s h
        refine k_cI (va_runV (As := [.int x4, .int (0 : Int32)]) (rest := [.int p2]) ⟨hx, hb, hml, hown, hts⟩ (kX4_ofKind l D cI cR q G K x4 (0 : Int32) r21 e21) (cwV 2 hts gX4_does_X4_ofKind rfl rfl rfl (by decide +kernel) ⟨Nat.le_of_ble_eq_true rfl, Nat.le_of_ble_eq_true rfl⟩) (mPreV hK hM 0 rfl rfl) rfl rfl hl.1 rfl (lv_room (Nat.le_of_ble_eq_true rfl)) dX4_does_21 ⟨Nat.le_of_ble_eq_true rfl, Nat.le_of_ble_eq_true rfl⟩) hS hM (fun H locs hM hS => ?_)
        refine lv_isub hx hb dX4_does_24 ?_
        refine lv_istore (lv' := [(5, .int (p2 - r21)), (0, .ref (q 0)), (1, .int p1), (2, .int p2), (3, .int x3), (4, .int x4)]) hx hb dX4_does_25 hl (by decide) rfl (fun ls hl => ?_)
        refine lv_aload_n hx hb dX4_does_27 rfl (lv_at hl 1 rfl) ?_
        refine lv_iload hx hb dX4_does_28 (lv_at hl 5 rfl) ?_
        refine lv_iconst (v := 2) hx hb dX4_does_30 (by decide) ?_
        obtain ⟨r31, e31, h⟩ := bind_s h
        refine k_cI (va_runV (As := [.int x4, .int (2 : Int32)]) (rest := []) ⟨hx, hb, hml, hown, hts⟩ (kX4_ofKind l D cI cR q G K x4 (2 : Int32) r31 e31) (cwV 2 hts gX4_does_X4_ofKind rfl rfl rfl (by decide +kernel) ⟨Nat.le_of_ble_eq_true rfl, Nat.le_of_ble_eq_true rfl⟩) (mPreV hK hM 0 rfl rfl) rfl rfl hl.1 rfl (lv_room (Nat.le_of_ble_eq_true rfl)) dX4_does_31 ⟨Nat.le_of_ble_eq_true rfl, Nat.le_of_ble_eq_true rfl⟩) hS hM (fun H locs hM hS => ?_)
        refine lv_istore (lv' := [(6, .int r31), (5, .int (p2 - r21)), (0, .ref (q 0)), (1, .int p1), (2, .int p2), (3, .int x3), (4, .int x4)]) hx hb dX4_does_34 hl (by decide) rfl (fun ls hl => ?_)
        refine lv_iload_n hx hb dX4_does_36 rfl (lv_at hl 5 rfl) ?_
        refine lv_if_eq (tgt := 67) hx hb dX4_does_37 (by decide) (fun c37 => ?_) (fun c37 => ?_)
        · replace h := ite_t h c37
          refine lv_iconst (v := 0) hx hb dX4_does_67 (by decide) ?_
          refine lv_istore_n (lv' := [(3, .int (0 : Int32)), (6, .int r31), (5, .int (p2 - r21)), (0, .ref (q 0)), (1, .int p1), (2, .int p2), (4, .int x4)]) hx hb dX4_does_68 rfl hl (by decide) rfl (fun ls hl => ?_)
          refine lv_iinc (v := (x4 + 1)) (lv' := [(4, .int (x4 + 1)), (3, .int (0 : Int32)), (6, .int r31), (5, .int (p2 - r21)), (0, .ref (q 0)), (1, .int p1), (2, .int p2)]) hx hb dX4_does_69 hl (k := 6) rfl (congrArg (fun z : Int32 => x4 + z) (show Int32.ofInt (1) = 1 by decide)) (by decide) rfl (fun ls hl => ?_)
          refine lv_goto (tgt := 5) hx hb dX4_does_72 (by decide) ?_
          exact ih G (0 : Int32) (x4 + 1) _ _ _ h hM hS (lv_sub hl [4, 5, 6, 1, 0] rfl)
        · replace h := ite_f h c37
          refine lv_iload hx hb dX4_does_40 (lv_at hl 0 rfl) ?_
          refine lv_iload_n hx hb dX4_does_42 rfl (lv_at hl 3 rfl) ?_
          refine lv_icmp_ne (tgt := 52) hx hb dX4_does_43 (by decide) (fun c43 => ?_) (fun c43 => ?_)
          · replace h := ite_f h c43
            refine lv_iload hx hb dX4_does_52 (lv_at hl 0 rfl) ?_
            refine lv_iload_n hx hb dX4_does_54 rfl (lv_at hl 3 rfl) ?_
            refine lv_icmp_le (tgt := 63) hx hb dX4_does_55 (by decide) (fun c55 => ?_) (fun c55 => ?_)
            · replace h := ite_t h c55
              refine lv_iconst (v := 1) hx hb dX4_does_63 (by decide) ?_
              refine lv_goto (tgt := 68) hx hb dX4_does_64 (by decide) ?_
              refine lv_istore_n (lv' := [(3, .int (1 : Int32)), (6, .int r31), (5, .int (p2 - r21)), (0, .ref (q 0)), (1, .int p1), (2, .int p2), (4, .int x4)]) hx hb dX4_does_68 rfl hl (by decide) rfl (fun ls hl => ?_)
              refine lv_iinc (v := (x4 + 1)) (lv' := [(4, .int (x4 + 1)), (3, .int (1 : Int32)), (6, .int r31), (5, .int (p2 - r21)), (0, .ref (q 0)), (1, .int p1), (2, .int p2)]) hx hb dX4_does_69 hl (k := 6) rfl (congrArg (fun z : Int32 => x4 + z) (show Int32.ofInt (1) = 1 by decide)) (by decide) rfl (fun ls hl => ?_)
              refine lv_goto (tgt := 5) hx hb dX4_does_72 (by decide) ?_
              exact ih G (1 : Int32) (x4 + 1) _ _ _ h hM hS (lv_sub hl [4, 5, 6, 1, 0] rfl)
            · replace h := ite_f h c55
              refine lv_iload hx hb dX4_does_58 (lv_at hl 1 rfl) ?_
              refine lv_if_gt (tgt := 67) hx hb dX4_does_60 (by decide) (fun c60 => ?_) (fun c60 => ?_)
              · replace h := ite_t h c60
                refine lv_iconst (v := 0) hx hb dX4_does_67 (by decide) ?_
                refine lv_istore_n (lv' := [(3, .int (0 : Int32)), (6, .int r31), (5, .int (p2 - r21)), (0, .ref (q 0)), (1, .int p1), (2, .int p2), (4, .int x4)]) hx hb dX4_does_68 rfl hl (by decide) rfl (fun ls hl => ?_)
                refine lv_iinc (v := (x4 + 1)) (lv' := [(4, .int (x4 + 1)), (3, .int (0 : Int32)), (6, .int r31), (5, .int (p2 - r21)), (0, .ref (q 0)), (1, .int p1), (2, .int p2)]) hx hb dX4_does_69 hl (k := 6) rfl (congrArg (fun z : Int32 => x4 + z) (show Int32.ofInt (1) = 1 by decide)) (by decide) rfl (fun ls hl => ?_)
                refine lv_goto (tgt := 5) hx hb dX4_does_72 (by decide) ?_
                exact ih G (0 : Int32) (x4 + 1) _ _ _ h hM hS (lv_sub hl [4, 5, 6, 1, 0] rfl)
              · replace h := ite_f h c60
                refine lv_iconst (v := 1) hx hb dX4_does_63 (by decide) ?_
                refine lv_goto (tgt := 68) hx hb dX4_does_64 (by decide) ?_
                refine lv_istore_n (lv' := [(3, .int (1 : Int32)), (6, .int r31), (5, .int (p2 - r21)), (0, .ref (q 0)), (1, .int p1), (2, .int p2), (4, .int x4)]) hx hb dX4_does_68 rfl hl (by decide) rfl (fun ls hl => ?_)
                refine lv_iinc (v := (x4 + 1)) (lv' := [(4, .int (x4 + 1)), (3, .int (1 : Int32)), (6, .int r31), (5, .int (p2 - r21)), (0, .ref (q 0)), (1, .int p1), (2, .int p2)]) hx hb dX4_does_69 hl (k := 6) rfl (congrArg (fun z : Int32 => x4 + z) (show Int32.ofInt (1) = 1 by decide)) (by decide) rfl (fun ls hl => ?_)
                refine lv_goto (tgt := 5) hx hb dX4_does_72 (by decide) ?_
                exact ih G (1 : Int32) (x4 + 1) _ _ _ h hM hS (lv_sub hl [4, 5, 6, 1, 0] rfl)
          · replace h := ite_t h c43
            refine lv_iload hx hb dX4_does_46 (lv_at hl 1 rfl) ?_
            refine lv_iconst (v := 5) hx hb dX4_does_48 (by decide) ?_
            refine lv_icmp_lt (tgt := 67) hx hb dX4_does_49 (by decide) (fun c49 => ?_) (fun c49 => ?_)
            · replace h := ite_t h c49
              refine lv_iconst (v := 0) hx hb dX4_does_67 (by decide) ?_
              refine lv_istore_n (lv' := [(3, .int (0 : Int32)), (6, .int r31), (5, .int (p2 - r21)), (0, .ref (q 0)), (1, .int p1), (2, .int p2), (4, .int x4)]) hx hb dX4_does_68 rfl hl (by decide) rfl (fun ls hl => ?_)
              refine lv_iinc (v := (x4 + 1)) (lv' := [(4, .int (x4 + 1)), (3, .int (0 : Int32)), (6, .int r31), (5, .int (p2 - r21)), (0, .ref (q 0)), (1, .int p1), (2, .int p2)]) hx hb dX4_does_69 hl (k := 6) rfl (congrArg (fun z : Int32 => x4 + z) (show Int32.ofInt (1) = 1 by decide)) (by decide) rfl (fun ls hl => ?_)
              refine lv_goto (tgt := 5) hx hb dX4_does_72 (by decide) ?_
              exact ih G (0 : Int32) (x4 + 1) _ _ _ h hM hS (lv_sub hl [4, 5, 6, 1, 0] rfl)
            · replace h := ite_f h c49
              refine lv_iload hx hb dX4_does_52 (lv_at hl 0 rfl) ?_
              refine lv_iload_n hx hb dX4_does_54 rfl (lv_at hl 3 rfl) ?_
              refine lv_icmp_le (tgt := 63) hx hb dX4_does_55 (by decide) (fun c55 => ?_) (fun c55 => ?_)
              · replace h := ite_t h c55
                refine lv_iconst (v := 1) hx hb dX4_does_63 (by decide) ?_
                refine lv_goto (tgt := 68) hx hb dX4_does_64 (by decide) ?_
                refine lv_istore_n (lv' := [(3, .int (1 : Int32)), (6, .int r31), (5, .int (p2 - r21)), (0, .ref (q 0)), (1, .int p1), (2, .int p2), (4, .int x4)]) hx hb dX4_does_68 rfl hl (by decide) rfl (fun ls hl => ?_)
                refine lv_iinc (v := (x4 + 1)) (lv' := [(4, .int (x4 + 1)), (3, .int (1 : Int32)), (6, .int r31), (5, .int (p2 - r21)), (0, .ref (q 0)), (1, .int p1), (2, .int p2)]) hx hb dX4_does_69 hl (k := 6) rfl (congrArg (fun z : Int32 => x4 + z) (show Int32.ofInt (1) = 1 by decide)) (by decide) rfl (fun ls hl => ?_)
                refine lv_goto (tgt := 5) hx hb dX4_does_72 (by decide) ?_
                exact ih G (1 : Int32) (x4 + 1) _ _ _ h hM hS (lv_sub hl [4, 5, 6, 1, 0] rfl)
              · replace h := ite_f h c55
                refine lv_iload hx hb dX4_does_58 (lv_at hl 1 rfl) ?_
                refine lv_if_gt (tgt := 67) hx hb dX4_does_60 (by decide) (fun c60 => ?_) (fun c60 => ?_)
                · replace h := ite_t h c60
                  refine lv_iconst (v := 0) hx hb dX4_does_67 (by decide) ?_
                  refine lv_istore_n (lv' := [(3, .int (0 : Int32)), (6, .int r31), (5, .int (p2 - r21)), (0, .ref (q 0)), (1, .int p1), (2, .int p2), (4, .int x4)]) hx hb dX4_does_68 rfl hl (by decide) rfl (fun ls hl => ?_)
                  refine lv_iinc (v := (x4 + 1)) (lv' := [(4, .int (x4 + 1)), (3, .int (0 : Int32)), (6, .int r31), (5, .int (p2 - r21)), (0, .ref (q 0)), (1, .int p1), (2, .int p2)]) hx hb dX4_does_69 hl (k := 6) rfl (congrArg (fun z : Int32 => x4 + z) (show Int32.ofInt (1) = 1 by decide)) (by decide) rfl (fun ls hl => ?_)
                  refine lv_goto (tgt := 5) hx hb dX4_does_72 (by decide) ?_
                  exact ih G (0 : Int32) (x4 + 1) _ _ _ h hM hS (lv_sub hl [4, 5, 6, 1, 0] rfl)
                · replace h := ite_f h c60
                  refine lv_iconst (v := 1) hx hb dX4_does_63 (by decide) ?_
                  refine lv_goto (tgt := 68) hx hb dX4_does_64 (by decide) ?_
                  refine lv_istore_n (lv' := [(3, .int (1 : Int32)), (6, .int r31), (5, .int (p2 - r21)), (0, .ref (q 0)), (1, .int p1), (2, .int p2), (4, .int x4)]) hx hb dX4_does_68 rfl hl (by decide) rfl (fun ls hl => ?_)
                  refine lv_iinc (v := (x4 + 1)) (lv' := [(4, .int (x4 + 1)), (3, .int (1 : Int32)), (6, .int r31), (5, .int (p2 - r21)), (0, .ref (q 0)), (1, .int p1), (2, .int p2)]) hx hb dX4_does_69 hl (k := 6) rfl (congrArg (fun z : Int32 => x4 + z) (show Int32.ofInt (1) = 1 by decide)) (by decide) rfl (fun ls hl => ?_)
                  refine lv_goto (tgt := 5) hx hb dX4_does_72 (by decide) ?_
                  exact ih G (1 : Int32) (x4 + 1) _ _ _ h hM hS (lv_sub hl [4, 5, 6, 1, 0] rfl)
  subst hargs
  have hl := lv_entry ([.ref (q 0), .int p1, .int p2]) (n := 7) (Nat.le_of_ble_eq_true rfl)
  rw [lg_entry_eq]
  generalize (lg_sl ([.ref (q 0), .int p1, .int p2]) ++ List.replicate (7 - (lg_sl ([.ref (q 0), .int p1, .int p2])).length) Slot.unset).toArray = ls at hl ⊢
  have hl : lv_has ls 7 [(0, .ref (q 0)), (1, .int p1), (2, .int p2)] := hl
  have h := hs
  unfold sX4_does at h
  have hM0 := hM
  refine lv_iconst (v := 1) hx hb dX4_does_0 (by decide) ?_
  refine lv_istore_n (lv' := [(3, .int (1 : Int32)), (0, .ref (q 0)), (1, .int p1), (2, .int p2)]) hx hb dX4_does_1 rfl hl (by decide) rfl (fun ls hl => ?_)
  refine lv_iconst (v := 0) hx hb dX4_does_2 (by decide) ?_
  refine lv_istore (lv' := [(4, .int (0 : Int32)), (3, .int (1 : Int32)), (0, .ref (q 0)), (1, .int p1), (2, .int p2)]) hx hb dX4_does_3 hl (by decide) rfl (fun ls hl => ?_)
  exact L5 K G (1 : Int32) (0 : Int32) _ _ _ h hM hS (lv_sub hl [2, 3, 4, 1, 0] rfl)
set_option maxHeartbeats 4000000 in
set_option maxRecDepth 100000 in
theorem kX4_bestGap (l : Launch) (D : va_G) (cI cR : ClassId) (q : Nat → Nat) (G : Nat → Nat → Int32) (K : Nat) (p1 : Int32) (hJ : MJ tmM q) (r : (Int32 × (Nat → Nat → Int32))) (hs : sX4_bestGap K G p1 = some r) : Met l yX4_bestGap wsX4_bestGap ({ frames := 3, cells := 0, slots := 0, locals := 69 } : Room) (mPre [.ref (q 0), .int p1] D cI cR q tmM G) (mIW D cI cR q tmM r) 0 0 (MA tmM q) := by
  refine Met.ofW (cc := cX4_bestGap) (maxL := 3) (ret := (some .int)) (by decide) rfl ?_
  intro p e s m args below meth c s₁ B hml hv
  obtain ⟨hargs, hM, hK⟩ := hv
  have hx := B.exec
  have hb := B.bytes
  have hr := B.returns
  have hts := atoms_spec (ws := wsX4_bestGap) B.pre
  have hown : s.vm.findClass RX4 = some m.cls := findClass_of_methodNamed B.named
  have hlocks := B.notSynchronized
  have hA : ∀ a, MA tmM q a → MA tmM q a := fun _ h => h
  have hS : va_S (MA tmM q) s.heap s.heap [] := va_S.rf
  have L32 : ∀ (n : Nat), ∀ (G : Nat → Nat → Int32) (x2 : Int32) (H : Heap) (locs : List Loc) (ls : Array Slot), sX4_bestGap_L32 K G p1 n x2 = some r → MW D cI cR q tmM G H → va_S (MA tmM q) s.heap H locs → lv_has ls 3 [(0, .ref (q 0)), (1, .int p1), (2, .int x2)] → W p l e (headSpec wsX4_bestGap ({ frames := 3, cells := 0, slots := 0, locals := 69 } : Room)).room s m args below meth c H locs 0 0 (MQ below (mIW D cI cR q tmM r) args s 0 0 (MA tmM q)) (F0 m 32 ls []) := by
    clear hM hS
    intro n
    induction n with
    | zero => exact fun _ _ _ _ _ h => absurd h (by simp [sX4_bestGap_L32])
    | succ n ih =>
      intro G x2 H locs ls h hM hS hl
      rw [sX4_bestGap_L32] at h
      refine lv_iload_n hx hb dX4_bestGap_32 rfl (lv_at hl 2 rfl) ?_
      refine lv_sipush (v := 4100) hx hb dX4_bestGap_33 (by decide) ?_
      refine lv_icmp_gt (tgt := 60) hx hb dX4_bestGap_36 (by decide) (fun c36 => ?_) (fun c36 => ?_)
      · replace h := ite_t h c36
        refine lv_aload_n hx hb dX4_bestGap_60 rfl (lv_at hl 0 rfl) ?_
        refine lv_iconst (v := -1) hx hb dX4_bestGap_61 (by decide) ?_
        obtain ⟨r62, e62, h⟩ := bind_s h
        refine k_cIW (va_runV (As := [.int (-1 : Int32)]) (rest := []) ⟨hx, hb, hml, hown, hts⟩ (kX4_fine l D cI cR q G K (-1 : Int32) hJ r62 e62) (cwV 1 hts gX4_bestGap_X4_fine rfl rfl rfl (by decide +kernel) ⟨Nat.le_of_ble_eq_true rfl, Nat.le_of_ble_eq_true rfl⟩) (mPreV hK hM 0 rfl rfl) rfl rfl hl.1 rfl (lv_room (Nat.le_of_ble_eq_true rfl)) dX4_bestGap_62 ⟨Nat.le_of_ble_eq_true rfl, Nat.le_of_ble_eq_true rfl⟩) hS hA (fun H locs hM hS => ?_)
        have h := Option.some.inj h
        exact W.iret (v := r62.1) hx hb hr (fun t ht hW => ⟨⟨r62.1, (), rfl, p_fst h, w_end ht hM (p_snd h)⟩, hS.F ht⟩) hS.2.2 dX4_bestGap_65
      · replace h := ite_f h c36
        refine lv_aload_n hx hb dX4_bestGap_39 rfl (lv_at hl 0 rfl) ?_
        refine lv_iload_n hx hb dX4_bestGap_40 rfl (lv_at hl 1 rfl) ?_
        refine lv_iload_n hx hb dX4_bestGap_41 rfl (lv_at hl 2 rfl) ?_
        obtain ⟨r42, e42, h⟩ := bind_s h
        refine k_cI (va_runV (As := [.int p1, .int x2]) (rest := []) ⟨hx, hb, hml, hown, hts⟩ (kX4_does l D cI cR q G K p1 x2 r42 e42) (cwV 2 hts gX4_bestGap_X4_does rfl rfl rfl (by decide +kernel) ⟨Nat.le_of_ble_eq_true rfl, Nat.le_of_ble_eq_true rfl⟩) (mPreV hK hM 0 rfl rfl) rfl rfl hl.1 rfl (lv_room (Nat.le_of_ble_eq_true rfl)) dX4_bestGap_42 ⟨Nat.le_of_ble_eq_true rfl, Nat.le_of_ble_eq_true rfl⟩) hS hM (fun H locs hM hS => ?_)
        refine lv_if_eq (tgt := 54) hx hb dX4_bestGap_45 (by decide) (fun c45 => ?_) (fun c45 => ?_)
        · replace h := ite_t h c45
          refine lv_iinc (v := (x2 + 1)) (lv' := [(2, .int (x2 + 1)), (0, .ref (q 0)), (1, .int p1)]) hx hb dX4_bestGap_54 hl (k := 2) rfl (congrArg (fun z : Int32 => x2 + z) (show Int32.ofInt (1) = 1 by decide)) (by decide) rfl (fun ls hl => ?_)
          refine lv_goto (tgt := 32) hx hb dX4_bestGap_57 (by decide) ?_
          exact ih G (x2 + 1) _ _ _ h hM hS (lv_sub hl [1, 2, 0] rfl)
        · replace h := ite_f h c45
          refine lv_aload_n hx hb dX4_bestGap_48 rfl (lv_at hl 0 rfl) ?_
          refine lv_iload_n hx hb dX4_bestGap_49 rfl (lv_at hl 2 rfl) ?_
          obtain ⟨r50, e50, h⟩ := bind_s h
          refine k_cIW (va_runV (As := [.int x2]) (rest := []) ⟨hx, hb, hml, hown, hts⟩ (kX4_fine l D cI cR q G K x2 hJ r50 e50) (cwV 1 hts gX4_bestGap_X4_fine rfl rfl rfl (by decide +kernel) ⟨Nat.le_of_ble_eq_true rfl, Nat.le_of_ble_eq_true rfl⟩) (mPreV hK hM 0 rfl rfl) rfl rfl hl.1 rfl (lv_room (Nat.le_of_ble_eq_true rfl)) dX4_bestGap_50 ⟨Nat.le_of_ble_eq_true rfl, Nat.le_of_ble_eq_true rfl⟩) hS hA (fun H locs hM hS => ?_)
          have h := Option.some.inj h
          exact W.iret (v := r50.1) hx hb hr (fun t ht hW => ⟨⟨r50.1, (), rfl, p_fst h, w_end ht hM (p_snd h)⟩, hS.F ht⟩) hS.2.2 dX4_bestGap_53
  subst hargs
  have hl := lv_entry ([.ref (q 0), .int p1]) (n := 3) (Nat.le_of_ble_eq_true rfl)
  rw [lg_entry_eq]
  generalize (lg_sl ([.ref (q 0), .int p1]) ++ List.replicate (3 - (lg_sl ([.ref (q 0), .int p1])).length) Slot.unset).toArray = ls at hl ⊢
  have hl : lv_has ls 3 [(0, .ref (q 0)), (1, .int p1)] := hl
  have h := hs
  unfold sX4_bestGap at h
  have hM0 := hM
  refine lv_iload_n hx hb dX4_bestGap_0 rfl (lv_at hl 1 rfl) ?_
  obtain ⟨r1, e1, h⟩ := bind_s h
  refine k_cI (va_runS (As := [.int p1]) (rest := []) ⟨hx, hb, hml, hown, hts⟩ (kX4_isRail l D cI cR q G K p1 r1 e1) (va_cwS 1 hts gX4_bestGap_X4_isRail rfl rfl rfl (by decide +kernel) ⟨Nat.le_of_ble_eq_true rfl, Nat.le_of_ble_eq_true rfl⟩) (mPreS hK hM) rfl rfl hl.1 rfl (lv_room (Nat.le_of_ble_eq_true rfl)) dX4_bestGap_1 ⟨Nat.le_of_ble_eq_true rfl, Nat.le_of_ble_eq_true rfl⟩) hS hM (fun H locs hM hS => ?_)
  refine lv_if_ne (tgt := 13) hx hb dX4_bestGap_4 (by decide) (fun c4 => ?_) (fun c4 => ?_)
  · replace h := ite_f h c4
    refine lv_aload_n hx hb dX4_bestGap_13 rfl (lv_at hl 0 rfl) ?_
    refine lv_iload_n hx hb dX4_bestGap_14 rfl (lv_at hl 1 rfl) ?_
    obtain ⟨r15, e15, h⟩ := bind_s h
    refine k_cI (va_runV (As := [.int p1]) (rest := []) ⟨hx, hb, hml, hown, hts⟩ (kX4_due l D cI cR q G K p1 r15 e15) (cwV 1 hts gX4_bestGap_X4_due rfl rfl rfl (by decide +kernel) ⟨Nat.le_of_ble_eq_true rfl, Nat.le_of_ble_eq_true rfl⟩) (mPreV hK hM 0 rfl rfl) rfl rfl hl.1 rfl (lv_room (Nat.le_of_ble_eq_true rfl)) dX4_bestGap_15 ⟨Nat.le_of_ble_eq_true rfl, Nat.le_of_ble_eq_true rfl⟩) hS hM (fun H locs hM hS => ?_)
    refine lv_iconst (v := -1) hx hb dX4_bestGap_18 (by decide) ?_
    refine lv_icmp_ne (tgt := 28) hx hb dX4_bestGap_19 (by decide) (fun c19 => ?_) (fun c19 => ?_)
    · replace h := ite_f h c19
      refine lv_sipush (v := 900) hx hb dX4_bestGap_28 (by decide) ?_
      refine lv_istore_n (lv' := [(2, .int (900 : Int32)), (0, .ref (q 0)), (1, .int p1)]) hx hb dX4_bestGap_31 rfl hl (by decide) rfl (fun ls hl => ?_)
      exact L32 K G (900 : Int32) _ _ _ h hM hS (lv_sub hl [1, 2, 0] rfl)
    · replace h := ite_t h c19
      refine lv_aload_n hx hb dX4_bestGap_22 rfl (lv_at hl 0 rfl) ?_
      refine lv_iconst (v := -1) hx hb dX4_bestGap_23 (by decide) ?_
      obtain ⟨r24, e24, h⟩ := bind_s h
      refine k_cIW (va_runV (As := [.int (-1 : Int32)]) (rest := []) ⟨hx, hb, hml, hown, hts⟩ (kX4_fine l D cI cR q G K (-1 : Int32) hJ r24 e24) (cwV 1 hts gX4_bestGap_X4_fine rfl rfl rfl (by decide +kernel) ⟨Nat.le_of_ble_eq_true rfl, Nat.le_of_ble_eq_true rfl⟩) (mPreV hK hM 0 rfl rfl) rfl rfl hl.1 rfl (lv_room (Nat.le_of_ble_eq_true rfl)) dX4_bestGap_24 ⟨Nat.le_of_ble_eq_true rfl, Nat.le_of_ble_eq_true rfl⟩) hS hA (fun H locs hM hS => ?_)
      have h := Option.some.inj h
      exact W.iret (v := r24.1) hx hb hr (fun t ht hW => ⟨⟨r24.1, (), rfl, p_fst h, w_end ht hM (p_snd h)⟩, hS.F ht⟩) hS.2.2 dX4_bestGap_27
  · replace h := ite_t h c4
    refine lv_aload_n hx hb dX4_bestGap_7 rfl (lv_at hl 0 rfl) ?_
    refine lv_iconst (v := 1) hx hb dX4_bestGap_8 (by decide) ?_
    obtain ⟨r9, e9, h⟩ := bind_s h
    refine k_cIW (va_runV (As := [.int (1 : Int32)]) (rest := []) ⟨hx, hb, hml, hown, hts⟩ (kX4_throwing l D cI cR q G K (1 : Int32) hJ r9 e9) (cwV 1 hts gX4_bestGap_X4_throwing rfl rfl rfl (by decide +kernel) ⟨Nat.le_of_ble_eq_true rfl, Nat.le_of_ble_eq_true rfl⟩) (mPreV hK hM 0 rfl rfl) rfl rfl hl.1 rfl (lv_room (Nat.le_of_ble_eq_true rfl)) dX4_bestGap_9 ⟨Nat.le_of_ble_eq_true rfl, Nat.le_of_ble_eq_true rfl⟩) hS hA (fun H locs hM hS => ?_)
    have h := Option.some.inj h
    exact W.iret (v := r9.1) hx hb hr (fun t ht hW => ⟨⟨r9.1, (), rfl, p_fst h, w_end ht hM (p_snd h)⟩, hS.F ht⟩) hS.2.2 dX4_bestGap_12
set_option maxHeartbeats 4000000 in
set_option maxRecDepth 100000 in
theorem kX4_supply (l : Launch) (D : va_G) (cI cR : ClassId) (q : Nat → Nat) (G : Nat → Nat → Int32) (K : Nat) (p1 : Int32) (hJ : MJ tmM q) (r : (Int32 × (Nat → Nat → Int32))) (hs : sX4_supply K G p1 = some r) : Met l yX4_supply wsX4_supply ({ frames := 4, cells := 0, slots := 0, locals := 91 } : Room) (mPre [.ref (q 0), .int p1] D cI cR q tmM G) (mIW D cI cR q tmM r) 0 0 (MA tmM q) := by
  refine Met.ofW (cc := cX4_supply) (maxL := 3) (ret := (some .int)) (by decide) rfl ?_
  intro p e s m args below meth c s₁ B hml hv
  obtain ⟨hargs, hM, hK⟩ := hv
  have hx := B.exec
  have hb := B.bytes
  have hr := B.returns
  have hts := atoms_spec (ws := wsX4_supply) B.pre
  have hown : s.vm.findClass RX4 = some m.cls := findClass_of_methodNamed B.named
  have hlocks := B.notSynchronized
  have hA : ∀ a, MA tmM q a → MA tmM q a := fun _ h => h
  have hS : va_S (MA tmM q) s.heap s.heap [] := va_S.rf
  have L20 : ∀ (n : Nat), ∀ (G1 : Nat → Nat → Int32) (x2 : Int32) (H : Heap) (locs : List Loc) (ls : Array Slot), sX4_supply_L20 K p1 n G1 x2 = some r → MW D cI cR q tmM G1 H → va_S (MA tmM q) s.heap H locs → lv_has ls 3 [(0, .ref (q 0)), (1, .int p1), (2, .int x2)] → W p l e (headSpec wsX4_supply ({ frames := 4, cells := 0, slots := 0, locals := 91 } : Room)).room s m args below meth c H locs 0 0 (MQ below (mIW D cI cR q tmM r) args s 0 0 (MA tmM q)) (F0 m 20 ls []) := by
    clear hM hS
    intro n
    induction n with
    | zero => exact fun _ _ _ _ _ h => absurd h (by simp [sX4_supply_L20])
    | succ n ih =>
      intro G1 x2 H locs ls h hM hS hl
      rw [sX4_supply_L20] at h
      refine lv_iload_n hx hb dX4_supply_20 rfl (lv_at hl 2 rfl) ?_
      refine lv_bipush (v := 40) hx hb dX4_supply_21 (by decide) ?_
      refine lv_icmp_ge (tgt := 47) hx hb dX4_supply_23 (by decide) (fun c23 => ?_) (fun c23 => ?_)
      · replace h := ite_t h c23
        refine lv_aload_n hx hb dX4_supply_47 rfl (lv_at hl 0 rfl) ?_
        obtain ⟨r48, e48, h⟩ := bind_s h
        refine k_cVW (va_runV (As := []) (rest := []) ⟨hx, hb, hml, hown, hts⟩ (kX4_takesBack l D cI cR q G1 K hJ r48 e48) (cwV 0 hts gX4_supply_X4_takesBack rfl rfl rfl (by decide +kernel) ⟨Nat.le_of_ble_eq_true rfl, Nat.le_of_ble_eq_true rfl⟩) (mPreV hK hM 0 rfl rfl) rfl rfl hl.1 rfl (lv_room (Nat.le_of_ble_eq_true rfl)) dX4_supply_48 ⟨Nat.le_of_ble_eq_true rfl, Nat.le_of_ble_eq_true rfl⟩) hS hA (fun H locs hM hS => ?_)
        refine lv_aload_n hx hb dX4_supply_51 rfl (lv_at hl 0 rfl) ?_
        refine lv_iload_n hx hb dX4_supply_52 rfl (lv_at hl 2 rfl) ?_
        obtain ⟨r53, e53, h⟩ := bind_s h
        refine k_cIW (va_runV (As := [.int x2]) (rest := []) ⟨hx, hb, hml, hown, hts⟩ (kX4_fine l D cI cR q r48 K x2 hJ r53 e53) (cwV 1 hts gX4_supply_X4_fine rfl rfl rfl (by decide +kernel) ⟨Nat.le_of_ble_eq_true rfl, Nat.le_of_ble_eq_true rfl⟩) (mPreV hK hM 0 rfl rfl) rfl rfl hl.1 rfl (lv_room (Nat.le_of_ble_eq_true rfl)) dX4_supply_53 ⟨Nat.le_of_ble_eq_true rfl, Nat.le_of_ble_eq_true rfl⟩) hS hA (fun H locs hM hS => ?_)
        have h := Option.some.inj h
        exact W.iret (v := r53.1) hx hb hr (fun t ht hW => ⟨⟨r53.1, (), rfl, p_fst h, w_end ht hM (p_snd h)⟩, hS.F ht⟩) hS.2.2 dX4_supply_56
      · replace h := ite_f h c23
        refine lv_aload_n hx hb dX4_supply_26 rfl (lv_at hl 0 rfl) ?_
        refine lv_iload_n hx hb dX4_supply_27 rfl (lv_at hl 1 rfl) ?_
        refine lv_iconst (v := 0) hx hb dX4_supply_28 (by decide) ?_
        obtain ⟨r29, e29, h⟩ := bind_s h
        refine k_cIW (va_runV (As := [.int p1, .int (0 : Int32)]) (rest := []) ⟨hx, hb, hml, hown, hts⟩ (kX4_feeds l D cI cR q G1 K p1 (0 : Int32) hJ r29 e29) (cwV 2 hts gX4_supply_X4_feeds rfl rfl rfl (by decide +kernel) ⟨Nat.le_of_ble_eq_true rfl, Nat.le_of_ble_eq_true rfl⟩) (mPreV hK hM 0 rfl rfl) rfl rfl hl.1 rfl (lv_room (Nat.le_of_ble_eq_true rfl)) dX4_supply_29 ⟨Nat.le_of_ble_eq_true rfl, Nat.le_of_ble_eq_true rfl⟩) hS hA (fun H locs hM hS => ?_)
        refine lv_aload_n hx hb dX4_supply_32 rfl (lv_at hl 0 rfl) ?_
        refine lv_iload_n hx hb dX4_supply_33 rfl (lv_at hl 1 rfl) ?_
        refine lv_iconst (v := 2) hx hb dX4_supply_34 (by decide) ?_
        obtain ⟨r35, e35, h⟩ := bind_s h
        refine k_cI (va_runV (As := [.int p1, .int (2 : Int32)]) (rest := [.int r29.1]) ⟨hx, hb, hml, hown, hts⟩ (kX4_ofKind l D cI cR q r29.2 K p1 (2 : Int32) r35 e35) (cwV 2 hts gX4_supply_X4_ofKind rfl rfl rfl (by decide +kernel) ⟨Nat.le_of_ble_eq_true rfl, Nat.le_of_ble_eq_true rfl⟩) (mPreV hK hM 0 rfl rfl) rfl rfl hl.1 rfl (lv_room (Nat.le_of_ble_eq_true rfl)) dX4_supply_35 ⟨Nat.le_of_ble_eq_true rfl, Nat.le_of_ble_eq_true rfl⟩) hS hM (fun H locs hM hS => ?_)
        refine lv_icmp_ne (tgt := 47) hx hb dX4_supply_38 (by decide) (fun c38 => ?_) (fun c38 => ?_)
        · replace h := ite_f h c38
          refine lv_aload_n hx hb dX4_supply_47 rfl (lv_at hl 0 rfl) ?_
          obtain ⟨r48, e48, h⟩ := bind_s h
          refine k_cVW (va_runV (As := []) (rest := []) ⟨hx, hb, hml, hown, hts⟩ (kX4_takesBack l D cI cR q r29.2 K hJ r48 e48) (cwV 0 hts gX4_supply_X4_takesBack rfl rfl rfl (by decide +kernel) ⟨Nat.le_of_ble_eq_true rfl, Nat.le_of_ble_eq_true rfl⟩) (mPreV hK hM 0 rfl rfl) rfl rfl hl.1 rfl (lv_room (Nat.le_of_ble_eq_true rfl)) dX4_supply_48 ⟨Nat.le_of_ble_eq_true rfl, Nat.le_of_ble_eq_true rfl⟩) hS hA (fun H locs hM hS => ?_)
          refine lv_aload_n hx hb dX4_supply_51 rfl (lv_at hl 0 rfl) ?_
          refine lv_iload_n hx hb dX4_supply_52 rfl (lv_at hl 2 rfl) ?_
          obtain ⟨r53, e53, h⟩ := bind_s h
          refine k_cIW (va_runV (As := [.int x2]) (rest := []) ⟨hx, hb, hml, hown, hts⟩ (kX4_fine l D cI cR q r48 K x2 hJ r53 e53) (cwV 1 hts gX4_supply_X4_fine rfl rfl rfl (by decide +kernel) ⟨Nat.le_of_ble_eq_true rfl, Nat.le_of_ble_eq_true rfl⟩) (mPreV hK hM 0 rfl rfl) rfl rfl hl.1 rfl (lv_room (Nat.le_of_ble_eq_true rfl)) dX4_supply_53 ⟨Nat.le_of_ble_eq_true rfl, Nat.le_of_ble_eq_true rfl⟩) hS hA (fun H locs hM hS => ?_)
          have h := Option.some.inj h
          exact W.iret (v := r53.1) hx hb hr (fun t ht hW => ⟨⟨r53.1, (), rfl, p_fst h, w_end ht hM (p_snd h)⟩, hS.F ht⟩) hS.2.2 dX4_supply_56
        · replace h := ite_t h c38
          refine lv_iinc (v := (x2 + 1)) (lv' := [(2, .int (x2 + 1)), (0, .ref (q 0)), (1, .int p1)]) hx hb dX4_supply_41 hl (k := 2) rfl (congrArg (fun z : Int32 => x2 + z) (show Int32.ofInt (1) = 1 by decide)) (by decide) rfl (fun ls hl => ?_)
          refine lv_goto (tgt := 20) hx hb dX4_supply_44 (by decide) ?_
          exact ih r29.2 (x2 + 1) _ _ _ h hM hS (lv_sub hl [1, 2, 0] rfl)
  subst hargs
  have hl := lv_entry ([.ref (q 0), .int p1]) (n := 3) (Nat.le_of_ble_eq_true rfl)
  rw [lg_entry_eq]
  generalize (lg_sl ([.ref (q 0), .int p1]) ++ List.replicate (3 - (lg_sl ([.ref (q 0), .int p1])).length) Slot.unset).toArray = ls at hl ⊢
  have hl : lv_has ls 3 [(0, .ref (q 0)), (1, .int p1)] := hl
  have h := hs
  unfold sX4_supply at h
  have hM0 := hM
  refine lv_aload_n hx hb dX4_supply_0 rfl (lv_at hl 0 rfl) ?_
  refine lv_iload_n hx hb dX4_supply_1 rfl (lv_at hl 1 rfl) ?_
  obtain ⟨r2, e2, h⟩ := bind_s h
  refine k_cI (va_runV (As := [.int p1]) (rest := []) ⟨hx, hb, hml, hown, hts⟩ (kX4_isKind l D cI cR q G K p1 r2 e2) (cwV 1 hts gX4_supply_X4_isKind rfl rfl rfl (by decide +kernel) ⟨Nat.le_of_ble_eq_true rfl, Nat.le_of_ble_eq_true rfl⟩) (mPreV hK hM 0 rfl rfl) rfl rfl hl.1 rfl (lv_room (Nat.le_of_ble_eq_true rfl)) dX4_supply_2 ⟨Nat.le_of_ble_eq_true rfl, Nat.le_of_ble_eq_true rfl⟩) hS hM (fun H locs hM hS => ?_)
  refine lv_if_ne (tgt := 14) hx hb dX4_supply_5 (by decide) (fun c5 => ?_) (fun c5 => ?_)
  · replace h := ite_f h c5
    refine lv_aload_n hx hb dX4_supply_14 rfl (lv_at hl 0 rfl) ?_
    obtain ⟨r15, e15, h⟩ := bind_s h
    refine k_cVW (va_runV (As := []) (rest := []) ⟨hx, hb, hml, hown, hts⟩ (kX4_laysAside l D cI cR q G K hJ r15 e15) (cwV 0 hts gX4_supply_X4_laysAside rfl rfl rfl (by decide +kernel) ⟨Nat.le_of_ble_eq_true rfl, Nat.le_of_ble_eq_true rfl⟩) (mPreV hK hM 0 rfl rfl) rfl rfl hl.1 rfl (lv_room (Nat.le_of_ble_eq_true rfl)) dX4_supply_15 ⟨Nat.le_of_ble_eq_true rfl, Nat.le_of_ble_eq_true rfl⟩) hS hA (fun H locs hM hS => ?_)
    refine lv_iconst (v := 0) hx hb dX4_supply_18 (by decide) ?_
    refine lv_istore_n (lv' := [(2, .int (0 : Int32)), (0, .ref (q 0)), (1, .int p1)]) hx hb dX4_supply_19 rfl hl (by decide) rfl (fun ls hl => ?_)
    exact L20 K r15 (0 : Int32) _ _ _ h hM hS (lv_sub hl [1, 2, 0] rfl)
  · replace h := ite_t h c5
    refine lv_aload_n hx hb dX4_supply_8 rfl (lv_at hl 0 rfl) ?_
    refine lv_iconst (v := 1) hx hb dX4_supply_9 (by decide) ?_
    obtain ⟨r10, e10, h⟩ := bind_s h
    refine k_cIW (va_runV (As := [.int (1 : Int32)]) (rest := []) ⟨hx, hb, hml, hown, hts⟩ (kX4_throwing l D cI cR q G K (1 : Int32) hJ r10 e10) (cwV 1 hts gX4_supply_X4_throwing rfl rfl rfl (by decide +kernel) ⟨Nat.le_of_ble_eq_true rfl, Nat.le_of_ble_eq_true rfl⟩) (mPreV hK hM 0 rfl rfl) rfl rfl hl.1 rfl (lv_room (Nat.le_of_ble_eq_true rfl)) dX4_supply_10 ⟨Nat.le_of_ble_eq_true rfl, Nat.le_of_ble_eq_true rfl⟩) hS hA (fun H locs hM hS => ?_)
    have h := Option.some.inj h
    exact W.iret (v := r10.1) hx hb hr (fun t ht hW => ⟨⟨r10.1, (), rfl, p_fst h, w_end ht hM (p_snd h)⟩, hS.F ht⟩) hS.2.2 dX4_supply_13
set_option maxHeartbeats 4000000 in
set_option maxRecDepth 100000 in
theorem kX4_worstKind (l : Launch) (D : va_G) (cI cR : ClassId) (q : Nat → Nat) (G : Nat → Nat → Int32) (K : Nat) (hJ : MJ tmM q) (r : (Int32 × (Nat → Nat → Int32))) (hs : sX4_worstKind K G  = some r) : Met l yX4_worstKind wsX4_worstKind ({ frames := 2, cells := 0, slots := 0, locals := 44 } : Room) (mPre [.ref (q 0)] D cI cR q tmM G) (mIW D cI cR q tmM r) 0 0 (MA tmM q) := by
  refine Met.ofW (cc := cX4_worstKind) (maxL := 5) (ret := (some .int)) (by decide) rfl ?_
  intro p e s m args below meth c s₁ B hml hv
  obtain ⟨hargs, hM, hK⟩ := hv
  have hx := B.exec
  have hb := B.bytes
  have hr := B.returns
  have hts := atoms_spec (ws := wsX4_worstKind) B.pre
  have hown : s.vm.findClass RX4 = some m.cls := findClass_of_methodNamed B.named
  have hlocks := B.notSynchronized
  have hA : ∀ a, MA tmM q a → MA tmM q a := fun _ h => h
  have hS : va_S (MA tmM q) s.heap s.heap [] := va_S.rf
  have w0 := hts (Cond.fieldLink RX4 7 "CoinRailsModel" "all" "[I") (List.mem_of_getElem? (i := 1) (by decide +kernel))
  have iX4 : ∀ w ∈ wsX40, w ∈ wsX4_worstKind := fun _ h => List.mem_cons_of_mem _ (List.mem_append_right _ (h))
  have L6 : ∀ (n : Nat), ∀ (G : Nat → Nat → Int32) (x1 : Int32) (x2 : Int32) (x3 : Int32) (H : Heap) (locs : List Loc) (ls : Array Slot), sX4_worstKind_L6 K G n x1 x2 x3 = some r → MW D cI cR q tmM G H → va_S (MA tmM q) s.heap H locs → lv_has ls 5 [(0, .ref (q 0)), (1, .int x1), (2, .int x2), (3, .int x3)] → W p l e (headSpec wsX4_worstKind ({ frames := 2, cells := 0, slots := 0, locals := 44 } : Room)).room s m args below meth c H locs 0 0 (MQ below (mIW D cI cR q tmM r) args s 0 0 (MA tmM q)) (F0 m 6 ls []) := by
    clear hM hS
    intro n
    induction n with
    | zero => exact fun _ _ _ _ _ _ _ h => absurd h (by simp [sX4_worstKind_L6])
    | succ n ih =>
      intro G x1 x2 x3 H locs ls h hM hS hl
      rw [sX4_worstKind_L6] at h
      refine lv_iload_n hx hb dX4_worstKind_6 rfl (lv_at hl 3 rfl) ?_
      refine lv_aload_n hx hb dX4_worstKind_7 rfl (lv_at hl 0 rfl) ?_
      refine k_getR (C := RX4) (T := TX4) (N := 10) hx hb hts iX4 hown hK hM 0 rfl rfl 0 (by decide) rfl w0 (fun _ h9 => h9) dX4_worstKind_8 ?_
      refine lv_iconst (v := 0) hx hb dX4_worstKind_11 (by decide) ?_
      obtain ⟨g12, h⟩ := grd_s h
      refine k_iald hx hb hK hM 1 rfl g12 dX4_worstKind_12 ?_
      refine lv_icmp_ge (tgt := 70) hx hb dX4_worstKind_13 (by decide) (fun c13 => ?_) (fun c13 => ?_)
      · replace h := ite_t h c13
        refine lv_aload_n hx hb dX4_worstKind_70 rfl (lv_at hl 0 rfl) ?_
        refine lv_iload_n hx hb dX4_worstKind_71 rfl (lv_at hl 1 rfl) ?_
        obtain ⟨r72, e72, h⟩ := bind_s h
        refine k_cIW (va_runV (As := [.int x1]) (rest := []) ⟨hx, hb, hml, hown, hts⟩ (kX4_fine l D cI cR q G K x1 hJ r72 e72) (cwV 1 hts gX4_worstKind_X4_fine rfl rfl rfl (by decide +kernel) ⟨Nat.le_of_ble_eq_true rfl, Nat.le_of_ble_eq_true rfl⟩) (mPreV hK hM 0 rfl rfl) rfl rfl hl.1 rfl (lv_room (Nat.le_of_ble_eq_true rfl)) dX4_worstKind_72 ⟨Nat.le_of_ble_eq_true rfl, Nat.le_of_ble_eq_true rfl⟩) hS hA (fun H locs hM hS => ?_)
        have h := Option.some.inj h
        exact W.iret (v := r72.1) hx hb hr (fun t ht hW => ⟨⟨r72.1, (), rfl, p_fst h, w_end ht hM (p_snd h)⟩, hS.F ht⟩) hS.2.2 dX4_worstKind_75
      · replace h := ite_f h c13
        refine lv_aload_n hx hb dX4_worstKind_16 rfl (lv_at hl 0 rfl) ?_
        refine lv_iload_n hx hb dX4_worstKind_17 rfl (lv_at hl 3 rfl) ?_
        obtain ⟨r18, e18, h⟩ := bind_s h
        refine k_cI (va_runV (As := [.int x3]) (rest := []) ⟨hx, hb, hml, hown, hts⟩ (kX4_inBags l D cI cR q G K x3 r18 e18) (cwV 1 hts gX4_worstKind_X4_inBags rfl rfl rfl (by decide +kernel) ⟨Nat.le_of_ble_eq_true rfl, Nat.le_of_ble_eq_true rfl⟩) (mPreV hK hM 0 rfl rfl) rfl rfl hl.1 rfl (lv_room (Nat.le_of_ble_eq_true rfl)) dX4_worstKind_18 ⟨Nat.le_of_ble_eq_true rfl, Nat.le_of_ble_eq_true rfl⟩) hS hM (fun H locs hM hS => ?_)
        refine lv_aload_n hx hb dX4_worstKind_21 rfl (lv_at hl 0 rfl) ?_
        refine k_getR (C := RX4) (T := TX4) (N := 10) hx hb hts iX4 hown hK hM 0 rfl rfl 0 (by decide) rfl w0 (fun _ h9 => h9) dX4_worstKind_22 ?_
        refine lv_aload_n hx hb dX4_worstKind_25 rfl (lv_at hl 0 rfl) ?_
        refine lv_iload_n hx hb dX4_worstKind_26 rfl (lv_at hl 3 rfl) ?_
        refine lv_iconst (v := 2) hx hb dX4_worstKind_27 (by decide) ?_
        obtain ⟨r28, e28, h⟩ := bind_s h
        refine k_cI (va_runV (As := [.int x3, .int (2 : Int32)]) (rest := [.ref (q 1), .int r18]) ⟨hx, hb, hml, hown, hts⟩ (kX4_ofKind l D cI cR q G K x3 (2 : Int32) r28 e28) (cwV 2 hts gX4_worstKind_X4_ofKind rfl rfl rfl (by decide +kernel) ⟨Nat.le_of_ble_eq_true rfl, Nat.le_of_ble_eq_true rfl⟩) (mPreV hK hM 0 rfl rfl) rfl rfl hl.1 rfl (lv_room (Nat.le_of_ble_eq_true rfl)) dX4_worstKind_28 ⟨Nat.le_of_ble_eq_true rfl, Nat.le_of_ble_eq_true rfl⟩) hS hM (fun H locs hM hS => ?_)
        refine lv_iload_n hx hb dX4_worstKind_31 rfl (lv_at hl 3 rfl) ?_
        obtain ⟨r32, e32, h⟩ := bind_s h
        refine k_cI (va_runS (As := [.int r28, .int x3]) (rest := [.ref (q 1), .int r18]) ⟨hx, hb, hml, hown, hts⟩ (kX4_countAt l D cI cR q G K r28 x3 r32 e32) (va_cwS 2 hts gX4_worstKind_X4_countAt rfl rfl rfl (by decide +kernel) ⟨Nat.le_of_ble_eq_true rfl, Nat.le_of_ble_eq_true rfl⟩) (mPreS hK hM) rfl rfl hl.1 rfl (lv_room (Nat.le_of_ble_eq_true rfl)) dX4_worstKind_32 ⟨Nat.le_of_ble_eq_true rfl, Nat.le_of_ble_eq_true rfl⟩) hS hM (fun H locs hM hS => ?_)
        obtain ⟨g35, h⟩ := grd_s h
        refine k_iald hx hb hK hM 1 rfl g35 dX4_worstKind_35 ?_
        refine lv_isub hx hb dX4_worstKind_36 ?_
        refine lv_istore (lv' := [(4, .int (r18 - (G 1 r32.toNatClampNeg))), (0, .ref (q 0)), (1, .int x1), (2, .int x2), (3, .int x3)]) hx hb dX4_worstKind_37 hl (by decide) rfl (fun ls hl => ?_)
        refine lv_iload hx hb dX4_worstKind_39 (lv_at hl 0 rfl) ?_
        refine lv_iload_n hx hb dX4_worstKind_41 rfl (lv_at hl 3 rfl) ?_
        refine lv_icmp_le (tgt := 49) hx hb dX4_worstKind_42 (by decide) (fun c42 => ?_) (fun c42 => ?_)
        · replace h := ite_t h c42
          refine lv_iload_n hx hb dX4_worstKind_49 rfl (lv_at hl 2 rfl) ?_
          refine lv_istore_n (lv' := [(1, .int x1), (4, .int (r18 - (G 1 r32.toNatClampNeg))), (0, .ref (q 0)), (2, .int x2), (3, .int x3)]) hx hb dX4_worstKind_50 rfl hl (by decide) rfl (fun ls hl => ?_)
          refine lv_iload hx hb dX4_worstKind_51 (lv_at hl 1 rfl) ?_
          refine lv_iload_n hx hb dX4_worstKind_53 rfl (lv_at hl 3 rfl) ?_
          refine lv_icmp_le (tgt := 62) hx hb dX4_worstKind_54 (by decide) (fun c54 => ?_) (fun c54 => ?_)
          · replace h := ite_t h c54
            refine lv_iload_n hx hb dX4_worstKind_62 rfl (lv_at hl 3 rfl) ?_
            refine lv_istore_n (lv' := [(2, .int x2), (1, .int x1), (4, .int (r18 - (G 1 r32.toNatClampNeg))), (0, .ref (q 0)), (3, .int x3)]) hx hb dX4_worstKind_63 rfl hl (by decide) rfl (fun ls hl => ?_)
            refine lv_iinc (v := (x3 + 1)) (lv' := [(3, .int (x3 + 1)), (2, .int x2), (1, .int x1), (4, .int (r18 - (G 1 r32.toNatClampNeg))), (0, .ref (q 0))]) hx hb dX4_worstKind_64 hl (k := 4) rfl (congrArg (fun z : Int32 => x3 + z) (show Int32.ofInt (1) = 1 by decide)) (by decide) rfl (fun ls hl => ?_)
            refine lv_goto (tgt := 6) hx hb dX4_worstKind_67 (by decide) ?_
            exact ih G x1 x2 (x3 + 1) _ _ _ h hM hS (lv_sub hl [4, 2, 1, 0] rfl)
          · replace h := ite_f h c54
            refine lv_iload hx hb dX4_worstKind_57 (lv_at hl 1 rfl) ?_
            refine lv_goto (tgt := 63) hx hb dX4_worstKind_59 (by decide) ?_
            refine lv_istore_n (lv' := [(2, .int (r18 - (G 1 r32.toNatClampNeg))), (1, .int x1), (4, .int (r18 - (G 1 r32.toNatClampNeg))), (0, .ref (q 0)), (3, .int x3)]) hx hb dX4_worstKind_63 rfl hl (by decide) rfl (fun ls hl => ?_)
            refine lv_iinc (v := (x3 + 1)) (lv' := [(3, .int (x3 + 1)), (2, .int (r18 - (G 1 r32.toNatClampNeg))), (1, .int x1), (4, .int (r18 - (G 1 r32.toNatClampNeg))), (0, .ref (q 0))]) hx hb dX4_worstKind_64 hl (k := 4) rfl (congrArg (fun z : Int32 => x3 + z) (show Int32.ofInt (1) = 1 by decide)) (by decide) rfl (fun ls hl => ?_)
            refine lv_goto (tgt := 6) hx hb dX4_worstKind_67 (by decide) ?_
            exact ih G x1 (r18 - (G 1 r32.toNatClampNeg)) (x3 + 1) _ _ _ h hM hS (lv_sub hl [4, 2, 1, 0] rfl)
        · replace h := ite_f h c42
          refine lv_iload_n hx hb dX4_worstKind_45 rfl (lv_at hl 4 rfl) ?_
          refine lv_goto (tgt := 50) hx hb dX4_worstKind_46 (by decide) ?_
          refine lv_istore_n (lv' := [(1, .int x3), (4, .int (r18 - (G 1 r32.toNatClampNeg))), (0, .ref (q 0)), (2, .int x2), (3, .int x3)]) hx hb dX4_worstKind_50 rfl hl (by decide) rfl (fun ls hl => ?_)
          refine lv_iload hx hb dX4_worstKind_51 (lv_at hl 1 rfl) ?_
          refine lv_iload_n hx hb dX4_worstKind_53 rfl (lv_at hl 3 rfl) ?_
          refine lv_icmp_le (tgt := 62) hx hb dX4_worstKind_54 (by decide) (fun c54 => ?_) (fun c54 => ?_)
          · replace h := ite_t h c54
            refine lv_iload_n hx hb dX4_worstKind_62 rfl (lv_at hl 3 rfl) ?_
            refine lv_istore_n (lv' := [(2, .int x2), (1, .int x3), (4, .int (r18 - (G 1 r32.toNatClampNeg))), (0, .ref (q 0)), (3, .int x3)]) hx hb dX4_worstKind_63 rfl hl (by decide) rfl (fun ls hl => ?_)
            refine lv_iinc (v := (x3 + 1)) (lv' := [(3, .int (x3 + 1)), (2, .int x2), (1, .int x3), (4, .int (r18 - (G 1 r32.toNatClampNeg))), (0, .ref (q 0))]) hx hb dX4_worstKind_64 hl (k := 4) rfl (congrArg (fun z : Int32 => x3 + z) (show Int32.ofInt (1) = 1 by decide)) (by decide) rfl (fun ls hl => ?_)
            refine lv_goto (tgt := 6) hx hb dX4_worstKind_67 (by decide) ?_
            exact ih G x3 x2 (x3 + 1) _ _ _ h hM hS (lv_sub hl [4, 2, 1, 0] rfl)
          · replace h := ite_f h c54
            refine lv_iload hx hb dX4_worstKind_57 (lv_at hl 1 rfl) ?_
            refine lv_goto (tgt := 63) hx hb dX4_worstKind_59 (by decide) ?_
            refine lv_istore_n (lv' := [(2, .int (r18 - (G 1 r32.toNatClampNeg))), (1, .int x3), (4, .int (r18 - (G 1 r32.toNatClampNeg))), (0, .ref (q 0)), (3, .int x3)]) hx hb dX4_worstKind_63 rfl hl (by decide) rfl (fun ls hl => ?_)
            refine lv_iinc (v := (x3 + 1)) (lv' := [(3, .int (x3 + 1)), (2, .int (r18 - (G 1 r32.toNatClampNeg))), (1, .int x3), (4, .int (r18 - (G 1 r32.toNatClampNeg))), (0, .ref (q 0))]) hx hb dX4_worstKind_64 hl (k := 4) rfl (congrArg (fun z : Int32 => x3 + z) (show Int32.ofInt (1) = 1 by decide)) (by decide) rfl (fun ls hl => ?_)
            refine lv_goto (tgt := 6) hx hb dX4_worstKind_67 (by decide) ?_
            exact ih G x3 (r18 - (G 1 r32.toNatClampNeg)) (x3 + 1) _ _ _ h hM hS (lv_sub hl [4, 2, 1, 0] rfl)
  subst hargs
  have hl := lv_entry ([.ref (q 0)]) (n := 5) (Nat.le_of_ble_eq_true rfl)
  rw [lg_entry_eq]
  generalize (lg_sl ([.ref (q 0)]) ++ List.replicate (5 - (lg_sl ([.ref (q 0)])).length) Slot.unset).toArray = ls at hl ⊢
  have hl : lv_has ls 5 [(0, .ref (q 0))] := hl
  have h := hs
  unfold sX4_worstKind at h
  have hM0 := hM
  refine lv_iconst (v := -1) hx hb dX4_worstKind_0 (by decide) ?_
  refine lv_istore_n (lv' := [(1, .int (-1 : Int32)), (0, .ref (q 0))]) hx hb dX4_worstKind_1 rfl hl (by decide) rfl (fun ls hl => ?_)
  refine lv_iconst (v := 0) hx hb dX4_worstKind_2 (by decide) ?_
  refine lv_istore_n (lv' := [(2, .int (0 : Int32)), (1, .int (-1 : Int32)), (0, .ref (q 0))]) hx hb dX4_worstKind_3 rfl hl (by decide) rfl (fun ls hl => ?_)
  refine lv_iconst (v := 0) hx hb dX4_worstKind_4 (by decide) ?_
  refine lv_istore_n (lv' := [(3, .int (0 : Int32)), (2, .int (0 : Int32)), (1, .int (-1 : Int32)), (0, .ref (q 0))]) hx hb dX4_worstKind_5 rfl hl (by decide) rfl (fun ls hl => ?_)
  exact L6 K G (-1 : Int32) (0 : Int32) (0 : Int32) _ _ _ h hM hS (lv_sub hl [3, 2, 1, 0] rfl)
set_option maxHeartbeats 4000000 in
set_option maxRecDepth 100000 in
theorem kX4_right (l : Launch) (D : va_G) (cI cR : ClassId) (q : Nat → Nat) (G : Nat → Nat → Int32) (K : Nat) (hJ : MJ tmM q) (r : (UInt64 × (Nat → Nat → Int32))) (hs : sX4_right K G  = some r) : MetD lw_cs l yX4_right wsX4_right ({ frames := 6, cells := 0, slots := 0, locals := 133 } : Room) (mPre [.ref (q 0)] D cI cR q tmM G) (mDW D cI cR q tmM r) 0 0 (MA tmM q) := by
  refine MetD.ofW (cc := cX4_right) (maxL := 5) (ret := (some .double)) (by decide) rfl ?_
  intro p e s m args below meth c s₁ B hml hv hd0
  obtain ⟨hargs, hM, hK⟩ := hv
  have hx := B.exec
  have hb := B.bytes
  have hr := B.returns
  have hts := atoms_spec (ws := wsX4_right) B.pre
  have hown : s.vm.findClass RX4 = some m.cls := findClass_of_methodNamed B.named
  have hlocks := B.notSynchronized
  have hts := dr_words hts s.drawn
  have hK : va_K D vwCl (mTy cI cR) (s.setDrawn s.drawn) := hK
  have hA : ∀ a, MA tmM q a → MA tmM q a := fun _ h => h
  have hS : va_S (MA tmM q) s.heap s.heap [] := va_S.rf
  have w0 := hts (Cond.fieldLink RX4 30 "CoinRailsModel" "threw" "I") (List.mem_of_getElem? (i := 1) (by decide +kernel))
  have iX4 : ∀ w ∈ wsX40, w ∈ wsX4_right := fun _ h => List.mem_cons_of_mem _ (List.mem_append_right _ (h))
  subst hargs
  have hl := lv_entry ([.ref (q 0)]) (n := 5) (Nat.le_of_ble_eq_true rfl)
  rw [lg_entry_eq]
  generalize (lg_sl ([.ref (q 0)]) ++ List.replicate (5 - (lg_sl ([.ref (q 0)])).length) Slot.unset).toArray = ls at hl ⊢
  have hl : lv_has ls 5 [(0, .ref (q 0))] := hl
  have h := hs
  unfold sX4_right at h
  have hM0 := hM
  refine lv_aload_n hx hb dX4_right_0 rfl (lv_at hl 0 rfl) ?_
  refine lv_iconst (v := 0) hx hb dX4_right_1 (by decide) ?_
  refine k_putI (C := RX4) (T := TX4) (N := 10) (v := (0 : Int32)) hx hb hts iX4 tyX4 tyX4_ok nmX4 hown hK hM hJ hA hS 0 rfl rfl 4 (by decide) rfl w0 (fun _ h9 => h9) rfl (by decide +kernel) dX4_right_2 (fun H locs hM hS => ?_)
  obtain ⟨G4, eG4, h⟩ := olet_s h
  rw [eG4] at hM
  refine lv_aload_n hx hb dX4_right_5 rfl (lv_at hl 0 rfl) ?_
  refine lv_iconst (v := 2) hx hb dX4_right_6 (by decide) ?_
  obtain ⟨r7, e7, h⟩ := bind_s h
  refine k_cI (va_runV (As := [.int (2 : Int32)]) (rest := []) ⟨hx, hb, hml, hown, hts⟩ (kX4_sumOf l D cI cR q G4 K (2 : Int32) r7 e7) (cwV 1 hts gX4_right_X4_sumOf rfl rfl rfl (by decide +kernel) ⟨Nat.le_of_ble_eq_true rfl, Nat.le_of_ble_eq_true rfl⟩) (mPreV hK hM 0 rfl rfl) rfl rfl hl.1 rfl (lv_room (Nat.le_of_ble_eq_true rfl)) dX4_right_7 ⟨Nat.le_of_ble_eq_true rfl, Nat.le_of_ble_eq_true rfl⟩) hS hM (fun H locs hM hS => ?_)
  refine lv_aload_n hx hb dX4_right_10 rfl (lv_at hl 0 rfl) ?_
  refine lv_bipush (v := 7) hx hb dX4_right_11 (by decide) ?_
  obtain ⟨r13, e13, h⟩ := bind_s h
  refine k_cI (va_runV (As := [.int (7 : Int32)]) (rest := [.int r7]) ⟨hx, hb, hml, hown, hts⟩ (kX4_sumOf l D cI cR q G4 K (7 : Int32) r13 e13) (cwV 1 hts gX4_right_X4_sumOf rfl rfl rfl (by decide +kernel) ⟨Nat.le_of_ble_eq_true rfl, Nat.le_of_ble_eq_true rfl⟩) (mPreV hK hM 0 rfl rfl) rfl rfl hl.1 rfl (lv_room (Nat.le_of_ble_eq_true rfl)) dX4_right_13 ⟨Nat.le_of_ble_eq_true rfl, Nat.le_of_ble_eq_true rfl⟩) hS hM (fun H locs hM hS => ?_)
  refine lv_isub hx hb dX4_right_16 ?_
  refine lv_i2d hx hb dX4_right_17 ?_
  refine lv_dstore_n (lv' := [(1, .double (FP.i2d (r7 - r13))), (0, .ref (q 0))]) hx hb dX4_right_18 rfl hl (by decide) rfl (fun ls hl => ?_)
  refine lv_aload_n hx hb dX4_right_19 rfl (lv_at hl 1 rfl) ?_
  refine lv_iconst (v := 2) hx hb dX4_right_20 (by decide) ?_
  obtain ⟨r21, e21, h⟩ := bind_s h
  refine k_cI (va_runV (As := [.int (2 : Int32)]) (rest := []) ⟨hx, hb, hml, hown, hts⟩ (kX4_sumOf l D cI cR q G4 K (2 : Int32) r21 e21) (cwV 1 hts gX4_right_X4_sumOf rfl rfl rfl (by decide +kernel) ⟨Nat.le_of_ble_eq_true rfl, Nat.le_of_ble_eq_true rfl⟩) (mPreV hK hM 0 rfl rfl) rfl rfl hl.1 rfl (lv_room (Nat.le_of_ble_eq_true rfl)) dX4_right_21 ⟨Nat.le_of_ble_eq_true rfl, Nat.le_of_ble_eq_true rfl⟩) hS hM (fun H locs hM hS => ?_)
  refine lv_i2d hx hb dX4_right_24 ?_
  refine lv_dstore_n (lv' := [(3, .double (FP.i2d r21)), (1, .double (FP.i2d (r7 - r13))), (0, .ref (q 0))]) hx hb dX4_right_25 rfl hl (by decide) rfl (fun ls hl => ?_)
  refine lv_aload_n hx hb dX4_right_26 rfl (lv_at hl 2 rfl) ?_
  refine lv_iconst (v := 2) hx hb dX4_right_27 (by decide) ?_
  obtain ⟨r28, e28, h⟩ := bind_s h
  refine k_cI (va_runV (As := [.int (2 : Int32)]) (rest := []) ⟨hx, hb, hml, hown, hts⟩ (kX4_sumOf l D cI cR q G4 K (2 : Int32) r28 e28) (cwV 1 hts gX4_right_X4_sumOf rfl rfl rfl (by decide +kernel) ⟨Nat.le_of_ble_eq_true rfl, Nat.le_of_ble_eq_true rfl⟩) (mPreV hK hM 0 rfl rfl) rfl rfl hl.1 rfl (lv_room (Nat.le_of_ble_eq_true rfl)) dX4_right_28 ⟨Nat.le_of_ble_eq_true rfl, Nat.le_of_ble_eq_true rfl⟩) hS hM (fun H locs hM hS => ?_)
  refine lv_if_ne (tgt := 38) hx hb dX4_right_31 (by decide) (fun c31 => ?_) (fun c31 => ?_)
  · replace h := ite_f h c31
    refine lv_dload_n hx hb dX4_right_38 rfl (lv_at hl 1 rfl) ?_
    refine lv_dload_n hx hb dX4_right_39 rfl (lv_at hl 0 rfl) ?_
    refine lv_ddiv_any hd0 lw_bits hx hb dX4_right_40 (fun dr40 dd40 hal40 hd40 => ?_)
    have h := Option.some.inj h
    refine W.endD hd40 ?_
    exact W.dret (v := dr40) hx hb hr (fun t ht hW => ⟨⟨dr40, (), rfl, by rw [← h]; exact hal40, w_end ht hM (p_snd h)⟩, hS.F ht⟩) hS.2.2 dX4_right_41
  · replace h := ite_t h c31
    refine lv_dconst1 hx hb dX4_right_34 ?_
    refine lv_goto (tgt := 41) hx hb dX4_right_35 (by decide) ?_
    have h := Option.some.inj h
    refine W.endD hd0 ?_
    exact W.dret (v := FP.dconst1) hx hb hr (fun t ht hW => ⟨⟨FP.dconst1, (), rfl, by rw [← h]; exact dv_refl _, w_end ht hM (p_snd h)⟩, hS.F ht⟩) hS.2.2 dX4_right_41
set_option maxHeartbeats 4000000 in
set_option maxRecDepth 100000 in
theorem kX4_append (l : Launch) (D : va_G) (cI cR : ClassId) (q : Nat → Nat) (G : Nat → Nat → Int32) (K : Nat) (p1 : Int32) (hJ : MJ tmM q) (r : (Int32 × (Nat → Nat → Int32))) (hs : sX4_append K G p1 = some r) : Met l yX4_append wsX4_append ({ frames := 1, cells := 0, slots := 0, locals := 25 } : Room) (mPre [.ref (q 0), .int p1] D cI cR q tmM G) (mIW D cI cR q tmM r) 0 0 (MA tmM q) := by
  refine Met.ofW (cc := cX4_append) (maxL := 2) (ret := (some .int)) (by decide) rfl ?_
  intro p e s m args below meth c s₁ B hml hv
  obtain ⟨hargs, hM, hK⟩ := hv
  have hx := B.exec
  have hb := B.bytes
  have hr := B.returns
  have hts := atoms_spec (ws := wsX4_append) B.pre
  have hown : s.vm.findClass RX4 = some m.cls := findClass_of_methodNamed B.named
  have hlocks := B.notSynchronized
  have hA : ∀ a, MA tmM q a → MA tmM q a := fun _ h => h
  have hS : va_S (MA tmM q) s.heap s.heap [] := va_S.rf
  have w0 := hts (Cond.constantLong RX4 167 (127)) (List.mem_of_getElem? (i := 1) (by decide +kernel))
  have w1 := hts (Cond.fieldLink RX4 169 "CoinRailsModel" "textLong" "I") (List.mem_of_getElem? (i := 2) (by decide +kernel))
  have iX4 : ∀ w ∈ wsX40, w ∈ wsX4_append := fun _ h => List.mem_cons_of_mem _ (List.mem_append_right _ (h))
  have w3 := hts (Cond.fieldLink RX4 19 "CoinRailsModel" "text" "[I") (List.mem_of_getElem? (i := 3) (by decide +kernel))
  subst hargs
  have hl := lv_entry ([.ref (q 0), .int p1]) (n := 2) (Nat.le_of_ble_eq_true rfl)
  rw [lg_entry_eq]
  generalize (lg_sl ([.ref (q 0), .int p1]) ++ List.replicate (2 - (lg_sl ([.ref (q 0), .int p1])).length) Slot.unset).toArray = ls at hl ⊢
  have hl : lv_has ls 2 [(0, .ref (q 0)), (1, .int p1)] := hl
  have h := hs
  unfold sX4_append at h
  have hM0 := hM
  refine lv_iload_n hx hb dX4_append_0 rfl (lv_at hl 1 rfl) ?_
  refine lv_i2l (v := p1.toInt64) hx hb dX4_append_1 rfl ?_
  refine lv_lconst (v := 0) hx hb dX4_append_2 (by decide) ?_
  refine lv_ldc2 hx hb hown w0 dX4_append_3 ?_
  obtain ⟨r6, e6, h⟩ := bind_s h
  refine k_cI (va_runS (As := [.long p1.toInt64, .long (0 : Int64), .long (127 : Int64)]) (rest := []) ⟨hx, hb, hml, hown, hts⟩ (kX4_in l D cI cR q G K p1.toInt64 (0 : Int64) (127 : Int64) r6 e6) (va_cwS 3 hts gX4_append_X4_in rfl rfl rfl (by decide +kernel) ⟨Nat.le_of_ble_eq_true rfl, Nat.le_of_ble_eq_true rfl⟩) (mPreS hK hM) rfl rfl hl.1 rfl (lv_room (Nat.le_of_ble_eq_true rfl)) dX4_append_6 ⟨Nat.le_of_ble_eq_true rfl, Nat.le_of_ble_eq_true rfl⟩) hS hM (fun H locs hM hS => ?_)
  refine lv_if_ne (tgt := 18) hx hb dX4_append_9 (by decide) (fun c9 => ?_) (fun c9 => ?_)
  · replace h := ite_f h c9
    refine lv_aload_n hx hb dX4_append_18 rfl (lv_at hl 0 rfl) ?_
    refine k_getI (C := RX4) (T := TX4) (N := 10) hx hb hts iX4 hown hK hM 0 rfl rfl 6 (by decide) rfl w1 (fun _ h9 => h9) dX4_append_19 ?_
    refine lv_bipush (v := 90) hx hb dX4_append_22 (by decide) ?_
    refine lv_icmp_ne (tgt := 33) hx hb dX4_append_24 (by decide) (fun c24 => ?_) (fun c24 => ?_)
    · replace h := ite_f h c24
      refine lv_aload_n hx hb dX4_append_33 rfl (lv_at hl 0 rfl) ?_
      refine k_getR (C := RX4) (T := TX4) (N := 10) hx hb hts iX4 hown hK hM 0 rfl rfl 5 (by decide) rfl w3 (fun _ h9 => h9) dX4_append_34 ?_
      refine lv_aload_n hx hb dX4_append_37 rfl (lv_at hl 0 rfl) ?_
      refine k_getI (C := RX4) (T := TX4) (N := 10) hx hb hts iX4 hown hK hM 0 rfl rfl 6 (by decide) rfl w1 (fun _ h9 => h9) dX4_append_38 ?_
      refine lv_iload_n hx hb dX4_append_41 rfl (lv_at hl 1 rfl) ?_
      obtain ⟨g42, h⟩ := grd_s h
      refine k_iast (v := p1) hx hb hK hM hJ hA hS 4 rfl g42 dX4_append_42 (fun H locs hM hS => ?_)
      obtain ⟨G44, eG44, h⟩ := olet_s h
      rw [eG44] at hM
      refine lv_aload_n hx hb dX4_append_43 rfl (lv_at hl 0 rfl) ?_
      refine lv_dup hx hb dX4_append_44 rfl ?_
      refine k_getI (C := RX4) (T := TX4) (N := 10) hx hb hts iX4 hown hK hM 0 rfl rfl 6 (by decide) rfl w1 (fun _ h9 => h9) dX4_append_45 ?_
      refine lv_iconst (v := 1) hx hb dX4_append_48 (by decide) ?_
      refine lv_iadd hx hb dX4_append_49 ?_
      refine k_putI (C := RX4) (T := TX4) (N := 10) (v := ((G44 0 6) + (1 : Int32))) hx hb hts iX4 tyX4 tyX4_ok nmX4 hown hK hM hJ hA hS 0 rfl rfl 6 (by decide) rfl w1 (fun _ h9 => h9) rfl (by decide +kernel) dX4_append_50 (fun H locs hM hS => ?_)
      obtain ⟨G52, eG52, h⟩ := olet_s h
      rw [eG52] at hM
      refine lv_aload_n hx hb dX4_append_53 rfl (lv_at hl 0 rfl) ?_
      refine lv_aload_n hx hb dX4_append_54 rfl (lv_at hl 0 rfl) ?_
      refine k_getI (C := RX4) (T := TX4) (N := 10) hx hb hts iX4 hown hK hM 0 rfl rfl 6 (by decide) rfl w1 (fun _ h9 => h9) dX4_append_55 ?_
      obtain ⟨r58, e58, h⟩ := bind_s h
      refine k_cIW (va_runV (As := [.int (G52 0 6)]) (rest := []) ⟨hx, hb, hml, hown, hts⟩ (kX4_fine l D cI cR q G52 K (G52 0 6) hJ r58 e58) (cwV 1 hts gX4_append_X4_fine rfl rfl rfl (by decide +kernel) ⟨Nat.le_of_ble_eq_true rfl, Nat.le_of_ble_eq_true rfl⟩) (mPreV hK hM 0 rfl rfl) rfl rfl hl.1 rfl (lv_room (Nat.le_of_ble_eq_true rfl)) dX4_append_58 ⟨Nat.le_of_ble_eq_true rfl, Nat.le_of_ble_eq_true rfl⟩) hS hA (fun H locs hM hS => ?_)
      have h := Option.some.inj h
      exact W.iret (v := r58.1) hx hb hr (fun t ht hW => ⟨⟨r58.1, (), rfl, p_fst h, w_end ht hM (p_snd h)⟩, hS.F ht⟩) hS.2.2 dX4_append_61
    · replace h := ite_t h c24
      refine lv_aload_n hx hb dX4_append_27 rfl (lv_at hl 0 rfl) ?_
      refine lv_iconst (v := 2) hx hb dX4_append_28 (by decide) ?_
      obtain ⟨r29, e29, h⟩ := bind_s h
      refine k_cIW (va_runV (As := [.int (2 : Int32)]) (rest := []) ⟨hx, hb, hml, hown, hts⟩ (kX4_throwing l D cI cR q G K (2 : Int32) hJ r29 e29) (cwV 1 hts gX4_append_X4_throwing rfl rfl rfl (by decide +kernel) ⟨Nat.le_of_ble_eq_true rfl, Nat.le_of_ble_eq_true rfl⟩) (mPreV hK hM 0 rfl rfl) rfl rfl hl.1 rfl (lv_room (Nat.le_of_ble_eq_true rfl)) dX4_append_29 ⟨Nat.le_of_ble_eq_true rfl, Nat.le_of_ble_eq_true rfl⟩) hS hA (fun H locs hM hS => ?_)
      have h := Option.some.inj h
      exact W.iret (v := r29.1) hx hb hr (fun t ht hW => ⟨⟨r29.1, (), rfl, p_fst h, w_end ht hM (p_snd h)⟩, hS.F ht⟩) hS.2.2 dX4_append_32
  · replace h := ite_t h c9
    refine lv_aload_n hx hb dX4_append_12 rfl (lv_at hl 0 rfl) ?_
    refine lv_iconst (v := 1) hx hb dX4_append_13 (by decide) ?_
    obtain ⟨r14, e14, h⟩ := bind_s h
    refine k_cIW (va_runV (As := [.int (1 : Int32)]) (rest := []) ⟨hx, hb, hml, hown, hts⟩ (kX4_throwing l D cI cR q G K (1 : Int32) hJ r14 e14) (cwV 1 hts gX4_append_X4_throwing rfl rfl rfl (by decide +kernel) ⟨Nat.le_of_ble_eq_true rfl, Nat.le_of_ble_eq_true rfl⟩) (mPreV hK hM 0 rfl rfl) rfl rfl hl.1 rfl (lv_room (Nat.le_of_ble_eq_true rfl)) dX4_append_14 ⟨Nat.le_of_ble_eq_true rfl, Nat.le_of_ble_eq_true rfl⟩) hS hA (fun H locs hM hS => ?_)
    have h := Option.some.inj h
    exact W.iret (v := r14.1) hx hb hr (fun t ht hW => ⟨⟨r14.1, (), rfl, p_fst h, w_end ht hM (p_snd h)⟩, hS.F ht⟩) hS.2.2 dX4_append_17
set_option maxHeartbeats 4000000 in
set_option maxRecDepth 100000 in
theorem kX4_clearText (l : Launch) (D : va_G) (cI cR : ClassId) (q : Nat → Nat) (G : Nat → Nat → Int32) (K : Nat) (hJ : MJ tmM q) (r : (Int32 × (Nat → Nat → Int32))) (hs : sX4_clearText K G  = some r) : Met l yX4_clearText wsX4_clearText ({ frames := 1, cells := 0, slots := 0, locals := 21 } : Room) (mPre [.ref (q 0)] D cI cR q tmM G) (mIW D cI cR q tmM r) 0 0 (MA tmM q) := by
  refine Met.ofW (cc := cX4_clearText) (maxL := 2) (ret := (some .int)) (by decide) rfl ?_
  intro p e s m args below meth c s₁ B hml hv
  obtain ⟨hargs, hM, hK⟩ := hv
  have hx := B.exec
  have hb := B.bytes
  have hr := B.returns
  have hts := atoms_spec (ws := wsX4_clearText) B.pre
  have hown : s.vm.findClass RX4 = some m.cls := findClass_of_methodNamed B.named
  have hlocks := B.notSynchronized
  have hA : ∀ a, MA tmM q a → MA tmM q a := fun _ h => h
  have hS : va_S (MA tmM q) s.heap s.heap [] := va_S.rf
  have w0 := hts (Cond.fieldLink RX4 169 "CoinRailsModel" "textLong" "I") (List.mem_of_getElem? (i := 1) (by decide +kernel))
  have iX4 : ∀ w ∈ wsX40, w ∈ wsX4_clearText := fun _ h => List.mem_cons_of_mem _ (List.mem_append_right _ (h))
  subst hargs
  have hl := lv_entry ([.ref (q 0)]) (n := 2) (Nat.le_of_ble_eq_true rfl)
  rw [lg_entry_eq]
  generalize (lg_sl ([.ref (q 0)]) ++ List.replicate (2 - (lg_sl ([.ref (q 0)])).length) Slot.unset).toArray = ls at hl ⊢
  have hl : lv_has ls 2 [(0, .ref (q 0))] := hl
  have h := hs
  unfold sX4_clearText at h
  have hM0 := hM
  refine lv_aload_n hx hb dX4_clearText_0 rfl (lv_at hl 0 rfl) ?_
  refine k_getI (C := RX4) (T := TX4) (N := 10) hx hb hts iX4 hown hK hM 0 rfl rfl 6 (by decide) rfl w0 (fun _ h9 => h9) dX4_clearText_1 ?_
  refine lv_istore_n (lv' := [(1, .int (G 0 6)), (0, .ref (q 0))]) hx hb dX4_clearText_4 rfl hl (by decide) rfl (fun ls hl => ?_)
  refine lv_aload_n hx hb dX4_clearText_5 rfl (lv_at hl 1 rfl) ?_
  refine lv_iconst (v := 0) hx hb dX4_clearText_6 (by decide) ?_
  refine k_putI (C := RX4) (T := TX4) (N := 10) (v := (0 : Int32)) hx hb hts iX4 tyX4 tyX4_ok nmX4 hown hK hM hJ hA hS 0 rfl rfl 6 (by decide) rfl w0 (fun _ h9 => h9) rfl (by decide +kernel) dX4_clearText_7 (fun H locs hM hS => ?_)
  obtain ⟨G9, eG9, h⟩ := olet_s h
  rw [eG9] at hM
  refine lv_aload_n hx hb dX4_clearText_10 rfl (lv_at hl 1 rfl) ?_
  refine lv_iload_n hx hb dX4_clearText_11 rfl (lv_at hl 0 rfl) ?_
  obtain ⟨r12, e12, h⟩ := bind_s h
  refine k_cIW (va_runV (As := [.int (G 0 6)]) (rest := []) ⟨hx, hb, hml, hown, hts⟩ (kX4_fine l D cI cR q G9 K (G 0 6) hJ r12 e12) (cwV 1 hts gX4_clearText_X4_fine rfl rfl rfl (by decide +kernel) ⟨Nat.le_of_ble_eq_true rfl, Nat.le_of_ble_eq_true rfl⟩) (mPreV hK hM 0 rfl rfl) rfl rfl hl.1 rfl (lv_room (Nat.le_of_ble_eq_true rfl)) dX4_clearText_12 ⟨Nat.le_of_ble_eq_true rfl, Nat.le_of_ble_eq_true rfl⟩) hS hA (fun H locs hM hS => ?_)
  have h := Option.some.inj h
  exact W.iret (v := r12.1) hx hb hr (fun t ht hW => ⟨⟨r12.1, (), rfl, p_fst h, w_end ht hM (p_snd h)⟩, hS.F ht⟩) hS.2.2 dX4_clearText_15
set_option maxHeartbeats 4000000 in
set_option maxRecDepth 100000 in
theorem kX4_here (l : Launch) (D : va_G) (cI cR : ClassId) (q : Nat → Nat) (G : Nat → Nat → Int32) (K : Nat) (r : Int32) (hs : sX4_here K G  = some r) : Met l yX4_here wsX4_here ({ frames := 0, cells := 0, slots := 0, locals := 0 } : Room) (mPre [.ref (q 0)] D cI cR q tmM G) (mI r) 0 0 (fun _ => False) := by
  refine Met.ofW (cc := cX4_here) (maxL := 1) (ret := (some .int)) (by decide) rfl ?_
  intro p e s m args below meth c s₁ B hml hv
  obtain ⟨hargs, hM, hK⟩ := hv
  have hx := B.exec
  have hb := B.bytes
  have hr := B.returns
  have hts := atoms_spec (ws := wsX4_here) B.pre
  have hown : s.vm.findClass RX4 = some m.cls := findClass_of_methodNamed B.named
  have hlocks := B.notSynchronized
  have hS : va_S (fun _ => False) s.heap s.heap [] := va_S.rf
  have w0 := hts (Cond.fieldLink RX4 172 "CoinRailsModel" "place" "I") (List.mem_of_getElem? (i := 1) (by decide +kernel))
  have iX4 : ∀ w ∈ wsX40, w ∈ wsX4_here := fun _ h => List.mem_cons_of_mem _ (List.mem_append_right _ (h))
  have w2 := hts (Cond.fieldLink RX4 169 "CoinRailsModel" "textLong" "I") (List.mem_of_getElem? (i := 2) (by decide +kernel))
  have w3 := hts (Cond.fieldLink RX4 19 "CoinRailsModel" "text" "[I") (List.mem_of_getElem? (i := 3) (by decide +kernel))
  subst hargs
  have hl := lv_entry ([.ref (q 0)]) (n := 1) (Nat.le_of_ble_eq_true rfl)
  rw [lg_entry_eq]
  generalize (lg_sl ([.ref (q 0)]) ++ List.replicate (1 - (lg_sl ([.ref (q 0)])).length) Slot.unset).toArray = ls at hl ⊢
  have hl : lv_has ls 1 [(0, .ref (q 0))] := hl
  have h := hs
  unfold sX4_here at h
  have hM0 := hM
  refine lv_aload_n hx hb dX4_here_0 rfl (lv_at hl 0 rfl) ?_
  refine k_getI (C := RX4) (T := TX4) (N := 10) hx hb hts iX4 hown hK hM 0 rfl rfl 7 (by decide) rfl w0 (fun _ h9 => h9) dX4_here_1 ?_
  refine lv_aload_n hx hb dX4_here_4 rfl (lv_at hl 0 rfl) ?_
  refine k_getI (C := RX4) (T := TX4) (N := 10) hx hb hts iX4 hown hK hM 0 rfl rfl 6 (by decide) rfl w2 (fun _ h9 => h9) dX4_here_5 ?_
  refine lv_icmp_ge (tgt := 23) hx hb dX4_here_8 (by decide) (fun c8 => ?_) (fun c8 => ?_)
  · replace h := ite_t h c8
    refine lv_iconst (v := -1) hx hb dX4_here_23 (by decide) ?_
    exact W.iret (v := (-1 : Int32)) hx hb hr (fun t ht hW => ⟨⟨(-1 : Int32), (), rfl, Option.some.inj h, trivial⟩, hS.F ht⟩) hS.2.2 dX4_here_24
  · replace h := ite_f h c8
    refine lv_aload_n hx hb dX4_here_11 rfl (lv_at hl 0 rfl) ?_
    refine k_getR (C := RX4) (T := TX4) (N := 10) hx hb hts iX4 hown hK hM 0 rfl rfl 5 (by decide) rfl w3 (fun _ h9 => h9) dX4_here_12 ?_
    refine lv_aload_n hx hb dX4_here_15 rfl (lv_at hl 0 rfl) ?_
    refine k_getI (C := RX4) (T := TX4) (N := 10) hx hb hts iX4 hown hK hM 0 rfl rfl 7 (by decide) rfl w0 (fun _ h9 => h9) dX4_here_16 ?_
    obtain ⟨g19, h⟩ := grd_s h
    refine k_iald hx hb hK hM 4 rfl g19 dX4_here_19 ?_
    refine lv_goto (tgt := 24) hx hb dX4_here_20 (by decide) ?_
    exact W.iret (v := (G 4 (G 0 7).toNatClampNeg)) hx hb hr (fun t ht hW => ⟨⟨(G 4 (G 0 7).toNatClampNeg), (), rfl, Option.some.inj h, trivial⟩, hS.F ht⟩) hS.2.2 dX4_here_24
set_option maxHeartbeats 4000000 in
set_option maxRecDepth 100000 in
theorem kX4_passes (l : Launch) (D : va_G) (cI cR : ClassId) (q : Nat → Nat) (G : Nat → Nat → Int32) (K : Nat) (p1 : Int32) (hJ : MJ tmM q) (r : (Int32 × (Nat → Nat → Int32))) (hs : sX4_passes K G p1 = some r) : Met l yX4_passes wsX4_passes ({ frames := 1, cells := 0, slots := 0, locals := 20 } : Room) (mPre [.ref (q 0), .int p1] D cI cR q tmM G) (mIW D cI cR q tmM r) 0 0 (MA tmM q) := by
  refine Met.ofW (cc := cX4_passes) (maxL := 3) (ret := (some .boolean)) (by decide) rfl ?_
  intro p e s m args below meth c s₁ B hml hv
  obtain ⟨hargs, hM, hK⟩ := hv
  have hx := B.exec
  have hb := B.bytes
  have hr := B.returns
  have hts := atoms_spec (ws := wsX4_passes) B.pre
  have hown : s.vm.findClass RX4 = some m.cls := findClass_of_methodNamed B.named
  have hlocks := B.notSynchronized
  have hA : ∀ a, MA tmM q a → MA tmM q a := fun _ h => h
  have hS : va_S (MA tmM q) s.heap s.heap [] := va_S.rf
  have w0 := hts (Cond.fieldLink RX4 172 "CoinRailsModel" "place" "I") (List.mem_of_getElem? (i := 1) (by decide +kernel))
  have iX4 : ∀ w ∈ wsX40, w ∈ wsX4_passes := fun _ h => List.mem_cons_of_mem _ (List.mem_append_right _ (h))
  subst hargs
  have hl := lv_entry ([.ref (q 0), .int p1]) (n := 3) (Nat.le_of_ble_eq_true rfl)
  rw [lg_entry_eq]
  generalize (lg_sl ([.ref (q 0), .int p1]) ++ List.replicate (3 - (lg_sl ([.ref (q 0), .int p1])).length) Slot.unset).toArray = ls at hl ⊢
  have hl : lv_has ls 3 [(0, .ref (q 0)), (1, .int p1)] := hl
  have h := hs
  unfold sX4_passes at h
  have hM0 := hM
  refine lv_aload_n hx hb dX4_passes_0 rfl (lv_at hl 0 rfl) ?_
  obtain ⟨r1, e1, h⟩ := bind_s h
  refine k_cI (va_runV (As := []) (rest := []) ⟨hx, hb, hml, hown, hts⟩ (kX4_here l D cI cR q G K r1 e1) (cwV 0 hts gX4_passes_X4_here rfl rfl rfl (by decide +kernel) ⟨Nat.le_of_ble_eq_true rfl, Nat.le_of_ble_eq_true rfl⟩) (mPreV hK hM 0 rfl rfl) rfl rfl hl.1 rfl (lv_room (Nat.le_of_ble_eq_true rfl)) dX4_passes_1 ⟨Nat.le_of_ble_eq_true rfl, Nat.le_of_ble_eq_true rfl⟩) hS hM (fun H locs hM hS => ?_)
  refine lv_iload_n hx hb dX4_passes_4 rfl (lv_at hl 1 rfl) ?_
  refine lv_icmp_ne (tgt := 12) hx hb dX4_passes_5 (by decide) (fun c5 => ?_) (fun c5 => ?_)
  · replace h := ite_f h c5
    refine lv_iconst (v := 0) hx hb dX4_passes_12 (by decide) ?_
    refine lv_istore_n (lv' := [(2, .int (0 : Int32)), (0, .ref (q 0)), (1, .int p1)]) hx hb dX4_passes_13 rfl hl (by decide) rfl (fun ls hl => ?_)
    refine lv_aload_n hx hb dX4_passes_14 rfl (lv_at hl 1 rfl) ?_
    refine lv_dup hx hb dX4_passes_15 rfl ?_
    refine k_getI (C := RX4) (T := TX4) (N := 10) hx hb hts iX4 hown hK hM 0 rfl rfl 7 (by decide) rfl w0 (fun _ h9 => h9) dX4_passes_16 ?_
    refine lv_iload_n hx hb dX4_passes_19 rfl (lv_at hl 0 rfl) ?_
    refine lv_if_eq (tgt := 27) hx hb dX4_passes_20 (by decide) (fun c20 => ?_) (fun c20 => ?_)
    · replace h := ite_t h c20
      refine lv_iconst (v := 0) hx hb dX4_passes_27 (by decide) ?_
      refine lv_iadd hx hb dX4_passes_28 ?_
      refine k_putI (C := RX4) (T := TX4) (N := 10) (v := ((G 0 7) + (0 : Int32))) hx hb hts iX4 tyX4 tyX4_ok nmX4 hown hK hM hJ hA hS 0 rfl rfl 7 (by decide) rfl w0 (fun _ h9 => h9) rfl (by decide +kernel) dX4_passes_29 (fun H locs hM hS => ?_)
      obtain ⟨G31, eG31, h⟩ := olet_s h
      rw [eG31] at hM
      refine lv_iload_n hx hb dX4_passes_32 rfl (lv_at hl 0 rfl) ?_
      have h := Option.some.inj h
      exact W.zret (ty := .boolean) (v := (0 : Int32)) hx hb hr rfl (fun t ht hW => ⟨⟨(0 : Int32), (), rfl, p_fst h, w_end ht hM (p_snd h)⟩, hS.F ht⟩) hS.2.2 dX4_passes_33
    · replace h := ite_f h c20
      refine lv_iconst (v := 1) hx hb dX4_passes_23 (by decide) ?_
      refine lv_goto (tgt := 28) hx hb dX4_passes_24 (by decide) ?_
      refine lv_iadd hx hb dX4_passes_28 ?_
      refine k_putI (C := RX4) (T := TX4) (N := 10) (v := ((G 0 7) + (1 : Int32))) hx hb hts iX4 tyX4 tyX4_ok nmX4 hown hK hM hJ hA hS 0 rfl rfl 7 (by decide) rfl w0 (fun _ h9 => h9) rfl (by decide +kernel) dX4_passes_29 (fun H locs hM hS => ?_)
      obtain ⟨G31, eG31, h⟩ := olet_s h
      rw [eG31] at hM
      refine lv_iload_n hx hb dX4_passes_32 rfl (lv_at hl 0 rfl) ?_
      have h := Option.some.inj h
      exact W.zret (ty := .boolean) (v := (0 : Int32)) hx hb hr rfl (fun t ht hW => ⟨⟨(0 : Int32), (), rfl, p_fst h, w_end ht hM (p_snd h)⟩, hS.F ht⟩) hS.2.2 dX4_passes_33
  · replace h := ite_t h c5
    refine lv_iconst (v := 1) hx hb dX4_passes_8 (by decide) ?_
    refine lv_goto (tgt := 13) hx hb dX4_passes_9 (by decide) ?_
    refine lv_istore_n (lv' := [(2, .int (1 : Int32)), (0, .ref (q 0)), (1, .int p1)]) hx hb dX4_passes_13 rfl hl (by decide) rfl (fun ls hl => ?_)
    refine lv_aload_n hx hb dX4_passes_14 rfl (lv_at hl 1 rfl) ?_
    refine lv_dup hx hb dX4_passes_15 rfl ?_
    refine k_getI (C := RX4) (T := TX4) (N := 10) hx hb hts iX4 hown hK hM 0 rfl rfl 7 (by decide) rfl w0 (fun _ h9 => h9) dX4_passes_16 ?_
    refine lv_iload_n hx hb dX4_passes_19 rfl (lv_at hl 0 rfl) ?_
    refine lv_if_eq (tgt := 27) hx hb dX4_passes_20 (by decide) (fun c20 => ?_) (fun c20 => ?_)
    · replace h := ite_t h c20
      refine lv_iconst (v := 0) hx hb dX4_passes_27 (by decide) ?_
      refine lv_iadd hx hb dX4_passes_28 ?_
      refine k_putI (C := RX4) (T := TX4) (N := 10) (v := ((G 0 7) + (0 : Int32))) hx hb hts iX4 tyX4 tyX4_ok nmX4 hown hK hM hJ hA hS 0 rfl rfl 7 (by decide) rfl w0 (fun _ h9 => h9) rfl (by decide +kernel) dX4_passes_29 (fun H locs hM hS => ?_)
      obtain ⟨G31, eG31, h⟩ := olet_s h
      rw [eG31] at hM
      refine lv_iload_n hx hb dX4_passes_32 rfl (lv_at hl 0 rfl) ?_
      have h := Option.some.inj h
      exact W.zret (ty := .boolean) (v := (1 : Int32)) hx hb hr rfl (fun t ht hW => ⟨⟨(1 : Int32), (), rfl, p_fst h, w_end ht hM (p_snd h)⟩, hS.F ht⟩) hS.2.2 dX4_passes_33
    · replace h := ite_f h c20
      refine lv_iconst (v := 1) hx hb dX4_passes_23 (by decide) ?_
      refine lv_goto (tgt := 28) hx hb dX4_passes_24 (by decide) ?_
      refine lv_iadd hx hb dX4_passes_28 ?_
      refine k_putI (C := RX4) (T := TX4) (N := 10) (v := ((G 0 7) + (1 : Int32))) hx hb hts iX4 tyX4 tyX4_ok nmX4 hown hK hM hJ hA hS 0 rfl rfl 7 (by decide) rfl w0 (fun _ h9 => h9) rfl (by decide +kernel) dX4_passes_29 (fun H locs hM hS => ?_)
      obtain ⟨G31, eG31, h⟩ := olet_s h
      rw [eG31] at hM
      refine lv_iload_n hx hb dX4_passes_32 rfl (lv_at hl 0 rfl) ?_
      have h := Option.some.inj h
      exact W.zret (ty := .boolean) (v := (1 : Int32)) hx hb hr rfl (fun t ht hW => ⟨⟨(1 : Int32), (), rfl, p_fst h, w_end ht hM (p_snd h)⟩, hS.F ht⟩) hS.2.2 dX4_passes_33
set_option maxHeartbeats 4000000 in
set_option maxRecDepth 100000 in
theorem kX4_readsCoin (l : Launch) (D : va_G) (cI cR : ClassId) (q : Nat → Nat) (G : Nat → Nat → Int32) (K : Nat) (hJ : MJ tmM q) (r : (Int32 × (Nat → Nat → Int32))) (hs : sX4_readsCoin K G  = some r) : Met l yX4_readsCoin wsX4_readsCoin ({ frames := 2, cells := 0, slots := 0, locals := 42 } : Room) (mPre [.ref (q 0)] D cI cR q tmM G) (mIW D cI cR q tmM r) 0 0 (MA tmM q) := by
  refine Met.ofW (cc := cX4_readsCoin) (maxL := 2) (ret := (some .boolean)) (by decide) rfl ?_
  intro p e s m args below meth c s₁ B hml hv
  obtain ⟨hargs, hM, hK⟩ := hv
  have hx := B.exec
  have hb := B.bytes
  have hr := B.returns
  have hts := atoms_spec (ws := wsX4_readsCoin) B.pre
  have hown : s.vm.findClass RX4 = some m.cls := findClass_of_methodNamed B.named
  have hlocks := B.notSynchronized
  have hA : ∀ a, MA tmM q a → MA tmM q a := fun _ h => h
  have hS : va_S (MA tmM q) s.heap s.heap [] := va_S.rf
  have w0 := hts (Cond.constantLong RX4 178 (48)) (List.mem_of_getElem? (i := 1) (by decide +kernel))
  have w1 := hts (Cond.fieldLink RX4 7 "CoinRailsModel" "all" "[I") (List.mem_of_getElem? (i := 2) (by decide +kernel))
  have iX4 : ∀ w ∈ wsX40, w ∈ wsX4_readsCoin := fun _ h => List.mem_cons_of_mem _ (List.mem_append_right _ (h))
  have w3 := hts (Cond.fieldLink RX4 180 "CoinRailsModel" "readKind" "I") (List.mem_of_getElem? (i := 3) (by decide +kernel))
  have w4 := hts (Cond.fieldLink RX4 183 "CoinRailsModel" "readWear" "I") (List.mem_of_getElem? (i := 4) (by decide +kernel))
  have w5 := hts (Cond.fieldLink RX4 172 "CoinRailsModel" "place" "I") (List.mem_of_getElem? (i := 5) (by decide +kernel))
  have w6 := hts (Cond.constantLong RX4 189 (57)) (List.mem_of_getElem? (i := 6) (by decide +kernel))
  have L68 : ∀ (n : Nat), ∀ (G1 : Nat → Nat → Int32) (x1 : Int32) (H : Heap) (locs : List Loc) (ls : Array Slot), sX4_readsCoin_L68 K n G1 x1 = some r → MW D cI cR q tmM G1 H → va_S (MA tmM q) s.heap H locs → lv_has ls 2 [(0, .ref (q 0)), (1, .int x1)] → W p l e (headSpec wsX4_readsCoin ({ frames := 2, cells := 0, slots := 0, locals := 42 } : Room)).room s m args below meth c H locs 0 0 (MQ below (mIW D cI cR q tmM r) args s 0 0 (MA tmM q)) (F0 m 68 ls []) := by
    clear hM hS
    intro n
    induction n with
    | zero => exact fun _ _ _ _ _ h => absurd h (by simp [sX4_readsCoin_L68])
    | succ n ih =>
      intro G1 x1 H locs ls h hM hS hl
      rw [sX4_readsCoin_L68] at h
      refine lv_aload_n hx hb dX4_readsCoin_68 rfl (lv_at hl 0 rfl) ?_
      obtain ⟨r69, e69, h⟩ := bind_s h
      refine k_cI (va_runV (As := []) (rest := []) ⟨hx, hb, hml, hown, hts⟩ (kX4_here l D cI cR q G1 K r69 e69) (cwV 0 hts gX4_readsCoin_X4_here rfl rfl rfl (by decide +kernel) ⟨Nat.le_of_ble_eq_true rfl, Nat.le_of_ble_eq_true rfl⟩) (mPreV hK hM 0 rfl rfl) rfl rfl hl.1 rfl (lv_room (Nat.le_of_ble_eq_true rfl)) dX4_readsCoin_69 ⟨Nat.le_of_ble_eq_true rfl, Nat.le_of_ble_eq_true rfl⟩) hS hM (fun H locs hM hS => ?_)
      refine lv_i2l (v := r69.toInt64) hx hb dX4_readsCoin_72 rfl ?_
      refine lv_ldc2 hx hb hown w0 dX4_readsCoin_73 ?_
      refine lv_ldc2 hx hb hown w6 dX4_readsCoin_76 ?_
      obtain ⟨r79, e79, h⟩ := bind_s h
      refine k_cI (va_runS (As := [.long r69.toInt64, .long (48 : Int64), .long (57 : Int64)]) (rest := []) ⟨hx, hb, hml, hown, hts⟩ (kX4_in l D cI cR q G1 K r69.toInt64 (48 : Int64) (57 : Int64) r79 e79) (va_cwS 3 hts gX4_readsCoin_X4_in rfl rfl rfl (by decide +kernel) ⟨Nat.le_of_ble_eq_true rfl, Nat.le_of_ble_eq_true rfl⟩) (mPreS hK hM) rfl rfl hl.1 rfl (lv_room (Nat.le_of_ble_eq_true rfl)) dX4_readsCoin_79 ⟨Nat.le_of_ble_eq_true rfl, Nat.le_of_ble_eq_true rfl⟩) hS hM (fun H locs hM hS => ?_)
      refine lv_if_eq (tgt := 127) hx hb dX4_readsCoin_82 (by decide) (fun c82 => ?_) (fun c82 => ?_)
      · replace h := ite_t h c82
        refine lv_aload_n hx hb dX4_readsCoin_127 rfl (lv_at hl 0 rfl) ?_
        refine k_getI (C := RX4) (T := TX4) (N := 10) hx hb hts iX4 hown hK hM 0 rfl rfl 7 (by decide) rfl w5 (fun _ h9 => h9) dX4_readsCoin_128 ?_
        refine lv_iload_n hx hb dX4_readsCoin_131 rfl (lv_at hl 1 rfl) ?_
        refine lv_icmp_ne (tgt := 137) hx hb dX4_readsCoin_132 (by decide) (fun c132 => ?_) (fun c132 => ?_)
        · replace h := ite_f h c132
          refine lv_aload_n hx hb dX4_readsCoin_137 rfl (lv_at hl 0 rfl) ?_
          refine lv_bipush (v := 59) hx hb dX4_readsCoin_138 (by decide) ?_
          obtain ⟨r140, e140, h⟩ := bind_s h
          refine k_cIW (va_runV (As := [.int (59 : Int32)]) (rest := []) ⟨hx, hb, hml, hown, hts⟩ (kX4_passes l D cI cR q G1 K (59 : Int32) hJ r140 e140) (cwV 1 hts gX4_readsCoin_X4_passes rfl rfl rfl (by decide +kernel) ⟨Nat.le_of_ble_eq_true rfl, Nat.le_of_ble_eq_true rfl⟩) (mPreV hK hM 0 rfl rfl) rfl rfl hl.1 rfl (lv_room (Nat.le_of_ble_eq_true rfl)) dX4_readsCoin_140 ⟨Nat.le_of_ble_eq_true rfl, Nat.le_of_ble_eq_true rfl⟩) hS hA (fun H locs hM hS => ?_)
          obtain ⟨gz, h⟩ := grd_s h
          have h := Option.some.inj h
          exact W.zret (ty := .boolean) (v := r140.1) hx hb hr (bv_n gz) (fun t ht hW => ⟨⟨r140.1, (), rfl, p_fst h, w_end ht hM (p_snd h)⟩, hS.F ht⟩) hS.2.2 dX4_readsCoin_143
        · replace h := ite_t h c132
          refine lv_iconst (v := 0) hx hb dX4_readsCoin_135 (by decide) ?_
          have h := Option.some.inj h
          exact W.zret (ty := .boolean) (v := (0 : Int32)) hx hb hr rfl (fun t ht hW => ⟨⟨(0 : Int32), (), rfl, p_fst h, w_end ht hM (p_snd h)⟩, hS.F ht⟩) hS.2.2 dX4_readsCoin_136
      · replace h := ite_f h c82
        refine lv_aload_n hx hb dX4_readsCoin_85 rfl (lv_at hl 0 rfl) ?_
        refine k_getI (C := RX4) (T := TX4) (N := 10) hx hb hts iX4 hown hK hM 0 rfl rfl 7 (by decide) rfl w5 (fun _ h9 => h9) dX4_readsCoin_86 ?_
        refine lv_iload_n hx hb dX4_readsCoin_89 rfl (lv_at hl 1 rfl) ?_
        refine lv_iconst (v := 3) hx hb dX4_readsCoin_90 (by decide) ?_
        refine lv_iadd hx hb dX4_readsCoin_91 ?_
        refine lv_icmp_ge (tgt := 127) hx hb dX4_readsCoin_92 (by decide) (fun c92 => ?_) (fun c92 => ?_)
        · replace h := ite_t h c92
          refine lv_aload_n hx hb dX4_readsCoin_127 rfl (lv_at hl 0 rfl) ?_
          refine k_getI (C := RX4) (T := TX4) (N := 10) hx hb hts iX4 hown hK hM 0 rfl rfl 7 (by decide) rfl w5 (fun _ h9 => h9) dX4_readsCoin_128 ?_
          refine lv_iload_n hx hb dX4_readsCoin_131 rfl (lv_at hl 1 rfl) ?_
          refine lv_icmp_ne (tgt := 137) hx hb dX4_readsCoin_132 (by decide) (fun c132 => ?_) (fun c132 => ?_)
          · replace h := ite_f h c132
            refine lv_aload_n hx hb dX4_readsCoin_137 rfl (lv_at hl 0 rfl) ?_
            refine lv_bipush (v := 59) hx hb dX4_readsCoin_138 (by decide) ?_
            obtain ⟨r140, e140, h⟩ := bind_s h
            refine k_cIW (va_runV (As := [.int (59 : Int32)]) (rest := []) ⟨hx, hb, hml, hown, hts⟩ (kX4_passes l D cI cR q G1 K (59 : Int32) hJ r140 e140) (cwV 1 hts gX4_readsCoin_X4_passes rfl rfl rfl (by decide +kernel) ⟨Nat.le_of_ble_eq_true rfl, Nat.le_of_ble_eq_true rfl⟩) (mPreV hK hM 0 rfl rfl) rfl rfl hl.1 rfl (lv_room (Nat.le_of_ble_eq_true rfl)) dX4_readsCoin_140 ⟨Nat.le_of_ble_eq_true rfl, Nat.le_of_ble_eq_true rfl⟩) hS hA (fun H locs hM hS => ?_)
            obtain ⟨gz, h⟩ := grd_s h
            have h := Option.some.inj h
            exact W.zret (ty := .boolean) (v := r140.1) hx hb hr (bv_n gz) (fun t ht hW => ⟨⟨r140.1, (), rfl, p_fst h, w_end ht hM (p_snd h)⟩, hS.F ht⟩) hS.2.2 dX4_readsCoin_143
          · replace h := ite_t h c132
            refine lv_iconst (v := 0) hx hb dX4_readsCoin_135 (by decide) ?_
            have h := Option.some.inj h
            exact W.zret (ty := .boolean) (v := (0 : Int32)) hx hb hr rfl (fun t ht hW => ⟨⟨(0 : Int32), (), rfl, p_fst h, w_end ht hM (p_snd h)⟩, hS.F ht⟩) hS.2.2 dX4_readsCoin_136
        · replace h := ite_f h c92
          refine lv_aload_n hx hb dX4_readsCoin_95 rfl (lv_at hl 0 rfl) ?_
          refine lv_bipush (v := 10) hx hb dX4_readsCoin_96 (by decide) ?_
          refine lv_aload_n hx hb dX4_readsCoin_98 rfl (lv_at hl 0 rfl) ?_
          refine k_getI (C := RX4) (T := TX4) (N := 10) hx hb hts iX4 hown hK hM 0 rfl rfl 9 (by decide) rfl w4 (fun _ h9 => h9) dX4_readsCoin_99 ?_
          refine lv_imul hx hb dX4_readsCoin_102 ?_
          refine lv_aload_n hx hb dX4_readsCoin_103 rfl (lv_at hl 0 rfl) ?_
          obtain ⟨r104, e104, h⟩ := bind_s h
          refine k_cI (va_runV (As := []) (rest := [.int ((10 : Int32) * (G1 0 9)), .ref (q 0)]) ⟨hx, hb, hml, hown, hts⟩ (kX4_here l D cI cR q G1 K r104 e104) (cwV 0 hts gX4_readsCoin_X4_here rfl rfl rfl (by decide +kernel) ⟨Nat.le_of_ble_eq_true rfl, Nat.le_of_ble_eq_true rfl⟩) (mPreV hK hM 0 rfl rfl) rfl rfl hl.1 rfl (lv_room (Nat.le_of_ble_eq_true rfl)) dX4_readsCoin_104 ⟨Nat.le_of_ble_eq_true rfl, Nat.le_of_ble_eq_true rfl⟩) hS hM (fun H locs hM hS => ?_)
          refine lv_iadd hx hb dX4_readsCoin_107 ?_
          refine lv_bipush (v := 48) hx hb dX4_readsCoin_108 (by decide) ?_
          refine lv_isub hx hb dX4_readsCoin_110 ?_
          refine k_putI (C := RX4) (T := TX4) (N := 10) (v := ((((10 : Int32) * (G1 0 9)) + r104) - (48 : Int32))) hx hb hts iX4 tyX4 tyX4_ok nmX4 hown hK hM hJ hA hS 0 rfl rfl 9 (by decide) rfl w4 (fun _ h9 => h9) rfl (by decide +kernel) dX4_readsCoin_111 (fun H locs hM hS => ?_)
          obtain ⟨G113, eG113, h⟩ := olet_s h
          rw [eG113] at hM
          refine lv_aload_n hx hb dX4_readsCoin_114 rfl (lv_at hl 0 rfl) ?_
          refine lv_dup hx hb dX4_readsCoin_115 rfl ?_
          refine k_getI (C := RX4) (T := TX4) (N := 10) hx hb hts iX4 hown hK hM 0 rfl rfl 7 (by decide) rfl w5 (fun _ h9 => h9) dX4_readsCoin_116 ?_
          refine lv_iconst (v := 1) hx hb dX4_readsCoin_119 (by decide) ?_
          refine lv_iadd hx hb dX4_readsCoin_120 ?_
          refine k_putI (C := RX4) (T := TX4) (N := 10) (v := ((G113 0 7) + (1 : Int32))) hx hb hts iX4 tyX4 tyX4_ok nmX4 hown hK hM hJ hA hS 0 rfl rfl 7 (by decide) rfl w5 (fun _ h9 => h9) rfl (by decide +kernel) dX4_readsCoin_121 (fun H locs hM hS => ?_)
          obtain ⟨G123, eG123, h⟩ := olet_s h
          rw [eG123] at hM
          refine lv_goto (tgt := 68) hx hb dX4_readsCoin_124 (by decide) ?_
          exact ih G123 x1 _ _ _ h hM hS (lv_sub hl [0, 1] rfl)
  subst hargs
  have hl := lv_entry ([.ref (q 0)]) (n := 2) (Nat.le_of_ble_eq_true rfl)
  rw [lg_entry_eq]
  generalize (lg_sl ([.ref (q 0)]) ++ List.replicate (2 - (lg_sl ([.ref (q 0)])).length) Slot.unset).toArray = ls at hl ⊢
  have hl : lv_has ls 2 [(0, .ref (q 0))] := hl
  have h := hs
  unfold sX4_readsCoin at h
  have hM0 := hM
  refine lv_aload_n hx hb dX4_readsCoin_0 rfl (lv_at hl 0 rfl) ?_
  obtain ⟨r1, e1, h⟩ := bind_s h
  refine k_cI (va_runV (As := []) (rest := []) ⟨hx, hb, hml, hown, hts⟩ (kX4_here l D cI cR q G K r1 e1) (cwV 0 hts gX4_readsCoin_X4_here rfl rfl rfl (by decide +kernel) ⟨Nat.le_of_ble_eq_true rfl, Nat.le_of_ble_eq_true rfl⟩) (mPreV hK hM 0 rfl rfl) rfl rfl hl.1 rfl (lv_room (Nat.le_of_ble_eq_true rfl)) dX4_readsCoin_1 ⟨Nat.le_of_ble_eq_true rfl, Nat.le_of_ble_eq_true rfl⟩) hS hM (fun H locs hM hS => ?_)
  refine lv_i2l (v := r1.toInt64) hx hb dX4_readsCoin_4 rfl ?_
  refine lv_ldc2 hx hb hown w0 dX4_readsCoin_5 ?_
  refine lv_bipush (v := 48) hx hb dX4_readsCoin_8 (by decide) ?_
  refine lv_aload_n hx hb dX4_readsCoin_10 rfl (lv_at hl 0 rfl) ?_
  refine k_getR (C := RX4) (T := TX4) (N := 10) hx hb hts iX4 hown hK hM 0 rfl rfl 0 (by decide) rfl w1 (fun _ h9 => h9) dX4_readsCoin_11 ?_
  refine lv_iconst (v := 0) hx hb dX4_readsCoin_14 (by decide) ?_
  obtain ⟨g15, h⟩ := grd_s h
  refine k_iald hx hb hK hM 1 rfl g15 dX4_readsCoin_15 ?_
  refine lv_iadd hx hb dX4_readsCoin_16 ?_
  refine lv_i2l (v := ((48 : Int32) + (G 1 (0 : Int32).toNatClampNeg)).toInt64) hx hb dX4_readsCoin_17 rfl ?_
  refine lv_lconst (v := 1) hx hb dX4_readsCoin_18 (by decide) ?_
  refine lv_lsub hx hb dX4_readsCoin_19 ?_
  obtain ⟨r20, e20, h⟩ := bind_s h
  refine k_cI (va_runS (As := [.long r1.toInt64, .long (48 : Int64), .long (((48 : Int32) + (G 1 (0 : Int32).toNatClampNeg)).toInt64 - (1 : Int64))]) (rest := []) ⟨hx, hb, hml, hown, hts⟩ (kX4_in l D cI cR q G K r1.toInt64 (48 : Int64) (((48 : Int32) + (G 1 (0 : Int32).toNatClampNeg)).toInt64 - (1 : Int64)) r20 e20) (va_cwS 3 hts gX4_readsCoin_X4_in rfl rfl rfl (by decide +kernel) ⟨Nat.le_of_ble_eq_true rfl, Nat.le_of_ble_eq_true rfl⟩) (mPreS hK hM) rfl rfl hl.1 rfl (lv_room (Nat.le_of_ble_eq_true rfl)) dX4_readsCoin_20 ⟨Nat.le_of_ble_eq_true rfl, Nat.le_of_ble_eq_true rfl⟩) hS hM (fun H locs hM hS => ?_)
  refine lv_if_ne (tgt := 28) hx hb dX4_readsCoin_23 (by decide) (fun c23 => ?_) (fun c23 => ?_)
  · replace h := ite_f h c23
    refine lv_aload_n hx hb dX4_readsCoin_28 rfl (lv_at hl 0 rfl) ?_
    refine lv_aload_n hx hb dX4_readsCoin_29 rfl (lv_at hl 0 rfl) ?_
    obtain ⟨r30, e30, h⟩ := bind_s h
    refine k_cI (va_runV (As := []) (rest := [.ref (q 0)]) ⟨hx, hb, hml, hown, hts⟩ (kX4_here l D cI cR q G K r30 e30) (cwV 0 hts gX4_readsCoin_X4_here rfl rfl rfl (by decide +kernel) ⟨Nat.le_of_ble_eq_true rfl, Nat.le_of_ble_eq_true rfl⟩) (mPreV hK hM 0 rfl rfl) rfl rfl hl.1 rfl (lv_room (Nat.le_of_ble_eq_true rfl)) dX4_readsCoin_30 ⟨Nat.le_of_ble_eq_true rfl, Nat.le_of_ble_eq_true rfl⟩) hS hM (fun H locs hM hS => ?_)
    refine lv_bipush (v := 48) hx hb dX4_readsCoin_33 (by decide) ?_
    refine lv_isub hx hb dX4_readsCoin_35 ?_
    refine k_putI (C := RX4) (T := TX4) (N := 10) (v := (r30 - (48 : Int32))) hx hb hts iX4 tyX4 tyX4_ok nmX4 hown hK hM hJ hA hS 0 rfl rfl 8 (by decide) rfl w3 (fun _ h9 => h9) rfl (by decide +kernel) dX4_readsCoin_36 (fun H locs hM hS => ?_)
    obtain ⟨G38, eG38, h⟩ := olet_s h
    rw [eG38] at hM
    refine lv_aload_n hx hb dX4_readsCoin_39 rfl (lv_at hl 0 rfl) ?_
    refine lv_iconst (v := 0) hx hb dX4_readsCoin_40 (by decide) ?_
    refine k_putI (C := RX4) (T := TX4) (N := 10) (v := (0 : Int32)) hx hb hts iX4 tyX4 tyX4_ok nmX4 hown hK hM hJ hA hS 0 rfl rfl 9 (by decide) rfl w4 (fun _ h9 => h9) rfl (by decide +kernel) dX4_readsCoin_41 (fun H locs hM hS => ?_)
    obtain ⟨G43, eG43, h⟩ := olet_s h
    rw [eG43] at hM
    refine lv_aload_n hx hb dX4_readsCoin_44 rfl (lv_at hl 0 rfl) ?_
    refine lv_dup hx hb dX4_readsCoin_45 rfl ?_
    refine k_getI (C := RX4) (T := TX4) (N := 10) hx hb hts iX4 hown hK hM 0 rfl rfl 7 (by decide) rfl w5 (fun _ h9 => h9) dX4_readsCoin_46 ?_
    refine lv_iconst (v := 1) hx hb dX4_readsCoin_49 (by decide) ?_
    refine lv_iadd hx hb dX4_readsCoin_50 ?_
    refine k_putI (C := RX4) (T := TX4) (N := 10) (v := ((G43 0 7) + (1 : Int32))) hx hb hts iX4 tyX4 tyX4_ok nmX4 hown hK hM hJ hA hS 0 rfl rfl 7 (by decide) rfl w5 (fun _ h9 => h9) rfl (by decide +kernel) dX4_readsCoin_51 (fun H locs hM hS => ?_)
    obtain ⟨G53, eG53, h⟩ := olet_s h
    rw [eG53] at hM
    refine lv_aload_n hx hb dX4_readsCoin_54 rfl (lv_at hl 0 rfl) ?_
    refine lv_bipush (v := 119) hx hb dX4_readsCoin_55 (by decide) ?_
    obtain ⟨r57, e57, h⟩ := bind_s h
    refine k_cIW (va_runV (As := [.int (119 : Int32)]) (rest := []) ⟨hx, hb, hml, hown, hts⟩ (kX4_passes l D cI cR q G53 K (119 : Int32) hJ r57 e57) (cwV 1 hts gX4_readsCoin_X4_passes rfl rfl rfl (by decide +kernel) ⟨Nat.le_of_ble_eq_true rfl, Nat.le_of_ble_eq_true rfl⟩) (mPreV hK hM 0 rfl rfl) rfl rfl hl.1 rfl (lv_room (Nat.le_of_ble_eq_true rfl)) dX4_readsCoin_57 ⟨Nat.le_of_ble_eq_true rfl, Nat.le_of_ble_eq_true rfl⟩) hS hA (fun H locs hM hS => ?_)
    refine lv_if_eq (tgt := 137) hx hb dX4_readsCoin_60 (by decide) (fun c60 => ?_) (fun c60 => ?_)
    · replace h := ite_t h c60
      refine lv_aload_n hx hb dX4_readsCoin_137 rfl (lv_at hl 0 rfl) ?_
      refine lv_bipush (v := 59) hx hb dX4_readsCoin_138 (by decide) ?_
      obtain ⟨r140, e140, h⟩ := bind_s h
      refine k_cIW (va_runV (As := [.int (59 : Int32)]) (rest := []) ⟨hx, hb, hml, hown, hts⟩ (kX4_passes l D cI cR q r57.2 K (59 : Int32) hJ r140 e140) (cwV 1 hts gX4_readsCoin_X4_passes rfl rfl rfl (by decide +kernel) ⟨Nat.le_of_ble_eq_true rfl, Nat.le_of_ble_eq_true rfl⟩) (mPreV hK hM 0 rfl rfl) rfl rfl hl.1 rfl (lv_room (Nat.le_of_ble_eq_true rfl)) dX4_readsCoin_140 ⟨Nat.le_of_ble_eq_true rfl, Nat.le_of_ble_eq_true rfl⟩) hS hA (fun H locs hM hS => ?_)
      obtain ⟨gz, h⟩ := grd_s h
      have h := Option.some.inj h
      exact W.zret (ty := .boolean) (v := r140.1) hx hb hr (bv_n gz) (fun t ht hW => ⟨⟨r140.1, (), rfl, p_fst h, w_end ht hM (p_snd h)⟩, hS.F ht⟩) hS.2.2 dX4_readsCoin_143
    · replace h := ite_f h c60
      refine lv_aload_n hx hb dX4_readsCoin_63 rfl (lv_at hl 0 rfl) ?_
      refine k_getI (C := RX4) (T := TX4) (N := 10) hx hb hts iX4 hown hK hM 0 rfl rfl 7 (by decide) rfl w5 (fun _ h9 => h9) dX4_readsCoin_64 ?_
      refine lv_istore_n (lv' := [(1, .int (r57.2 0 7)), (0, .ref (q 0))]) hx hb dX4_readsCoin_67 rfl hl (by decide) rfl (fun ls hl => ?_)
      exact L68 K r57.2 (r57.2 0 7) _ _ _ h hM hS (lv_sub hl [1, 0] rfl)
  · replace h := ite_t h c23
    refine lv_iconst (v := 0) hx hb dX4_readsCoin_26 (by decide) ?_
    have h := Option.some.inj h
    exact W.zret (ty := .boolean) (v := (0 : Int32)) hx hb hr rfl (fun t ht hW => ⟨⟨(0 : Int32), (), rfl, p_fst h, w_end ht hM (p_snd h)⟩, hS.F ht⟩) hS.2.2 dX4_readsCoin_27
set_option maxHeartbeats 4000000 in
set_option maxRecDepth 100000 in
theorem kX4_parse (l : Launch) (D : va_G) (cI cR : ClassId) (q : Nat → Nat) (G : Nat → Nat → Int32) (K : Nat) (hJ : MJ tmM q) (r : (Int32 × (Nat → Nat → Int32))) (hs : sX4_parse K G  = some r) : Met l yX4_parse wsX4_parse ({ frames := 4, cells := 0, slots := 0, locals := 91 } : Room) (mPre [.ref (q 0)] D cI cR q tmM G) (mIW D cI cR q tmM r) 0 0 (MA tmM q) := by
  refine Met.ofW (cc := cX4_parse) (maxL := 3) (ret := (some .int)) (by decide) rfl ?_
  intro p e s m args below meth c s₁ B hml hv
  obtain ⟨hargs, hM, hK⟩ := hv
  have hx := B.exec
  have hb := B.bytes
  have hr := B.returns
  have hts := atoms_spec (ws := wsX4_parse) B.pre
  have hown : s.vm.findClass RX4 = some m.cls := findClass_of_methodNamed B.named
  have hlocks := B.notSynchronized
  have hA : ∀ a, MA tmM q a → MA tmM q a := fun _ h => h
  have hS : va_S (MA tmM q) s.heap s.heap [] := va_S.rf
  have w0 := hts (Cond.fieldLink RX4 172 "CoinRailsModel" "place" "I") (List.mem_of_getElem? (i := 1) (by decide +kernel))
  have iX4 : ∀ w ∈ wsX40, w ∈ wsX4_parse := fun _ h => List.mem_cons_of_mem _ (List.mem_append_right _ (h))
  have w2 := hts (Cond.fieldLink RX4 169 "CoinRailsModel" "textLong" "I") (List.mem_of_getElem? (i := 2) (by decide +kernel))
  have w3 := hts (Cond.fieldLink RX4 180 "CoinRailsModel" "readKind" "I") (List.mem_of_getElem? (i := 3) (by decide +kernel))
  have w4 := hts (Cond.fieldLink RX4 183 "CoinRailsModel" "readWear" "I") (List.mem_of_getElem? (i := 4) (by decide +kernel))
  have w5 := hts (Cond.constantLong RX4 44 (5)) (List.mem_of_getElem? (i := 5) (by decide +kernel))
  have L46 : ∀ (n : Nat), ∀ (G1 : Nat → Nat → Int32) (x1 : Int32) (H : Heap) (locs : List Loc) (ls : Array Slot), sX4_parse_L46 K n G1 x1 = some r → MW D cI cR q tmM G1 H → va_S (MA tmM q) s.heap H locs → lv_has ls 3 [(0, .ref (q 0)), (1, .int x1)] → W p l e (headSpec wsX4_parse ({ frames := 4, cells := 0, slots := 0, locals := 91 } : Room)).room s m args below meth c H locs 0 0 (MQ below (mIW D cI cR q tmM r) args s 0 0 (MA tmM q)) (F0 m 46 ls []) := by
    clear hM hS
    intro n
    induction n with
    | zero => exact fun _ _ _ _ _ h => absurd h (by simp [sX4_parse_L46])
    | succ n ih =>
      intro G1 x1 H locs ls h hM hS hl
      rw [sX4_parse_L46] at h
      refine lv_aload_n hx hb dX4_parse_46 rfl (lv_at hl 0 rfl) ?_
      refine k_getI (C := RX4) (T := TX4) (N := 10) hx hb hts iX4 hown hK hM 0 rfl rfl 7 (by decide) rfl w0 (fun _ h9 => h9) dX4_parse_47 ?_
      refine lv_aload_n hx hb dX4_parse_50 rfl (lv_at hl 0 rfl) ?_
      refine k_getI (C := RX4) (T := TX4) (N := 10) hx hb hts iX4 hown hK hM 0 rfl rfl 6 (by decide) rfl w2 (fun _ h9 => h9) dX4_parse_51 ?_
      refine lv_icmp_ge (tgt := 100) hx hb dX4_parse_54 (by decide) (fun c54 => ?_) (fun c54 => ?_)
      · replace h := ite_t h c54
        refine lv_aload_n hx hb dX4_parse_100 rfl (lv_at hl 0 rfl) ?_
        refine lv_iload_n hx hb dX4_parse_101 rfl (lv_at hl 1 rfl) ?_
        obtain ⟨r102, e102, h⟩ := bind_s h
        refine k_cIW (va_runV (As := [.int x1]) (rest := []) ⟨hx, hb, hml, hown, hts⟩ (kX4_fine l D cI cR q G1 K x1 hJ r102 e102) (cwV 1 hts gX4_parse_X4_fine rfl rfl rfl (by decide +kernel) ⟨Nat.le_of_ble_eq_true rfl, Nat.le_of_ble_eq_true rfl⟩) (mPreV hK hM 0 rfl rfl) rfl rfl hl.1 rfl (lv_room (Nat.le_of_ble_eq_true rfl)) dX4_parse_102 ⟨Nat.le_of_ble_eq_true rfl, Nat.le_of_ble_eq_true rfl⟩) hS hA (fun H locs hM hS => ?_)
        have h := Option.some.inj h
        exact W.iret (v := r102.1) hx hb hr (fun t ht hW => ⟨⟨r102.1, (), rfl, p_fst h, w_end ht hM (p_snd h)⟩, hS.F ht⟩) hS.2.2 dX4_parse_105
      · replace h := ite_f h c54
        refine lv_aload_n hx hb dX4_parse_57 rfl (lv_at hl 0 rfl) ?_
        obtain ⟨r58, e58, h⟩ := bind_s h
        refine k_cIW (va_runV (As := []) (rest := []) ⟨hx, hb, hml, hown, hts⟩ (kX4_readsCoin l D cI cR q G1 K hJ r58 e58) (cwV 0 hts gX4_parse_X4_readsCoin rfl rfl rfl (by decide +kernel) ⟨Nat.le_of_ble_eq_true rfl, Nat.le_of_ble_eq_true rfl⟩) (mPreV hK hM 0 rfl rfl) rfl rfl hl.1 rfl (lv_room (Nat.le_of_ble_eq_true rfl)) dX4_parse_58 ⟨Nat.le_of_ble_eq_true rfl, Nat.le_of_ble_eq_true rfl⟩) hS hA (fun H locs hM hS => ?_)
        refine lv_istore_n (lv' := [(2, .int r58.1), (0, .ref (q 0)), (1, .int x1)]) hx hb dX4_parse_61 rfl hl (by decide) rfl (fun ls hl => ?_)
        refine lv_iload_n hx hb dX4_parse_62 rfl (lv_at hl 2 rfl) ?_
        refine lv_iload_n hx hb dX4_parse_63 rfl (lv_at hl 0 rfl) ?_
        refine lv_if_eq (tgt := 94) hx hb dX4_parse_64 (by decide) (fun c64 => ?_) (fun c64 => ?_)
        · replace h := ite_t h c64
          refine lv_iconst (v := 0) hx hb dX4_parse_94 (by decide) ?_
          refine lv_iadd hx hb dX4_parse_95 ?_
          refine lv_istore_n (lv' := [(1, .int (x1 + (0 : Int32))), (2, .int r58.1), (0, .ref (q 0))]) hx hb dX4_parse_96 rfl hl (by decide) rfl (fun ls hl => ?_)
          refine lv_goto (tgt := 46) hx hb dX4_parse_97 (by decide) ?_
          exact ih r58.2 (x1 + (0 : Int32)) _ _ _ h hM hS (lv_sub hl [2, 0] rfl)
        · replace h := ite_f h c64
          refine lv_aload_n hx hb dX4_parse_67 rfl (lv_at hl 1 rfl) ?_
          refine lv_aload_n hx hb dX4_parse_68 rfl (lv_at hl 1 rfl) ?_
          refine k_getI (C := RX4) (T := TX4) (N := 10) hx hb hts iX4 hown hK hM 0 rfl rfl 8 (by decide) rfl w3 (fun _ h9 => h9) dX4_parse_69 ?_
          refine lv_aload_n hx hb dX4_parse_72 rfl (lv_at hl 1 rfl) ?_
          refine k_getI (C := RX4) (T := TX4) (N := 10) hx hb hts iX4 hown hK hM 0 rfl rfl 9 (by decide) rfl w4 (fun _ h9 => h9) dX4_parse_73 ?_
          obtain ⟨r76, e76, h⟩ := bind_s h
          refine k_cIW (va_runV (As := [.int (r58.2 0 8), .int (r58.2 0 9)]) (rest := [.int x1]) ⟨hx, hb, hml, hown, hts⟩ (kX4_feeds l D cI cR q r58.2 K (r58.2 0 8) (r58.2 0 9) hJ r76 e76) (cwV 2 hts gX4_parse_X4_feeds rfl rfl rfl (by decide +kernel) ⟨Nat.le_of_ble_eq_true rfl, Nat.le_of_ble_eq_true rfl⟩) (mPreV hK hM 0 rfl rfl) rfl rfl hl.1 rfl (lv_room (Nat.le_of_ble_eq_true rfl)) dX4_parse_76 ⟨Nat.le_of_ble_eq_true rfl, Nat.le_of_ble_eq_true rfl⟩) hS hA (fun H locs hM hS => ?_)
          refine lv_i2l (v := r76.1.toInt64) hx hb dX4_parse_79 rfl ?_
          refine lv_lconst (v := 0) hx hb dX4_parse_80 (by decide) ?_
          refine lv_ldc2 hx hb hown w5 dX4_parse_81 ?_
          obtain ⟨r84, e84, h⟩ := bind_s h
          refine k_cI (va_runS (As := [.long r76.1.toInt64, .long (0 : Int64), .long (5 : Int64)]) (rest := [.int x1]) ⟨hx, hb, hml, hown, hts⟩ (kX4_in l D cI cR q r76.2 K r76.1.toInt64 (0 : Int64) (5 : Int64) r84 e84) (va_cwS 3 hts gX4_parse_X4_in rfl rfl rfl (by decide +kernel) ⟨Nat.le_of_ble_eq_true rfl, Nat.le_of_ble_eq_true rfl⟩) (mPreS hK hM) rfl rfl hl.1 rfl (lv_room (Nat.le_of_ble_eq_true rfl)) dX4_parse_84 ⟨Nat.le_of_ble_eq_true rfl, Nat.le_of_ble_eq_true rfl⟩) hS hM (fun H locs hM hS => ?_)
          refine lv_if_eq (tgt := 94) hx hb dX4_parse_87 (by decide) (fun c87 => ?_) (fun c87 => ?_)
          · replace h := ite_t h c87
            refine lv_iconst (v := 0) hx hb dX4_parse_94 (by decide) ?_
            refine lv_iadd hx hb dX4_parse_95 ?_
            refine lv_istore_n (lv' := [(1, .int (x1 + (0 : Int32))), (2, .int r58.1), (0, .ref (q 0))]) hx hb dX4_parse_96 rfl hl (by decide) rfl (fun ls hl => ?_)
            refine lv_goto (tgt := 46) hx hb dX4_parse_97 (by decide) ?_
            exact ih r76.2 (x1 + (0 : Int32)) _ _ _ h hM hS (lv_sub hl [2, 0] rfl)
          · replace h := ite_f h c87
            refine lv_iconst (v := 1) hx hb dX4_parse_90 (by decide) ?_
            refine lv_goto (tgt := 95) hx hb dX4_parse_91 (by decide) ?_
            refine lv_iadd hx hb dX4_parse_95 ?_
            refine lv_istore_n (lv' := [(1, .int (x1 + (1 : Int32))), (2, .int r58.1), (0, .ref (q 0))]) hx hb dX4_parse_96 rfl hl (by decide) rfl (fun ls hl => ?_)
            refine lv_goto (tgt := 46) hx hb dX4_parse_97 (by decide) ?_
            exact ih r76.2 (x1 + (1 : Int32)) _ _ _ h hM hS (lv_sub hl [2, 0] rfl)
  have L5 : ∀ (n : Nat), ∀ (G1 : Nat → Nat → Int32) (H : Heap) (locs : List Loc) (ls : Array Slot), sX4_parse_L5 K n G1  = some r → MW D cI cR q tmM G1 H → va_S (MA tmM q) s.heap H locs → lv_has ls 3 [(0, .ref (q 0))] → W p l e (headSpec wsX4_parse ({ frames := 4, cells := 0, slots := 0, locals := 91 } : Room)).room s m args below meth c H locs 0 0 (MQ below (mIW D cI cR q tmM r) args s 0 0 (MA tmM q)) (F0 m 5 ls []) := by
    clear hM hS
    intro n
    induction n with
    | zero => exact fun _  _ _ _ h => absurd h (by simp [sX4_parse_L5])
    | succ n ih =>
      intro G1  H locs ls h hM hS hl
      rw [sX4_parse_L5] at h
      refine lv_aload_n hx hb dX4_parse_5 rfl (lv_at hl 0 rfl) ?_
      refine k_getI (C := RX4) (T := TX4) (N := 10) hx hb hts iX4 hown hK hM 0 rfl rfl 7 (by decide) rfl w0 (fun _ h9 => h9) dX4_parse_6 ?_
      refine lv_aload_n hx hb dX4_parse_9 rfl (lv_at hl 0 rfl) ?_
      refine k_getI (C := RX4) (T := TX4) (N := 10) hx hb hts iX4 hown hK hM 0 rfl rfl 6 (by decide) rfl w2 (fun _ h9 => h9) dX4_parse_10 ?_
      refine lv_icmp_ge (tgt := 35) hx hb dX4_parse_13 (by decide) (fun c13 => ?_) (fun c13 => ?_)
      · replace h := ite_t h c13
        refine lv_aload_n hx hb dX4_parse_35 rfl (lv_at hl 0 rfl) ?_
        obtain ⟨r36, e36, h⟩ := bind_s h
        refine k_cVW (va_runV (As := []) (rest := []) ⟨hx, hb, hml, hown, hts⟩ (kX4_save l D cI cR q G1 K hJ r36 e36) (cwV 0 hts gX4_parse_X4_save rfl rfl rfl (by decide +kernel) ⟨Nat.le_of_ble_eq_true rfl, Nat.le_of_ble_eq_true rfl⟩) (mPreV hK hM 0 rfl rfl) rfl rfl hl.1 rfl (lv_room (Nat.le_of_ble_eq_true rfl)) dX4_parse_36 ⟨Nat.le_of_ble_eq_true rfl, Nat.le_of_ble_eq_true rfl⟩) hS hA (fun H locs hM hS => ?_)
        refine lv_iconst (v := 0) hx hb dX4_parse_39 (by decide) ?_
        refine lv_istore_n (lv' := [(1, .int (0 : Int32)), (0, .ref (q 0))]) hx hb dX4_parse_40 rfl hl (by decide) rfl (fun ls hl => ?_)
        refine lv_aload_n hx hb dX4_parse_41 rfl (lv_at hl 1 rfl) ?_
        refine lv_iconst (v := 0) hx hb dX4_parse_42 (by decide) ?_
        refine k_putI (C := RX4) (T := TX4) (N := 10) (v := (0 : Int32)) hx hb hts iX4 tyX4 tyX4_ok nmX4 hown hK hM hJ hA hS 0 rfl rfl 7 (by decide) rfl w0 (fun _ h9 => h9) rfl (by decide +kernel) dX4_parse_43 (fun H locs hM hS => ?_)
        obtain ⟨G45, eG45, h⟩ := olet_s h
        rw [eG45] at hM
        exact L46 K G45 (0 : Int32) _ _ _ h hM hS (lv_sub hl [1, 0] rfl)
      · replace h := ite_f h c13
        refine lv_aload_n hx hb dX4_parse_16 rfl (lv_at hl 0 rfl) ?_
        obtain ⟨r17, e17, h⟩ := bind_s h
        refine k_cIW (va_runV (As := []) (rest := []) ⟨hx, hb, hml, hown, hts⟩ (kX4_readsCoin l D cI cR q G1 K hJ r17 e17) (cwV 0 hts gX4_parse_X4_readsCoin rfl rfl rfl (by decide +kernel) ⟨Nat.le_of_ble_eq_true rfl, Nat.le_of_ble_eq_true rfl⟩) (mPreV hK hM 0 rfl rfl) rfl rfl hl.1 rfl (lv_room (Nat.le_of_ble_eq_true rfl)) dX4_parse_17 ⟨Nat.le_of_ble_eq_true rfl, Nat.le_of_ble_eq_true rfl⟩) hS hA (fun H locs hM hS => ?_)
        refine lv_if_ne (tgt := 5) hx hb dX4_parse_20 (by decide) (fun c20 => ?_) (fun c20 => ?_)
        · replace h := ite_f h c20
          exact ih r17.2 _ _ _ h hM hS (lv_sub hl [0] rfl)
        · replace h := ite_t h c20
          refine lv_aload_n hx hb dX4_parse_23 rfl (lv_at hl 0 rfl) ?_
          refine lv_bipush (v := -10) hx hb dX4_parse_24 (by decide) ?_
          refine lv_aload_n hx hb dX4_parse_26 rfl (lv_at hl 0 rfl) ?_
          refine k_getI (C := RX4) (T := TX4) (N := 10) hx hb hts iX4 hown hK hM 0 rfl rfl 7 (by decide) rfl w0 (fun _ h9 => h9) dX4_parse_27 ?_
          refine lv_isub hx hb dX4_parse_30 ?_
          obtain ⟨r31, e31, h⟩ := bind_s h
          refine k_cIW (va_runV (As := [.int ((-10 : Int32) - (r17.2 0 7))]) (rest := []) ⟨hx, hb, hml, hown, hts⟩ (kX4_fine l D cI cR q r17.2 K ((-10 : Int32) - (r17.2 0 7)) hJ r31 e31) (cwV 1 hts gX4_parse_X4_fine rfl rfl rfl (by decide +kernel) ⟨Nat.le_of_ble_eq_true rfl, Nat.le_of_ble_eq_true rfl⟩) (mPreV hK hM 0 rfl rfl) rfl rfl hl.1 rfl (lv_room (Nat.le_of_ble_eq_true rfl)) dX4_parse_31 ⟨Nat.le_of_ble_eq_true rfl, Nat.le_of_ble_eq_true rfl⟩) hS hA (fun H locs hM hS => ?_)
          have h := Option.some.inj h
          exact W.iret (v := r31.1) hx hb hr (fun t ht hW => ⟨⟨r31.1, (), rfl, p_fst h, w_end ht hM (p_snd h)⟩, hS.F ht⟩) hS.2.2 dX4_parse_34
  subst hargs
  have hl := lv_entry ([.ref (q 0)]) (n := 3) (Nat.le_of_ble_eq_true rfl)
  rw [lg_entry_eq]
  generalize (lg_sl ([.ref (q 0)]) ++ List.replicate (3 - (lg_sl ([.ref (q 0)])).length) Slot.unset).toArray = ls at hl ⊢
  have hl : lv_has ls 3 [(0, .ref (q 0))] := hl
  have h := hs
  unfold sX4_parse at h
  have hM0 := hM
  refine lv_aload_n hx hb dX4_parse_0 rfl (lv_at hl 0 rfl) ?_
  refine lv_iconst (v := 0) hx hb dX4_parse_1 (by decide) ?_
  refine k_putI (C := RX4) (T := TX4) (N := 10) (v := (0 : Int32)) hx hb hts iX4 tyX4 tyX4_ok nmX4 hown hK hM hJ hA hS 0 rfl rfl 7 (by decide) rfl w0 (fun _ h9 => h9) rfl (by decide +kernel) dX4_parse_2 (fun H locs hM hS => ?_)
  obtain ⟨G4, eG4, h⟩ := olet_s h
  rw [eG4] at hM
  exact L5 K G4 _ _ _ h hM hS (lv_sub hl [0] rfl)
set_option maxHeartbeats 4000000 in
set_option maxRecDepth 100000 in
theorem kX4_undo (l : Launch) (D : va_G) (cI cR : ClassId) (q : Nat → Nat) (G : Nat → Nat → Int32) (K : Nat) (hJ : MJ tmM q) (r : (Int32 × (Nat → Nat → Int32))) (hs : sX4_undo K G  = some r) : Met l yX4_undo wsX4_undo ({ frames := 1, cells := 0, slots := 0, locals := 21 } : Room) (mPre [.ref (q 0)] D cI cR q tmM G) (mIW D cI cR q tmM r) 0 0 (MA tmM q) := by
  refine Met.ofW (cc := cX4_undo) (maxL := 2) (ret := (some .int)) (by decide) rfl ?_
  intro p e s m args below meth c s₁ B hml hv
  obtain ⟨hargs, hM, hK⟩ := hv
  have hx := B.exec
  have hb := B.bytes
  have hr := B.returns
  have hts := atoms_spec (ws := wsX4_undo) B.pre
  have hown : s.vm.findClass RX4 = some m.cls := findClass_of_methodNamed B.named
  have hlocks := B.notSynchronized
  have hA : ∀ a, MA tmM q a → MA tmM q a := fun _ h => h
  have hS : va_S (MA tmM q) s.heap s.heap [] := va_S.rf
  have w0 := hts (Cond.fieldLink RX4 34 "CoinRailsModel" "savedMany" "I") (List.mem_of_getElem? (i := 1) (by decide +kernel))
  have iX4 : ∀ w ∈ wsX40, w ∈ wsX4_undo := fun _ h => List.mem_cons_of_mem _ (List.mem_append_right _ (h))
  have w2 := hts (Cond.fieldLink RX4 7 "CoinRailsModel" "all" "[I") (List.mem_of_getElem? (i := 2) (by decide +kernel))
  have w3 := hts (Cond.fieldLink RX4 13 "CoinRailsModel" "saved" "[I") (List.mem_of_getElem? (i := 3) (by decide +kernel))
  have L25 : ∀ (n : Nat), ∀ (G1 : Nat → Nat → Int32) (x1 : Int32) (H : Heap) (locs : List Loc) (ls : Array Slot), sX4_undo_L25 K n G1 x1 = some r → MW D cI cR q tmM G1 H → va_S (MA tmM q) s.heap H locs → lv_has ls 2 [(0, .ref (q 0)), (1, .int x1)] → W p l e (headSpec wsX4_undo ({ frames := 1, cells := 0, slots := 0, locals := 21 } : Room)).room s m args below meth c H locs 0 0 (MQ below (mIW D cI cR q tmM r) args s 0 0 (MA tmM q)) (F0 m 25 ls []) := by
    clear hM hS
    intro n
    induction n with
    | zero => exact fun _ _ _ _ _ h => absurd h (by simp [sX4_undo_L25])
    | succ n ih =>
      intro G1 x1 H locs ls h hM hS hl
      rw [sX4_undo_L25] at h
      refine lv_iload_n hx hb dX4_undo_25 rfl (lv_at hl 1 rfl) ?_
      refine lv_bipush (v := 99) hx hb dX4_undo_26 (by decide) ?_
      refine lv_icmp_ge (tgt := 57) hx hb dX4_undo_28 (by decide) (fun c28 => ?_) (fun c28 => ?_)
      · replace h := ite_t h c28
        refine lv_aload_n hx hb dX4_undo_57 rfl (lv_at hl 0 rfl) ?_
        refine lv_aload_n hx hb dX4_undo_58 rfl (lv_at hl 0 rfl) ?_
        refine k_getI (C := RX4) (T := TX4) (N := 10) hx hb hts iX4 hown hK hM 0 rfl rfl 3 (by decide) rfl w0 (fun _ h9 => h9) dX4_undo_59 ?_
        obtain ⟨r62, e62, h⟩ := bind_s h
        refine k_cIW (va_runV (As := [.int (G1 0 3)]) (rest := []) ⟨hx, hb, hml, hown, hts⟩ (kX4_fine l D cI cR q G1 K (G1 0 3) hJ r62 e62) (cwV 1 hts gX4_undo_X4_fine rfl rfl rfl (by decide +kernel) ⟨Nat.le_of_ble_eq_true rfl, Nat.le_of_ble_eq_true rfl⟩) (mPreV hK hM 0 rfl rfl) rfl rfl hl.1 rfl (lv_room (Nat.le_of_ble_eq_true rfl)) dX4_undo_62 ⟨Nat.le_of_ble_eq_true rfl, Nat.le_of_ble_eq_true rfl⟩) hS hA (fun H locs hM hS => ?_)
        have h := Option.some.inj h
        exact W.iret (v := r62.1) hx hb hr (fun t ht hW => ⟨⟨r62.1, (), rfl, p_fst h, w_end ht hM (p_snd h)⟩, hS.F ht⟩) hS.2.2 dX4_undo_65
      · replace h := ite_f h c28
        refine lv_aload_n hx hb dX4_undo_31 rfl (lv_at hl 0 rfl) ?_
        refine k_getR (C := RX4) (T := TX4) (N := 10) hx hb hts iX4 hown hK hM 0 rfl rfl 0 (by decide) rfl w2 (fun _ h9 => h9) dX4_undo_32 ?_
        refine lv_iload_n hx hb dX4_undo_35 rfl (lv_at hl 1 rfl) ?_
        refine lv_aload_n hx hb dX4_undo_36 rfl (lv_at hl 0 rfl) ?_
        refine k_getR (C := RX4) (T := TX4) (N := 10) hx hb hts iX4 hown hK hM 0 rfl rfl 1 (by decide) rfl w3 (fun _ h9 => h9) dX4_undo_37 ?_
        refine lv_bipush (v := 99) hx hb dX4_undo_40 (by decide) ?_
        refine lv_aload_n hx hb dX4_undo_42 rfl (lv_at hl 0 rfl) ?_
        refine k_getI (C := RX4) (T := TX4) (N := 10) hx hb hts iX4 hown hK hM 0 rfl rfl 3 (by decide) rfl w0 (fun _ h9 => h9) dX4_undo_43 ?_
        refine lv_imul hx hb dX4_undo_46 ?_
        refine lv_iload_n hx hb dX4_undo_47 rfl (lv_at hl 1 rfl) ?_
        refine lv_iadd hx hb dX4_undo_48 ?_
        obtain ⟨g49, h⟩ := grd_s h
        refine k_iald hx hb hK hM 2 rfl g49 dX4_undo_49 ?_
        obtain ⟨g50, h⟩ := grd_s h
        refine k_iast (v := (G1 2 (((99 : Int32) * (G1 0 3)) + x1).toNatClampNeg)) hx hb hK hM hJ hA hS 1 rfl g50 dX4_undo_50 (fun H locs hM hS => ?_)
        obtain ⟨G52, eG52, h⟩ := olet_s h
        rw [eG52] at hM
        refine lv_iinc (v := (x1 + 1)) (lv' := [(1, .int (x1 + 1)), (0, .ref (q 0))]) hx hb dX4_undo_51 hl (k := 1) rfl (congrArg (fun z : Int32 => x1 + z) (show Int32.ofInt (1) = 1 by decide)) (by decide) rfl (fun ls hl => ?_)
        refine lv_goto (tgt := 25) hx hb dX4_undo_54 (by decide) ?_
        exact ih G52 (x1 + 1) _ _ _ h hM hS (lv_sub hl [1, 0] rfl)
  subst hargs
  have hl := lv_entry ([.ref (q 0)]) (n := 2) (Nat.le_of_ble_eq_true rfl)
  rw [lg_entry_eq]
  generalize (lg_sl ([.ref (q 0)]) ++ List.replicate (2 - (lg_sl ([.ref (q 0)])).length) Slot.unset).toArray = ls at hl ⊢
  have hl : lv_has ls 2 [(0, .ref (q 0))] := hl
  have h := hs
  unfold sX4_undo at h
  have hM0 := hM
  refine lv_aload_n hx hb dX4_undo_0 rfl (lv_at hl 0 rfl) ?_
  refine k_getI (C := RX4) (T := TX4) (N := 10) hx hb hts iX4 hown hK hM 0 rfl rfl 3 (by decide) rfl w0 (fun _ h9 => h9) dX4_undo_1 ?_
  refine lv_if_ne (tgt := 13) hx hb dX4_undo_4 (by decide) (fun c4 => ?_) (fun c4 => ?_)
  · replace h := ite_f h c4
    refine lv_aload_n hx hb dX4_undo_13 rfl (lv_at hl 0 rfl) ?_
    refine lv_dup hx hb dX4_undo_14 rfl ?_
    refine k_getI (C := RX4) (T := TX4) (N := 10) hx hb hts iX4 hown hK hM 0 rfl rfl 3 (by decide) rfl w0 (fun _ h9 => h9) dX4_undo_15 ?_
    refine lv_iconst (v := 1) hx hb dX4_undo_18 (by decide) ?_
    refine lv_isub hx hb dX4_undo_19 ?_
    refine k_putI (C := RX4) (T := TX4) (N := 10) (v := ((G 0 3) - (1 : Int32))) hx hb hts iX4 tyX4 tyX4_ok nmX4 hown hK hM hJ hA hS 0 rfl rfl 3 (by decide) rfl w0 (fun _ h9 => h9) rfl (by decide +kernel) dX4_undo_20 (fun H locs hM hS => ?_)
    obtain ⟨G22, eG22, h⟩ := olet_s h
    rw [eG22] at hM
    refine lv_iconst (v := 0) hx hb dX4_undo_23 (by decide) ?_
    refine lv_istore_n (lv' := [(1, .int (0 : Int32)), (0, .ref (q 0))]) hx hb dX4_undo_24 rfl hl (by decide) rfl (fun ls hl => ?_)
    exact L25 K G22 (0 : Int32) _ _ _ h hM hS (lv_sub hl [1, 0] rfl)
  · replace h := ite_t h c4
    refine lv_aload_n hx hb dX4_undo_7 rfl (lv_at hl 0 rfl) ?_
    refine lv_iconst (v := 1) hx hb dX4_undo_8 (by decide) ?_
    obtain ⟨r9, e9, h⟩ := bind_s h
    refine k_cIW (va_runV (As := [.int (1 : Int32)]) (rest := []) ⟨hx, hb, hml, hown, hts⟩ (kX4_throwing l D cI cR q G K (1 : Int32) hJ r9 e9) (cwV 1 hts gX4_undo_X4_throwing rfl rfl rfl (by decide +kernel) ⟨Nat.le_of_ble_eq_true rfl, Nat.le_of_ble_eq_true rfl⟩) (mPreV hK hM 0 rfl rfl) rfl rfl hl.1 rfl (lv_room (Nat.le_of_ble_eq_true rfl)) dX4_undo_9 ⟨Nat.le_of_ble_eq_true rfl, Nat.le_of_ble_eq_true rfl⟩) hS hA (fun H locs hM hS => ?_)
    have h := Option.some.inj h
    exact W.iret (v := r9.1) hx hb hr (fun t ht hW => ⟨⟨r9.1, (), rfl, p_fst h, w_end ht hM (p_snd h)⟩, hS.F ht⟩) hS.2.2 dX4_undo_12
set_option maxHeartbeats 4000000 in
set_option maxRecDepth 100000 in
theorem kX4_digest (l : Launch) (D : va_G) (cI cR : ClassId) (q : Nat → Nat) (G : Nat → Nat → Int32) (K : Nat) (hJ : MJ tmM q) (r : (Int64 × (Nat → Nat → Int32))) (hs : sX4_digest K G  = some r) : Met l yX4_digest wsX4_digest ({ frames := 7, cells := 0, slots := 0, locals := 154 } : Room) (mPre [.ref (q 0)] D cI cR q tmM G) (mJW D cI cR q tmM r) 0 0 (MA tmM q) := by
  refine Met.ofW (cc := cX4_digest) (maxL := 5) (ret := (some .long)) (by decide) rfl ?_
  intro p e s m args below meth c s₁ B hml hv
  obtain ⟨hargs, hM, hK⟩ := hv
  have hx := B.exec
  have hb := B.bytes
  have hr := B.returns
  have hts := atoms_spec (ws := wsX4_digest) B.pre
  have hown : s.vm.findClass RX4 = some m.cls := findClass_of_methodNamed B.named
  have hlocks := B.notSynchronized
  have hA : ∀ a, MA tmM q a → MA tmM q a := fun _ h => h
  have hS : va_S (MA tmM q) s.heap s.heap [] := va_S.rf
  have w0 := hts (Cond.fieldLink RX4 30 "CoinRailsModel" "threw" "I") (List.mem_of_getElem? (i := 1) (by decide +kernel))
  have iX4 : ∀ w ∈ wsX40, w ∈ wsX4_digest := fun _ h => List.mem_cons_of_mem _ (List.mem_append_right _ (h))
  have w2 := hts (Cond.constantLong RX4 195 (111383)) (List.mem_of_getElem? (i := 2) (by decide +kernel))
  have w3 := hts (Cond.fieldLink RX4 169 "CoinRailsModel" "textLong" "I") (List.mem_of_getElem? (i := 3) (by decide +kernel))
  have w4 := hts (Cond.fieldLink RX4 7 "CoinRailsModel" "all" "[I") (List.mem_of_getElem? (i := 5) (by decide +kernel))
  have w5 := hts (Cond.constantLong RX4 197 (31)) (List.mem_of_getElem? (i := 4) (by decide +kernel))
  have w6 := hts (Cond.fieldLink RX4 34 "CoinRailsModel" "savedMany" "I") (List.mem_of_getElem? (i := 6) (by decide +kernel))
  have L106 : ∀ (n : Nat), (∀ (G : Nat → Nat → Int32) (x1 : Int64) (x3 : Int32) (H : Heap) (locs : List Loc) (ls : Array Slot), sX4_digest_L106 K G n 0 x1 x3 0 = some r → MW D cI cR q tmM G H → va_S (MA tmM q) s.heap H locs → lv_has ls 5 [(0, .ref (q 0)), (1, .long x1), (3, .int x3)] → W p l e (headSpec wsX4_digest ({ frames := 7, cells := 0, slots := 0, locals := 154 } : Room)).room s m args below meth c H locs 0 0 (MQ below (mJW D cI cR q tmM r) args s 0 0 (MA tmM q)) (F0 m 106 ls [])) ∧ (∀ (G : Nat → Nat → Int32) (x1 : Int64) (x3 : Int32) (x4 : Int32) (H : Heap) (locs : List Loc) (ls : Array Slot), sX4_digest_L106 K G n 1 x1 x3 x4 = some r → MW D cI cR q tmM G H → va_S (MA tmM q) s.heap H locs → lv_has ls 5 [(0, .ref (q 0)), (1, .long x1), (3, .int x3), (4, .int x4)] → W p l e (headSpec wsX4_digest ({ frames := 7, cells := 0, slots := 0, locals := 154 } : Room)).room s m args below meth c H locs 0 0 (MQ below (mJW D cI cR q tmM r) args s 0 0 (MA tmM q)) (F0 m 115 ls [])) ∧ (∀ (G : Nat → Nat → Int32) (x1 : Int64) (x3 : Int32) (x4 : Int32) (H : Heap) (locs : List Loc) (ls : Array Slot), sX4_digest_L106 K G n 2 x1 x3 x4 = some r → MW D cI cR q tmM G H → va_S (MA tmM q) s.heap H locs → lv_has ls 5 [(0, .ref (q 0)), (1, .long x1), (3, .int x3), (4, .int x4)] → W p l e (headSpec wsX4_digest ({ frames := 7, cells := 0, slots := 0, locals := 154 } : Room)).room s m args below meth c H locs 0 0 (MQ below (mJW D cI cR q tmM r) args s 0 0 (MA tmM q)) (F0 m 146 ls [])) := by
    clear hM hS
    intro n
    induction n with
    | zero => exact ⟨fun G _ _ _ _ _ h => absurd h (by simp [sX4_digest_L106]), fun G _ _ _ _ _ _ h => absurd h (by simp [sX4_digest_L106]), fun G _ _ _ _ _ _ h => absurd h (by simp [sX4_digest_L106])⟩
    | succ n ih =>
      refine ⟨?_, ?_, ?_⟩
      · intro G x1 x3 H locs ls h hM hS hl
        rw [sX4_digest_L106] at h
        refine lv_iload_n hx hb dX4_digest_106 rfl (lv_at hl 2 rfl) ?_
        refine lv_bipush (v := 6) hx hb dX4_digest_107 (by decide) ?_
        refine lv_icmp_ge (tgt := 188) hx hb dX4_digest_109 (by decide) (fun c109 => ?_) (fun c109 => ?_)
        · replace h := ite_t h c109
          refine lv_ldc2 hx hb hown w5 dX4_digest_188 ?_
          refine lv_lload_n hx hb dX4_digest_191 rfl (lv_at hl 1 rfl) ?_
          refine lv_lmul hx hb dX4_digest_192 ?_
          refine lv_aload_n hx hb dX4_digest_193 rfl (lv_at hl 0 rfl) ?_
          refine k_getI (C := RX4) (T := TX4) (N := 10) hx hb hts iX4 hown hK hM 0 rfl rfl 3 (by decide) rfl w6 (fun _ h9 => h9) dX4_digest_194 ?_
          refine lv_i2l (v := (G 0 3).toInt64) hx hb dX4_digest_197 rfl ?_
          refine lv_ladd hx hb dX4_digest_198 ?_
          have h := Option.some.inj h
          exact W.lret (v := (((31 : Int64) * x1) + (G 0 3).toInt64)) hx hb hr (fun t ht hW => ⟨⟨(((31 : Int64) * x1) + (G 0 3).toInt64), (), rfl, p_fst h, w_end ht hM (p_snd h)⟩, hS.F ht⟩) hS.2.2 dX4_digest_199
        · replace h := ite_f h c109
          refine lv_iconst (v := 0) hx hb dX4_digest_112 (by decide) ?_
          refine lv_istore (lv' := [(4, .int (0 : Int32)), (0, .ref (q 0)), (1, .long x1), (3, .int x3)]) hx hb dX4_digest_113 hl (by decide) rfl (fun ls hl => ?_)
          exact (ih).2.1 G x1 x3 (0 : Int32) _ _ _ h hM hS (lv_sub hl [1, 2, 3, 0] rfl)
      · intro G x1 x3 x4 H locs ls h hM hS hl
        rw [sX4_digest_L106] at h
        refine lv_iload hx hb dX4_digest_115 (lv_at hl 3 rfl) ?_
        refine lv_bipush (v := 10) hx hb dX4_digest_117 (by decide) ?_
        refine lv_icmp_ge (tgt := 143) hx hb dX4_digest_119 (by decide) (fun c119 => ?_) (fun c119 => ?_)
        · replace h := ite_t h c119
          refine lv_iconst (v := 0) hx hb dX4_digest_143 (by decide) ?_
          refine lv_istore (lv' := [(4, .int (0 : Int32)), (0, .ref (q 0)), (1, .long x1), (3, .int x3)]) hx hb dX4_digest_144 hl (by decide) rfl (fun ls hl => ?_)
          exact (ih).2.2 G x1 x3 (0 : Int32) _ _ _ h hM hS (lv_sub hl [1, 2, 3, 0] rfl)
        · replace h := ite_f h c119
          refine lv_ldc2 hx hb hown w5 dX4_digest_122 ?_
          refine lv_lload_n hx hb dX4_digest_125 rfl (lv_at hl 1 rfl) ?_
          refine lv_lmul hx hb dX4_digest_126 ?_
          refine lv_aload_n hx hb dX4_digest_127 rfl (lv_at hl 0 rfl) ?_
          refine lv_iload_n hx hb dX4_digest_128 rfl (lv_at hl 2 rfl) ?_
          refine lv_iload hx hb dX4_digest_129 (lv_at hl 3 rfl) ?_
          obtain ⟨r131, e131, h⟩ := bind_s h
          refine k_cI (va_runV (As := [.int x3, .int x4]) (rest := [.long ((31 : Int64) * x1)]) ⟨hx, hb, hml, hown, hts⟩ (kX4_railOf l D cI cR q G K x3 x4 r131 e131) (cwV 2 hts gX4_digest_X4_railOf rfl rfl rfl (by decide +kernel) ⟨Nat.le_of_ble_eq_true rfl, Nat.le_of_ble_eq_true rfl⟩) (mPreV hK hM 0 rfl rfl) rfl rfl hl.1 rfl (lv_room (Nat.le_of_ble_eq_true rfl)) dX4_digest_131 ⟨Nat.le_of_ble_eq_true rfl, Nat.le_of_ble_eq_true rfl⟩) hS hM (fun H locs hM hS => ?_)
          refine lv_i2l (v := r131.toInt64) hx hb dX4_digest_134 rfl ?_
          refine lv_ladd hx hb dX4_digest_135 ?_
          refine lv_lstore_n (lv' := [(1, .long (((31 : Int64) * x1) + r131.toInt64)), (0, .ref (q 0)), (3, .int x3), (4, .int x4)]) hx hb dX4_digest_136 rfl hl (by decide) rfl (fun ls hl => ?_)
          refine lv_iinc (v := (x4 + 1)) (lv' := [(4, .int (x4 + 1)), (1, .long (((31 : Int64) * x1) + r131.toInt64)), (0, .ref (q 0)), (3, .int x3)]) hx hb dX4_digest_137 hl (k := 3) rfl (congrArg (fun z : Int32 => x4 + z) (show Int32.ofInt (1) = 1 by decide)) (by decide) rfl (fun ls hl => ?_)
          refine lv_goto (tgt := 115) hx hb dX4_digest_140 (by decide) ?_
          exact (ih).2.1 G (((31 : Int64) * x1) + r131.toInt64) x3 (x4 + 1) _ _ _ h hM hS (lv_sub hl [2, 1, 3, 0] rfl)
      · intro G x1 x3 x4 H locs ls h hM hS hl
        rw [sX4_digest_L106] at h
        refine lv_iload hx hb dX4_digest_146 (lv_at hl 3 rfl) ?_
        refine lv_aload_n hx hb dX4_digest_148 rfl (lv_at hl 0 rfl) ?_
        refine k_getR (C := RX4) (T := TX4) (N := 10) hx hb hts iX4 hown hK hM 0 rfl rfl 0 (by decide) rfl w4 (fun _ h9 => h9) dX4_digest_149 ?_
        refine lv_iconst (v := 0) hx hb dX4_digest_152 (by decide) ?_
        obtain ⟨g153, h⟩ := grd_s h
        refine k_iald hx hb hK hM 1 rfl g153 dX4_digest_153 ?_
        refine lv_icmp_ge (tgt := 182) hx hb dX4_digest_154 (by decide) (fun c154 => ?_) (fun c154 => ?_)
        · replace h := ite_t h c154
          refine lv_iinc (v := (x3 + 1)) (lv' := [(3, .int (x3 + 1)), (0, .ref (q 0)), (1, .long x1), (4, .int x4)]) hx hb dX4_digest_182 hl (k := 2) rfl (congrArg (fun z : Int32 => x3 + z) (show Int32.ofInt (1) = 1 by decide)) (by decide) rfl (fun ls hl => ?_)
          refine lv_goto (tgt := 106) hx hb dX4_digest_185 (by decide) ?_
          exact (ih).1 G x1 (x3 + 1) _ _ _ h hM hS (lv_sub hl [1, 2, 0] rfl)
        · replace h := ite_f h c154
          refine lv_ldc2 hx hb hown w5 dX4_digest_157 ?_
          refine lv_lload_n hx hb dX4_digest_160 rfl (lv_at hl 1 rfl) ?_
          refine lv_lmul hx hb dX4_digest_161 ?_
          refine lv_aload_n hx hb dX4_digest_162 rfl (lv_at hl 0 rfl) ?_
          refine k_getR (C := RX4) (T := TX4) (N := 10) hx hb hts iX4 hown hK hM 0 rfl rfl 0 (by decide) rfl w4 (fun _ h9 => h9) dX4_digest_163 ?_
          refine lv_iload_n hx hb dX4_digest_166 rfl (lv_at hl 2 rfl) ?_
          refine lv_iload hx hb dX4_digest_167 (lv_at hl 3 rfl) ?_
          obtain ⟨r169, e169, h⟩ := bind_s h
          refine k_cI (va_runS (As := [.int x3, .int x4]) (rest := [.ref (q 1), .long ((31 : Int64) * x1)]) ⟨hx, hb, hml, hown, hts⟩ (kX4_countAt l D cI cR q G K x3 x4 r169 e169) (va_cwS 2 hts gX4_digest_X4_countAt rfl rfl rfl (by decide +kernel) ⟨Nat.le_of_ble_eq_true rfl, Nat.le_of_ble_eq_true rfl⟩) (mPreS hK hM) rfl rfl hl.1 rfl (lv_room (Nat.le_of_ble_eq_true rfl)) dX4_digest_169 ⟨Nat.le_of_ble_eq_true rfl, Nat.le_of_ble_eq_true rfl⟩) hS hM (fun H locs hM hS => ?_)
          obtain ⟨g172, h⟩ := grd_s h
          refine k_iald hx hb hK hM 1 rfl g172 dX4_digest_172 ?_
          refine lv_i2l (v := (G 1 r169.toNatClampNeg).toInt64) hx hb dX4_digest_173 rfl ?_
          refine lv_ladd hx hb dX4_digest_174 ?_
          refine lv_lstore_n (lv' := [(1, .long (((31 : Int64) * x1) + (G 1 r169.toNatClampNeg).toInt64)), (0, .ref (q 0)), (3, .int x3), (4, .int x4)]) hx hb dX4_digest_175 rfl hl (by decide) rfl (fun ls hl => ?_)
          refine lv_iinc (v := (x4 + 1)) (lv' := [(4, .int (x4 + 1)), (1, .long (((31 : Int64) * x1) + (G 1 r169.toNatClampNeg).toInt64)), (0, .ref (q 0)), (3, .int x3)]) hx hb dX4_digest_176 hl (k := 3) rfl (congrArg (fun z : Int32 => x4 + z) (show Int32.ofInt (1) = 1 by decide)) (by decide) rfl (fun ls hl => ?_)
          refine lv_goto (tgt := 146) hx hb dX4_digest_179 (by decide) ?_
          exact (ih).2.2 G (((31 : Int64) * x1) + (G 1 r169.toNatClampNeg).toInt64) x3 (x4 + 1) _ _ _ h hM hS (lv_sub hl [2, 1, 3, 0] rfl)
  have L44 : ∀ (n : Nat), (∀ (G1 : Nat → Nat → Int32) (x1 : Int64) (x3 : Int32) (H : Heap) (locs : List Loc) (ls : Array Slot), sX4_digest_L44 K n 0 G1 x1 x3 0 = some r → MW D cI cR q tmM G1 H → va_S (MA tmM q) s.heap H locs → lv_has ls 5 [(0, .ref (q 0)), (1, .long x1), (3, .int x3)] → W p l e (headSpec wsX4_digest ({ frames := 7, cells := 0, slots := 0, locals := 154 } : Room)).room s m args below meth c H locs 0 0 (MQ below (mJW D cI cR q tmM r) args s 0 0 (MA tmM q)) (F0 m 44 ls [])) ∧ (∀ (G1 : Nat → Nat → Int32) (x1 : Int64) (x3 : Int32) (x4 : Int32) (H : Heap) (locs : List Loc) (ls : Array Slot), sX4_digest_L44 K n 1 G1 x1 x3 x4 = some r → MW D cI cR q tmM G1 H → va_S (MA tmM q) s.heap H locs → lv_has ls 5 [(0, .ref (q 0)), (1, .long x1), (3, .int x3), (4, .int x4)] → W p l e (headSpec wsX4_digest ({ frames := 7, cells := 0, slots := 0, locals := 154 } : Room)).room s m args below meth c H locs 0 0 (MQ below (mJW D cI cR q tmM r) args s 0 0 (MA tmM q)) (F0 m 57 ls [])) := by
    clear hM hS
    intro n
    induction n with
    | zero => exact ⟨fun G _ _ _ _ _ h => absurd h (by simp [sX4_digest_L44]), fun G _ _ _ _ _ _ h => absurd h (by simp [sX4_digest_L44])⟩
    | succ n ih =>
      refine ⟨?_, ?_⟩
      · intro G1 x1 x3 H locs ls h hM hS hl
        rw [sX4_digest_L44] at h
        refine lv_iload_n hx hb dX4_digest_44 rfl (lv_at hl 2 rfl) ?_
        refine lv_aload_n hx hb dX4_digest_45 rfl (lv_at hl 0 rfl) ?_
        refine k_getR (C := RX4) (T := TX4) (N := 10) hx hb hts iX4 hown hK hM 0 rfl rfl 0 (by decide) rfl w4 (fun _ h9 => h9) dX4_digest_46 ?_
        refine lv_iconst (v := 0) hx hb dX4_digest_49 (by decide) ?_
        obtain ⟨g50, h⟩ := grd_s h
        refine k_iald hx hb hK hM 1 rfl g50 dX4_digest_50 ?_
        refine lv_icmp_ge (tgt := 104) hx hb dX4_digest_51 (by decide) (fun c51 => ?_) (fun c51 => ?_)
        · replace h := ite_t h c51
          refine lv_iconst (v := 0) hx hb dX4_digest_104 (by decide) ?_
          refine lv_istore_n (lv' := [(3, .int (0 : Int32)), (0, .ref (q 0)), (1, .long x1)]) hx hb dX4_digest_105 rfl hl (by decide) rfl (fun ls hl => ?_)
          exact (L106 K).1 G1 x1 (0 : Int32) _ _ _ h hM hS (lv_sub hl [1, 2, 0] rfl)
        · replace h := ite_f h c51
          refine lv_iconst (v := 0) hx hb dX4_digest_54 (by decide) ?_
          refine lv_istore (lv' := [(4, .int (0 : Int32)), (0, .ref (q 0)), (1, .long x1), (3, .int x3)]) hx hb dX4_digest_55 hl (by decide) rfl (fun ls hl => ?_)
          exact (ih).2 G1 x1 x3 (0 : Int32) _ _ _ h hM hS (lv_sub hl [1, 2, 3, 0] rfl)
      · intro G1 x1 x3 x4 H locs ls h hM hS hl
        rw [sX4_digest_L44] at h
        refine lv_iload hx hb dX4_digest_57 (lv_at hl 3 rfl) ?_
        refine lv_bipush (v := 7) hx hb dX4_digest_59 (by decide) ?_
        refine lv_icmp_ge (tgt := 85) hx hb dX4_digest_61 (by decide) (fun c61 => ?_) (fun c61 => ?_)
        · replace h := ite_t h c61
          refine lv_ldc2 hx hb hown w5 dX4_digest_85 ?_
          refine lv_lload_n hx hb dX4_digest_88 rfl (lv_at hl 1 rfl) ?_
          refine lv_lmul hx hb dX4_digest_89 ?_
          refine lv_aload_n hx hb dX4_digest_90 rfl (lv_at hl 0 rfl) ?_
          refine lv_iload_n hx hb dX4_digest_91 rfl (lv_at hl 2 rfl) ?_
          obtain ⟨r92, e92, h⟩ := bind_s h
          refine k_cIW (va_runV (As := [.int x3]) (rest := [.long ((31 : Int64) * x1)]) ⟨hx, hb, hml, hown, hts⟩ (kX4_mostWearOf l D cI cR q G1 K x3 hJ r92 e92) (cwV 1 hts gX4_digest_X4_mostWearOf rfl rfl rfl (by decide +kernel) ⟨Nat.le_of_ble_eq_true rfl, Nat.le_of_ble_eq_true rfl⟩) (mPreV hK hM 0 rfl rfl) rfl rfl hl.1 rfl (lv_room (Nat.le_of_ble_eq_true rfl)) dX4_digest_92 ⟨Nat.le_of_ble_eq_true rfl, Nat.le_of_ble_eq_true rfl⟩) hS hA (fun H locs hM hS => ?_)
          refine lv_i2l (v := r92.1.toInt64) hx hb dX4_digest_95 rfl ?_
          refine lv_ladd hx hb dX4_digest_96 ?_
          refine lv_lstore_n (lv' := [(1, .long (((31 : Int64) * x1) + r92.1.toInt64)), (0, .ref (q 0)), (3, .int x3), (4, .int x4)]) hx hb dX4_digest_97 rfl hl (by decide) rfl (fun ls hl => ?_)
          refine lv_iinc (v := (x3 + 1)) (lv' := [(3, .int (x3 + 1)), (1, .long (((31 : Int64) * x1) + r92.1.toInt64)), (0, .ref (q 0)), (4, .int x4)]) hx hb dX4_digest_98 hl (k := 2) rfl (congrArg (fun z : Int32 => x3 + z) (show Int32.ofInt (1) = 1 by decide)) (by decide) rfl (fun ls hl => ?_)
          refine lv_goto (tgt := 44) hx hb dX4_digest_101 (by decide) ?_
          exact (ih).1 r92.2 (((31 : Int64) * x1) + r92.1.toInt64) (x3 + 1) _ _ _ h hM hS (lv_sub hl [2, 1, 0] rfl)
        · replace h := ite_f h c61
          refine lv_ldc2 hx hb hown w5 dX4_digest_64 ?_
          refine lv_lload_n hx hb dX4_digest_67 rfl (lv_at hl 1 rfl) ?_
          refine lv_lmul hx hb dX4_digest_68 ?_
          refine lv_aload_n hx hb dX4_digest_69 rfl (lv_at hl 0 rfl) ?_
          refine lv_iload_n hx hb dX4_digest_70 rfl (lv_at hl 2 rfl) ?_
          refine lv_iload hx hb dX4_digest_71 (lv_at hl 3 rfl) ?_
          obtain ⟨r73, e73, h⟩ := bind_s h
          refine k_cI (va_runV (As := [.int x3, .int x4]) (rest := [.long ((31 : Int64) * x1)]) ⟨hx, hb, hml, hown, hts⟩ (kX4_kindOf l D cI cR q G1 K x3 x4 r73 e73) (cwV 2 hts gX4_digest_X4_kindOf rfl rfl rfl (by decide +kernel) ⟨Nat.le_of_ble_eq_true rfl, Nat.le_of_ble_eq_true rfl⟩) (mPreV hK hM 0 rfl rfl) rfl rfl hl.1 rfl (lv_room (Nat.le_of_ble_eq_true rfl)) dX4_digest_73 ⟨Nat.le_of_ble_eq_true rfl, Nat.le_of_ble_eq_true rfl⟩) hS hM (fun H locs hM hS => ?_)
          refine lv_i2l (v := r73.toInt64) hx hb dX4_digest_76 rfl ?_
          refine lv_ladd hx hb dX4_digest_77 ?_
          refine lv_lstore_n (lv' := [(1, .long (((31 : Int64) * x1) + r73.toInt64)), (0, .ref (q 0)), (3, .int x3), (4, .int x4)]) hx hb dX4_digest_78 rfl hl (by decide) rfl (fun ls hl => ?_)
          refine lv_iinc (v := (x4 + 1)) (lv' := [(4, .int (x4 + 1)), (1, .long (((31 : Int64) * x1) + r73.toInt64)), (0, .ref (q 0)), (3, .int x3)]) hx hb dX4_digest_79 hl (k := 3) rfl (congrArg (fun z : Int32 => x4 + z) (show Int32.ofInt (1) = 1 by decide)) (by decide) rfl (fun ls hl => ?_)
          refine lv_goto (tgt := 57) hx hb dX4_digest_82 (by decide) ?_
          exact (ih).2 G1 (((31 : Int64) * x1) + r73.toInt64) x3 (x4 + 1) _ _ _ h hM hS (lv_sub hl [2, 1, 3, 0] rfl)
  have L17 : ∀ (n : Nat), ∀ (G : Nat → Nat → Int32) (x1 : Int64) (x3 : Int32) (H : Heap) (locs : List Loc) (ls : Array Slot), sX4_digest_L17 K G n x1 x3 = some r → MW D cI cR q tmM G H → va_S (MA tmM q) s.heap H locs → lv_has ls 5 [(0, .ref (q 0)), (1, .long x1), (3, .int x3)] → W p l e (headSpec wsX4_digest ({ frames := 7, cells := 0, slots := 0, locals := 154 } : Room)).room s m args below meth c H locs 0 0 (MQ below (mJW D cI cR q tmM r) args s 0 0 (MA tmM q)) (F0 m 17 ls []) := by
    clear hM hS
    intro n
    induction n with
    | zero => exact fun _ _ _ _ _ _ h => absurd h (by simp [sX4_digest_L17])
    | succ n ih =>
      intro G x1 x3 H locs ls h hM hS hl
      rw [sX4_digest_L17] at h
      refine lv_iload_n hx hb dX4_digest_17 rfl (lv_at hl 2 rfl) ?_
      refine lv_bipush (v := 10) hx hb dX4_digest_18 (by decide) ?_
      refine lv_icmp_ge (tgt := 42) hx hb dX4_digest_20 (by decide) (fun c20 => ?_) (fun c20 => ?_)
      · replace h := ite_t h c20
        refine lv_iconst (v := 0) hx hb dX4_digest_42 (by decide) ?_
        refine lv_istore_n (lv' := [(3, .int (0 : Int32)), (0, .ref (q 0)), (1, .long x1)]) hx hb dX4_digest_43 rfl hl (by decide) rfl (fun ls hl => ?_)
        exact (L44 K).1 G x1 (0 : Int32) _ _ _ h hM hS (lv_sub hl [1, 2, 0] rfl)
      · replace h := ite_f h c20
        refine lv_ldc2 hx hb hown w5 dX4_digest_23 ?_
        refine lv_lload_n hx hb dX4_digest_26 rfl (lv_at hl 1 rfl) ?_
        refine lv_lmul hx hb dX4_digest_27 ?_
        refine lv_aload_n hx hb dX4_digest_28 rfl (lv_at hl 0 rfl) ?_
        refine lv_iload_n hx hb dX4_digest_29 rfl (lv_at hl 2 rfl) ?_
        obtain ⟨r30, e30, h⟩ := bind_s h
        refine k_cI (va_runV (As := [.int x3]) (rest := [.long ((31 : Int64) * x1)]) ⟨hx, hb, hml, hown, hts⟩ (kX4_valueOf l D cI cR q G K x3 r30 e30) (cwV 1 hts gX4_digest_X4_valueOf rfl rfl rfl (by decide +kernel) ⟨Nat.le_of_ble_eq_true rfl, Nat.le_of_ble_eq_true rfl⟩) (mPreV hK hM 0 rfl rfl) rfl rfl hl.1 rfl (lv_room (Nat.le_of_ble_eq_true rfl)) dX4_digest_30 ⟨Nat.le_of_ble_eq_true rfl, Nat.le_of_ble_eq_true rfl⟩) hS hM (fun H locs hM hS => ?_)
        refine lv_i2l (v := r30.toInt64) hx hb dX4_digest_33 rfl ?_
        refine lv_ladd hx hb dX4_digest_34 ?_
        refine lv_lstore_n (lv' := [(1, .long (((31 : Int64) * x1) + r30.toInt64)), (0, .ref (q 0)), (3, .int x3)]) hx hb dX4_digest_35 rfl hl (by decide) rfl (fun ls hl => ?_)
        refine lv_iinc (v := (x3 + 1)) (lv' := [(3, .int (x3 + 1)), (1, .long (((31 : Int64) * x1) + r30.toInt64)), (0, .ref (q 0))]) hx hb dX4_digest_36 hl (k := 2) rfl (congrArg (fun z : Int32 => x3 + z) (show Int32.ofInt (1) = 1 by decide)) (by decide) rfl (fun ls hl => ?_)
        refine lv_goto (tgt := 17) hx hb dX4_digest_39 (by decide) ?_
        exact ih G (((31 : Int64) * x1) + r30.toInt64) (x3 + 1) _ _ _ h hM hS (lv_sub hl [2, 1, 0] rfl)
  subst hargs
  have hl := lv_entry ([.ref (q 0)]) (n := 5) (Nat.le_of_ble_eq_true rfl)
  rw [lg_entry_eq]
  generalize (lg_sl ([.ref (q 0)]) ++ List.replicate (5 - (lg_sl ([.ref (q 0)])).length) Slot.unset).toArray = ls at hl ⊢
  have hl : lv_has ls 5 [(0, .ref (q 0))] := hl
  have h := hs
  unfold sX4_digest at h
  have hM0 := hM
  refine lv_aload_n hx hb dX4_digest_0 rfl (lv_at hl 0 rfl) ?_
  refine lv_iconst (v := 0) hx hb dX4_digest_1 (by decide) ?_
  refine k_putI (C := RX4) (T := TX4) (N := 10) (v := (0 : Int32)) hx hb hts iX4 tyX4 tyX4_ok nmX4 hown hK hM hJ hA hS 0 rfl rfl 4 (by decide) rfl w0 (fun _ h9 => h9) rfl (by decide +kernel) dX4_digest_2 (fun H locs hM hS => ?_)
  obtain ⟨G4, eG4, h⟩ := olet_s h
  rw [eG4] at hM
  refine lv_ldc2 hx hb hown w2 dX4_digest_5 ?_
  refine lv_aload_n hx hb dX4_digest_8 rfl (lv_at hl 0 rfl) ?_
  refine k_getI (C := RX4) (T := TX4) (N := 10) hx hb hts iX4 hown hK hM 0 rfl rfl 6 (by decide) rfl w3 (fun _ h9 => h9) dX4_digest_9 ?_
  refine lv_i2l (v := (G4 0 6).toInt64) hx hb dX4_digest_12 rfl ?_
  refine lv_ladd hx hb dX4_digest_13 ?_
  refine lv_lstore_n (lv' := [(1, .long ((111383 : Int64) + (G4 0 6).toInt64)), (0, .ref (q 0))]) hx hb dX4_digest_14 rfl hl (by decide) rfl (fun ls hl => ?_)
  refine lv_iconst (v := 0) hx hb dX4_digest_15 (by decide) ?_
  refine lv_istore_n (lv' := [(3, .int (0 : Int32)), (1, .long ((111383 : Int64) + (G4 0 6).toInt64)), (0, .ref (q 0))]) hx hb dX4_digest_16 rfl hl (by decide) rfl (fun ls hl => ?_)
  exact L17 K G4 ((111383 : Int64) + (G4 0 6).toInt64) (0 : Int32) _ _ _ h hM hS (lv_sub hl [2, 1, 0] rfl)
