set_option maxHeartbeats 8000000 in
set_option maxRecDepth 100000 in
theorem kL_cell (l : Launch) (K : Nat) (L : Nat) (xs : Nat → Int32) (b : Nat) (p2 : Int32) (r : Int32) (hs : sL_cell K L xs p2 = some r) : Met l yL_cell wsL_cell ({ frames := 0, cells := 0, slots := 0, locals := 0 } : Room) (cPre [.ref b, .int p2] b L xs) (mI r) 0 0 (fun _ => False) := by
  refine Met.ofW (cc := cL_cell) (maxL := 2) (ret := (some .int)) (by decide) rfl ?_
  intro p e s m args below meth c s₁ B hml hv
  obtain ⟨hargs, hX⟩ := hv
  have hx := B.exec
  have hb := B.bytes
  have hr := B.returns
  have hts := atoms_spec (ws := wsL_cell) B.pre
  have hown : s.vm.findClass RL = some m.cls := findClass_of_methodNamed B.named
  have hlocks := B.notSynchronized
  have hS : va_S (fun _ => False) s.heap s.heap [] := va_S.rf
  have hbl := X_lt hX
  have hbA : ¬ (fun _ => False) b := fun z => z
  have w0 := hts (Cond.constant RL 7 (1116352408)) (List.mem_of_getElem? (i := 1) (by decide +kernel))
  subst hargs
  have hl := lv_entry ([.ref b, .int p2]) (n := 2) (Nat.le_of_ble_eq_true rfl)
  rw [lg_entry_eq]
  generalize (lg_sl ([.ref b, .int p2]) ++ List.replicate (2 - (lg_sl ([.ref b, .int p2])).length) Slot.unset).toArray = ls at hl ⊢
  have hl : lv_has ls 2 [(0, .ref b), (1, .int p2)] := hl
  have h := hs
  unfold sL_cell at h
  refine lv_iload_n hx hb dL_cell_0 rfl (lv_at hl 1 rfl) ?_
  refine lv_aload_n hx hb dL_cell_1 rfl (lv_at hl 0 rfl) ?_
  refine va_slen hx hb hX hbl hbA hS dL_cell_2 ?_
  refine lv_icmp_ge (tgt := 12) hx hb dL_cell_3 (by decide) (fun c3 => ?_) (fun c3 => ?_)
  · replace h := ite_t h c3
    refine lv_ldc hx hb hown w0 dL_cell_12 ?_
    refine lv_iload_n hx hb dL_cell_14 rfl (lv_at hl 1 rfl) ?_
    refine lv_sipush (v := 631) hx hb dL_cell_15 (by decide) ?_
    refine lv_iadd hx hb dL_cell_18 ?_
    refine lv_imul hx hb dL_cell_19 ?_
    have h := Option.some.inj h
    exact W.iret (v := ((1116352408 : Int32) * (p2 + (631 : Int32)))) hx hb hr (fun t ht hV => ⟨⟨((1116352408 : Int32) * (p2 + (631 : Int32))), (), rfl, h, trivial⟩, hS.F ht⟩) hS.2.2 dL_cell_20
  · replace h := ite_f h c3
    refine lv_aload_n hx hb dL_cell_6 rfl (lv_at hl 0 rfl) ?_
    refine lv_iload_n hx hb dL_cell_7 rfl (lv_at hl 1 rfl) ?_
    obtain ⟨g8, h⟩ := grd_s h
    refine va_sld hx hb hX hbl hbA hS (inb_in g8) dL_cell_8 ?_
    refine lv_goto (tgt := 20) hx hb dL_cell_9 (by decide) ?_
    have h := Option.some.inj h
    exact W.iret (v := (xs p2.toNatClampNeg)) hx hb hr (fun t ht hV => ⟨⟨(xs p2.toNatClampNeg), (), rfl, h, trivial⟩, hS.F ht⟩) hS.2.2 dL_cell_20
