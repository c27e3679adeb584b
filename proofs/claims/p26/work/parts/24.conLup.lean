set_option maxHeartbeats 8000000 in
set_option maxRecDepth 100000 in
theorem kL_up (l : Launch) (K : Nat) (p1 : Int32) (p2 : Int32) (r : Int32) (hs : sL_up K p1 p2 = some r) : Met l yL_up wsL_up ({ frames := 0, cells := 0, slots := 0, locals := 0 } : Room) (va_Pc [.int p1, .int p2] (fun _ => True)) (mI r) 0 0 (fun _ => False) := by
  refine Met.ofW (cc := cL_up) (maxL := 2) (ret := (some .int)) (by decide) rfl ?_
  intro p e s m args below meth c s₁ B hml hv
  obtain ⟨hargs, -⟩ := hv
  have hx := B.exec
  have hb := B.bytes
  have hr := B.returns
  have hts := atoms_spec (ws := wsL_up) B.pre
  have hown : s.vm.findClass RL = some m.cls := findClass_of_methodNamed B.named
  have hlocks := B.notSynchronized
  have hS : va_S (fun _ => False) s.heap s.heap [] := va_S.rf
  have w0 := hts (Cond.constant RL 8 (2147483647)) (List.mem_of_getElem? (i := 1) (by decide +kernel))
  subst hargs
  have hl := lv_entry ([.int p1, .int p2]) (n := 2) (Nat.le_of_ble_eq_true rfl)
  rw [lg_entry_eq]
  generalize (lg_sl ([.int p1, .int p2]) ++ List.replicate (2 - (lg_sl ([.int p1, .int p2])).length) Slot.unset).toArray = ls at hl ⊢
  have hl : lv_has ls 2 [(0, .int p1), (1, .int p2)] := hl
  have h := hs
  unfold sL_up at h
  refine lv_iload_n hx hb dL_up_0 rfl (lv_at hl 0 rfl) ?_
  refine lv_ldc hx hb hown w0 dL_up_1 ?_
  refine lv_iand hx hb dL_up_3 ?_
  refine lv_iload_n hx hb dL_up_4 rfl (lv_at hl 1 rfl) ?_
  obtain ⟨g5, h⟩ := grd_s h
  refine lv_irem hx hb dL_up_5 (of_decide_eq_true g5) ?_
  have h := Option.some.inj h
  exact W.iret (v := ((p1 &&& (2147483647 : Int32)) - (p1 &&& (2147483647 : Int32)) / p2 * p2)) hx hb hr (fun t ht hV => ⟨⟨((p1 &&& (2147483647 : Int32)) - (p1 &&& (2147483647 : Int32)) / p2 * p2), (), rfl, h, trivial⟩, hS.F ht⟩) hS.2.2 dL_up_6
