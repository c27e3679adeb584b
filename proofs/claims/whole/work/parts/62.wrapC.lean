/-! MACHINE: the other wrappers (laid by program) -/
set_option maxHeartbeats 4000000 in
set_option maxRecDepth 100000 in
theorem kL_setHome (l : Launch) (hfl : l.flags = flags0) (D : va_G) (cI cR cL : ClassId) (q : Nat → Nat) (G : Nat → Nat → Int32) (K : Nat) (p1 p2 : Int32) (hJ : MJ tmC q) (sz o : Nat) (v : Int64) (r : String ⊕ (Int32 × (Nat → Nat → Int32))) (hs : sX3_setHome K G p1 p2 = some r) (hE : ∀ E, r = .inl E → ∃ j, (E, j) ∈ hIA) : vx_Met l yL_setHome wsL_setHome ({ frames := 8, cells := 2, slots := 12, locals := 141 } : Room) (wPre [.ref (q 0), .int p1, .int p2, .ref o] D cI cR cL q G sz o v) (wPost D cI cR cL q G sz o v hIA r) wX 2 12 (wA q sz o) := by
  refine vx_ofWH (cc := cL_setHome) (maxL := 5) (ret := some .int) (hh := [(0, 10, 13, 21), (0, 10, 17, 13)]) (by decide) rfl ?_
  intro p e s m args below meth c s₁ B hml hv
  obtain ⟨hargs, hsz, hM, hKL, hth, hPo, ho, hnc⟩ := hv
  have hx := B.exec
  have hb := B.bytes
  have hr := B.returns
  have hts := atoms_spec (ws := wsL_setHome) B.pre
  have hown : s.vm.findClass RL = some m.cls := findClass_of_methodNamed B.named
  have htab := vx_table (x := yL_setHome) B (hts _ List.mem_cons_self)
  have hK := mTyL_K hKL
  subst hsz
  have hS : va_S (wA q s.heap.size o) s.heap s.heap [] := va_S.rf
  have hS0 : va_S (MN tmC q s.heap.size) s.heap s.heap [] := va_S.rf
  subst hargs
  have hl := lv_entry ([.ref (q 0), .int p1, .int p2, .ref o]) (n := 5) (Nat.le_of_ble_eq_true rfl)
  rw [lg_entry_eq]
  generalize (lg_sl ([.ref (q 0), .int p1, .int p2, .ref o]) ++ List.replicate (5 - (lg_sl ([.ref (q 0), .int p1, .int p2, .ref o])).length) Slot.unset).toArray = ls at hl ⊢
  have hl : lv_has ls 5 [(0, .ref (q 0)), (1, .int p1), (2, .int p2), (3, .ref o)] := hl
  refine lv_aload_n hx hb dL_setHome_0 rfl (lv_at hl 3 rfl) ?_
  refine lv_iconst (v := 0) hx hb dL_setHome_1 (by decide) ?_
  refine lv_aload_n hx hb dL_setHome_2 rfl (lv_at hl 0 rfl) ?_
  refine lv_iload_n hx hb dL_setHome_3 rfl (lv_at hl 1 rfl) ?_
  refine lv_iload_n hx hb dL_setHome_4 rfl (lv_at hl 2 rfl) ?_
  refine vx_calli (vx_runV (As := [.int p1, .int p2]) (rest := [.int (0 : Int32), .ref o]) ⟨hx, hb, hml, hown, hts⟩ (kX3_setHome l hfl D cI cR q G K p1 p2 hJ s.heap.size r hs) (cwV 2 hts gL_setHome_X3_setHome rfl rfl rfl (by decide +kernel) ⟨(Nat.le_of_ble_eq_true rfl), (Nat.le_of_ble_eq_true rfl)⟩) (mPreVT hK hM hS0 rfl hth 0 rfl rfl) rfl rfl hl.1 rfl (lv_room (Nat.le_of_ble_eq_true rfl)) dL_setHome_5 ⟨(Nat.le_of_ble_eq_true rfl), (Nat.le_of_ble_eq_true rfl)⟩) hS (fun _ _ h => Or.inl h) (fun _ h => Or.inl h) (fun _ _ h => Or.inl h) (fun E ce q9 u t H1 locs1 ht hvm _ hB hz hk hS hce hcv hcl => ?_) (fun x G' t H1 locs1 ht hvm hp hB hz hk hS => ?_)
  · obtain ⟨hEr, hM1⟩ := hB
    rw [ht] at hM1
    have hPo1 : va_P D vwCl (oW o cL v) H1 := hPo.kept fun k y hy => by
      have hz1 : k < 1 := (List.getElem?_eq_some_iff.mp hy).1
      obtain rfl : k = 0 := by omega
      cases hy
      exact hk o ((hPo 0 _ rfl).lt) ho
    obtain ⟨j, hj⟩ := hE E hEr
    rcases List.mem_cons.mp hj with h | h
    · cases h
      refine vx_catch (name := "java/lang/IndexOutOfBoundsException") hown [] _ _ htab (fun z hz9 => absurd hz9 List.not_mem_nil) rfl (by decide) (hts (Cond.classLink RL 21 "java/lang/IndexOutOfBoundsException") (by decide +kernel)) (va_Nw.use rfl (hth.2.2.2.1 _ (by decide))) hce hcv hcl ?_
      refine lv_astore (lv' := [(4, .ref q9), (0, .ref (q 0)), (1, .int p1), (2, .int p2), (3, .ref o)]) hx hb dL_setHome_13 hl (by decide) rfl (fun ls hl => ?_)
      refine lv_iconst (v := 1) hx hb dL_setHome_15 (by decide) ?_
      exact vx_ret (W.iret (v := 1) hx hb hr (fun t9 ht9 hW => ⟨⟨1, (G, v), rfl, Or.inr ⟨_, 1, hEr, hj, rfl, rfl⟩, w_end ht9 hM1 rfl, by rw [ht9]; exact hPo1⟩, hS.F ht9⟩) hS.2.2 dL_setHome_16)
    · skip
      rcases List.mem_cons.mp h with h | h
      · cases h
        refine vx_catch (name := "java/lang/IllegalArgumentException") hown [_] _ _ htab (fun z hz9 => Or.inr ?_) rfl (by decide) (hts (Cond.classLink RL 13 "java/lang/IllegalArgumentException") (by decide +kernel)) (va_Nw.use rfl (hth.2.2.2.1 _ (by decide))) hce hcv hcl ?_
        · rw [List.mem_singleton.mp hz9]
          exact ⟨by decide, "java/lang/IndexOutOfBoundsException", hts (Cond.classLink RL 21 "java/lang/IndexOutOfBoundsException") (by decide +kernel), hnc ("java/lang/IllegalArgumentException", "java/lang/IndexOutOfBoundsException") (by decide)⟩
        refine lv_astore (lv' := [(4, .ref q9), (0, .ref (q 0)), (1, .int p1), (2, .int p2), (3, .ref o)]) hx hb dL_setHome_17 hl (by decide) rfl (fun ls hl => ?_)
        refine lv_iconst (v := 2) hx hb dL_setHome_19 (by decide) ?_
        exact vx_ret (W.iret (v := 2) hx hb hr (fun t9 ht9 hW => ⟨⟨2, (G, v), rfl, Or.inr ⟨_, 2, hEr, hj, rfl, rfl⟩, w_end ht9 hM1 rfl, by rw [ht9]; exact hPo1⟩, hS.F ht9⟩) hS.2.2 dL_setHome_20)
      · exact absurd h List.not_mem_nil
  · rw [ht] at hB
    have hPo1 : va_P D vwCl (oW o cL v) H1 := hPo.kept fun k y hy => by
      have hz1 : k < 1 := (List.getElem?_eq_some_iff.mp hy).1
      obtain rfl : k = 0 := by omega
      cases hy
      exact hk o ((hPo 0 _ rfl).lt) ho
    refine lv_i2l (v := x.toInt64) hx hb dL_setHome_8 rfl ?_
    refine va_last hx hb hKL (va_P.app hPo1 hB) (wD hJ (Or.inr rfl) (fun a h => Or.inl (Or.inl h)) (fun h => ho (Or.inl h))) hS 0 2 rfl rfl (inb_in (x := 0) (by decide)) dL_setHome_9 (fun H2 locs2 hP2 hD2 hS2 => ?_)
    have hP3 : va_P D vwCl ((o, .inl (cL, 1, .inr (.inl (vp_updL (fun _ => v) (0 : Int32).toNatClampNeg x.toInt64)))) :: mwL cI cR q tmC G') H2 := hP2
    obtain ⟨hP4, hM4⟩ := w_split hP3
    refine lv_goto (tgt := 21) hx hb dL_setHome_10 (by decide) ?_
    refine lv_iconst (v := 0) hx hb dL_setHome_21 (by decide) ?_
    exact vx_ret (W.iret (v := 0) hx hb hr (fun t9 ht9 hW => ⟨⟨0, (G', x.toInt64), rfl, Or.inl ⟨x, G', hp, rfl, rfl⟩, w_end ht9 hM4 rfl, by rw [ht9]; exact o_one hP4⟩, hS2.F ht9⟩) hS2.2.2 dL_setHome_22)
set_option maxHeartbeats 4000000 in
set_option maxRecDepth 100000 in
theorem kL_setGap (l : Launch) (hfl : l.flags = flags0) (D : va_G) (cI cR cL : ClassId) (q : Nat → Nat) (G : Nat → Nat → Int32) (K : Nat) (p1 p2 : Int32) (hJ : MJ tmC q) (sz o : Nat) (v : Int64) (r : String ⊕ (Int32 × (Nat → Nat → Int32))) (hs : sX3_setGap K G p1 p2 = some r) (hE : ∀ E, r = .inl E → ∃ j, (E, j) ∈ hIAS) : vx_Met l yL_setGap wsL_setGap ({ frames := 8, cells := 3, slots := 18, locals := 141 } : Room) (wPre [.ref (q 0), .int p1, .int p2, .ref o] D cI cR cL q G sz o v) (wPost D cI cR cL q G sz o v hIAS r) wX 3 18 (wA q sz o) := by
  refine vx_ofWH (cc := cL_setGap) (maxL := 5) (ret := some .int) (hh := [(0, 10, 13, 21), (0, 10, 17, 13), (0, 10, 21, 15)]) (by decide) rfl ?_
  intro p e s m args below meth c s₁ B hml hv
  obtain ⟨hargs, hsz, hM, hKL, hth, hPo, ho, hnc⟩ := hv
  have hx := B.exec
  have hb := B.bytes
  have hr := B.returns
  have hts := atoms_spec (ws := wsL_setGap) B.pre
  have hown : s.vm.findClass RL = some m.cls := findClass_of_methodNamed B.named
  have htab := vx_table (x := yL_setGap) B (hts _ List.mem_cons_self)
  have hK := mTyL_K hKL
  subst hsz
  have hS : va_S (wA q s.heap.size o) s.heap s.heap [] := va_S.rf
  have hS0 : va_S (MN tmC q s.heap.size) s.heap s.heap [] := va_S.rf
  subst hargs
  have hl := lv_entry ([.ref (q 0), .int p1, .int p2, .ref o]) (n := 5) (Nat.le_of_ble_eq_true rfl)
  rw [lg_entry_eq]
  generalize (lg_sl ([.ref (q 0), .int p1, .int p2, .ref o]) ++ List.replicate (5 - (lg_sl ([.ref (q 0), .int p1, .int p2, .ref o])).length) Slot.unset).toArray = ls at hl ⊢
  have hl : lv_has ls 5 [(0, .ref (q 0)), (1, .int p1), (2, .int p2), (3, .ref o)] := hl
  refine lv_aload_n hx hb dL_setGap_0 rfl (lv_at hl 3 rfl) ?_
  refine lv_iconst (v := 0) hx hb dL_setGap_1 (by decide) ?_
  refine lv_aload_n hx hb dL_setGap_2 rfl (lv_at hl 0 rfl) ?_
  refine lv_iload_n hx hb dL_setGap_3 rfl (lv_at hl 1 rfl) ?_
  refine lv_iload_n hx hb dL_setGap_4 rfl (lv_at hl 2 rfl) ?_
  refine vx_calli (vx_runV (As := [.int p1, .int p2]) (rest := [.int (0 : Int32), .ref o]) ⟨hx, hb, hml, hown, hts⟩ (kX3_setGap l hfl D cI cR q G K p1 p2 hJ s.heap.size r hs) (cwV 2 hts gL_setGap_X3_setGap rfl rfl rfl (by decide +kernel) ⟨(Nat.le_of_ble_eq_true rfl), (Nat.le_of_ble_eq_true rfl)⟩) (mPreVT hK hM hS0 rfl hth 0 rfl rfl) rfl rfl hl.1 rfl (lv_room (Nat.le_of_ble_eq_true rfl)) dL_setGap_5 ⟨(Nat.le_of_ble_eq_true rfl), (Nat.le_of_ble_eq_true rfl)⟩) hS (fun _ _ h => Or.inl h) (fun _ h => Or.inl h) (fun _ _ h => Or.inl h) (fun E ce q9 u t H1 locs1 ht hvm _ hB hz hk hS hce hcv hcl => ?_) (fun x G' t H1 locs1 ht hvm hp hB hz hk hS => ?_)
  · obtain ⟨hEr, hM1⟩ := hB
    rw [ht] at hM1
    have hPo1 : va_P D vwCl (oW o cL v) H1 := hPo.kept fun k y hy => by
      have hz1 : k < 1 := (List.getElem?_eq_some_iff.mp hy).1
      obtain rfl : k = 0 := by omega
      cases hy
      exact hk o ((hPo 0 _ rfl).lt) ho
    obtain ⟨j, hj⟩ := hE E hEr
    rcases List.mem_cons.mp hj with h | h
    · cases h
      refine vx_catch (name := "java/lang/IndexOutOfBoundsException") hown [] _ _ htab (fun z hz9 => absurd hz9 List.not_mem_nil) rfl (by decide) (hts (Cond.classLink RL 21 "java/lang/IndexOutOfBoundsException") (by decide +kernel)) (va_Nw.use rfl (hth.2.2.2.1 _ (by decide))) hce hcv hcl ?_
      refine lv_astore (lv' := [(4, .ref q9), (0, .ref (q 0)), (1, .int p1), (2, .int p2), (3, .ref o)]) hx hb dL_setGap_13 hl (by decide) rfl (fun ls hl => ?_)
      refine lv_iconst (v := 1) hx hb dL_setGap_15 (by decide) ?_
      exact vx_ret (W.iret (v := 1) hx hb hr (fun t9 ht9 hW => ⟨⟨1, (G, v), rfl, Or.inr ⟨_, 1, hEr, hj, rfl, rfl⟩, w_end ht9 hM1 rfl, by rw [ht9]; exact hPo1⟩, hS.F ht9⟩) hS.2.2 dL_setGap_16)
    · skip
      rcases List.mem_cons.mp h with h | h
      · cases h
        refine vx_catch (name := "java/lang/IllegalArgumentException") hown [_] _ _ htab (fun z hz9 => Or.inr ?_) rfl (by decide) (hts (Cond.classLink RL 13 "java/lang/IllegalArgumentException") (by decide +kernel)) (va_Nw.use rfl (hth.2.2.2.1 _ (by decide))) hce hcv hcl ?_
        · rw [List.mem_singleton.mp hz9]
          exact ⟨by decide, "java/lang/IndexOutOfBoundsException", hts (Cond.classLink RL 21 "java/lang/IndexOutOfBoundsException") (by decide +kernel), hnc ("java/lang/IllegalArgumentException", "java/lang/IndexOutOfBoundsException") (by decide)⟩
        refine lv_astore (lv' := [(4, .ref q9), (0, .ref (q 0)), (1, .int p1), (2, .int p2), (3, .ref o)]) hx hb dL_setGap_17 hl (by decide) rfl (fun ls hl => ?_)
        refine lv_iconst (v := 2) hx hb dL_setGap_19 (by decide) ?_
        exact vx_ret (W.iret (v := 2) hx hb hr (fun t9 ht9 hW => ⟨⟨2, (G, v), rfl, Or.inr ⟨_, 2, hEr, hj, rfl, rfl⟩, w_end ht9 hM1 rfl, by rw [ht9]; exact hPo1⟩, hS.F ht9⟩) hS.2.2 dL_setGap_20)
      · skip
        rcases List.mem_cons.mp h with h | h
        · cases h
          refine vx_catch (name := "java/lang/IllegalStateException") hown [_, _] _ _ htab (fun z hz9 => Or.inr ?_) rfl (by decide) (hts (Cond.classLink RL 15 "java/lang/IllegalStateException") (by decide +kernel)) (va_Nw.use rfl (hth.2.2.2.1 _ (by decide))) hce hcv hcl ?_
          · rcases List.mem_cons.mp hz9 with z9 | hz9
            · rw [z9]; exact ⟨by decide, "java/lang/IndexOutOfBoundsException", hts (Cond.classLink RL 21 "java/lang/IndexOutOfBoundsException") (by decide +kernel), hnc ("java/lang/IllegalStateException", "java/lang/IndexOutOfBoundsException") (by decide)⟩
            · rw [List.mem_singleton.mp hz9]; exact ⟨by decide, "java/lang/IllegalArgumentException", hts (Cond.classLink RL 13 "java/lang/IllegalArgumentException") (by decide +kernel), hnc ("java/lang/IllegalStateException", "java/lang/IllegalArgumentException") (by decide)⟩
          refine lv_astore (lv' := [(4, .ref q9), (0, .ref (q 0)), (1, .int p1), (2, .int p2), (3, .ref o)]) hx hb dL_setGap_21 hl (by decide) rfl (fun ls hl => ?_)
          refine lv_iconst (v := 3) hx hb dL_setGap_23 (by decide) ?_
          exact vx_ret (W.iret (v := 3) hx hb hr (fun t9 ht9 hW => ⟨⟨3, (G, v), rfl, Or.inr ⟨_, 3, hEr, hj, rfl, rfl⟩, w_end ht9 hM1 rfl, by rw [ht9]; exact hPo1⟩, hS.F ht9⟩) hS.2.2 dL_setGap_24)
        · exact absurd h List.not_mem_nil
  · rw [ht] at hB
    have hPo1 : va_P D vwCl (oW o cL v) H1 := hPo.kept fun k y hy => by
      have hz1 : k < 1 := (List.getElem?_eq_some_iff.mp hy).1
      obtain rfl : k = 0 := by omega
      cases hy
      exact hk o ((hPo 0 _ rfl).lt) ho
    refine lv_i2l (v := x.toInt64) hx hb dL_setGap_8 rfl ?_
    refine va_last hx hb hKL (va_P.app hPo1 hB) (wD hJ (Or.inr rfl) (fun a h => Or.inl (Or.inl h)) (fun h => ho (Or.inl h))) hS 0 2 rfl rfl (inb_in (x := 0) (by decide)) dL_setGap_9 (fun H2 locs2 hP2 hD2 hS2 => ?_)
    have hP3 : va_P D vwCl ((o, .inl (cL, 1, .inr (.inl (vp_updL (fun _ => v) (0 : Int32).toNatClampNeg x.toInt64)))) :: mwL cI cR q tmC G') H2 := hP2
    obtain ⟨hP4, hM4⟩ := w_split hP3
    refine lv_goto (tgt := 25) hx hb dL_setGap_10 (by decide) ?_
    refine lv_iconst (v := 0) hx hb dL_setGap_25 (by decide) ?_
    exact vx_ret (W.iret (v := 0) hx hb hr (fun t9 ht9 hW => ⟨⟨0, (G', x.toInt64), rfl, Or.inl ⟨x, G', hp, rfl, rfl⟩, w_end ht9 hM4 rfl, by rw [ht9]; exact o_one hP4⟩, hS2.F ht9⟩) hS2.2.2 dL_setGap_26)
set_option maxHeartbeats 4000000 in
set_option maxRecDepth 100000 in
theorem kL_feed (l : Launch) (hfl : l.flags = flags0) (D : va_G) (cI cR cL : ClassId) (q : Nat → Nat) (G : Nat → Nat → Int32) (K : Nat) (p1 p2 : Int32) (hJ : MJ tmC q) (sz o : Nat) (v : Int64) (r : String ⊕ (Int32 × (Nat → Nat → Int32))) (hs : sX3_feed K G p1 p2 = some r) (hE : ∀ E, r = .inl E → ∃ j, (E, j) ∈ hIA) : vx_Met l yL_feed wsL_feed ({ frames := 8, cells := 2, slots := 12, locals := 140 } : Room) (wPre [.ref (q 0), .int p1, .int p2, .ref o] D cI cR cL q G sz o v) (wPost D cI cR cL q G sz o v hIA r) wX 2 12 (wA q sz o) := by
  refine vx_ofWH (cc := cL_feed) (maxL := 5) (ret := some .int) (hh := [(0, 10, 13, 21), (0, 10, 17, 13)]) (by decide) rfl ?_
  intro p e s m args below meth c s₁ B hml hv
  obtain ⟨hargs, hsz, hM, hKL, hth, hPo, ho, hnc⟩ := hv
  have hx := B.exec
  have hb := B.bytes
  have hr := B.returns
  have hts := atoms_spec (ws := wsL_feed) B.pre
  have hown : s.vm.findClass RL = some m.cls := findClass_of_methodNamed B.named
  have htab := vx_table (x := yL_feed) B (hts _ List.mem_cons_self)
  have hK := mTyL_K hKL
  subst hsz
  have hS : va_S (wA q s.heap.size o) s.heap s.heap [] := va_S.rf
  have hS0 : va_S (MN tmC q s.heap.size) s.heap s.heap [] := va_S.rf
  subst hargs
  have hl := lv_entry ([.ref (q 0), .int p1, .int p2, .ref o]) (n := 5) (Nat.le_of_ble_eq_true rfl)
  rw [lg_entry_eq]
  generalize (lg_sl ([.ref (q 0), .int p1, .int p2, .ref o]) ++ List.replicate (5 - (lg_sl ([.ref (q 0), .int p1, .int p2, .ref o])).length) Slot.unset).toArray = ls at hl ⊢
  have hl : lv_has ls 5 [(0, .ref (q 0)), (1, .int p1), (2, .int p2), (3, .ref o)] := hl
  refine lv_aload_n hx hb dL_feed_0 rfl (lv_at hl 3 rfl) ?_
  refine lv_iconst (v := 0) hx hb dL_feed_1 (by decide) ?_
  refine lv_aload_n hx hb dL_feed_2 rfl (lv_at hl 0 rfl) ?_
  refine lv_iload_n hx hb dL_feed_3 rfl (lv_at hl 1 rfl) ?_
  refine lv_iload_n hx hb dL_feed_4 rfl (lv_at hl 2 rfl) ?_
  refine vx_calli (vx_runV (As := [.int p1, .int p2]) (rest := [.int (0 : Int32), .ref o]) ⟨hx, hb, hml, hown, hts⟩ (kX3_feed l hfl D cI cR q G K p1 p2 hJ s.heap.size r hs) (cwV 2 hts gL_feed_X3_feed rfl rfl rfl (by decide +kernel) ⟨(Nat.le_of_ble_eq_true rfl), (Nat.le_of_ble_eq_true rfl)⟩) (mPreVT hK hM hS0 rfl hth 0 rfl rfl) rfl rfl hl.1 rfl (lv_room (Nat.le_of_ble_eq_true rfl)) dL_feed_5 ⟨(Nat.le_of_ble_eq_true rfl), (Nat.le_of_ble_eq_true rfl)⟩) hS (fun _ _ h => Or.inl h) (fun _ h => Or.inl h) (fun _ _ h => Or.inl h) (fun E ce q9 u t H1 locs1 ht hvm _ hB hz hk hS hce hcv hcl => ?_) (fun x G' t H1 locs1 ht hvm hp hB hz hk hS => ?_)
  · obtain ⟨hEr, hM1⟩ := hB
    rw [ht] at hM1
    have hPo1 : va_P D vwCl (oW o cL v) H1 := hPo.kept fun k y hy => by
      have hz1 : k < 1 := (List.getElem?_eq_some_iff.mp hy).1
      obtain rfl : k = 0 := by omega
      cases hy
      exact hk o ((hPo 0 _ rfl).lt) ho
    obtain ⟨j, hj⟩ := hE E hEr
    rcases List.mem_cons.mp hj with h | h
    · cases h
      refine vx_catch (name := "java/lang/IndexOutOfBoundsException") hown [] _ _ htab (fun z hz9 => absurd hz9 List.not_mem_nil) rfl (by decide) (hts (Cond.classLink RL 21 "java/lang/IndexOutOfBoundsException") (by decide +kernel)) (va_Nw.use rfl (hth.2.2.2.1 _ (by decide))) hce hcv hcl ?_
      refine lv_astore (lv' := [(4, .ref q9), (0, .ref (q 0)), (1, .int p1), (2, .int p2), (3, .ref o)]) hx hb dL_feed_13 hl (by decide) rfl (fun ls hl => ?_)
      refine lv_iconst (v := 1) hx hb dL_feed_15 (by decide) ?_
      exact vx_ret (W.iret (v := 1) hx hb hr (fun t9 ht9 hW => ⟨⟨1, (G, v), rfl, Or.inr ⟨_, 1, hEr, hj, rfl, rfl⟩, w_end ht9 hM1 rfl, by rw [ht9]; exact hPo1⟩, hS.F ht9⟩) hS.2.2 dL_feed_16)
    · skip
      rcases List.mem_cons.mp h with h | h
      · cases h
        refine vx_catch (name := "java/lang/IllegalArgumentException") hown [_] _ _ htab (fun z hz9 => Or.inr ?_) rfl (by decide) (hts (Cond.classLink RL 13 "java/lang/IllegalArgumentException") (by decide +kernel)) (va_Nw.use rfl (hth.2.2.2.1 _ (by decide))) hce hcv hcl ?_
        · rw [List.mem_singleton.mp hz9]
          exact ⟨by decide, "java/lang/IndexOutOfBoundsException", hts (Cond.classLink RL 21 "java/lang/IndexOutOfBoundsException") (by decide +kernel), hnc ("java/lang/IllegalArgumentException", "java/lang/IndexOutOfBoundsException") (by decide)⟩
        refine lv_astore (lv' := [(4, .ref q9), (0, .ref (q 0)), (1, .int p1), (2, .int p2), (3, .ref o)]) hx hb dL_feed_17 hl (by decide) rfl (fun ls hl => ?_)
        refine lv_iconst (v := 2) hx hb dL_feed_19 (by decide) ?_
        exact vx_ret (W.iret (v := 2) hx hb hr (fun t9 ht9 hW => ⟨⟨2, (G, v), rfl, Or.inr ⟨_, 2, hEr, hj, rfl, rfl⟩, w_end ht9 hM1 rfl, by rw [ht9]; exact hPo1⟩, hS.F ht9⟩) hS.2.2 dL_feed_20)
      · exact absurd h List.not_mem_nil
  · rw [ht] at hB
    have hPo1 : va_P D vwCl (oW o cL v) H1 := hPo.kept fun k y hy => by
      have hz1 : k < 1 := (List.getElem?_eq_some_iff.mp hy).1
      obtain rfl : k = 0 := by omega
      cases hy
      exact hk o ((hPo 0 _ rfl).lt) ho
    refine lv_i2l (v := x.toInt64) hx hb dL_feed_8 rfl ?_
    refine va_last hx hb hKL (va_P.app hPo1 hB) (wD hJ (Or.inr rfl) (fun a h => Or.inl (Or.inl h)) (fun h => ho (Or.inl h))) hS 0 2 rfl rfl (inb_in (x := 0) (by decide)) dL_feed_9 (fun H2 locs2 hP2 hD2 hS2 => ?_)
    have hP3 : va_P D vwCl ((o, .inl (cL, 1, .inr (.inl (vp_updL (fun _ => v) (0 : Int32).toNatClampNeg x.toInt64)))) :: mwL cI cR q tmC G') H2 := hP2
    obtain ⟨hP4, hM4⟩ := w_split hP3
    refine lv_goto (tgt := 21) hx hb dL_feed_10 (by decide) ?_
    refine lv_iconst (v := 0) hx hb dL_feed_21 (by decide) ?_
    exact vx_ret (W.iret (v := 0) hx hb hr (fun t9 ht9 hW => ⟨⟨0, (G', x.toInt64), rfl, Or.inl ⟨x, G', hp, rfl, rfl⟩, w_end ht9 hM4 rfl, by rw [ht9]; exact o_one hP4⟩, hS2.F ht9⟩) hS2.2.2 dL_feed_22)
set_option maxHeartbeats 4000000 in
set_option maxRecDepth 100000 in
theorem kL_feedSome (l : Launch) (hfl : l.flags = flags0) (D : va_G) (cI cR cL : ClassId) (q : Nat → Nat) (G : Nat → Nat → Int32) (K : Nat) (p1 p2 : Int32) (hJ : MJ tmC q) (sz o : Nat) (v : Int64) (r : String ⊕ (Int32 × (Nat → Nat → Int32))) (hs : sX3_feedSome K G p1 p2 = some r) (hE : ∀ E, r = .inl E → ∃ j, (E, j) ∈ hAS) : vx_Met l yL_feedSome wsL_feedSome ({ frames := 8, cells := 3, slots := 18, locals := 149 } : Room) (wPre [.ref (q 0), .int p1, .int p2, .ref o] D cI cR cL q G sz o v) (wPost D cI cR cL q G sz o v hAS r) wX 3 18 (wA q sz o) := by
  refine vx_ofWH (cc := cL_feedSome) (maxL := 5) (ret := some .int) (hh := [(0, 10, 13, 13), (0, 10, 17, 15)]) (by decide) rfl ?_
  intro p e s m args below meth c s₁ B hml hv
  obtain ⟨hargs, hsz, hM, hKL, hth, hPo, ho, hnc⟩ := hv
  have hx := B.exec
  have hb := B.bytes
  have hr := B.returns
  have hts := atoms_spec (ws := wsL_feedSome) B.pre
  have hown : s.vm.findClass RL = some m.cls := findClass_of_methodNamed B.named
  have htab := vx_table (x := yL_feedSome) B (hts _ List.mem_cons_self)
  have hK := mTyL_K hKL
  subst hsz
  have hS : va_S (wA q s.heap.size o) s.heap s.heap [] := va_S.rf
  have hS0 : va_S (MN tmC q s.heap.size) s.heap s.heap [] := va_S.rf
  subst hargs
  have hl := lv_entry ([.ref (q 0), .int p1, .int p2, .ref o]) (n := 5) (Nat.le_of_ble_eq_true rfl)
  rw [lg_entry_eq]
  generalize (lg_sl ([.ref (q 0), .int p1, .int p2, .ref o]) ++ List.replicate (5 - (lg_sl ([.ref (q 0), .int p1, .int p2, .ref o])).length) Slot.unset).toArray = ls at hl ⊢
  have hl : lv_has ls 5 [(0, .ref (q 0)), (1, .int p1), (2, .int p2), (3, .ref o)] := hl
  refine lv_aload_n hx hb dL_feedSome_0 rfl (lv_at hl 3 rfl) ?_
  refine lv_iconst (v := 0) hx hb dL_feedSome_1 (by decide) ?_
  refine lv_aload_n hx hb dL_feedSome_2 rfl (lv_at hl 0 rfl) ?_
  refine lv_iload_n hx hb dL_feedSome_3 rfl (lv_at hl 1 rfl) ?_
  refine lv_iload_n hx hb dL_feedSome_4 rfl (lv_at hl 2 rfl) ?_
  refine vx_calli (vx_runV (As := [.int p1, .int p2]) (rest := [.int (0 : Int32), .ref o]) ⟨hx, hb, hml, hown, hts⟩ (kX3_feedSome l hfl D cI cR q G K p1 p2 hJ s.heap.size r hs) (cwV 2 hts gL_feedSome_X3_feedSome rfl rfl rfl (by decide +kernel) ⟨(Nat.le_of_ble_eq_true rfl), (Nat.le_of_ble_eq_true rfl)⟩) (mPreVT hK hM hS0 rfl hth 0 rfl rfl) rfl rfl hl.1 rfl (lv_room (Nat.le_of_ble_eq_true rfl)) dL_feedSome_5 ⟨(Nat.le_of_ble_eq_true rfl), (Nat.le_of_ble_eq_true rfl)⟩) hS (fun _ _ h => Or.inl h) (fun _ h => Or.inl h) (fun _ _ h => Or.inl h) (fun E ce q9 u t H1 locs1 ht hvm _ hB hz hk hS hce hcv hcl => ?_) (fun x G' t H1 locs1 ht hvm hp hB hz hk hS => ?_)
  · obtain ⟨hEr, hM1⟩ := hB
    rw [ht] at hM1
    have hPo1 : va_P D vwCl (oW o cL v) H1 := hPo.kept fun k y hy => by
      have hz1 : k < 1 := (List.getElem?_eq_some_iff.mp hy).1
      obtain rfl : k = 0 := by omega
      cases hy
      exact hk o ((hPo 0 _ rfl).lt) ho
    obtain ⟨j, hj⟩ := hE E hEr
    rcases List.mem_cons.mp hj with h | h
    · cases h
      refine vx_catch (name := "java/lang/IllegalArgumentException") hown [] _ _ htab (fun z hz9 => absurd hz9 List.not_mem_nil) rfl (by decide) (hts (Cond.classLink RL 13 "java/lang/IllegalArgumentException") (by decide +kernel)) (va_Nw.use rfl (hth.2.2.2.1 _ (by decide))) hce hcv hcl ?_
      refine lv_astore (lv' := [(4, .ref q9), (0, .ref (q 0)), (1, .int p1), (2, .int p2), (3, .ref o)]) hx hb dL_feedSome_13 hl (by decide) rfl (fun ls hl => ?_)
      refine lv_iconst (v := 1) hx hb dL_feedSome_15 (by decide) ?_
      exact vx_ret (W.iret (v := 1) hx hb hr (fun t9 ht9 hW => ⟨⟨1, (G, v), rfl, Or.inr ⟨_, 1, hEr, hj, rfl, rfl⟩, w_end ht9 hM1 rfl, by rw [ht9]; exact hPo1⟩, hS.F ht9⟩) hS.2.2 dL_feedSome_16)
    · skip
      rcases List.mem_cons.mp h with h | h
      · cases h
        refine vx_catch (name := "java/lang/IllegalStateException") hown [_] _ _ htab (fun z hz9 => Or.inr ?_) rfl (by decide) (hts (Cond.classLink RL 15 "java/lang/IllegalStateException") (by decide +kernel)) (va_Nw.use rfl (hth.2.2.2.1 _ (by decide))) hce hcv hcl ?_
        · rw [List.mem_singleton.mp hz9]
          exact ⟨by decide, "java/lang/IllegalArgumentException", hts (Cond.classLink RL 13 "java/lang/IllegalArgumentException") (by decide +kernel), hnc ("java/lang/IllegalStateException", "java/lang/IllegalArgumentException") (by decide)⟩
        refine lv_astore (lv' := [(4, .ref q9), (0, .ref (q 0)), (1, .int p1), (2, .int p2), (3, .ref o)]) hx hb dL_feedSome_17 hl (by decide) rfl (fun ls hl => ?_)
        refine lv_iconst (v := 2) hx hb dL_feedSome_19 (by decide) ?_
        exact vx_ret (W.iret (v := 2) hx hb hr (fun t9 ht9 hW => ⟨⟨2, (G, v), rfl, Or.inr ⟨_, 2, hEr, hj, rfl, rfl⟩, w_end ht9 hM1 rfl, by rw [ht9]; exact hPo1⟩, hS.F ht9⟩) hS.2.2 dL_feedSome_20)
      · exact absurd h List.not_mem_nil
  · rw [ht] at hB
    have hPo1 : va_P D vwCl (oW o cL v) H1 := hPo.kept fun k y hy => by
      have hz1 : k < 1 := (List.getElem?_eq_some_iff.mp hy).1
      obtain rfl : k = 0 := by omega
      cases hy
      exact hk o ((hPo 0 _ rfl).lt) ho
    refine lv_i2l (v := x.toInt64) hx hb dL_feedSome_8 rfl ?_
    refine va_last hx hb hKL (va_P.app hPo1 hB) (wD hJ (Or.inr rfl) (fun a h => Or.inl (Or.inl h)) (fun h => ho (Or.inl h))) hS 0 2 rfl rfl (inb_in (x := 0) (by decide)) dL_feedSome_9 (fun H2 locs2 hP2 hD2 hS2 => ?_)
    have hP3 : va_P D vwCl ((o, .inl (cL, 1, .inr (.inl (vp_updL (fun _ => v) (0 : Int32).toNatClampNeg x.toInt64)))) :: mwL cI cR q tmC G') H2 := hP2
    obtain ⟨hP4, hM4⟩ := w_split hP3
    refine lv_goto (tgt := 21) hx hb dL_feedSome_10 (by decide) ?_
    refine lv_iconst (v := 0) hx hb dL_feedSome_21 (by decide) ?_
    exact vx_ret (W.iret (v := 0) hx hb hr (fun t9 ht9 hW => ⟨⟨0, (G', x.toInt64), rfl, Or.inl ⟨x, G', hp, rfl, rfl⟩, w_end ht9 hM4 rfl, by rw [ht9]; exact o_one hP4⟩, hS2.F ht9⟩) hS2.2.2 dL_feedSome_22)
set_option maxHeartbeats 4000000 in
set_option maxRecDepth 100000 in
theorem kL_free (l : Launch) (hfl : l.flags = flags0) (D : va_G) (cI cR cL : ClassId) (q : Nat → Nat) (G : Nat → Nat → Int32) (K : Nat) (p1 : Int32) (hJ : MJ tmC q) (sz o : Nat) (v : Int64) (r : String ⊕ (Int32 × (Nat → Nat → Int32))) (hs : sX3_free K G p1 = some r) (hE : ∀ E, r = .inl E → ∃ j, (E, j) ∈ hIS) : vx_Met l yL_free wsL_free ({ frames := 8, cells := 2, slots := 12, locals := 137 } : Room) (wPre [.ref (q 0), .int p1, .ref o] D cI cR cL q G sz o v) (wPost D cI cR cL q G sz o v hIS r) wX 2 12 (wA q sz o) := by
  refine vx_ofWH (cc := cL_free) (maxL := 4) (ret := some .int) (hh := [(0, 9, 12, 21), (0, 9, 15, 15)]) (by decide) rfl ?_
  intro p e s m args below meth c s₁ B hml hv
  obtain ⟨hargs, hsz, hM, hKL, hth, hPo, ho, hnc⟩ := hv
  have hx := B.exec
  have hb := B.bytes
  have hr := B.returns
  have hts := atoms_spec (ws := wsL_free) B.pre
  have hown : s.vm.findClass RL = some m.cls := findClass_of_methodNamed B.named
  have htab := vx_table (x := yL_free) B (hts _ List.mem_cons_self)
  have hK := mTyL_K hKL
  subst hsz
  have hS : va_S (wA q s.heap.size o) s.heap s.heap [] := va_S.rf
  have hS0 : va_S (MN tmC q s.heap.size) s.heap s.heap [] := va_S.rf
  subst hargs
  have hl := lv_entry ([.ref (q 0), .int p1, .ref o]) (n := 4) (Nat.le_of_ble_eq_true rfl)
  rw [lg_entry_eq]
  generalize (lg_sl ([.ref (q 0), .int p1, .ref o]) ++ List.replicate (4 - (lg_sl ([.ref (q 0), .int p1, .ref o])).length) Slot.unset).toArray = ls at hl ⊢
  have hl : lv_has ls 4 [(0, .ref (q 0)), (1, .int p1), (2, .ref o)] := hl
  refine lv_aload_n hx hb dL_free_0 rfl (lv_at hl 2 rfl) ?_
  refine lv_iconst (v := 0) hx hb dL_free_1 (by decide) ?_
  refine lv_aload_n hx hb dL_free_2 rfl (lv_at hl 0 rfl) ?_
  refine lv_iload_n hx hb dL_free_3 rfl (lv_at hl 1 rfl) ?_
  refine vx_calli (vx_runV (As := [.int p1]) (rest := [.int (0 : Int32), .ref o]) ⟨hx, hb, hml, hown, hts⟩ (kX3_free l hfl D cI cR q G K p1 hJ s.heap.size r hs) (cwV 1 hts gL_free_X3_free rfl rfl rfl (by decide +kernel) ⟨(Nat.le_of_ble_eq_true rfl), (Nat.le_of_ble_eq_true rfl)⟩) (mPreVT hK hM hS0 rfl hth 0 rfl rfl) rfl rfl hl.1 rfl (lv_room (Nat.le_of_ble_eq_true rfl)) dL_free_4 ⟨(Nat.le_of_ble_eq_true rfl), (Nat.le_of_ble_eq_true rfl)⟩) hS (fun _ _ h => Or.inl h) (fun _ h => Or.inl h) (fun _ _ h => Or.inl h) (fun E ce q9 u t H1 locs1 ht hvm _ hB hz hk hS hce hcv hcl => ?_) (fun x G' t H1 locs1 ht hvm hp hB hz hk hS => ?_)
  · obtain ⟨hEr, hM1⟩ := hB
    rw [ht] at hM1
    have hPo1 : va_P D vwCl (oW o cL v) H1 := hPo.kept fun k y hy => by
      have hz1 : k < 1 := (List.getElem?_eq_some_iff.mp hy).1
      obtain rfl : k = 0 := by omega
      cases hy
      exact hk o ((hPo 0 _ rfl).lt) ho
    obtain ⟨j, hj⟩ := hE E hEr
    rcases List.mem_cons.mp hj with h | h
    · cases h
      refine vx_catch (name := "java/lang/IndexOutOfBoundsException") hown [] _ _ htab (fun z hz9 => absurd hz9 List.not_mem_nil) rfl (by decide) (hts (Cond.classLink RL 21 "java/lang/IndexOutOfBoundsException") (by decide +kernel)) (va_Nw.use rfl (hth.2.2.2.1 _ (by decide))) hce hcv hcl ?_
      refine lv_astore_n (lv' := [(3, .ref q9), (0, .ref (q 0)), (1, .int p1), (2, .ref o)]) hx hb dL_free_12 rfl hl (by decide) rfl (fun ls hl => ?_)
      refine lv_iconst (v := 1) hx hb dL_free_13 (by decide) ?_
      exact vx_ret (W.iret (v := 1) hx hb hr (fun t9 ht9 hW => ⟨⟨1, (G, v), rfl, Or.inr ⟨_, 1, hEr, hj, rfl, rfl⟩, w_end ht9 hM1 rfl, by rw [ht9]; exact hPo1⟩, hS.F ht9⟩) hS.2.2 dL_free_14)
    · skip
      rcases List.mem_cons.mp h with h | h
      · cases h
        refine vx_catch (name := "java/lang/IllegalStateException") hown [_] _ _ htab (fun z hz9 => Or.inr ?_) rfl (by decide) (hts (Cond.classLink RL 15 "java/lang/IllegalStateException") (by decide +kernel)) (va_Nw.use rfl (hth.2.2.2.1 _ (by decide))) hce hcv hcl ?_
        · rw [List.mem_singleton.mp hz9]
          exact ⟨by decide, "java/lang/IndexOutOfBoundsException", hts (Cond.classLink RL 21 "java/lang/IndexOutOfBoundsException") (by decide +kernel), hnc ("java/lang/IllegalStateException", "java/lang/IndexOutOfBoundsException") (by decide)⟩
        refine lv_astore_n (lv' := [(3, .ref q9), (0, .ref (q 0)), (1, .int p1), (2, .ref o)]) hx hb dL_free_15 rfl hl (by decide) rfl (fun ls hl => ?_)
        refine lv_iconst (v := 2) hx hb dL_free_16 (by decide) ?_
        exact vx_ret (W.iret (v := 2) hx hb hr (fun t9 ht9 hW => ⟨⟨2, (G, v), rfl, Or.inr ⟨_, 2, hEr, hj, rfl, rfl⟩, w_end ht9 hM1 rfl, by rw [ht9]; exact hPo1⟩, hS.F ht9⟩) hS.2.2 dL_free_17)
      · exact absurd h List.not_mem_nil
  · rw [ht] at hB
    have hPo1 : va_P D vwCl (oW o cL v) H1 := hPo.kept fun k y hy => by
      have hz1 : k < 1 := (List.getElem?_eq_some_iff.mp hy).1
      obtain rfl : k = 0 := by omega
      cases hy
      exact hk o ((hPo 0 _ rfl).lt) ho
    refine lv_i2l (v := x.toInt64) hx hb dL_free_7 rfl ?_
    refine va_last hx hb hKL (va_P.app hPo1 hB) (wD hJ (Or.inr rfl) (fun a h => Or.inl (Or.inl h)) (fun h => ho (Or.inl h))) hS 0 2 rfl rfl (inb_in (x := 0) (by decide)) dL_free_8 (fun H2 locs2 hP2 hD2 hS2 => ?_)
    have hP3 : va_P D vwCl ((o, .inl (cL, 1, .inr (.inl (vp_updL (fun _ => v) (0 : Int32).toNatClampNeg x.toInt64)))) :: mwL cI cR q tmC G') H2 := hP2
    obtain ⟨hP4, hM4⟩ := w_split hP3
    refine lv_goto (tgt := 18) hx hb dL_free_9 (by decide) ?_
    refine lv_iconst (v := 0) hx hb dL_free_18 (by decide) ?_
    exact vx_ret (W.iret (v := 0) hx hb hr (fun t9 ht9 hW => ⟨⟨0, (G', x.toInt64), rfl, Or.inl ⟨x, G', hp, rfl, rfl⟩, w_end ht9 hM4 rfl, by rw [ht9]; exact o_one hP4⟩, hS2.F ht9⟩) hS2.2.2 dL_free_19)
set_option maxHeartbeats 4000000 in
set_option maxRecDepth 100000 in
theorem kL_takeBag (l : Launch) (hfl : l.flags = flags0) (D : va_G) (cI cR cL : ClassId) (q : Nat → Nat) (G : Nat → Nat → Int32) (K : Nat) (p1 : Int32) (hJ : MJ tmC q) (sz o : Nat) (v : Int64) (r : String ⊕ (Int32 × (Nat → Nat → Int32))) (hs : sX3_takeBag K G p1 = some r) (hE : ∀ E, r = .inl E → ∃ j, (E, j) ∈ hI) : vx_Met l yL_takeBag wsL_takeBag ({ frames := 8, cells := 1, slots := 6, locals := 137 } : Room) (wPre [.ref (q 0), .int p1, .ref o] D cI cR cL q G sz o v) (wPost D cI cR cL q G sz o v hI r) wX 1 6 (wA q sz o) := by
  refine vx_ofWH (cc := cL_takeBag) (maxL := 4) (ret := some .int) (hh := [(0, 9, 12, 21)]) (by decide) rfl ?_
  intro p e s m args below meth c s₁ B hml hv
  obtain ⟨hargs, hsz, hM, hKL, hth, hPo, ho, hnc⟩ := hv
  have hx := B.exec
  have hb := B.bytes
  have hr := B.returns
  have hts := atoms_spec (ws := wsL_takeBag) B.pre
  have hown : s.vm.findClass RL = some m.cls := findClass_of_methodNamed B.named
  have htab := vx_table (x := yL_takeBag) B (hts _ List.mem_cons_self)
  have hK := mTyL_K hKL
  subst hsz
  have hS : va_S (wA q s.heap.size o) s.heap s.heap [] := va_S.rf
  have hS0 : va_S (MN tmC q s.heap.size) s.heap s.heap [] := va_S.rf
  subst hargs
  have hl := lv_entry ([.ref (q 0), .int p1, .ref o]) (n := 4) (Nat.le_of_ble_eq_true rfl)
  rw [lg_entry_eq]
  generalize (lg_sl ([.ref (q 0), .int p1, .ref o]) ++ List.replicate (4 - (lg_sl ([.ref (q 0), .int p1, .ref o])).length) Slot.unset).toArray = ls at hl ⊢
  have hl : lv_has ls 4 [(0, .ref (q 0)), (1, .int p1), (2, .ref o)] := hl
  refine lv_aload_n hx hb dL_takeBag_0 rfl (lv_at hl 2 rfl) ?_
  refine lv_iconst (v := 0) hx hb dL_takeBag_1 (by decide) ?_
  refine lv_aload_n hx hb dL_takeBag_2 rfl (lv_at hl 0 rfl) ?_
  refine lv_iload_n hx hb dL_takeBag_3 rfl (lv_at hl 1 rfl) ?_
  refine vx_calli (vx_runV (As := [.int p1]) (rest := [.int (0 : Int32), .ref o]) ⟨hx, hb, hml, hown, hts⟩ (kX3_takeBag l hfl D cI cR q G K p1 hJ s.heap.size r hs) (cwV 1 hts gL_takeBag_X3_takeBag rfl rfl rfl (by decide +kernel) ⟨(Nat.le_of_ble_eq_true rfl), (Nat.le_of_ble_eq_true rfl)⟩) (mPreVT hK hM hS0 rfl hth 0 rfl rfl) rfl rfl hl.1 rfl (lv_room (Nat.le_of_ble_eq_true rfl)) dL_takeBag_4 ⟨(Nat.le_of_ble_eq_true rfl), (Nat.le_of_ble_eq_true rfl)⟩) hS (fun _ _ h => Or.inl h) (fun _ h => Or.inl h) (fun _ _ h => Or.inl h) (fun E ce q9 u t H1 locs1 ht hvm _ hB hz hk hS hce hcv hcl => ?_) (fun x G' t H1 locs1 ht hvm hp hB hz hk hS => ?_)
  · obtain ⟨hEr, hM1⟩ := hB
    rw [ht] at hM1
    have hPo1 : va_P D vwCl (oW o cL v) H1 := hPo.kept fun k y hy => by
      have hz1 : k < 1 := (List.getElem?_eq_some_iff.mp hy).1
      obtain rfl : k = 0 := by omega
      cases hy
      exact hk o ((hPo 0 _ rfl).lt) ho
    obtain ⟨j, hj⟩ := hE E hEr
    rcases List.mem_cons.mp hj with h | h
    · cases h
      refine vx_catch (name := "java/lang/IndexOutOfBoundsException") hown [] _ _ htab (fun z hz9 => absurd hz9 List.not_mem_nil) rfl (by decide) (hts (Cond.classLink RL 21 "java/lang/IndexOutOfBoundsException") (by decide +kernel)) (va_Nw.use rfl (hth.2.2.2.1 _ (by decide))) hce hcv hcl ?_
      refine lv_astore_n (lv' := [(3, .ref q9), (0, .ref (q 0)), (1, .int p1), (2, .ref o)]) hx hb dL_takeBag_12 rfl hl (by decide) rfl (fun ls hl => ?_)
      refine lv_iconst (v := 1) hx hb dL_takeBag_13 (by decide) ?_
      exact vx_ret (W.iret (v := 1) hx hb hr (fun t9 ht9 hW => ⟨⟨1, (G, v), rfl, Or.inr ⟨_, 1, hEr, hj, rfl, rfl⟩, w_end ht9 hM1 rfl, by rw [ht9]; exact hPo1⟩, hS.F ht9⟩) hS.2.2 dL_takeBag_14)
    · exact absurd h List.not_mem_nil
  · rw [ht] at hB
    have hPo1 : va_P D vwCl (oW o cL v) H1 := hPo.kept fun k y hy => by
      have hz1 : k < 1 := (List.getElem?_eq_some_iff.mp hy).1
      obtain rfl : k = 0 := by omega
      cases hy
      exact hk o ((hPo 0 _ rfl).lt) ho
    refine lv_i2l (v := x.toInt64) hx hb dL_takeBag_7 rfl ?_
    refine va_last hx hb hKL (va_P.app hPo1 hB) (wD hJ (Or.inr rfl) (fun a h => Or.inl (Or.inl h)) (fun h => ho (Or.inl h))) hS 0 2 rfl rfl (inb_in (x := 0) (by decide)) dL_takeBag_8 (fun H2 locs2 hP2 hD2 hS2 => ?_)
    have hP3 : va_P D vwCl ((o, .inl (cL, 1, .inr (.inl (vp_updL (fun _ => v) (0 : Int32).toNatClampNeg x.toInt64)))) :: mwL cI cR q tmC G') H2 := hP2
    obtain ⟨hP4, hM4⟩ := w_split hP3
    refine lv_goto (tgt := 15) hx hb dL_takeBag_9 (by decide) ?_
    refine lv_iconst (v := 0) hx hb dL_takeBag_15 (by decide) ?_
    exact vx_ret (W.iret (v := 0) hx hb hr (fun t9 ht9 hW => ⟨⟨0, (G', x.toInt64), rfl, Or.inl ⟨x, G', hp, rfl, rfl⟩, w_end ht9 hM4 rfl, by rw [ht9]; exact o_one hP4⟩, hS2.F ht9⟩) hS2.2.2 dL_takeBag_16)
set_option maxHeartbeats 4000000 in
set_option maxRecDepth 100000 in
theorem kL_kind (l : Launch) (hfl : l.flags = flags0) (D : va_G) (cI cR cL : ClassId) (q : Nat → Nat) (G : Nat → Nat → Int32) (K : Nat) (p1 p2 : Int32) (hJ : MJ tmC q) (sz o : Nat) (v : Int64) (r : String ⊕ Int32) (hs : sX3_kind K G p1 p2 = some r) (hE : ∀ E, r = .inl E → ∃ j, (E, j) ∈ hIA) : vx_Met l yL_kind wsL_kind ({ frames := 8, cells := 2, slots := 12, locals := 140 } : Room) (wPre [.ref (q 0), .int p1, .int p2, .ref o] D cI cR cL q G sz o v) (wPost D cI cR cL q G sz o v hIA (liftR G r)) wX 2 12 (wA q sz o) := by
  refine vx_ofWH (cc := cL_kind) (maxL := 5) (ret := some .int) (hh := [(0, 10, 13, 21), (0, 10, 17, 13)]) (by decide) rfl ?_
  intro p e s m args below meth c s₁ B hml hv
  obtain ⟨hargs, hsz, hM, hKL, hth, hPo, ho, hnc⟩ := hv
  have hx := B.exec
  have hb := B.bytes
  have hr := B.returns
  have hts := atoms_spec (ws := wsL_kind) B.pre
  have hown : s.vm.findClass RL = some m.cls := findClass_of_methodNamed B.named
  have htab := vx_table (x := yL_kind) B (hts _ List.mem_cons_self)
  have hK := mTyL_K hKL
  subst hsz
  have hS : va_S (wA q s.heap.size o) s.heap s.heap [] := va_S.rf
  have hS0 : va_S (MN tmC q s.heap.size) s.heap s.heap [] := va_S.rf
  subst hargs
  have hl := lv_entry ([.ref (q 0), .int p1, .int p2, .ref o]) (n := 5) (Nat.le_of_ble_eq_true rfl)
  rw [lg_entry_eq]
  generalize (lg_sl ([.ref (q 0), .int p1, .int p2, .ref o]) ++ List.replicate (5 - (lg_sl ([.ref (q 0), .int p1, .int p2, .ref o])).length) Slot.unset).toArray = ls at hl ⊢
  have hl : lv_has ls 5 [(0, .ref (q 0)), (1, .int p1), (2, .int p2), (3, .ref o)] := hl
  refine lv_aload_n hx hb dL_kind_0 rfl (lv_at hl 3 rfl) ?_
  refine lv_iconst (v := 0) hx hb dL_kind_1 (by decide) ?_
  refine lv_aload_n hx hb dL_kind_2 rfl (lv_at hl 0 rfl) ?_
  refine lv_iload_n hx hb dL_kind_3 rfl (lv_at hl 1 rfl) ?_
  refine lv_iload_n hx hb dL_kind_4 rfl (lv_at hl 2 rfl) ?_
  refine vx_calli (vx_runV (As := [.int p1, .int p2]) (rest := [.int (0 : Int32), .ref o]) ⟨hx, hb, hml, hown, hts⟩ (kX3_kind l hfl D cI cR q G K p1 p2 s.heap.size r hs) (cwV 2 hts gL_kind_X3_kind rfl rfl rfl (by decide +kernel) ⟨(Nat.le_of_ble_eq_true rfl), (Nat.le_of_ble_eq_true rfl)⟩) (mPreVT hK hM hS0 rfl hth 0 rfl rfl) rfl rfl hl.1 rfl (lv_room (Nat.le_of_ble_eq_true rfl)) dL_kind_5 ⟨(Nat.le_of_ble_eq_true rfl), (Nat.le_of_ble_eq_true rfl)⟩) hS (fun _ _ h => Or.inl h) (fun _ h => Or.inl h) (fun _ _ h => Or.inl h) (fun E ce q9 u t H1 locs1 ht hvm _ hB hz hk hS hce hcv hcl => ?_) (fun x _ t H1 locs1 ht hvm hp hB hz hk hS => ?_)
  · obtain ⟨hEr, hM1⟩ := hB
    rw [ht] at hM1
    have hPo1 : va_P D vwCl (oW o cL v) H1 := hPo.kept fun k y hy => by
      have hz1 : k < 1 := (List.getElem?_eq_some_iff.mp hy).1
      obtain rfl : k = 0 := by omega
      cases hy
      exact hk o ((hPo 0 _ rfl).lt) ho
    obtain ⟨j, hj⟩ := hE E hEr
    rcases List.mem_cons.mp hj with h | h
    · cases h
      refine vx_catch (name := "java/lang/IndexOutOfBoundsException") hown [] _ _ htab (fun z hz9 => absurd hz9 List.not_mem_nil) rfl (by decide) (hts (Cond.classLink RL 21 "java/lang/IndexOutOfBoundsException") (by decide +kernel)) (va_Nw.use rfl (hth.2.2.2.1 _ (by decide))) hce hcv hcl ?_
      refine lv_astore (lv' := [(4, .ref q9), (0, .ref (q 0)), (1, .int p1), (2, .int p2), (3, .ref o)]) hx hb dL_kind_13 hl (by decide) rfl (fun ls hl => ?_)
      refine lv_iconst (v := 1) hx hb dL_kind_15 (by decide) ?_
      exact vx_ret (W.iret (v := 1) hx hb hr (fun t9 ht9 hW => ⟨⟨1, (G, v), rfl, Or.inr ⟨_, 1, (by rw [hEr]; rfl), hj, rfl, rfl⟩, w_end ht9 hM1 rfl, by rw [ht9]; exact hPo1⟩, hS.F ht9⟩) hS.2.2 dL_kind_16)
    · skip
      rcases List.mem_cons.mp h with h | h
      · cases h
        refine vx_catch (name := "java/lang/IllegalArgumentException") hown [_] _ _ htab (fun z hz9 => Or.inr ?_) rfl (by decide) (hts (Cond.classLink RL 13 "java/lang/IllegalArgumentException") (by decide +kernel)) (va_Nw.use rfl (hth.2.2.2.1 _ (by decide))) hce hcv hcl ?_
        · rw [List.mem_singleton.mp hz9]
          exact ⟨by decide, "java/lang/IndexOutOfBoundsException", hts (Cond.classLink RL 21 "java/lang/IndexOutOfBoundsException") (by decide +kernel), hnc ("java/lang/IllegalArgumentException", "java/lang/IndexOutOfBoundsException") (by decide)⟩
        refine lv_astore (lv' := [(4, .ref q9), (0, .ref (q 0)), (1, .int p1), (2, .int p2), (3, .ref o)]) hx hb dL_kind_17 hl (by decide) rfl (fun ls hl => ?_)
        refine lv_iconst (v := 2) hx hb dL_kind_19 (by decide) ?_
        exact vx_ret (W.iret (v := 2) hx hb hr (fun t9 ht9 hW => ⟨⟨2, (G, v), rfl, Or.inr ⟨_, 2, (by rw [hEr]; rfl), hj, rfl, rfl⟩, w_end ht9 hM1 rfl, by rw [ht9]; exact hPo1⟩, hS.F ht9⟩) hS.2.2 dL_kind_20)
      · exact absurd h List.not_mem_nil
  · rw [ht] at hB
    have hPo1 : va_P D vwCl (oW o cL v) H1 := hPo.kept fun k y hy => by
      have hz1 : k < 1 := (List.getElem?_eq_some_iff.mp hy).1
      obtain rfl : k = 0 := by omega
      cases hy
      exact hk o ((hPo 0 _ rfl).lt) ho
    refine lv_i2l (v := x.toInt64) hx hb dL_kind_8 rfl ?_
    refine va_last hx hb hKL (va_P.app hPo1 hB) (wD hJ (Or.inr rfl) (fun a h => Or.inl (Or.inl h)) (fun h => ho (Or.inl h))) hS 0 2 rfl rfl (inb_in (x := 0) (by decide)) dL_kind_9 (fun H2 locs2 hP2 hD2 hS2 => ?_)
    have hP3 : va_P D vwCl ((o, .inl (cL, 1, .inr (.inl (vp_updL (fun _ => v) (0 : Int32).toNatClampNeg x.toInt64)))) :: mwL cI cR q tmC G) H2 := hP2
    obtain ⟨hP4, hM4⟩ := w_split hP3
    refine lv_goto (tgt := 21) hx hb dL_kind_10 (by decide) ?_
    refine lv_iconst (v := 0) hx hb dL_kind_21 (by decide) ?_
    exact vx_ret (W.iret (v := 0) hx hb hr (fun t9 ht9 hW => ⟨⟨0, (G, x.toInt64), rfl, Or.inl ⟨x, G, (by rw [hp]; rfl), rfl, rfl⟩, w_end ht9 hM4 rfl, by rw [ht9]; exact o_one hP4⟩, hS2.F ht9⟩) hS2.2.2 dL_kind_22)
set_option maxHeartbeats 4000000 in
set_option maxRecDepth 100000 in
theorem kL_rail (l : Launch) (hfl : l.flags = flags0) (D : va_G) (cI cR cL : ClassId) (q : Nat → Nat) (G : Nat → Nat → Int32) (K : Nat) (p1 p2 : Int32) (hJ : MJ tmC q) (sz o : Nat) (v : Int64) (r : String ⊕ Int32) (hs : sX3_rail K G p1 p2 = some r) (hE : ∀ E, r = .inl E → ∃ j, (E, j) ∈ hIA) : vx_Met l yL_rail wsL_rail ({ frames := 8, cells := 2, slots := 12, locals := 140 } : Room) (wPre [.ref (q 0), .int p1, .int p2, .ref o] D cI cR cL q G sz o v) (wPost D cI cR cL q G sz o v hIA (liftR G r)) wX 2 12 (wA q sz o) := by
  refine vx_ofWH (cc := cL_rail) (maxL := 5) (ret := some .int) (hh := [(0, 10, 13, 21), (0, 10, 17, 13)]) (by decide) rfl ?_
  intro p e s m args below meth c s₁ B hml hv
  obtain ⟨hargs, hsz, hM, hKL, hth, hPo, ho, hnc⟩ := hv
  have hx := B.exec
  have hb := B.bytes
  have hr := B.returns
  have hts := atoms_spec (ws := wsL_rail) B.pre
  have hown : s.vm.findClass RL = some m.cls := findClass_of_methodNamed B.named
  have htab := vx_table (x := yL_rail) B (hts _ List.mem_cons_self)
  have hK := mTyL_K hKL
  subst hsz
  have hS : va_S (wA q s.heap.size o) s.heap s.heap [] := va_S.rf
  have hS0 : va_S (MN tmC q s.heap.size) s.heap s.heap [] := va_S.rf
  subst hargs
  have hl := lv_entry ([.ref (q 0), .int p1, .int p2, .ref o]) (n := 5) (Nat.le_of_ble_eq_true rfl)
  rw [lg_entry_eq]
  generalize (lg_sl ([.ref (q 0), .int p1, .int p2, .ref o]) ++ List.replicate (5 - (lg_sl ([.ref (q 0), .int p1, .int p2, .ref o])).length) Slot.unset).toArray = ls at hl ⊢
  have hl : lv_has ls 5 [(0, .ref (q 0)), (1, .int p1), (2, .int p2), (3, .ref o)] := hl
  refine lv_aload_n hx hb dL_rail_0 rfl (lv_at hl 3 rfl) ?_
  refine lv_iconst (v := 0) hx hb dL_rail_1 (by decide) ?_
  refine lv_aload_n hx hb dL_rail_2 rfl (lv_at hl 0 rfl) ?_
  refine lv_iload_n hx hb dL_rail_3 rfl (lv_at hl 1 rfl) ?_
  refine lv_iload_n hx hb dL_rail_4 rfl (lv_at hl 2 rfl) ?_
  refine vx_calli (vx_runV (As := [.int p1, .int p2]) (rest := [.int (0 : Int32), .ref o]) ⟨hx, hb, hml, hown, hts⟩ (kX3_rail l hfl D cI cR q G K p1 p2 s.heap.size r hs) (cwV 2 hts gL_rail_X3_rail rfl rfl rfl (by decide +kernel) ⟨(Nat.le_of_ble_eq_true rfl), (Nat.le_of_ble_eq_true rfl)⟩) (mPreVT hK hM hS0 rfl hth 0 rfl rfl) rfl rfl hl.1 rfl (lv_room (Nat.le_of_ble_eq_true rfl)) dL_rail_5 ⟨(Nat.le_of_ble_eq_true rfl), (Nat.le_of_ble_eq_true rfl)⟩) hS (fun _ _ h => Or.inl h) (fun _ h => Or.inl h) (fun _ _ h => Or.inl h) (fun E ce q9 u t H1 locs1 ht hvm _ hB hz hk hS hce hcv hcl => ?_) (fun x _ t H1 locs1 ht hvm hp hB hz hk hS => ?_)
  · obtain ⟨hEr, hM1⟩ := hB
    rw [ht] at hM1
    have hPo1 : va_P D vwCl (oW o cL v) H1 := hPo.kept fun k y hy => by
      have hz1 : k < 1 := (List.getElem?_eq_some_iff.mp hy).1
      obtain rfl : k = 0 := by omega
      cases hy
      exact hk o ((hPo 0 _ rfl).lt) ho
    obtain ⟨j, hj⟩ := hE E hEr
    rcases List.mem_cons.mp hj with h | h
    · cases h
      refine vx_catch (name := "java/lang/IndexOutOfBoundsException") hown [] _ _ htab (fun z hz9 => absurd hz9 List.not_mem_nil) rfl (by decide) (hts (Cond.classLink RL 21 "java/lang/IndexOutOfBoundsException") (by decide +kernel)) (va_Nw.use rfl (hth.2.2.2.1 _ (by decide))) hce hcv hcl ?_
      refine lv_astore (lv' := [(4, .ref q9), (0, .ref (q 0)), (1, .int p1), (2, .int p2), (3, .ref o)]) hx hb dL_rail_13 hl (by decide) rfl (fun ls hl => ?_)
      refine lv_iconst (v := 1) hx hb dL_rail_15 (by decide) ?_
      exact vx_ret (W.iret (v := 1) hx hb hr (fun t9 ht9 hW => ⟨⟨1, (G, v), rfl, Or.inr ⟨_, 1, (by rw [hEr]; rfl), hj, rfl, rfl⟩, w_end ht9 hM1 rfl, by rw [ht9]; exact hPo1⟩, hS.F ht9⟩) hS.2.2 dL_rail_16)
    · skip
      rcases List.mem_cons.mp h with h | h
      · cases h
        refine vx_catch (name := "java/lang/IllegalArgumentException") hown [_] _ _ htab (fun z hz9 => Or.inr ?_) rfl (by decide) (hts (Cond.classLink RL 13 "java/lang/IllegalArgumentException") (by decide +kernel)) (va_Nw.use rfl (hth.2.2.2.1 _ (by decide))) hce hcv hcl ?_
        · rw [List.mem_singleton.mp hz9]
          exact ⟨by decide, "java/lang/IndexOutOfBoundsException", hts (Cond.classLink RL 21 "java/lang/IndexOutOfBoundsException") (by decide +kernel), hnc ("java/lang/IllegalArgumentException", "java/lang/IndexOutOfBoundsException") (by decide)⟩
        refine lv_astore (lv' := [(4, .ref q9), (0, .ref (q 0)), (1, .int p1), (2, .int p2), (3, .ref o)]) hx hb dL_rail_17 hl (by decide) rfl (fun ls hl => ?_)
        refine lv_iconst (v := 2) hx hb dL_rail_19 (by decide) ?_
        exact vx_ret (W.iret (v := 2) hx hb hr (fun t9 ht9 hW => ⟨⟨2, (G, v), rfl, Or.inr ⟨_, 2, (by rw [hEr]; rfl), hj, rfl, rfl⟩, w_end ht9 hM1 rfl, by rw [ht9]; exact hPo1⟩, hS.F ht9⟩) hS.2.2 dL_rail_20)
      · exact absurd h List.not_mem_nil
  · rw [ht] at hB
    have hPo1 : va_P D vwCl (oW o cL v) H1 := hPo.kept fun k y hy => by
      have hz1 : k < 1 := (List.getElem?_eq_some_iff.mp hy).1
      obtain rfl : k = 0 := by omega
      cases hy
      exact hk o ((hPo 0 _ rfl).lt) ho
    refine lv_i2l (v := x.toInt64) hx hb dL_rail_8 rfl ?_
    refine va_last hx hb hKL (va_P.app hPo1 hB) (wD hJ (Or.inr rfl) (fun a h => Or.inl (Or.inl h)) (fun h => ho (Or.inl h))) hS 0 2 rfl rfl (inb_in (x := 0) (by decide)) dL_rail_9 (fun H2 locs2 hP2 hD2 hS2 => ?_)
    have hP3 : va_P D vwCl ((o, .inl (cL, 1, .inr (.inl (vp_updL (fun _ => v) (0 : Int32).toNatClampNeg x.toInt64)))) :: mwL cI cR q tmC G) H2 := hP2
    obtain ⟨hP4, hM4⟩ := w_split hP3
    refine lv_goto (tgt := 21) hx hb dL_rail_10 (by decide) ?_
    refine lv_iconst (v := 0) hx hb dL_rail_21 (by decide) ?_
    exact vx_ret (W.iret (v := 0) hx hb hr (fun t9 ht9 hW => ⟨⟨0, (G, x.toInt64), rfl, Or.inl ⟨x, G, (by rw [hp]; rfl), rfl, rfl⟩, w_end ht9 hM4 rfl, by rw [ht9]; exact o_one hP4⟩, hS2.F ht9⟩) hS2.2.2 dL_rail_22)
set_option maxHeartbeats 4000000 in
set_option maxRecDepth 100000 in
theorem kL_count (l : Launch) (hfl : l.flags = flags0) (D : va_G) (cI cR cL : ClassId) (q : Nat → Nat) (G : Nat → Nat → Int32) (K : Nat) (p1 p2 : Int32) (hJ : MJ tmC q) (sz o : Nat) (v : Int64) (r : String ⊕ Int32) (hs : sX3_count K G p1 p2 = some r) (hE : ∀ E, r = .inl E → ∃ j, (E, j) ∈ hI) : vx_Met l yL_count wsL_count ({ frames := 8, cells := 2, slots := 12, locals := 139 } : Room) (wPre [.ref (q 0), .int p1, .int p2, .ref o] D cI cR cL q G sz o v) (wPost D cI cR cL q G sz o v hI (liftR G r)) wX 2 12 (wA q sz o) := by
  refine vx_ofWH (cc := cL_count) (maxL := 5) (ret := some .int) (hh := [(0, 10, 13, 21)]) (by decide) rfl ?_
  intro p e s m args below meth c s₁ B hml hv
  obtain ⟨hargs, hsz, hM, hKL, hth, hPo, ho, hnc⟩ := hv
  have hx := B.exec
  have hb := B.bytes
  have hr := B.returns
  have hts := atoms_spec (ws := wsL_count) B.pre
  have hown : s.vm.findClass RL = some m.cls := findClass_of_methodNamed B.named
  have htab := vx_table (x := yL_count) B (hts _ List.mem_cons_self)
  have hK := mTyL_K hKL
  subst hsz
  have hS : va_S (wA q s.heap.size o) s.heap s.heap [] := va_S.rf
  have hS0 : va_S (MN tmC q s.heap.size) s.heap s.heap [] := va_S.rf
  subst hargs
  have hl := lv_entry ([.ref (q 0), .int p1, .int p2, .ref o]) (n := 5) (Nat.le_of_ble_eq_true rfl)
  rw [lg_entry_eq]
  generalize (lg_sl ([.ref (q 0), .int p1, .int p2, .ref o]) ++ List.replicate (5 - (lg_sl ([.ref (q 0), .int p1, .int p2, .ref o])).length) Slot.unset).toArray = ls at hl ⊢
  have hl : lv_has ls 5 [(0, .ref (q 0)), (1, .int p1), (2, .int p2), (3, .ref o)] := hl
  refine lv_aload_n hx hb dL_count_0 rfl (lv_at hl 3 rfl) ?_
  refine lv_iconst (v := 0) hx hb dL_count_1 (by decide) ?_
  refine lv_aload_n hx hb dL_count_2 rfl (lv_at hl 0 rfl) ?_
  refine lv_iload_n hx hb dL_count_3 rfl (lv_at hl 1 rfl) ?_
  refine lv_iload_n hx hb dL_count_4 rfl (lv_at hl 2 rfl) ?_
  refine vx_calli (vx_runV (As := [.int p1, .int p2]) (rest := [.int (0 : Int32), .ref o]) ⟨hx, hb, hml, hown, hts⟩ (kX3_count l hfl D cI cR q G K p1 p2 s.heap.size r hs) (cwV 2 hts gL_count_X3_count rfl rfl rfl (by decide +kernel) ⟨(Nat.le_of_ble_eq_true rfl), (Nat.le_of_ble_eq_true rfl)⟩) (mPreVT hK hM hS0 rfl hth 0 rfl rfl) rfl rfl hl.1 rfl (lv_room (Nat.le_of_ble_eq_true rfl)) dL_count_5 ⟨(Nat.le_of_ble_eq_true rfl), (Nat.le_of_ble_eq_true rfl)⟩) hS (fun _ _ h => Or.inl h) (fun _ h => Or.inl h) (fun _ _ h => Or.inl h) (fun E ce q9 u t H1 locs1 ht hvm _ hB hz hk hS hce hcv hcl => ?_) (fun x _ t H1 locs1 ht hvm hp hB hz hk hS => ?_)
  · obtain ⟨hEr, hM1⟩ := hB
    rw [ht] at hM1
    have hPo1 : va_P D vwCl (oW o cL v) H1 := hPo.kept fun k y hy => by
      have hz1 : k < 1 := (List.getElem?_eq_some_iff.mp hy).1
      obtain rfl : k = 0 := by omega
      cases hy
      exact hk o ((hPo 0 _ rfl).lt) ho
    obtain ⟨j, hj⟩ := hE E hEr
    rcases List.mem_cons.mp hj with h | h
    · cases h
      refine vx_catch (name := "java/lang/IndexOutOfBoundsException") hown [] _ _ htab (fun z hz9 => absurd hz9 List.not_mem_nil) rfl (by decide) (hts (Cond.classLink RL 21 "java/lang/IndexOutOfBoundsException") (by decide +kernel)) (va_Nw.use rfl (hth.2.2.2.1 _ (by decide))) hce hcv hcl ?_
      refine lv_astore (lv' := [(4, .ref q9), (0, .ref (q 0)), (1, .int p1), (2, .int p2), (3, .ref o)]) hx hb dL_count_13 hl (by decide) rfl (fun ls hl => ?_)
      refine lv_iconst (v := 1) hx hb dL_count_15 (by decide) ?_
      exact vx_ret (W.iret (v := 1) hx hb hr (fun t9 ht9 hW => ⟨⟨1, (G, v), rfl, Or.inr ⟨_, 1, (by rw [hEr]; rfl), hj, rfl, rfl⟩, w_end ht9 hM1 rfl, by rw [ht9]; exact hPo1⟩, hS.F ht9⟩) hS.2.2 dL_count_16)
    · exact absurd h List.not_mem_nil
  · rw [ht] at hB
    have hPo1 : va_P D vwCl (oW o cL v) H1 := hPo.kept fun k y hy => by
      have hz1 : k < 1 := (List.getElem?_eq_some_iff.mp hy).1
      obtain rfl : k = 0 := by omega
      cases hy
      exact hk o ((hPo 0 _ rfl).lt) ho
    refine lv_i2l (v := x.toInt64) hx hb dL_count_8 rfl ?_
    refine va_last hx hb hKL (va_P.app hPo1 hB) (wD hJ (Or.inr rfl) (fun a h => Or.inl (Or.inl h)) (fun h => ho (Or.inl h))) hS 0 2 rfl rfl (inb_in (x := 0) (by decide)) dL_count_9 (fun H2 locs2 hP2 hD2 hS2 => ?_)
    have hP3 : va_P D vwCl ((o, .inl (cL, 1, .inr (.inl (vp_updL (fun _ => v) (0 : Int32).toNatClampNeg x.toInt64)))) :: mwL cI cR q tmC G) H2 := hP2
    obtain ⟨hP4, hM4⟩ := w_split hP3
    refine lv_goto (tgt := 17) hx hb dL_count_10 (by decide) ?_
    refine lv_iconst (v := 0) hx hb dL_count_17 (by decide) ?_
    exact vx_ret (W.iret (v := 0) hx hb hr (fun t9 ht9 hW => ⟨⟨0, (G, x.toInt64), rfl, Or.inl ⟨x, G, (by rw [hp]; rfl), rfl, rfl⟩, w_end ht9 hM4 rfl, by rw [ht9]; exact o_one hP4⟩, hS2.F ht9⟩) hS2.2.2 dL_count_18)
set_option maxHeartbeats 4000000 in
set_option maxRecDepth 100000 in
theorem kL_value (l : Launch) (hfl : l.flags = flags0) (D : va_G) (cI cR cL : ClassId) (q : Nat → Nat) (G : Nat → Nat → Int32) (K : Nat) (p1 : Int32) (hJ : MJ tmC q) (sz o : Nat) (v : Int64) (r : String ⊕ Int32) (hs : sX3_value K G p1 = some r) (hE : ∀ E, r = .inl E → ∃ j, (E, j) ∈ hA) : vx_Met l yL_value wsL_value ({ frames := 8, cells := 1, slots := 6, locals := 139 } : Room) (wPre [.ref (q 0), .int p1, .ref o] D cI cR cL q G sz o v) (wPost D cI cR cL q G sz o v hA (liftR G r)) wX 1 6 (wA q sz o) := by
  refine vx_ofWH (cc := cL_value) (maxL := 4) (ret := some .int) (hh := [(0, 9, 12, 13)]) (by decide) rfl ?_
  intro p e s m args below meth c s₁ B hml hv
  obtain ⟨hargs, hsz, hM, hKL, hth, hPo, ho, hnc⟩ := hv
  have hx := B.exec
  have hb := B.bytes
  have hr := B.returns
  have hts := atoms_spec (ws := wsL_value) B.pre
  have hown : s.vm.findClass RL = some m.cls := findClass_of_methodNamed B.named
  have htab := vx_table (x := yL_value) B (hts _ List.mem_cons_self)
  have hK := mTyL_K hKL
  subst hsz
  have hS : va_S (wA q s.heap.size o) s.heap s.heap [] := va_S.rf
  have hS0 : va_S (MN tmC q s.heap.size) s.heap s.heap [] := va_S.rf
  subst hargs
  have hl := lv_entry ([.ref (q 0), .int p1, .ref o]) (n := 4) (Nat.le_of_ble_eq_true rfl)
  rw [lg_entry_eq]
  generalize (lg_sl ([.ref (q 0), .int p1, .ref o]) ++ List.replicate (4 - (lg_sl ([.ref (q 0), .int p1, .ref o])).length) Slot.unset).toArray = ls at hl ⊢
  have hl : lv_has ls 4 [(0, .ref (q 0)), (1, .int p1), (2, .ref o)] := hl
  refine lv_aload_n hx hb dL_value_0 rfl (lv_at hl 2 rfl) ?_
  refine lv_iconst (v := 0) hx hb dL_value_1 (by decide) ?_
  refine lv_aload_n hx hb dL_value_2 rfl (lv_at hl 0 rfl) ?_
  refine lv_iload_n hx hb dL_value_3 rfl (lv_at hl 1 rfl) ?_
  refine vx_calli (vx_runV (As := [.int p1]) (rest := [.int (0 : Int32), .ref o]) ⟨hx, hb, hml, hown, hts⟩ (kX3_value l hfl D cI cR q G K p1 s.heap.size r hs) (cwV 1 hts gL_value_X3_value rfl rfl rfl (by decide +kernel) ⟨(Nat.le_of_ble_eq_true rfl), (Nat.le_of_ble_eq_true rfl)⟩) (mPreVT hK hM hS0 rfl hth 0 rfl rfl) rfl rfl hl.1 rfl (lv_room (Nat.le_of_ble_eq_true rfl)) dL_value_4 ⟨(Nat.le_of_ble_eq_true rfl), (Nat.le_of_ble_eq_true rfl)⟩) hS (fun _ _ h => Or.inl h) (fun _ h => Or.inl h) (fun _ _ h => Or.inl h) (fun E ce q9 u t H1 locs1 ht hvm _ hB hz hk hS hce hcv hcl => ?_) (fun x _ t H1 locs1 ht hvm hp hB hz hk hS => ?_)
  · obtain ⟨hEr, hM1⟩ := hB
    rw [ht] at hM1
    have hPo1 : va_P D vwCl (oW o cL v) H1 := hPo.kept fun k y hy => by
      have hz1 : k < 1 := (List.getElem?_eq_some_iff.mp hy).1
      obtain rfl : k = 0 := by omega
      cases hy
      exact hk o ((hPo 0 _ rfl).lt) ho
    obtain ⟨j, hj⟩ := hE E hEr
    rcases List.mem_cons.mp hj with h | h
    · cases h
      refine vx_catch (name := "java/lang/IllegalArgumentException") hown [] _ _ htab (fun z hz9 => absurd hz9 List.not_mem_nil) rfl (by decide) (hts (Cond.classLink RL 13 "java/lang/IllegalArgumentException") (by decide +kernel)) (va_Nw.use rfl (hth.2.2.2.1 _ (by decide))) hce hcv hcl ?_
      refine lv_astore_n (lv' := [(3, .ref q9), (0, .ref (q 0)), (1, .int p1), (2, .ref o)]) hx hb dL_value_12 rfl hl (by decide) rfl (fun ls hl => ?_)
      refine lv_iconst (v := 1) hx hb dL_value_13 (by decide) ?_
      exact vx_ret (W.iret (v := 1) hx hb hr (fun t9 ht9 hW => ⟨⟨1, (G, v), rfl, Or.inr ⟨_, 1, (by rw [hEr]; rfl), hj, rfl, rfl⟩, w_end ht9 hM1 rfl, by rw [ht9]; exact hPo1⟩, hS.F ht9⟩) hS.2.2 dL_value_14)
    · exact absurd h List.not_mem_nil
  · rw [ht] at hB
    have hPo1 : va_P D vwCl (oW o cL v) H1 := hPo.kept fun k y hy => by
      have hz1 : k < 1 := (List.getElem?_eq_some_iff.mp hy).1
      obtain rfl : k = 0 := by omega
      cases hy
      exact hk o ((hPo 0 _ rfl).lt) ho
    refine lv_i2l (v := x.toInt64) hx hb dL_value_7 rfl ?_
    refine va_last hx hb hKL (va_P.app hPo1 hB) (wD hJ (Or.inr rfl) (fun a h => Or.inl (Or.inl h)) (fun h => ho (Or.inl h))) hS 0 2 rfl rfl (inb_in (x := 0) (by decide)) dL_value_8 (fun H2 locs2 hP2 hD2 hS2 => ?_)
    have hP3 : va_P D vwCl ((o, .inl (cL, 1, .inr (.inl (vp_updL (fun _ => v) (0 : Int32).toNatClampNeg x.toInt64)))) :: mwL cI cR q tmC G) H2 := hP2
    obtain ⟨hP4, hM4⟩ := w_split hP3
    refine lv_goto (tgt := 15) hx hb dL_value_9 (by decide) ?_
    refine lv_iconst (v := 0) hx hb dL_value_15 (by decide) ?_
    exact vx_ret (W.iret (v := 0) hx hb hr (fun t9 ht9 hW => ⟨⟨0, (G, x.toInt64), rfl, Or.inl ⟨x, G, (by rw [hp]; rfl), rfl, rfl⟩, w_end ht9 hM4 rfl, by rw [ht9]; exact o_one hP4⟩, hS2.F ht9⟩) hS2.2.2 dL_value_16)
set_option maxHeartbeats 4000000 in
set_option maxRecDepth 100000 in
theorem kL_where (l : Launch) (hfl : l.flags = flags0) (D : va_G) (cI cR cL : ClassId) (q : Nat → Nat) (G : Nat → Nat → Int32) (K : Nat) (p1 p2 : Int32) (hJ : MJ tmC q) (sz o : Nat) (v : Int64) (r : String ⊕ Int32) (hs : sX3_where K G p1 p2 = some r) (hE : ∀ E, r = .inl E → ∃ j, (E, j) ∈ hIA) : vx_Met l yL_where wsL_where ({ frames := 8, cells := 2, slots := 12, locals := 140 } : Room) (wPre [.ref (q 0), .int p1, .int p2, .ref o] D cI cR cL q G sz o v) (wPost D cI cR cL q G sz o v hIA (liftR G r)) wX 2 12 (wA q sz o) := by
  refine vx_ofWH (cc := cL_where) (maxL := 5) (ret := some .int) (hh := [(0, 10, 13, 21), (0, 10, 17, 13)]) (by decide) rfl ?_
  intro p e s m args below meth c s₁ B hml hv
  obtain ⟨hargs, hsz, hM, hKL, hth, hPo, ho, hnc⟩ := hv
  have hx := B.exec
  have hb := B.bytes
  have hr := B.returns
  have hts := atoms_spec (ws := wsL_where) B.pre
  have hown : s.vm.findClass RL = some m.cls := findClass_of_methodNamed B.named
  have htab := vx_table (x := yL_where) B (hts _ List.mem_cons_self)
  have hK := mTyL_K hKL
  subst hsz
  have hS : va_S (wA q s.heap.size o) s.heap s.heap [] := va_S.rf
  have hS0 : va_S (MN tmC q s.heap.size) s.heap s.heap [] := va_S.rf
  subst hargs
  have hl := lv_entry ([.ref (q 0), .int p1, .int p2, .ref o]) (n := 5) (Nat.le_of_ble_eq_true rfl)
  rw [lg_entry_eq]
  generalize (lg_sl ([.ref (q 0), .int p1, .int p2, .ref o]) ++ List.replicate (5 - (lg_sl ([.ref (q 0), .int p1, .int p2, .ref o])).length) Slot.unset).toArray = ls at hl ⊢
  have hl : lv_has ls 5 [(0, .ref (q 0)), (1, .int p1), (2, .int p2), (3, .ref o)] := hl
  refine lv_aload_n hx hb dL_where_0 rfl (lv_at hl 3 rfl) ?_
  refine lv_iconst (v := 0) hx hb dL_where_1 (by decide) ?_
  refine lv_aload_n hx hb dL_where_2 rfl (lv_at hl 0 rfl) ?_
  refine lv_iload_n hx hb dL_where_3 rfl (lv_at hl 1 rfl) ?_
  refine lv_iload_n hx hb dL_where_4 rfl (lv_at hl 2 rfl) ?_
  refine vx_calli (vx_runV (As := [.int p1, .int p2]) (rest := [.int (0 : Int32), .ref o]) ⟨hx, hb, hml, hown, hts⟩ (kX3_where l hfl D cI cR q G K p1 p2 s.heap.size r hs) (cwV 2 hts gL_where_X3_where rfl rfl rfl (by decide +kernel) ⟨(Nat.le_of_ble_eq_true rfl), (Nat.le_of_ble_eq_true rfl)⟩) (mPreVT hK hM hS0 rfl hth 0 rfl rfl) rfl rfl hl.1 rfl (lv_room (Nat.le_of_ble_eq_true rfl)) dL_where_5 ⟨(Nat.le_of_ble_eq_true rfl), (Nat.le_of_ble_eq_true rfl)⟩) hS (fun _ _ h => Or.inl h) (fun _ h => Or.inl h) (fun _ _ h => Or.inl h) (fun E ce q9 u t H1 locs1 ht hvm _ hB hz hk hS hce hcv hcl => ?_) (fun x _ t H1 locs1 ht hvm hp hB hz hk hS => ?_)
  · obtain ⟨hEr, hM1⟩ := hB
    rw [ht] at hM1
    have hPo1 : va_P D vwCl (oW o cL v) H1 := hPo.kept fun k y hy => by
      have hz1 : k < 1 := (List.getElem?_eq_some_iff.mp hy).1
      obtain rfl : k = 0 := by omega
      cases hy
      exact hk o ((hPo 0 _ rfl).lt) ho
    obtain ⟨j, hj⟩ := hE E hEr
    rcases List.mem_cons.mp hj with h | h
    · cases h
      refine vx_catch (name := "java/lang/IndexOutOfBoundsException") hown [] _ _ htab (fun z hz9 => absurd hz9 List.not_mem_nil) rfl (by decide) (hts (Cond.classLink RL 21 "java/lang/IndexOutOfBoundsException") (by decide +kernel)) (va_Nw.use rfl (hth.2.2.2.1 _ (by decide))) hce hcv hcl ?_
      refine lv_astore (lv' := [(4, .ref q9), (0, .ref (q 0)), (1, .int p1), (2, .int p2), (3, .ref o)]) hx hb dL_where_13 hl (by decide) rfl (fun ls hl => ?_)
      refine lv_iconst (v := 1) hx hb dL_where_15 (by decide) ?_
      exact vx_ret (W.iret (v := 1) hx hb hr (fun t9 ht9 hW => ⟨⟨1, (G, v), rfl, Or.inr ⟨_, 1, (by rw [hEr]; rfl), hj, rfl, rfl⟩, w_end ht9 hM1 rfl, by rw [ht9]; exact hPo1⟩, hS.F ht9⟩) hS.2.2 dL_where_16)
    · skip
      rcases List.mem_cons.mp h with h | h
      · cases h
        refine vx_catch (name := "java/lang/IllegalArgumentException") hown [_] _ _ htab (fun z hz9 => Or.inr ?_) rfl (by decide) (hts (Cond.classLink RL 13 "java/lang/IllegalArgumentException") (by decide +kernel)) (va_Nw.use rfl (hth.2.2.2.1 _ (by decide))) hce hcv hcl ?_
        · rw [List.mem_singleton.mp hz9]
          exact ⟨by decide, "java/lang/IndexOutOfBoundsException", hts (Cond.classLink RL 21 "java/lang/IndexOutOfBoundsException") (by decide +kernel), hnc ("java/lang/IllegalArgumentException", "java/lang/IndexOutOfBoundsException") (by decide)⟩
        refine lv_astore (lv' := [(4, .ref q9), (0, .ref (q 0)), (1, .int p1), (2, .int p2), (3, .ref o)]) hx hb dL_where_17 hl (by decide) rfl (fun ls hl => ?_)
        refine lv_iconst (v := 2) hx hb dL_where_19 (by decide) ?_
        exact vx_ret (W.iret (v := 2) hx hb hr (fun t9 ht9 hW => ⟨⟨2, (G, v), rfl, Or.inr ⟨_, 2, (by rw [hEr]; rfl), hj, rfl, rfl⟩, w_end ht9 hM1 rfl, by rw [ht9]; exact hPo1⟩, hS.F ht9⟩) hS.2.2 dL_where_20)
      · exact absurd h List.not_mem_nil
  · rw [ht] at hB
    have hPo1 : va_P D vwCl (oW o cL v) H1 := hPo.kept fun k y hy => by
      have hz1 : k < 1 := (List.getElem?_eq_some_iff.mp hy).1
      obtain rfl : k = 0 := by omega
      cases hy
      exact hk o ((hPo 0 _ rfl).lt) ho
    refine lv_i2l (v := x.toInt64) hx hb dL_where_8 rfl ?_
    refine va_last hx hb hKL (va_P.app hPo1 hB) (wD hJ (Or.inr rfl) (fun a h => Or.inl (Or.inl h)) (fun h => ho (Or.inl h))) hS 0 2 rfl rfl (inb_in (x := 0) (by decide)) dL_where_9 (fun H2 locs2 hP2 hD2 hS2 => ?_)
    have hP3 : va_P D vwCl ((o, .inl (cL, 1, .inr (.inl (vp_updL (fun _ => v) (0 : Int32).toNatClampNeg x.toInt64)))) :: mwL cI cR q tmC G) H2 := hP2
    obtain ⟨hP4, hM4⟩ := w_split hP3
    refine lv_goto (tgt := 21) hx hb dL_where_10 (by decide) ?_
    refine lv_iconst (v := 0) hx hb dL_where_21 (by decide) ?_
    exact vx_ret (W.iret (v := 0) hx hb hr (fun t9 ht9 hW => ⟨⟨0, (G, x.toInt64), rfl, Or.inl ⟨x, G, (by rw [hp]; rfl), rfl, rfl⟩, w_end ht9 hM4 rfl, by rw [ht9]; exact o_one hP4⟩, hS2.F ht9⟩) hS2.2.2 dL_where_22)
set_option maxHeartbeats 4000000 in
set_option maxRecDepth 100000 in
theorem kL_mostWear (l : Launch) (hfl : l.flags = flags0) (D : va_G) (cI cR cL : ClassId) (q : Nat → Nat) (G : Nat → Nat → Int32) (K : Nat) (p1 : Int32) (hJ : MJ tmC q) (sz o : Nat) (v : Int64) (r : String ⊕ Int32) (hs : sX3_mostWear K G p1 = some r) (hE : ∀ E, r = .inl E → ∃ j, (E, j) ∈ hI) : vx_Met l yL_mostWear wsL_mostWear ({ frames := 8, cells := 1, slots := 6, locals := 141 } : Room) (wPre [.ref (q 0), .int p1, .ref o] D cI cR cL q G sz o v) (wPost D cI cR cL q G sz o v hI (liftR G r)) wX 1 6 (wA q sz o) := by
  refine vx_ofWH (cc := cL_mostWear) (maxL := 4) (ret := some .int) (hh := [(0, 9, 12, 21)]) (by decide) rfl ?_
  intro p e s m args below meth c s₁ B hml hv
  obtain ⟨hargs, hsz, hM, hKL, hth, hPo, ho, hnc⟩ := hv
  have hx := B.exec
  have hb := B.bytes
  have hr := B.returns
  have hts := atoms_spec (ws := wsL_mostWear) B.pre
  have hown : s.vm.findClass RL = some m.cls := findClass_of_methodNamed B.named
  have htab := vx_table (x := yL_mostWear) B (hts _ List.mem_cons_self)
  have hK := mTyL_K hKL
  subst hsz
  have hS : va_S (wA q s.heap.size o) s.heap s.heap [] := va_S.rf
  have hS0 : va_S (MN tmC q s.heap.size) s.heap s.heap [] := va_S.rf
  subst hargs
  have hl := lv_entry ([.ref (q 0), .int p1, .ref o]) (n := 4) (Nat.le_of_ble_eq_true rfl)
  rw [lg_entry_eq]
  generalize (lg_sl ([.ref (q 0), .int p1, .ref o]) ++ List.replicate (4 - (lg_sl ([.ref (q 0), .int p1, .ref o])).length) Slot.unset).toArray = ls at hl ⊢
  have hl : lv_has ls 4 [(0, .ref (q 0)), (1, .int p1), (2, .ref o)] := hl
  refine lv_aload_n hx hb dL_mostWear_0 rfl (lv_at hl 2 rfl) ?_
  refine lv_iconst (v := 0) hx hb dL_mostWear_1 (by decide) ?_
  refine lv_aload_n hx hb dL_mostWear_2 rfl (lv_at hl 0 rfl) ?_
  refine lv_iload_n hx hb dL_mostWear_3 rfl (lv_at hl 1 rfl) ?_
  refine vx_calli (vx_runV (As := [.int p1]) (rest := [.int (0 : Int32), .ref o]) ⟨hx, hb, hml, hown, hts⟩ (kX3_mostWear l hfl D cI cR q G K p1 s.heap.size r hs) (cwV 1 hts gL_mostWear_X3_mostWear rfl rfl rfl (by decide +kernel) ⟨(Nat.le_of_ble_eq_true rfl), (Nat.le_of_ble_eq_true rfl)⟩) (mPreVT hK hM hS0 rfl hth 0 rfl rfl) rfl rfl hl.1 rfl (lv_room (Nat.le_of_ble_eq_true rfl)) dL_mostWear_4 ⟨(Nat.le_of_ble_eq_true rfl), (Nat.le_of_ble_eq_true rfl)⟩) hS (fun _ _ h => Or.inl h) (fun _ h => Or.inl h) (fun _ _ h => Or.inl h) (fun E ce q9 u t H1 locs1 ht hvm _ hB hz hk hS hce hcv hcl => ?_) (fun x _ t H1 locs1 ht hvm hp hB hz hk hS => ?_)
  · obtain ⟨hEr, hM1⟩ := hB
    rw [ht] at hM1
    have hPo1 : va_P D vwCl (oW o cL v) H1 := hPo.kept fun k y hy => by
      have hz1 : k < 1 := (List.getElem?_eq_some_iff.mp hy).1
      obtain rfl : k = 0 := by omega
      cases hy
      exact hk o ((hPo 0 _ rfl).lt) ho
    obtain ⟨j, hj⟩ := hE E hEr
    rcases List.mem_cons.mp hj with h | h
    · cases h
      refine vx_catch (name := "java/lang/IndexOutOfBoundsException") hown [] _ _ htab (fun z hz9 => absurd hz9 List.not_mem_nil) rfl (by decide) (hts (Cond.classLink RL 21 "java/lang/IndexOutOfBoundsException") (by decide +kernel)) (va_Nw.use rfl (hth.2.2.2.1 _ (by decide))) hce hcv hcl ?_
      refine lv_astore_n (lv' := [(3, .ref q9), (0, .ref (q 0)), (1, .int p1), (2, .ref o)]) hx hb dL_mostWear_12 rfl hl (by decide) rfl (fun ls hl => ?_)
      refine lv_iconst (v := 1) hx hb dL_mostWear_13 (by decide) ?_
      exact vx_ret (W.iret (v := 1) hx hb hr (fun t9 ht9 hW => ⟨⟨1, (G, v), rfl, Or.inr ⟨_, 1, (by rw [hEr]; rfl), hj, rfl, rfl⟩, w_end ht9 hM1 rfl, by rw [ht9]; exact hPo1⟩, hS.F ht9⟩) hS.2.2 dL_mostWear_14)
    · exact absurd h List.not_mem_nil
  · rw [ht] at hB
    have hPo1 : va_P D vwCl (oW o cL v) H1 := hPo.kept fun k y hy => by
      have hz1 : k < 1 := (List.getElem?_eq_some_iff.mp hy).1
      obtain rfl : k = 0 := by omega
      cases hy
      exact hk o ((hPo 0 _ rfl).lt) ho
    refine lv_i2l (v := x.toInt64) hx hb dL_mostWear_7 rfl ?_
    refine va_last hx hb hKL (va_P.app hPo1 hB) (wD hJ (Or.inr rfl) (fun a h => Or.inl (Or.inl h)) (fun h => ho (Or.inl h))) hS 0 2 rfl rfl (inb_in (x := 0) (by decide)) dL_mostWear_8 (fun H2 locs2 hP2 hD2 hS2 => ?_)
    have hP3 : va_P D vwCl ((o, .inl (cL, 1, .inr (.inl (vp_updL (fun _ => v) (0 : Int32).toNatClampNeg x.toInt64)))) :: mwL cI cR q tmC G) H2 := hP2
    obtain ⟨hP4, hM4⟩ := w_split hP3
    refine lv_goto (tgt := 15) hx hb dL_mostWear_9 (by decide) ?_
    refine lv_iconst (v := 0) hx hb dL_mostWear_15 (by decide) ?_
    exact vx_ret (W.iret (v := 0) hx hb hr (fun t9 ht9 hW => ⟨⟨0, (G, x.toInt64), rfl, Or.inl ⟨x, G, (by rw [hp]; rfl), rfl, rfl⟩, w_end ht9 hM4 rfl, by rw [ht9]; exact o_one hP4⟩, hS2.F ht9⟩) hS2.2.2 dL_mostWear_16)
set_option maxHeartbeats 4000000 in
set_option maxRecDepth 100000 in
theorem kL_bestGap (l : Launch) (hfl : l.flags = flags0) (D : va_G) (cI cR cL : ClassId) (q : Nat → Nat) (G : Nat → Nat → Int32) (K : Nat) (p1 : Int32) (hJ : MJ tmC q) (sz o : Nat) (v : Int64) (r : String ⊕ Int32) (hs : sX3_bestGap K G p1 = some r) (hE : ∀ E, r = .inl E → ∃ j, (E, j) ∈ hI) : vx_Met l yL_bestGap wsL_bestGap ({ frames := 8, cells := 1, slots := 6, locals := 137 } : Room) (wPre [.ref (q 0), .int p1, .ref o] D cI cR cL q G sz o v) (wPost D cI cR cL q G sz o v hI (liftR G r)) wX 1 6 (wA q sz o) := by
  refine vx_ofWH (cc := cL_bestGap) (maxL := 4) (ret := some .int) (hh := [(0, 9, 12, 21)]) (by decide) rfl ?_
  intro p e s m args below meth c s₁ B hml hv
  obtain ⟨hargs, hsz, hM, hKL, hth, hPo, ho, hnc⟩ := hv
  have hx := B.exec
  have hb := B.bytes
  have hr := B.returns
  have hts := atoms_spec (ws := wsL_bestGap) B.pre
  have hown : s.vm.findClass RL = some m.cls := findClass_of_methodNamed B.named
  have htab := vx_table (x := yL_bestGap) B (hts _ List.mem_cons_self)
  have hK := mTyL_K hKL
  subst hsz
  have hS : va_S (wA q s.heap.size o) s.heap s.heap [] := va_S.rf
  have hS0 : va_S (MN tmC q s.heap.size) s.heap s.heap [] := va_S.rf
  subst hargs
  have hl := lv_entry ([.ref (q 0), .int p1, .ref o]) (n := 4) (Nat.le_of_ble_eq_true rfl)
  rw [lg_entry_eq]
  generalize (lg_sl ([.ref (q 0), .int p1, .ref o]) ++ List.replicate (4 - (lg_sl ([.ref (q 0), .int p1, .ref o])).length) Slot.unset).toArray = ls at hl ⊢
  have hl : lv_has ls 4 [(0, .ref (q 0)), (1, .int p1), (2, .ref o)] := hl
  refine lv_aload_n hx hb dL_bestGap_0 rfl (lv_at hl 2 rfl) ?_
  refine lv_iconst (v := 0) hx hb dL_bestGap_1 (by decide) ?_
  refine lv_aload_n hx hb dL_bestGap_2 rfl (lv_at hl 0 rfl) ?_
  refine lv_iload_n hx hb dL_bestGap_3 rfl (lv_at hl 1 rfl) ?_
  refine vx_calli (vx_runV (As := [.int p1]) (rest := [.int (0 : Int32), .ref o]) ⟨hx, hb, hml, hown, hts⟩ (kX3_bestGap l hfl D cI cR q G K p1 s.heap.size r hs) (cwV 1 hts gL_bestGap_X3_bestGap rfl rfl rfl (by decide +kernel) ⟨(Nat.le_of_ble_eq_true rfl), (Nat.le_of_ble_eq_true rfl)⟩) (mPreVT hK hM hS0 rfl hth 0 rfl rfl) rfl rfl hl.1 rfl (lv_room (Nat.le_of_ble_eq_true rfl)) dL_bestGap_4 ⟨(Nat.le_of_ble_eq_true rfl), (Nat.le_of_ble_eq_true rfl)⟩) hS (fun _ _ h => Or.inl h) (fun _ h => Or.inl h) (fun _ _ h => Or.inl h) (fun E ce q9 u t H1 locs1 ht hvm _ hB hz hk hS hce hcv hcl => ?_) (fun x _ t H1 locs1 ht hvm hp hB hz hk hS => ?_)
  · obtain ⟨hEr, hM1⟩ := hB
    rw [ht] at hM1
    have hPo1 : va_P D vwCl (oW o cL v) H1 := hPo.kept fun k y hy => by
      have hz1 : k < 1 := (List.getElem?_eq_some_iff.mp hy).1
      obtain rfl : k = 0 := by omega
      cases hy
      exact hk o ((hPo 0 _ rfl).lt) ho
    obtain ⟨j, hj⟩ := hE E hEr
    rcases List.mem_cons.mp hj with h | h
    · cases h
      refine vx_catch (name := "java/lang/IndexOutOfBoundsException") hown [] _ _ htab (fun z hz9 => absurd hz9 List.not_mem_nil) rfl (by decide) (hts (Cond.classLink RL 21 "java/lang/IndexOutOfBoundsException") (by decide +kernel)) (va_Nw.use rfl (hth.2.2.2.1 _ (by decide))) hce hcv hcl ?_
      refine lv_astore_n (lv' := [(3, .ref q9), (0, .ref (q 0)), (1, .int p1), (2, .ref o)]) hx hb dL_bestGap_12 rfl hl (by decide) rfl (fun ls hl => ?_)
      refine lv_iconst (v := 1) hx hb dL_bestGap_13 (by decide) ?_
      exact vx_ret (W.iret (v := 1) hx hb hr (fun t9 ht9 hW => ⟨⟨1, (G, v), rfl, Or.inr ⟨_, 1, (by rw [hEr]; rfl), hj, rfl, rfl⟩, w_end ht9 hM1 rfl, by rw [ht9]; exact hPo1⟩, hS.F ht9⟩) hS.2.2 dL_bestGap_14)
    · exact absurd h List.not_mem_nil
  · rw [ht] at hB
    have hPo1 : va_P D vwCl (oW o cL v) H1 := hPo.kept fun k y hy => by
      have hz1 : k < 1 := (List.getElem?_eq_some_iff.mp hy).1
      obtain rfl : k = 0 := by omega
      cases hy
      exact hk o ((hPo 0 _ rfl).lt) ho
    refine lv_i2l (v := x.toInt64) hx hb dL_bestGap_7 rfl ?_
    refine va_last hx hb hKL (va_P.app hPo1 hB) (wD hJ (Or.inr rfl) (fun a h => Or.inl (Or.inl h)) (fun h => ho (Or.inl h))) hS 0 2 rfl rfl (inb_in (x := 0) (by decide)) dL_bestGap_8 (fun H2 locs2 hP2 hD2 hS2 => ?_)
    have hP3 : va_P D vwCl ((o, .inl (cL, 1, .inr (.inl (vp_updL (fun _ => v) (0 : Int32).toNatClampNeg x.toInt64)))) :: mwL cI cR q tmC G) H2 := hP2
    obtain ⟨hP4, hM4⟩ := w_split hP3
    refine lv_goto (tgt := 15) hx hb dL_bestGap_9 (by decide) ?_
    refine lv_iconst (v := 0) hx hb dL_bestGap_15 (by decide) ?_
    exact vx_ret (W.iret (v := 0) hx hb hr (fun t9 ht9 hW => ⟨⟨0, (G, x.toInt64), rfl, Or.inl ⟨x, G, (by rw [hp]; rfl), rfl, rfl⟩, w_end ht9 hM4 rfl, by rw [ht9]; exact o_one hP4⟩, hS2.F ht9⟩) hS2.2.2 dL_bestGap_16)
set_option maxHeartbeats 4000000 in
set_option maxRecDepth 100000 in
theorem kL_supply (l : Launch) (hfl : l.flags = flags0) (D : va_G) (cI cR cL : ClassId) (q : Nat → Nat) (G : Nat → Nat → Int32) (K : Nat) (p1 : Int32) (hJ : MJ tmC q) (sz o : Nat) (v : Int64) (r : String ⊕ Int32) (hs : sX3_supply K G p1 = some r) (hE : ∀ E, r = .inl E → ∃ j, (E, j) ∈ hI) : vx_Met l yL_supply wsL_supply ({ frames := 8, cells := 1, slots := 6, locals := 139 } : Room) (wPre [.ref (q 0), .int p1, .ref o] D cI cR cL q G sz o v) (wPost D cI cR cL q G sz o v hI (liftR G r)) wX 1 6 (wA q sz o) := by
  refine vx_ofWH (cc := cL_supply) (maxL := 4) (ret := some .int) (hh := [(0, 9, 12, 21)]) (by decide) rfl ?_
  intro p e s m args below meth c s₁ B hml hv
  obtain ⟨hargs, hsz, hM, hKL, hth, hPo, ho, hnc⟩ := hv
  have hx := B.exec
  have hb := B.bytes
  have hr := B.returns
  have hts := atoms_spec (ws := wsL_supply) B.pre
  have hown : s.vm.findClass RL = some m.cls := findClass_of_methodNamed B.named
  have htab := vx_table (x := yL_supply) B (hts _ List.mem_cons_self)
  have hK := mTyL_K hKL
  subst hsz
  have hS : va_S (wA q s.heap.size o) s.heap s.heap [] := va_S.rf
  have hS0 : va_S (MN tmC q s.heap.size) s.heap s.heap [] := va_S.rf
  subst hargs
  have hl := lv_entry ([.ref (q 0), .int p1, .ref o]) (n := 4) (Nat.le_of_ble_eq_true rfl)
  rw [lg_entry_eq]
  generalize (lg_sl ([.ref (q 0), .int p1, .ref o]) ++ List.replicate (4 - (lg_sl ([.ref (q 0), .int p1, .ref o])).length) Slot.unset).toArray = ls at hl ⊢
  have hl : lv_has ls 4 [(0, .ref (q 0)), (1, .int p1), (2, .ref o)] := hl
  refine lv_aload_n hx hb dL_supply_0 rfl (lv_at hl 2 rfl) ?_
  refine lv_iconst (v := 0) hx hb dL_supply_1 (by decide) ?_
  refine lv_aload_n hx hb dL_supply_2 rfl (lv_at hl 0 rfl) ?_
  refine lv_iload_n hx hb dL_supply_3 rfl (lv_at hl 1 rfl) ?_
  refine vx_calli (vx_runV (As := [.int p1]) (rest := [.int (0 : Int32), .ref o]) ⟨hx, hb, hml, hown, hts⟩ (kX3_supply l hfl D cI cR q G K p1 s.heap.size r hs) (cwV 1 hts gL_supply_X3_supply rfl rfl rfl (by decide +kernel) ⟨(Nat.le_of_ble_eq_true rfl), (Nat.le_of_ble_eq_true rfl)⟩) (mPreVT hK hM hS0 rfl hth 0 rfl rfl) rfl rfl hl.1 rfl (lv_room (Nat.le_of_ble_eq_true rfl)) dL_supply_4 ⟨(Nat.le_of_ble_eq_true rfl), (Nat.le_of_ble_eq_true rfl)⟩) hS (fun _ _ h => Or.inl h) (fun _ h => Or.inl h) (fun _ _ h => Or.inl h) (fun E ce q9 u t H1 locs1 ht hvm _ hB hz hk hS hce hcv hcl => ?_) (fun x _ t H1 locs1 ht hvm hp hB hz hk hS => ?_)
  · obtain ⟨hEr, hM1⟩ := hB
    rw [ht] at hM1
    have hPo1 : va_P D vwCl (oW o cL v) H1 := hPo.kept fun k y hy => by
      have hz1 : k < 1 := (List.getElem?_eq_some_iff.mp hy).1
      obtain rfl : k = 0 := by omega
      cases hy
      exact hk o ((hPo 0 _ rfl).lt) ho
    obtain ⟨j, hj⟩ := hE E hEr
    rcases List.mem_cons.mp hj with h | h
    · cases h
      refine vx_catch (name := "java/lang/IndexOutOfBoundsException") hown [] _ _ htab (fun z hz9 => absurd hz9 List.not_mem_nil) rfl (by decide) (hts (Cond.classLink RL 21 "java/lang/IndexOutOfBoundsException") (by decide +kernel)) (va_Nw.use rfl (hth.2.2.2.1 _ (by decide))) hce hcv hcl ?_
      refine lv_astore_n (lv' := [(3, .ref q9), (0, .ref (q 0)), (1, .int p1), (2, .ref o)]) hx hb dL_supply_12 rfl hl (by decide) rfl (fun ls hl => ?_)
      refine lv_iconst (v := 1) hx hb dL_supply_13 (by decide) ?_
      exact vx_ret (W.iret (v := 1) hx hb hr (fun t9 ht9 hW => ⟨⟨1, (G, v), rfl, Or.inr ⟨_, 1, (by rw [hEr]; rfl), hj, rfl, rfl⟩, w_end ht9 hM1 rfl, by rw [ht9]; exact hPo1⟩, hS.F ht9⟩) hS.2.2 dL_supply_14)
    · exact absurd h List.not_mem_nil
  · rw [ht] at hB
    have hPo1 : va_P D vwCl (oW o cL v) H1 := hPo.kept fun k y hy => by
      have hz1 : k < 1 := (List.getElem?_eq_some_iff.mp hy).1
      obtain rfl : k = 0 := by omega
      cases hy
      exact hk o ((hPo 0 _ rfl).lt) ho
    refine lv_i2l (v := x.toInt64) hx hb dL_supply_7 rfl ?_
    refine va_last hx hb hKL (va_P.app hPo1 hB) (wD hJ (Or.inr rfl) (fun a h => Or.inl (Or.inl h)) (fun h => ho (Or.inl h))) hS 0 2 rfl rfl (inb_in (x := 0) (by decide)) dL_supply_8 (fun H2 locs2 hP2 hD2 hS2 => ?_)
    have hP3 : va_P D vwCl ((o, .inl (cL, 1, .inr (.inl (vp_updL (fun _ => v) (0 : Int32).toNatClampNeg x.toInt64)))) :: mwL cI cR q tmC G) H2 := hP2
    obtain ⟨hP4, hM4⟩ := w_split hP3
    refine lv_goto (tgt := 15) hx hb dL_supply_9 (by decide) ?_
    refine lv_iconst (v := 0) hx hb dL_supply_15 (by decide) ?_
    exact vx_ret (W.iret (v := 0) hx hb hr (fun t9 ht9 hW => ⟨⟨0, (G, x.toInt64), rfl, Or.inl ⟨x, G, (by rw [hp]; rfl), rfl, rfl⟩, w_end ht9 hM4 rfl, by rw [ht9]; exact o_one hP4⟩, hS2.F ht9⟩) hS2.2.2 dL_supply_16)
set_option maxHeartbeats 4000000 in
set_option maxRecDepth 100000 in
theorem kL_append (l : Launch) (hfl : l.flags = flags0) (D : va_G) (cI cR cL : ClassId) (q : Nat → Nat) (G : Nat → Nat → Int32) (K : Nat) (p1 : Int32) (hJ : MJ tmC q) (sz o : Nat) (v : Int64) (r : String ⊕ (Int32 × (Nat → Nat → Int32))) (hs : sX3_append K G p1 = some r) (hE : ∀ E, r = .inl E → ∃ j, (E, j) ∈ hAS) : vx_Met l yL_append wsL_append ({ frames := 8, cells := 2, slots := 12, locals := 139 } : Room) (wPre [.ref (q 0), .int p1, .ref o] D cI cR cL q G sz o v) (wPost D cI cR cL q G sz o v hAS r) wX 2 12 (wA q sz o) := by
  refine vx_ofWH (cc := cL_append) (maxL := 4) (ret := some .int) (hh := [(0, 9, 12, 13), (0, 9, 15, 15)]) (by decide) rfl ?_
  intro p e s m args below meth c s₁ B hml hv
  obtain ⟨hargs, hsz, hM, hKL, hth, hPo, ho, hnc⟩ := hv
  have hx := B.exec
  have hb := B.bytes
  have hr := B.returns
  have hts := atoms_spec (ws := wsL_append) B.pre
  have hown : s.vm.findClass RL = some m.cls := findClass_of_methodNamed B.named
  have htab := vx_table (x := yL_append) B (hts _ List.mem_cons_self)
  have hK := mTyL_K hKL
  subst hsz
  have hS : va_S (wA q s.heap.size o) s.heap s.heap [] := va_S.rf
  have hS0 : va_S (MN tmC q s.heap.size) s.heap s.heap [] := va_S.rf
  subst hargs
  have hl := lv_entry ([.ref (q 0), .int p1, .ref o]) (n := 4) (Nat.le_of_ble_eq_true rfl)
  rw [lg_entry_eq]
  generalize (lg_sl ([.ref (q 0), .int p1, .ref o]) ++ List.replicate (4 - (lg_sl ([.ref (q 0), .int p1, .ref o])).length) Slot.unset).toArray = ls at hl ⊢
  have hl : lv_has ls 4 [(0, .ref (q 0)), (1, .int p1), (2, .ref o)] := hl
  refine lv_aload_n hx hb dL_append_0 rfl (lv_at hl 2 rfl) ?_
  refine lv_iconst (v := 0) hx hb dL_append_1 (by decide) ?_
  refine lv_aload_n hx hb dL_append_2 rfl (lv_at hl 0 rfl) ?_
  refine lv_iload_n hx hb dL_append_3 rfl (lv_at hl 1 rfl) ?_
  refine vx_calli (vx_runV (As := [.int p1]) (rest := [.int (0 : Int32), .ref o]) ⟨hx, hb, hml, hown, hts⟩ (kX3_append l hfl D cI cR q G K p1 hJ s.heap.size r hs) (cwV 1 hts gL_append_X3_append rfl rfl rfl (by decide +kernel) ⟨(Nat.le_of_ble_eq_true rfl), (Nat.le_of_ble_eq_true rfl)⟩) (mPreVT hK hM hS0 rfl hth 0 rfl rfl) rfl rfl hl.1 rfl (lv_room (Nat.le_of_ble_eq_true rfl)) dL_append_4 ⟨(Nat.le_of_ble_eq_true rfl), (Nat.le_of_ble_eq_true rfl)⟩) hS (fun _ _ h => Or.inl h) (fun _ h => Or.inl h) (fun _ _ h => Or.inl h) (fun E ce q9 u t H1 locs1 ht hvm _ hB hz hk hS hce hcv hcl => ?_) (fun x G' t H1 locs1 ht hvm hp hB hz hk hS => ?_)
  · obtain ⟨hEr, hM1⟩ := hB
    rw [ht] at hM1
    have hPo1 : va_P D vwCl (oW o cL v) H1 := hPo.kept fun k y hy => by
      have hz1 : k < 1 := (List.getElem?_eq_some_iff.mp hy).1
      obtain rfl : k = 0 := by omega
      cases hy
      exact hk o ((hPo 0 _ rfl).lt) ho
    obtain ⟨j, hj⟩ := hE E hEr
    rcases List.mem_cons.mp hj with h | h
    · cases h
      refine vx_catch (name := "java/lang/IllegalArgumentException") hown [] _ _ htab (fun z hz9 => absurd hz9 List.not_mem_nil) rfl (by decide) (hts (Cond.classLink RL 13 "java/lang/IllegalArgumentException") (by decide +kernel)) (va_Nw.use rfl (hth.2.2.2.1 _ (by decide))) hce hcv hcl ?_
      refine lv_astore_n (lv' := [(3, .ref q9), (0, .ref (q 0)), (1, .int p1), (2, .ref o)]) hx hb dL_append_12 rfl hl (by decide) rfl (fun ls hl => ?_)
      refine lv_iconst (v := 1) hx hb dL_append_13 (by decide) ?_
      exact vx_ret (W.iret (v := 1) hx hb hr (fun t9 ht9 hW => ⟨⟨1, (G, v), rfl, Or.inr ⟨_, 1, hEr, hj, rfl, rfl⟩, w_end ht9 hM1 rfl, by rw [ht9]; exact hPo1⟩, hS.F ht9⟩) hS.2.2 dL_append_14)
    · skip
      rcases List.mem_cons.mp h with h | h
      · cases h
        refine vx_catch (name := "java/lang/IllegalStateException") hown [_] _ _ htab (fun z hz9 => Or.inr ?_) rfl (by decide) (hts (Cond.classLink RL 15 "java/lang/IllegalStateException") (by decide +kernel)) (va_Nw.use rfl (hth.2.2.2.1 _ (by decide))) hce hcv hcl ?_
        · rw [List.mem_singleton.mp hz9]
          exact ⟨by decide, "java/lang/IllegalArgumentException", hts (Cond.classLink RL 13 "java/lang/IllegalArgumentException") (by decide +kernel), hnc ("java/lang/IllegalStateException", "java/lang/IllegalArgumentException") (by decide)⟩
        refine lv_astore_n (lv' := [(3, .ref q9), (0, .ref (q 0)), (1, .int p1), (2, .ref o)]) hx hb dL_append_15 rfl hl (by decide) rfl (fun ls hl => ?_)
        refine lv_iconst (v := 2) hx hb dL_append_16 (by decide) ?_
        exact vx_ret (W.iret (v := 2) hx hb hr (fun t9 ht9 hW => ⟨⟨2, (G, v), rfl, Or.inr ⟨_, 2, hEr, hj, rfl, rfl⟩, w_end ht9 hM1 rfl, by rw [ht9]; exact hPo1⟩, hS.F ht9⟩) hS.2.2 dL_append_17)
      · exact absurd h List.not_mem_nil
  · rw [ht] at hB
    have hPo1 : va_P D vwCl (oW o cL v) H1 := hPo.kept fun k y hy => by
      have hz1 : k < 1 := (List.getElem?_eq_some_iff.mp hy).1
      obtain rfl : k = 0 := by omega
      cases hy
      exact hk o ((hPo 0 _ rfl).lt) ho
    refine lv_i2l (v := x.toInt64) hx hb dL_append_7 rfl ?_
    refine va_last hx hb hKL (va_P.app hPo1 hB) (wD hJ (Or.inr rfl) (fun a h => Or.inl (Or.inl h)) (fun h => ho (Or.inl h))) hS 0 2 rfl rfl (inb_in (x := 0) (by decide)) dL_append_8 (fun H2 locs2 hP2 hD2 hS2 => ?_)
    have hP3 : va_P D vwCl ((o, .inl (cL, 1, .inr (.inl (vp_updL (fun _ => v) (0 : Int32).toNatClampNeg x.toInt64)))) :: mwL cI cR q tmC G') H2 := hP2
    obtain ⟨hP4, hM4⟩ := w_split hP3
    refine lv_goto (tgt := 18) hx hb dL_append_9 (by decide) ?_
    refine lv_iconst (v := 0) hx hb dL_append_18 (by decide) ?_
    exact vx_ret (W.iret (v := 0) hx hb hr (fun t9 ht9 hW => ⟨⟨0, (G', x.toInt64), rfl, Or.inl ⟨x, G', hp, rfl, rfl⟩, w_end ht9 hM4 rfl, by rw [ht9]; exact o_one hP4⟩, hS2.F ht9⟩) hS2.2.2 dL_append_19)
set_option maxHeartbeats 4000000 in
set_option maxRecDepth 100000 in
theorem kL_undo (l : Launch) (hfl : l.flags = flags0) (D : va_G) (cI cR cL : ClassId) (q : Nat → Nat) (G : Nat → Nat → Int32) (K : Nat) (hJ : MJ tmC q) (sz o : Nat) (v : Int64) (r : String ⊕ (Int32 × (Nat → Nat → Int32))) (hs : sX3_undo K G  = some r) (hE : ∀ E, r = .inl E → ∃ j, (E, j) ∈ hS) : vx_Met l yL_undo wsL_undo ({ frames := 7, cells := 1, slots := 6, locals := 136 } : Room) (wPre [.ref (q 0), .ref o] D cI cR cL q G sz o v) (wPost D cI cR cL q G sz o v hS r) wX 1 6 (wA q sz o) := by
  refine vx_ofWH (cc := cL_undo) (maxL := 3) (ret := some .int) (hh := [(0, 8, 11, 15)]) (by decide) rfl ?_
  intro p e s m args below meth c s₁ B hml hv
  obtain ⟨hargs, hsz, hM, hKL, hth, hPo, ho, hnc⟩ := hv
  have hx := B.exec
  have hb := B.bytes
  have hr := B.returns
  have hts := atoms_spec (ws := wsL_undo) B.pre
  have hown : s.vm.findClass RL = some m.cls := findClass_of_methodNamed B.named
  have htab := vx_table (x := yL_undo) B (hts _ List.mem_cons_self)
  have hK := mTyL_K hKL
  subst hsz
  have hS : va_S (wA q s.heap.size o) s.heap s.heap [] := va_S.rf
  have hS0 : va_S (MN tmC q s.heap.size) s.heap s.heap [] := va_S.rf
  subst hargs
  have hl := lv_entry ([.ref (q 0), .ref o]) (n := 3) (Nat.le_of_ble_eq_true rfl)
  rw [lg_entry_eq]
  generalize (lg_sl ([.ref (q 0), .ref o]) ++ List.replicate (3 - (lg_sl ([.ref (q 0), .ref o])).length) Slot.unset).toArray = ls at hl ⊢
  have hl : lv_has ls 3 [(0, .ref (q 0)), (1, .ref o)] := hl
  refine lv_aload_n hx hb dL_undo_0 rfl (lv_at hl 1 rfl) ?_
  refine lv_iconst (v := 0) hx hb dL_undo_1 (by decide) ?_
  refine lv_aload_n hx hb dL_undo_2 rfl (lv_at hl 0 rfl) ?_
  refine vx_calli (vx_runV (As := []) (rest := [.int (0 : Int32), .ref o]) ⟨hx, hb, hml, hown, hts⟩ (kX3_undo l hfl D cI cR q G K  hJ s.heap.size r hs) (cwV 0 hts gL_undo_X3_undo rfl rfl rfl (by decide +kernel) ⟨(Nat.le_of_ble_eq_true rfl), (Nat.le_of_ble_eq_true rfl)⟩) (mPreVT hK hM hS0 rfl hth 0 rfl rfl) rfl rfl hl.1 rfl (lv_room (Nat.le_of_ble_eq_true rfl)) dL_undo_3 ⟨(Nat.le_of_ble_eq_true rfl), (Nat.le_of_ble_eq_true rfl)⟩) hS (fun _ _ h => Or.inl h) (fun _ h => Or.inl h) (fun _ _ h => Or.inl h) (fun E ce q9 u t H1 locs1 ht hvm _ hB hz hk hS hce hcv hcl => ?_) (fun x G' t H1 locs1 ht hvm hp hB hz hk hS => ?_)
  · obtain ⟨hEr, hM1⟩ := hB
    rw [ht] at hM1
    have hPo1 : va_P D vwCl (oW o cL v) H1 := hPo.kept fun k y hy => by
      have hz1 : k < 1 := (List.getElem?_eq_some_iff.mp hy).1
      obtain rfl : k = 0 := by omega
      cases hy
      exact hk o ((hPo 0 _ rfl).lt) ho
    obtain ⟨j, hj⟩ := hE E hEr
    rcases List.mem_cons.mp hj with h | h
    · cases h
      refine vx_catch (name := "java/lang/IllegalStateException") hown [] _ _ htab (fun z hz9 => absurd hz9 List.not_mem_nil) rfl (by decide) (hts (Cond.classLink RL 15 "java/lang/IllegalStateException") (by decide +kernel)) (va_Nw.use rfl (hth.2.2.2.1 _ (by decide))) hce hcv hcl ?_
      refine lv_astore_n (lv' := [(2, .ref q9), (0, .ref (q 0)), (1, .ref o)]) hx hb dL_undo_11 rfl hl (by decide) rfl (fun ls hl => ?_)
      refine lv_iconst (v := 1) hx hb dL_undo_12 (by decide) ?_
      exact vx_ret (W.iret (v := 1) hx hb hr (fun t9 ht9 hW => ⟨⟨1, (G, v), rfl, Or.inr ⟨_, 1, hEr, hj, rfl, rfl⟩, w_end ht9 hM1 rfl, by rw [ht9]; exact hPo1⟩, hS.F ht9⟩) hS.2.2 dL_undo_13)
    · exact absurd h List.not_mem_nil
  · rw [ht] at hB
    have hPo1 : va_P D vwCl (oW o cL v) H1 := hPo.kept fun k y hy => by
      have hz1 : k < 1 := (List.getElem?_eq_some_iff.mp hy).1
      obtain rfl : k = 0 := by omega
      cases hy
      exact hk o ((hPo 0 _ rfl).lt) ho
    refine lv_i2l (v := x.toInt64) hx hb dL_undo_6 rfl ?_
    refine va_last hx hb hKL (va_P.app hPo1 hB) (wD hJ (Or.inr rfl) (fun a h => Or.inl (Or.inl h)) (fun h => ho (Or.inl h))) hS 0 2 rfl rfl (inb_in (x := 0) (by decide)) dL_undo_7 (fun H2 locs2 hP2 hD2 hS2 => ?_)
    have hP3 : va_P D vwCl ((o, .inl (cL, 1, .inr (.inl (vp_updL (fun _ => v) (0 : Int32).toNatClampNeg x.toInt64)))) :: mwL cI cR q tmC G') H2 := hP2
    obtain ⟨hP4, hM4⟩ := w_split hP3
    refine lv_goto (tgt := 14) hx hb dL_undo_8 (by decide) ?_
    refine lv_iconst (v := 0) hx hb dL_undo_14 (by decide) ?_
    exact vx_ret (W.iret (v := 0) hx hb hr (fun t9 ht9 hW => ⟨⟨0, (G', x.toInt64), rfl, Or.inl ⟨x, G', hp, rfl, rfl⟩, w_end ht9 hM4 rfl, by rw [ht9]; exact o_one hP4⟩, hS2.F ht9⟩) hS2.2.2 dL_undo_15)
