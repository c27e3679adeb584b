theorem w_split {D : va_G} {o : Nat} {x : va_E} {L : va_W} {H : Heap} (h : va_P D vwCl ((o, x) :: L) H) : va_P D vwCl [(o, x)] H ∧ va_P D vwCl L H := by
  refine ⟨fun k p hk => ?_, fun k p hk => h (k + 1) p hk⟩
  have hz : k < 1 := (List.getElem?_eq_some_iff.mp hk).1
  obtain rfl : k = 0 := by omega
  exact h 0 p hk
theorem wD {cI cR : ClassId} {tm : List cellT} {A : Nat → Prop} {q : Nat → Nat} {G : Nat → Nat → Int32} {o : Nat} {x : va_E} (hJ : MJ tm q) (h1 : A o) (h2 : ∀ a, MA tm q a → A a) (ho : ¬ MA tm q o) : va_D A ([(o, x)] ++ mwL cI cR q tm G) := by
  have hs : ∀ (k : Nat) (y : Nat × va_E), ([(o, x)] ++ mwL cI cR q tm G)[k]? = some y → (k = 0 ∧ y.1 = o) ∨ ∃ i, k = i + 1 ∧ i < tm.length ∧ y.1 = q i := fun k y hk => by
    cases k with
    | zero => cases hk; exact Or.inl ⟨rfl, rfl⟩
    | succ i =>
      have hk2 : (mwL cI cR q tm G)[i]? = some y := hk
      obtain ⟨a, b⟩ := mwL_inv hk2
      exact Or.inr ⟨i, rfl, a, b⟩
  refine ⟨fun i j y z hi hj e => ?_, fun k y hk => ?_⟩
  · rcases hs i y hi with ⟨rfl, e1⟩ | ⟨a, rfl, a1, a2⟩
    · rcases hs j z hj with ⟨rfl, e2⟩ | ⟨b, rfl, b1, b2⟩
      · rfl
      · exact absurd ⟨b, b1, e1.symm.trans (e.trans b2)⟩ ho
    · rcases hs j z hj with ⟨rfl, e2⟩ | ⟨b, rfl, b1, b2⟩
      · exact absurd ⟨a, a1, e2.symm.trans (e.symm.trans a2)⟩ ho
      · rw [hJ a b a1 b1 (a2.symm.trans (e.trans b2))]
  · rcases hs k y hk with ⟨-, e1⟩ | ⟨a, -, a1, a2⟩
    · rw [e1]; exact h1
    · exact h2 _ ⟨a, a1, a2⟩
theorem o_one {D : va_G} {o : Nat} {cL : ClassId} {v x : Int64} {H : Heap} (h : va_P D vwCl [(o, .inl (cL, 1, .inr (.inl (vp_updL (fun _ => v) (0 : Int32).toNatClampNeg x))))] H) : va_P D vwCl (oW o cL x) H := fun k p hk => by
  have hz : k < 1 := (List.getElem?_eq_some_iff.mp hk).1
  obtain rfl : k = 0 := by omega
  cases hk
  have h1 : H[o]? = some (vp_cell cL (1, .inr (.inl (vp_updL (fun _ => v) (0 : Int32).toNatClampNeg x)))) := h 0 _ rfl
  show H[o]? = some (vp_cell cL (1, .inr (.inl (fun _ => x))))
  rw [h1]
  rfl
set_option maxHeartbeats 4000000 in
set_option maxRecDepth 100000 in
theorem kL_addKind (l : Launch) (hfl : l.flags = flags0) (D : va_G) (cI cR cL : ClassId) (q : Nat → Nat) (G : Nat → Nat → Int32) (K : Nat) (p1 p2 p3 : Int32) (hJ : MJ tmC q) (sz o : Nat) (v : Int64) (r : String ⊕ (Int32 × (Nat → Nat → Int32))) (hs : sX3_addKind K G p1 p2 p3 = some r) (hE : ∀ E, r = .inl E → ∃ j, (E, j) ∈ hAS) : vx_Met l yL_addKind wsL_addKind ({ frames := 8, cells := 4, slots := 24, locals := 140 } : Room) (wPre [.ref (q 0), .int p1, .int p2, .int p3, .ref o] D cI cR cL q G sz o v) (wPost D cI cR cL q G sz o v hAS r) wX 4 24 (wA q sz o) := by
  refine vx_ofWH (cc := cL_addKind) (maxL := 6) (ret := some .int) (hh := [(0, 12, 15, 13), (0, 12, 19, 15)]) (by decide) rfl ?_
  intro p e s m args below meth c s₁ B hml hv
  obtain ⟨hargs, hsz, hM, hKL, hth, hPo, ho, hnc⟩ := hv
  have hx := B.exec
  have hb := B.bytes
  have hr := B.returns
  have hts := atoms_spec (ws := wsL_addKind) B.pre
  have hown : s.vm.findClass RL = some m.cls := findClass_of_methodNamed B.named
  have htab := vx_table (x := yL_addKind) B (hts _ List.mem_cons_self)
  have hK := mTyL_K hKL
  subst hsz
  have hS : va_S (wA q s.heap.size o) s.heap s.heap [] := va_S.rf
  have hS0 : va_S (MN tmC q s.heap.size) s.heap s.heap [] := va_S.rf
  subst hargs
  have hl := lv_entry ([.ref (q 0), .int p1, .int p2, .int p3, .ref o]) (n := 6) (Nat.le_of_ble_eq_true rfl)
  rw [lg_entry_eq]
  generalize (lg_sl ([.ref (q 0), .int p1, .int p2, .int p3, .ref o]) ++ List.replicate (6 - (lg_sl ([.ref (q 0), .int p1, .int p2, .int p3, .ref o])).length) Slot.unset).toArray = ls at hl ⊢
  have hl : lv_has ls 6 [(0, .ref (q 0)), (1, .int p1), (2, .int p2), (3, .int p3), (4, .ref o)] := hl
  have hDo : va_D (wA q s.heap.size o) (oW o cL v) := D1_of (Or.inr rfl)
  refine lv_aload hx hb dL_addKind_0 (lv_at hl 4 rfl) ?_
  refine lv_iconst (v := 0) hx hb dL_addKind_2 (by decide) ?_
  refine lv_aload_n hx hb dL_addKind_3 rfl (lv_at hl 0 rfl) ?_
  refine lv_iload_n hx hb dL_addKind_4 rfl (lv_at hl 1 rfl) ?_
  refine lv_iload_n hx hb dL_addKind_5 rfl (lv_at hl 2 rfl) ?_
  refine lv_iload_n hx hb dL_addKind_6 rfl (lv_at hl 3 rfl) ?_
  refine vx_calli (vx_runV (As := [.int p1, .int p2, .int p3]) (rest := [.int (0 : Int32), .ref o]) ⟨hx, hb, hml, hown, hts⟩ (kX3_addKind l hfl D cI cR q G K p1 p2 p3 hJ s.heap.size r hs) (cwV 3 hts gL_addKind_X3_addKind rfl rfl rfl (by decide +kernel) ⟨Nat.le_of_ble_eq_true rfl, Nat.le_of_ble_eq_true rfl⟩) (mPreVT hK hM hS0 rfl hth 0 rfl rfl) rfl rfl hl.1 rfl (lv_room (Nat.le_of_ble_eq_true rfl)) dL_addKind_7 ⟨Nat.le_of_ble_eq_true rfl, Nat.le_of_ble_eq_true rfl⟩) hS (fun _ _ h => Or.inl h) (fun _ h => Or.inl h) (fun _ _ h => Or.inl h) (fun E ce q9 u t H1 locs1 ht hvm _ hB hz hk hS hce hcv hcl => ?_) (fun x G' t H1 locs1 ht hvm hp hB hz hk hS => ?_)
  · obtain ⟨hEr, hM1⟩ := hB
    rw [ht] at hM1
    have hPo1 : va_P D vwCl (oW o cL v) H1 := hPo.kept fun k y hy => by
      have hz1 : k < 1 := (List.getElem?_eq_some_iff.mp hy).1
      obtain rfl : k = 0 := by omega
      cases hy
      exact hk o ((hPo 0 _ rfl).lt) ho
    obtain ⟨j, hj⟩ := hE E hEr
    rcases List.mem_cons.mp hj with h | h
    · cases h
      refine vx_catch (name := "java/lang/IllegalArgumentException") hown [] _ _ htab (fun z hz9 => absurd hz9 List.not_mem_nil) rfl (by decide) (hts (Cond.classLink RL 13 "java/lang/IllegalArgumentException") (by decide +kernel)) (va_Nw.use rfl (hth.2.2.2.1 _ (by decide))) hce hcv hcl ?_
      refine lv_astore (lv' := [(5, .ref q9), (0, .ref (q 0)), (1, .int p1), (2, .int p2), (3, .int p3), (4, .ref o)]) hx hb dL_addKind_15 hl (by decide) rfl (fun ls hl => ?_)
      refine lv_iconst (v := 1) hx hb dL_addKind_17 (by decide) ?_
      exact vx_ret (W.iret (v := 1) hx hb hr (fun t9 ht9 hW => ⟨⟨1, (G, v), rfl, Or.inr ⟨_, 1, hEr, hj, rfl, rfl⟩, w_end ht9 hM1 rfl, by rw [ht9]; exact hPo1⟩, hS.F ht9⟩) hS.2.2 dL_addKind_18)
    · rcases List.mem_cons.mp h with h | h
      · cases h
        refine vx_catch (name := "java/lang/IllegalStateException") hown [_] _ _ htab (fun z hz9 => Or.inr ?_) rfl (by decide) (hts (Cond.classLink RL 15 "java/lang/IllegalStateException") (by decide +kernel)) (va_Nw.use rfl (hth.2.2.2.1 _ (by decide))) hce hcv hcl ?_
        · rw [List.mem_singleton.mp hz9]
          exact ⟨by decide, "java/lang/IllegalArgumentException", hts (Cond.classLink RL 13 "java/lang/IllegalArgumentException") (by decide +kernel), hnc ("java/lang/IllegalStateException", "java/lang/IllegalArgumentException") (by decide)⟩
        refine lv_astore (lv' := [(5, .ref q9), (0, .ref (q 0)), (1, .int p1), (2, .int p2), (3, .int p3), (4, .ref o)]) hx hb dL_addKind_19 hl (by decide) rfl (fun ls hl => ?_)
        refine lv_iconst (v := 2) hx hb dL_addKind_21 (by decide) ?_
        exact vx_ret (W.iret (v := 2) hx hb hr (fun t9 ht9 hW => ⟨⟨2, (G, v), rfl, Or.inr ⟨_, 2, hEr, hj, rfl, rfl⟩, w_end ht9 hM1 rfl, by rw [ht9]; exact hPo1⟩, hS.F ht9⟩) hS.2.2 dL_addKind_22)
      · exact absurd h List.not_mem_nil
  · rw [ht] at hB
    have hPo1 : va_P D vwCl (oW o cL v) H1 := hPo.kept fun k y hy => by
      have hz1 : k < 1 := (List.getElem?_eq_some_iff.mp hy).1
      obtain rfl : k = 0 := by omega
      cases hy
      exact hk o ((hPo 0 _ rfl).lt) ho
    refine lv_i2l (v := x.toInt64) hx hb dL_addKind_10 rfl ?_
    refine va_last hx hb hKL (va_P.app hPo1 hB) (wD hJ (Or.inr rfl) (fun a h => Or.inl (Or.inl h)) (fun h => ho (Or.inl h))) hS 0 2 rfl rfl (inb_in (x := 0) (by decide)) dL_addKind_11 (fun H2 locs2 hP2 hD2 hS2 => ?_)
    have hP3 : va_P D vwCl ((o, .inl (cL, 1, .inr (.inl (vp_updL (fun _ => v) (0 : Int32).toNatClampNeg x.toInt64)))) :: mwL cI cR q tmC G') H2 := hP2
    obtain ⟨hP4, hM4⟩ := w_split hP3
    refine lv_goto (tgt := 23) hx hb dL_addKind_12 (by decide) ?_
    refine lv_iconst (v := 0) hx hb dL_addKind_23 (by decide) ?_
    exact vx_ret (W.iret (v := 0) hx hb hr (fun t9 ht9 hW => ⟨⟨0, (G', x.toInt64), rfl, Or.inl ⟨x, G', hp, rfl, rfl⟩, w_end ht9 hM4 rfl, by rw [ht9]; exact o_one hP4⟩, hS2.F ht9⟩) hS2.2.2 dL_addKind_24)
