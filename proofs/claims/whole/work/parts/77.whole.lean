/-! MACHINE: the law, from its entry -/
theorem P_l {D : va_G} {w1 w2 : va_W} {H : Heap} (h : va_P D vwCl (w1 ++ w2) H) : va_P D vwCl w1 H := fun k p hk => h k p (by rw [List.getElem?_append_left (List.getElem?_eq_some_iff.mp hk).1]; exact hk)
theorem P_r {D : va_G} {w1 w2 : va_W} {H : Heap} (h : va_P D vwCl (w1 ++ w2) H) : va_P D vwCl w2 H := fun k p hk => h (w1.length + k) p (by rw [List.getElem?_append_right (by omega), show w1.length + k - w1.length = k by omega]; exact hk)
theorem st_J {cI cR : ClassId} {A : Nat → Prop} {q qm : Nat → Nat} {o n : Nat} {x : va_E} {G M : Nat → Nat → Int32} (hD : va_D A ((mwL cI cR q tmC G ++ mwL cI cR qm tmM M) ++ [(o, x)])) (hA : ∀ a, A a → n ≤ a) : lwJ q qm o n := by
  have lC := mw_len cI cR q tmC G
  have lM := mw_len cI cR qm tmM M
  have eC : tmC.length = 67 := rfl
  have eM : tmM.length = 5 := rfl
  have pC : ∀ i, i < tmC.length → ∃ y, ((mwL cI cR q tmC G ++ mwL cI cR qm tmM M) ++ [(o, x)])[i]? = some (q i, y) := fun i hi => by
    refine ⟨mwE cI cR q (G i) tmC[i], ?_⟩
    rw [List.getElem?_append_left (by rw [List.length_append, lC, lM]; omega), List.getElem?_append_left (by rw [lC]; exact hi)]
    exact mwL_get (List.getElem?_eq_getElem hi)
  have pM : ∀ i, i < tmM.length → ∃ y, ((mwL cI cR q tmC G ++ mwL cI cR qm tmM M) ++ [(o, x)])[67 + i]? = some (qm i, y) := fun i hi => by
    refine ⟨mwE cI cR qm (M i) tmM[i], ?_⟩
    rw [List.getElem?_append_left (by rw [List.length_append, lC, lM]; omega), List.getElem?_append_right (by rw [lC]; omega), lC, eC, show 67 + i - 67 = i by omega]
    exact mwL_get (List.getElem?_eq_getElem hi)
  have pO : ((mwL cI cR q tmC G ++ mwL cI cR qm tmM M) ++ [(o, x)])[72]? = some (o, x) := by
    rw [List.getElem?_append_right (by rw [List.length_append, lC, lM]; omega), List.length_append, lC, lM]
    rfl
  obtain ⟨h1, h2⟩ := hD
  refine ⟨fun i j hi hj e => ?_, fun i j hi hj e => ?_, fun a ⟨i, hi, ei⟩ ⟨j, hj, ej⟩ => ?_, fun ⟨i, hi, ei⟩ => ?_, fun ⟨i, hi, ei⟩ => ?_, fun a ⟨i, hi, ei⟩ => ?_, fun a ⟨i, hi, ei⟩ => ?_, hA _ (h2 _ _ pO)⟩
  · obtain ⟨y, hy⟩ := pC i hi
    obtain ⟨z, hz⟩ := pC j hj
    exact h1 _ _ _ _ hy hz e
  · obtain ⟨y, hy⟩ := pM i hi
    obtain ⟨z, hz⟩ := pM j hj
    have := h1 _ _ _ _ hy hz e
    omega
  · obtain ⟨y, hy⟩ := pC i hi
    obtain ⟨z, hz⟩ := pM j hj
    have := h1 _ _ _ _ hy hz (ei.symm.trans ej)
    omega
  · obtain ⟨y, hy⟩ := pC i hi
    have := h1 _ _ _ _ hy pO ei.symm
    omega
  · obtain ⟨y, hy⟩ := pM i hi
    have := h1 _ _ _ _ hy pO ei.symm
    omega
  · obtain ⟨y, hy⟩ := pC i hi
    rw [ei]
    exact hA _ (h2 _ _ hy)
  · obtain ⟨y, hy⟩ := pM i hi
    rw [ei]
    exact hA _ (h2 _ _ hy)
section NWL
variable {p : Program} {l : Launch} {e : Env} {R : Room} {s : State} {m : MethodId} {args : Array Value} {below : List Frame} {meth : Method} {c : Code} {H : Heap} {locs : List Loc} {cells slots : Nat} {Q : State → Prop}
variable {cc : ByteArray} {pc : Nat} {ls : Array Slot} {rest : List Value} {D : va_G} {A : Nat → Prop} {H0 : Heap} {cI cR cL : ClassId} {ws : va_W}
theorem k_newL (hexec : p.tables.exec = Jvm.exec) (hb : c.code = cc) (harr : (Cond.arrayClass .long).before args s = true) (hK : va_K D vwCl (mTyL cI cR cL) s) (hP : va_P D vwCl ws H) (hD : va_D A ws) (hS : va_S A H0 H locs) (hA : ∀ a, H0.size ≤ a → A a)
    (hcells : cells + 1 ≤ R.cells) (hslots : slots + 1 ≤ R.slots) (hdg : decode cc pc = .ok (.newarray .long, 2))
    (kk : ∀ (h : Nat) (H1 : Heap), va_P D vwCl (ws ++ [(h, .inl (cL, 1, .inr (.inl (fun _ => 0))))]) H1 → va_D A (ws ++ [(h, .inl (cL, 1, .inr (.inl (fun _ => 0))))]) → va_S A H0 H1 locs →
      W p l e R s m args below meth c H1 locs (cells + 1) (slots + 1) Q (F0 m (pc + 2) ls (.ref h :: rest))) : W p l e R s m args below meth c H locs cells slots Q (F0 m pc ls (.int 1 :: rest)) := by
  refine va_newa (atype := .long) (ty := .long) (N' := 1) (a0 := (1, .inr (.inl (fun _ => 0)))) hexec hb harr rfl hK hP hD hS hA (fun cA => rfl) (by decide) (by decide) (by decide) hcells hslots hdg fun h cA H1 hK1 hP1 hD1 hS1 => ?_
  have hcL : cA = cL := by
    have h1 : s.vm.findClass ("[" ++ (FieldType.long).toString) = some cL := (hK.2 2 _ rfl).2
    have h2 : s.vm.findClass ("[" ++ (FieldType.long).toString) = some cA := (hK1.2 3 _ rfl).2
    exact Option.some.inj (h2.symm.trans h1)
  subst hcL
  exact kk h H1 hP1 hD1 hS1
end NWL
set_option maxHeartbeats 16000000 in
set_option maxRecDepth 100000 in
theorem whole_start {p : Program} {e : Env} {s : State} {m : MethodId} {below : List Frame} {meth : Method} {c : Code} (l : Launch) (hflags : l.flags = flags0) {b L : Nat} {xs : Nat → Int32} (hL : L ≤ 2048) (C0 : lw_At p s m meth c b L xs) : W p l e room_1 s m #[Value.ref b] below meth c s.heap [] 0 0 (lw_Z below #[Value.ref b] s) (entryFrame m ([Value.ref b] : List Value).toArray 9) := by
  obtain ⟨hx, hb, hr, hml, hown, hts0, hX, hbl, hlocks, hgv⟩ := id C0
  obtain ⟨D, cI, cR, cL, hKL⟩ := st_K hts0
  have F : lwF p l s m c #[Value.ref b] D cI cR cL b L xs := ⟨hx, hb, hml, hown, fun w h => hts0 w (wsL_law_in w h), hflags, hX, hbl, hKL, st_thP hts0 hgv, st_nc hgv⟩
  have hAO : va_AO "CoinRails$State" (s.setDrawn s.drawn) := va_AO.moved (u := s) (U := s.setDrawn s.drawn) (Vm.Alike.refl s.vm) (va_AO.of (hts0 (.arrayOver (.object "CoinRails$State")) (by decide +kernel)))
  have hNw : va_Nw (.methodLinkNest RX3 25 yX0_init RX3) (s.setDrawn s.drawn) := va_tabs rfl rfl (hts0 (.methodLinkNest RX3 25 yX0_init RX3) (by decide +kernel))
  have htd : ∀ w ∈ lw_tbl, w.before #[Value.ref b] (s.setDrawn s.drawn) = true := dr_words hts0 s.drawn
  have hd0 := Drawn.sameBut.refl s.drawn lw_cs
  have hfix := (F.at s.drawn).fix
  have htl : ∀ w ∈ wsL_law, w.before #[Value.ref b] (s.setDrawn s.drawn) = true := hfix.2.2.2.2
  have hKL : va_K D vwCl (mTyL cI cR cL) (s.setDrawn s.drawn) := (F.at s.drawn).2.2.2.2.2.2.2.2.1
  have hK := mTyL_K hKL
  have hown : (s.setDrawn s.drawn).vm.findClass RL = some m.cls := hfix.2.2.2.1
  refine W.base ?_
  have hA : ∀ a, s.heap.size ≤ a → lwA s a := fun _ h => h
  have hS : va_S (lwA s) s.heap s.heap [] := va_S.rf
  have hP : va_P D vwCl [] s.heap := fun k q h => by simp at h
  have hD : va_D (lwA s) [] := ⟨fun i j p q h => by simp at h, fun k q h => by simp at h⟩
  have hl := lv_entry ([.ref b]) (n := 9) (Nat.le_of_ble_eq_true rfl)
  rw [lg_entry_eq]
  generalize (lg_sl ([.ref b]) ++ List.replicate (9 - (lg_sl ([.ref b])).length) Slot.unset).toArray = ls at hl ⊢
  have hl : lv_has ls 9 [(0, .ref b)] := hl
  refine va_new (ci := 3) (fs := [.null, .null, .null]) (C := RX3) (T := TX3) (N := 3) hx hb htd inTX3 tyX3 tyX3_ok hown (htd (.classLink RL 8 RX3) (by decide +kernel)) (htd (.instantiable RX3 3) (by decide +kernel)) (htd (.initialized RX3) (by decide +kernel)) hKL hP hD hS hA rfl (fun j hj => by rcases (show j = 0 ∨ j = 1 ∨ j = 2 by omega) with rfl | rfl | rfl <;> rfl) (Nat.le_of_ble_eq_true rfl) (Nat.le_of_ble_eq_true rfl) dL_law_0 (fun a1 H hP hD hS => ?_)
  refine lv_dup hx hb dL_law_3 rfl ?_
  have hPc : va_P D vwCl [(a1, .inr (3, [.null, .null, .null]))] H := P_last hP
  have hA9 : ∀ a, H.size ≤ a → lwA s a := fun a h => Nat.le_trans hS.1 h
  have hF9 : ∀ a, nA a1 H.size a → lwA s a := fun a h => by
    rcases h with h | h
    · rw [h]; exact D_last hD
    · exact hA9 a h
  refine va_callv (va_runI (As := []) (rest := [.ref a1]) hfix (kX3_init l D cI cR a1 H.size) (cwI 0 htl gL_law_X3_init rfl rfl rfl (htd (.initialized RX3) (by decide +kernel)) (htd (.methodLink RL 70 yX3_init) (by decide +kernel)) (htd (.instanceMethod yX3_init) (by decide +kernel)) rfl (by decide +kernel) ⟨Nat.le_of_ble_eq_true rfl, Nat.le_of_ble_eq_true rfl⟩) ⟨nBlindQ, fun U hU hW => ⟨rfl, by rw [hU], by rw [hU]; exact hPc, va_K.moved hW.alike hK, va_AO.moved hW.alike hAO, va_Nw.warmM hW hNw⟩⟩ rfl rfl hl.1 rfl (lv_room (Nat.le_of_ble_eq_true rfl)) dL_law_4 ⟨Nat.le_of_ble_eq_true rfl, Nat.le_of_ble_eq_true rfl⟩) hS (fun a _ h => hF9 a h) hF9 (fun q t H1 locs1 ht hvm hq hM hz hk hS => ?_)
  rw [ht] at hM
  obtain ⟨hP2, hD2⟩ := k_join hP hD hA9 hk hq hM
  obtain ⟨h0, -, -⟩ := hq
  subst h0
  clear hP hD hPc hA9 hF9 hk hz hM
  rw [List.nil_append] at hP2 hD2
  have hP := hP2
  have hD := hD2
  clear hP2 hD2
  refine lv_astore_n (lv' := [(1, .ref (q 0)), (0, .ref b)]) hx hb dL_law_7 rfl hl (by decide) rfl (fun ls hl => ?_)
  refine va_new (ci := 4) (fs := [.null, .null, .null, .int 0, .int 0, .null, .int 0, .int 0, .int 0, .int 0]) (C := RX4) (T := TX4) (N := 10) hx hb htd inTX4 tyX4 tyX4_ok hown (htd (.classLink RL 71 RX4) (by decide +kernel)) (htd (.instantiable RX4 10) (by decide +kernel)) (htd (.initialized RX4) (by decide +kernel)) hKL hP hD hS hA rfl (fun j hj => by rcases (show j = 0 ∨ j = 1 ∨ j = 2 ∨ j = 3 ∨ j = 4 ∨ j = 5 ∨ j = 6 ∨ j = 7 ∨ j = 8 ∨ j = 9 by omega) with rfl | rfl | rfl | rfl | rfl | rfl | rfl | rfl | rfl | rfl <;> rfl) (Nat.le_of_ble_eq_true rfl) (Nat.le_of_ble_eq_true rfl) dL_law_8 (fun a2 H hP hD hS => ?_)
  refine lv_dup hx hb dL_law_11 rfl ?_
  have hPc : va_P D vwCl [(a2, .inr (4, [.null, .null, .null, .int 0, .int 0, .null, .int 0, .int 0, .int 0, .int 0]))] H := P_last hP
  have hA9 : ∀ a, H.size ≤ a → lwA s a := fun a h => Nat.le_trans hS.1 h
  have hF9 : ∀ a, nA a2 H.size a → lwA s a := fun a h => by
    rcases h with h | h
    · rw [h]; exact D_last hD
    · exact hA9 a h
  refine va_callv (va_runI (As := []) (rest := [.ref a2]) hfix (kX4_init l D cI cR a2 H.size) (cwI 0 htl gL_law_X4_init rfl rfl rfl (htd (.initialized RX4) (by decide +kernel)) (htd (.methodLink RL 73 yX4_init) (by decide +kernel)) (htd (.instanceMethod yX4_init) (by decide +kernel)) rfl (by decide +kernel) ⟨Nat.le_of_ble_eq_true rfl, Nat.le_of_ble_eq_true rfl⟩) ⟨nBlind, fun U hU hW => ⟨rfl, by rw [hU], by rw [hU]; exact hPc, va_K.moved hW.alike hK⟩⟩ rfl rfl hl.1 rfl (lv_room (Nat.le_of_ble_eq_true rfl)) dL_law_12 ⟨Nat.le_of_ble_eq_true rfl, Nat.le_of_ble_eq_true rfl⟩) hS (fun a _ h => hF9 a h) hF9 (fun qm t2 H2 locs2 ht2 hvm2 hqm hM hz hk hS => ?_)
  rw [ht2] at hM
  obtain ⟨hP2, hD2⟩ := k_join hP hD hA9 hk hqm hM
  obtain ⟨h0, -, -⟩ := hqm
  subst h0
  clear hP hD hPc hA9 hF9 hk hz hM
  refine lv_astore_n (lv' := [(2, .ref (qm 0)), (1, .ref (q 0)), (0, .ref b)]) hx hb dL_law_15 rfl hl (by decide) rfl (fun ls hl => ?_)
  refine lv_iconst (v := 1) hx hb dL_law_16 (by decide) ?_
  refine k_newL hx hb (htd (.arrayClass .long) (by decide +kernel)) hKL hP2 hD2 hS hA (Nat.le_of_ble_eq_true rfl) (Nat.le_of_ble_eq_true rfl) dL_law_17 (fun o H hP hD hS => ?_)
  refine lv_astore_n (lv' := [(3, .ref o), (2, .ref (qm 0)), (1, .ref (q 0)), (0, .ref b)]) hx hb dL_law_19 rfl hl (by decide) rfl (fun ls hl => ?_)
  refine lv_iconst (v := nI (4 * 0)) hx hb dL_law_20 (by decide) ?_
  refine lv_istore (lv' := [(4, .int (nI (4 * 0))), (3, .ref o), (2, .ref (qm 0)), (1, .ref (q 0)), (0, .ref b)]) hx hb dL_law_21 hl (by decide) rfl (fun ls hl => ?_)
  refine W.widen (k := 73 + 4 * 0) (n := 1435 + 24 * 0) (Nat.le_of_ble_eq_true rfl) (Nat.le_of_ble_eq_true rfl) ?_
  exact law_loop F hL (st_J hD (fun _ h => h)) hr hlocks (L / 4 + 1) 0 (by omega) (by omega) s.drawn hd0 GC (iM 6) 0 H _ ls Rel0 ⟨P_l (P_l hP), P_r (P_l hP), P_r hP⟩ hS (lv_sub hl [4, 3, 2, 1, 0] rfl)
