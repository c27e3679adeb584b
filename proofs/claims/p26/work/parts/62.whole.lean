set_option maxHeartbeats 16000000 in
set_option maxRecDepth 100000 in
theorem whole_start {p : Program} {e : Env} {s : State} {m : MethodId} {below : List Frame} {meth : Method} {c : Code} (l : Launch) (hflags : l.flags = flags0) {b L : Nat} {xs : Nat → Int32} (hL : L ≤ 260) (C0 : lw_At p s m meth c b L xs) : W p l e room_1 s m #[Value.ref b] below meth c s.heap [] 0 0 (lw_Z below #[Value.ref b] s) (entryFrame m ([Value.ref b] : List Value).toArray 6) := by
  obtain ⟨hx, hb, hr, hml, hown, hts0, hX, hbl, hlocks, hgv⟩ := id C0
  obtain ⟨D, cI, cR, hK0⟩ := st_K hts0
  have hAO : va_AO "CoinRails$State" (s.setDrawn s.drawn) := va_AO.moved (u := s) (U := s.setDrawn s.drawn) (Vm.Alike.refl s.vm) (va_AO.of (hts0 (.arrayOver (.object "CoinRails$State")) (by decide +kernel)))
  have hNw : va_Nw (.methodLinkNest RX3 25 yX0_init RX3) (s.setDrawn s.drawn) := va_tabs rfl rfl (hts0 (.methodLinkNest RX3 25 yX0_init RX3) (by decide +kernel))
  have htd : ∀ w ∈ lw_tbl, w.before #[Value.ref b] (s.setDrawn s.drawn) = true := dr_words hts0 s.drawn
  have htl : ∀ w ∈ wsL_law, w.before #[Value.ref b] (s.setDrawn s.drawn) = true := fun w h => htd w (wsL_law_in w h)
  have hK : va_K D vwCl (mTy cI cR) (s.setDrawn s.drawn) := va_K.moved (u := s) (U := s.setDrawn s.drawn) (Vm.Alike.refl s.vm) hK0
  have hown : (s.setDrawn s.drawn).vm.findClass RL = some m.cls := hown
  have hX : va_X b L xs (s.setDrawn s.drawn) (s.setDrawn s.drawn).heap := hX
  have hbl : b < (s.setDrawn s.drawn).heap.size := hbl
  have hfix : CallFix p m c code 6 (s.setDrawn s.drawn) #[Value.ref b] wsL_law RL := ⟨hx, hb, hml, hown, htl⟩
  refine W.base ?_
  have hA : ∀ a, s.heap.size ≤ a → lwA s a := fun _ h => h
  have hS : va_S (lwA s) s.heap s.heap [] := va_S.rf
  have hP : va_P D vwCl [] s.heap := fun k q h => by simp at h
  have hD : va_D (lwA s) [] := ⟨fun i j p q h => by simp at h, fun k q h => by simp at h⟩
  have hl := lv_entry ([.ref b]) (n := 6) (Nat.le_of_ble_eq_true rfl)
  rw [lg_entry_eq]
  generalize (lg_sl ([.ref b]) ++ List.replicate (6 - (lg_sl ([.ref b])).length) Slot.unset).toArray = ls at hl ⊢
  have hl : lv_has ls 6 [(0, .ref b)] := hl
  refine va_new (ci := 3) (fs := [.null, .null, .null]) (C := RX3) (T := TX3) (N := 3) hx hb htd inTX3 tyX3 tyX3_ok hown (htd (.classLink RL 20 RX3) (by decide +kernel)) (htd (.instantiable RX3 3) (by decide +kernel)) (htd (.initialized RX3) (by decide +kernel)) hK hP hD hS hA rfl (fun j hj => by rcases (show j = 0 ∨ j = 1 ∨ j = 2 by omega) with rfl | rfl | rfl <;> rfl) (Nat.le_of_ble_eq_true rfl) (Nat.le_of_ble_eq_true rfl) dL_law_0 (fun a1 H hP hD hS => ?_)
  refine lv_dup hx hb dL_law_3 rfl ?_
  have hPc : va_P D vwCl [(a1, .inr (3, [.null, .null, .null]))] H := P_last hP
  have hA9 : ∀ a, H.size ≤ a → lwA s a := fun a h => Nat.le_trans hS.1 h
  have hF9 : ∀ a, nA a1 H.size a → lwA s a := fun a h => by
    rcases h with h | h
    · rw [h]; exact D_last hD
    · exact hA9 a h
  refine va_callv (va_runI (As := []) (rest := [.ref a1]) hfix (kX3_init l D cI cR a1 H.size) (cwI 0 htl gL_law_X3_init rfl rfl rfl (htd (.initialized RX3) (by decide +kernel)) (htd (.methodLink RL 70 yX3_init) (by decide +kernel)) (htd (.instanceMethod yX3_init) (by decide +kernel)) rfl (by decide +kernel) ⟨Nat.le_of_ble_eq_true rfl, Nat.le_of_ble_eq_true rfl⟩) ⟨nBlindQ, fun U hU hW => ⟨rfl, by rw [hU], by rw [hU]; exact hPc, va_K.moved hW.alike hK, va_AO.moved hW.alike hAO, va_Nw.warmM hW hNw⟩⟩ rfl rfl hl.1 rfl (lv_room (Nat.le_of_ble_eq_true rfl)) dL_law_4 ⟨Nat.le_of_ble_eq_true rfl, Nat.le_of_ble_eq_true rfl⟩) hS (fun a _ h => hF9 a h) hF9 (fun q1 t H1 locs1 ht hvm hq hM hz hk hS => ?_)
  rw [ht] at hM
  obtain ⟨hP2, hD2⟩ := k_join hP hD hA9 hk hq hM
  obtain ⟨h0, -, -⟩ := hq
  subst h0
  clear hP hD hPc hA9 hF9 hk hz hM
  rw [List.nil_append] at hP2 hD2
  have hP := hP2
  have hD := hD2
  clear hP2 hD2
  refine lv_astore_n (lv' := [(1, .ref (q1 0)), (0, .ref b)]) hx hb dL_law_7 rfl hl (by decide) rfl (fun ls hl => ?_)
  refine va_new (ci := 3) (fs := [.null, .null, .null]) (C := RX3) (T := TX3) (N := 3) hx hb htd inTX3 tyX3 tyX3_ok hown (htd (.classLink RL 20 RX3) (by decide +kernel)) (htd (.instantiable RX3 3) (by decide +kernel)) (htd (.initialized RX3) (by decide +kernel)) hK hP hD hS hA rfl (fun j hj => by rcases (show j = 0 ∨ j = 1 ∨ j = 2 by omega) with rfl | rfl | rfl <;> rfl) (Nat.le_of_ble_eq_true rfl) (Nat.le_of_ble_eq_true rfl) dL_law_8 (fun a2 H hP hD hS => ?_)
  refine lv_dup hx hb dL_law_11 rfl ?_
  have hPc : va_P D vwCl [(a2, .inr (3, [.null, .null, .null]))] H := P_last hP
  have hA9 : ∀ a, H.size ≤ a → lwA s a := fun a h => Nat.le_trans hS.1 h
  have hF9 : ∀ a, nA a2 H.size a → lwA s a := fun a h => by
    rcases h with h | h
    · rw [h]; exact D_last hD
    · exact hA9 a h
  refine va_callv (va_runI (As := []) (rest := [.ref a2]) hfix (kX3_init l D cI cR a2 H.size) (cwI 0 htl gL_law_X3_init rfl rfl rfl (htd (.initialized RX3) (by decide +kernel)) (htd (.methodLink RL 70 yX3_init) (by decide +kernel)) (htd (.instanceMethod yX3_init) (by decide +kernel)) rfl (by decide +kernel) ⟨Nat.le_of_ble_eq_true rfl, Nat.le_of_ble_eq_true rfl⟩) ⟨nBlindQ, fun U hU hW => ⟨rfl, by rw [hU], by rw [hU]; exact hPc, va_K.moved hW.alike hK, va_AO.moved hW.alike hAO, va_Nw.warmM hW hNw⟩⟩ rfl rfl hl.1 rfl (lv_room (Nat.le_of_ble_eq_true rfl)) dL_law_12 ⟨Nat.le_of_ble_eq_true rfl, Nat.le_of_ble_eq_true rfl⟩) hS (fun a _ h => hF9 a h) hF9 (fun q2 t2 H2 locs2 ht2 hvm2 hq2 hM hz hk hS => ?_)
  rw [ht2] at hM
  obtain ⟨hP2, hD2⟩ := k_join hP hD hA9 hk hq2 hM
  obtain ⟨h0, -, -⟩ := hq2
  subst h0
  clear hP hD hPc hA9 hF9 hk hz hM
  obtain ⟨hJ, hA2⟩ := st_J2 hD2
  have hW : W2 D cI cR q1 q2 GC GC H2 := ⟨P_l hP2, P_r hP2⟩
  have hbA : ¬ lwA s b := Nat.not_le.mpr hbl
  obtain ⟨G, P, hk, hI⟩ := p_kinds (K := 4000) (Nat.le_refl 4000) hL xs
  refine lv_astore_n (lv' := [(2, .ref (q2 0)), (1, .ref (q1 0)), (0, .ref b)]) hx hb dL_law_15 rfl hl (by decide) rfl (fun ls hl => ?_)
  refine lv_aload_n hx hb dL_law_16 rfl (lv_at hl 1 rfl) ?_
  refine lv_aload_n hx hb dL_law_17 rfl (lv_at hl 0 rfl) ?_
  refine lv_aload_n hx hb dL_law_18 rfl (lv_at hl 2 rfl) ?_
  refine k2_cW (va_runS (As := [.ref (q1 0), .ref (q2 0), .ref b]) (rest := []) hfix (kL_kinds l D cI cR q1 q2 hJ 4000 L xs b GC GC (G, P) hk) (va_cwS 3 htl gL_law_L_kinds rfl rfl rfl (by decide +kernel) ⟨Nat.le_of_ble_eq_true rfl, Nat.le_of_ble_eq_true rfl⟩) (kPreS hK hW hX hbl hbA hS (fun z => hbA (hA2 b (Or.inl z))) (fun z => hbA (hA2 b (Or.inr z)))) rfl rfl hl.1 rfl (lv_room (Nat.le_of_ble_eq_true rfl)) dL_law_19 ⟨Nat.le_of_ble_eq_true rfl, Nat.le_of_ble_eq_true rfl⟩) hS hA2 (fun H locs hW hS => ?_)
  refine lv_istore_n (lv' := [(3, .int 1), (2, .ref (q2 0)), (1, .ref (q1 0)), (0, .ref b)]) hx hb dL_law_22 rfl hl (by decide) rfl (fun ls hl => ?_)
  refine lv_iconst (v := nI 4) hx hb dL_law_23 (by decide) ?_
  refine lv_istore (lv' := [(4, .int (nI 4)), (3, .int 1), (2, .ref (q2 0)), (1, .ref (q1 0)), (0, .ref b)]) hx hb dL_law_24 hl (by decide) rfl (fun ls hl => ?_)
  refine W.widen (k := 134) (n := 1480) (Nat.le_of_ble_eq_true rfl) (Nat.le_of_ble_eq_true rfl) ?_
  exact law_loop hx hb hml hown htl hK hJ hA2 hr hlocks hL hX hbl 40 4 rfl G P H _ ls hI hW hS hl
