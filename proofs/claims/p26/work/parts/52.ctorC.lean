/-! MACHINE: the constructor of CoinRails -/
def qCs (b : Nat) (qN qH qT : Nat → Nat) : Nat → Nat := fun i => if i = 0 then b else if i < 13 then qN (i - 1) else if i < 63 then qH (i - 13) else qT (i - 63)
def GC : Nat → Nat → Int32 := fun i => if i = 0 then zG 0 else if i < 13 then iS 6 (i - 1) else if i < 63 then GH (i - 13) else zG (i - 63)
theorem mw_len (cI cR : ClassId) (q : Nat → Nat) (tm : List cellT) (G : Nat → Nat → Int32) : (mwL cI cR q tm G).length = tm.length := by
  unfold mwL
  rw [List.length_mapIdx]
theorem X3_fin {cI cR : ClassId} {b : Nat} {qN qH qT : Nat → Nat} : ∀ k, k < tmC.length → (mwL cI cR (qCs b qN qH qT) tmC GC)[k]? = ((([(b, .inr (3, [.ref (qN 0), .ref (qH 0), .ref (qT 0)]))] ++ mwL cI cR qN (tmS 0) (iS 6)) ++ mwL cI cR qH tmH GH) ++ mwL cI cR qT tmT zG : va_W)[k]? := by
  intro k hk
  have hk67 : k < 67 := hk
  have l1 : ([(b, .inr (3, [.ref (qN 0), .ref (qH 0), .ref (qT 0)]))] ++ mwL cI cR qN (tmS 0) (iS 6) : va_W).length = 13 := by
    rw [List.length_append, mw_len]
    rfl
  have l2 : (([(b, .inr (3, [.ref (qN 0), .ref (qH 0), .ref (qT 0)]))] ++ mwL cI cR qN (tmS 0) (iS 6)) ++ mwL cI cR qH tmH GH : va_W).length = 63 := by
    rw [List.length_append, l1, mw_len]
    rfl
  by_cases h0 : k = 0
  · subst h0
    rw [mwL_get (t := .inr (.inl (3, [some 1, some 13, some 63]))) rfl]
    rfl
  by_cases h1 : k < 13
  · obtain ⟨a, ha, rfl⟩ : ∃ a, a < 12 ∧ k = 1 + a := ⟨k - 1, by omega, by omega⟩
    rw [List.getElem?_append_left (by omega), List.getElem?_append_left (by omega), List.getElem?_append_right (by show 1 ≤ _; omega)]
    show _ = (mwL cI cR qN (tmS 0) (iS 6))[1 + a - 1]?
    rw [show 1 + a - 1 = a by omega]
    refine seg_S (fun a ha => ?_) (fun a ha => ?_) st_ok1 ha
    · unfold qCs
      rw [if_neg (by omega), if_pos (by omega), show 1 + a - 1 = a by omega]
    · unfold GC
      rw [if_neg (by omega), if_pos (by omega), show 1 + a - 1 = a by omega]
  by_cases h2 : k < 63
  · rw [List.getElem?_append_left (by omega), List.getElem?_append_right (by omega), l1]
    have hq : ∀ i, i < 50 → qCs b qN qH qT (13 + i) = qH i ∧ GC (13 + i) = GH i := fun i hi => by
      unfold qCs GC
      rw [if_neg (by omega), if_neg (by omega), if_pos (by omega), if_neg (by omega), if_neg (by omega), if_pos (by omega), show 13 + i - 13 = i by omega]
      exact ⟨rfl, rfl⟩
    by_cases h3 : k = 13
    · subst h3
      rw [mwL_get (i := 13) (t := .inr (.inl (1, [some 14, none, none]))) rfl]
      show _ = (mwL cI cR qH tmH GH)[0]?
      rw [mwL_get (i := 0) (t := .inr (.inl (1, [some 1, none, none]))) rfl, (hq 0 (by omega)).1, (hq 0 (by omega)).2]
      show some (qH 0, (Sum.inr (1, [Value.ref (qCs b qN qH qT (13 + 1)), .int (GH 0 1), .int (GH 0 2)]) : va_E)) = some (qH 0, (Sum.inr (1, [Value.ref (qH 1), .int (GH 0 1), .int (GH 0 2)]) : va_E))
      rw [(hq 1 (by omega)).1]
    by_cases h4 : k = 14
    · subst h4
      rw [mwL_get (i := 14) (t := .inr (.inr [15, 27, 39, 51])) rfl]
      show _ = (mwL cI cR qH tmH GH)[1]?
      rw [mwL_get (i := 1) (t := .inr (.inr [2, 14, 26, 38])) rfl, (hq 1 (by omega)).1]
      have ef : (fun j : Nat => (([15, 27, 39, 51] : List Nat)[j]?).map (qCs b qN qH qT)) = fun j : Nat => (([2, 14, 26, 38] : List Nat)[j]?).map qH := by
        funext j
        match j with
        | 0 => exact congrArg some (hq 2 (by omega)).1
        | 1 => exact congrArg some (hq 14 (by omega)).1
        | 2 => exact congrArg some (hq 26 (by omega)).1
        | 3 => exact congrArg some (hq 38 (by omega)).1
        | j + 4 => rfl
      show some (qH 1, (Sum.inl (cR, 4, .inr (.inr (.inr (.inr (fun j => (([15, 27, 39, 51] : List Nat)[j]?).map (qCs b qN qH qT)))))) : va_E)) = some (qH 1, (Sum.inl (cR, 4, .inr (.inr (.inr (.inr (fun j => (([2, 14, 26, 38] : List Nat)[j]?).map qH))))) : va_E))
      rw [ef]
    obtain ⟨c, a, hc, ha, rfl⟩ : ∃ c a, c < 4 ∧ a < 12 ∧ k = 15 + 12 * c + a := ⟨(k - 15) / 12, (k - 15) % 12, by omega, by omega, by omega⟩
    rw [show 15 + 12 * c + a - 13 = 2 + 12 * c + a by omega]
    rw [seg_S (q := qH) (tm := tmH) (G := GH) (o := 2 + 12 * c) (q' := fun a => qH (2 + 12 * c + a)) (G' := fun a => GH (2 + 12 * c + a)) (fun a ha => rfl) (fun a ha => rfl) (fun a ha => tmH_at hc ha) ha]
    refine seg_S (fun a ha => ?_) (fun a ha => ?_) (fun a ha => ?_) ha
    · rw [show 15 + 12 * c + a = 13 + (2 + 12 * c + a) by omega]
      exact (hq _ (by omega)).1
    · rw [show 15 + 12 * c + a = 13 + (2 + 12 * c + a) by omega]
      exact (hq _ (by omega)).2
    · have hcs : c = 0 ∨ c = 1 ∨ c = 2 ∨ c = 3 := by omega
      rcases hcs with rfl | rfl | rfl | rfl
      · exact st_ok15 a ha
      · exact st_ok27 a ha
      · exact st_ok39 a ha
      · exact st_ok51 a ha
  · rw [List.getElem?_append_right (by omega), l2]
    have hq : ∀ i, i < 4 → qCs b qN qH qT (63 + i) = qT i ∧ GC (63 + i) = zG i := fun i hi => by
      unfold qCs GC
      rw [if_neg (by omega), if_neg (by omega), if_neg (by omega), if_neg (by omega), if_neg (by omega), if_neg (by omega), show 63 + i - 63 = i by omega]
      exact ⟨rfl, rfl⟩
    have h4 : k = 63 ∨ k = 64 ∨ k = 65 ∨ k = 66 := by omega
    rcases h4 with rfl | rfl | rfl | rfl
    · rw [mwL_get (i := 63) (t := .inr (.inl (0, [some 64, none, some 65, some 66, none]))) rfl]
      show _ = (mwL cI cR qT tmT zG)[0]?
      rw [mwL_get (i := 0) (t := .inr (.inl (0, [some 1, none, some 2, some 3, none]))) rfl, (hq 0 (by omega)).1, (hq 0 (by omega)).2]
      show some (qT 0, (Sum.inr (0, [Value.ref (qCs b qN qH qT (63 + 1)), .int 0, .ref (qCs b qN qH qT (63 + 2)), .ref (qCs b qN qH qT (63 + 3)), .int 0]) : va_E)) = some (qT 0, (Sum.inr (0, [Value.ref (qT 1), .int 0, .ref (qT 2), .ref (qT 3), .int 0]) : va_E))
      rw [(hq 1 (by omega)).1, (hq 2 (by omega)).1, (hq 3 (by omega)).1]
    · rw [mwL_get (i := 64) (t := .inl 90) rfl]
      show _ = (mwL cI cR qT tmT zG)[1]?
      rw [mwL_get (i := 1) (t := .inl 90) rfl, (hq 1 (by omega)).1, (hq 1 (by omega)).2]
      rfl
    · rw [mwL_get (i := 65) (t := .inl 45) rfl]
      show _ = (mwL cI cR qT tmT zG)[2]?
      rw [mwL_get (i := 2) (t := .inl 45) rfl, (hq 2 (by omega)).1, (hq 2 (by omega)).2]
      rfl
    · rw [mwL_get (i := 66) (t := .inl 45) rfl]
      show _ = (mwL cI cR qT tmT zG)[3]?
      rw [mwL_get (i := 3) (t := .inl 45) rfl, (hq 3 (by omega)).1, (hq 3 (by omega)).2]
      rfl
set_option maxHeartbeats 4000000 in
set_option maxRecDepth 100000 in
theorem kX3_init (l : Launch) (D : va_G) (cI cR : ClassId) (b sz : Nat) : Met l yX3_init wsX3_init ({ frames := 3, cells := 66, slots := 737, locals := 66 } : Room) (nPreQ D cI cR b sz 3 [.null, .null, .null]) (nPost D cI cR b sz tmC GC) 66 737 (nA b sz) := by
  refine Met.ofW (cc := cX3_init) (maxL := 1) (ret := none) (by decide) rfl ?_
  intro p e s m args below meth c s₁ B hml hv
  obtain ⟨hargs, hsz, hP, hK, hAO, hNw⟩ := hv
  have hx := B.exec
  have hb := B.bytes
  have hr := B.returns
  have hts := atoms_spec (ws := wsX3_init) B.pre
  have hown : s.vm.findClass RX3 = some m.cls := findClass_of_methodNamed B.named
  have hin : meth.name = "<init>" := (name_of_methodNamed B.named B.method).1
  have hA : ∀ a, s.heap.size ≤ a → nA b sz a := fun a h => Or.inr (by rw [← hsz]; exact h)
  have hS : va_S (nA b sz) s.heap s.heap [] := va_S.rf
  subst hargs
  have hl := lv_entry ([.ref b]) (n := 1) (Nat.le_of_ble_eq_true rfl)
  rw [lg_entry_eq]
  generalize (lg_sl ([.ref b]) ++ List.replicate (1 - (lg_sl ([.ref b])).length) Slot.unset).toArray = ls at hl ⊢
  have hl : lv_has ls 1 [(0, .ref b)] := hl
  have hD : va_D (nA b sz) [(b, .inr (3, [.null, .null, .null]))] := D1_of (Or.inl rfl)
  refine lv_aload_n hx hb dX3_init_0 rfl (lv_at hl 0 rfl) ?_
  refine W.objInit hx hb hown (hts (.methodLink RX3 3 objectInit) (by decide +kernel)) (hts (.instanceMethod objectInit) (by decide +kernel)) (hts (.code objectInit ⟨#[0xb1]⟩ 1 none) (by decide +kernel)) rfl (by rw [hml]; exact hl.1) rfl dX3_init_1 (Nat.le_of_ble_eq_true rfl) (Nat.le_of_ble_eq_true rfl) ?_
  refine W.eq (g2 := F0 m 4 ls []) rfl ?_
  have iX2 : ∀ w ∈ wsX20, w ∈ wsX3_init := fun _ h => List.mem_cons_of_mem _ (List.mem_append_left _ (List.mem_append_left _ (List.mem_append_left _ (List.mem_append_right _ h))))
  have iX3 : ∀ w ∈ wsX30, w ∈ wsX3_init := fun _ h => List.mem_cons_of_mem _ (List.mem_append_left _ (List.mem_append_left _ (List.mem_append_right _ h)))
  have iX1 : ∀ w ∈ wsX10, w ∈ wsX3_init := fun _ h => List.mem_cons_of_mem _ (List.mem_append_left _ (List.mem_append_right _ h))
  have iX0 : ∀ w ∈ wsX00, w ∈ wsX3_init := fun _ h => List.mem_cons_of_mem _ (List.mem_append_right _ h)
  refine lv_aload_n hx hb dX3_init_4 rfl (lv_at hl 0 rfl) ?_
  refine va_new (ci := 2) (fs := [.int 0, .null, .null, .null, .null, .null, .null, .null, .null, .null, .null, .null, .int 0]) (C := RX2) (T := TX2) (N := 13) hx hb hts iX2 tyX2 tyX2_ok hown (hts (.classLink RX3 9 RX2) (by decide +kernel)) (hts (.instantiable RX2 13) (by decide +kernel)) (hts (.initialized RX2) (by decide +kernel)) hK hP hD hS hA rfl (fun j hj => by rcases (show j = 0 ∨ j = 1 ∨ j = 2 ∨ j = 3 ∨ j = 4 ∨ j = 5 ∨ j = 6 ∨ j = 7 ∨ j = 8 ∨ j = 9 ∨ j = 10 ∨ j = 11 ∨ j = 12 by omega) with rfl | rfl | rfl | rfl | rfl | rfl | rfl | rfl | rfl | rfl | rfl | rfl | rfl <;> rfl) (Nat.le_of_ble_eq_true rfl) (Nat.le_of_ble_eq_true rfl) dX3_init_5 (fun s1 H hP hD hS => ?_)
  refine lv_dup hx hb dX3_init_8 rfl ?_
  have hPc : va_P D vwCl [(s1, .inr (2, [.int 0, .null, .null, .null, .null, .null, .null, .null, .null, .null, .null, .null, .int 0]))] H := P_last hP
  have hA9 : ∀ a, H.size ≤ a → nA b sz a := fun a h => Or.inr (Nat.le_trans (by rw [← hsz]; exact hS.1) h)
  have hF9 : ∀ a, nA s1 H.size a → nA b sz a := fun a h => by
    rcases h with h | h
    · rw [h]; exact D_last hD
    · exact hA9 a h
  refine va_callv (va_runI (As := []) (rest := [.ref s1, .ref b]) ⟨hx, hb, hml, hown, hts⟩ (kX2_init l D cI cR s1 H.size) (cwI 0 hts gX3_init_X2_init rfl rfl rfl (hts (.initialized RX2) (by decide +kernel)) (hts (.methodLink RX3 11 yX2_init) (by decide +kernel)) (hts (.instanceMethod yX2_init) (by decide +kernel)) rfl (by decide +kernel) ⟨(Nat.le_of_ble_eq_true rfl), (Nat.le_of_ble_eq_true rfl)⟩) ⟨nBlind, fun U hU hW => ⟨rfl, by rw [hU], by rw [hU]; exact hPc, va_K.moved hW.alike hK⟩⟩ rfl rfl hl.1 rfl (lv_room (Nat.le_of_ble_eq_true rfl)) dX3_init_9 ⟨(Nat.le_of_ble_eq_true rfl), (Nat.le_of_ble_eq_true rfl)⟩) hS (fun a _ h => hF9 a h) hF9 (fun qN t H1 locs ht hvm hq hM hz hk hS => ?_)
  rw [ht] at hM
  obtain ⟨hP2, hD2⟩ := k_join hP hD hA9 hk hq hM
  obtain ⟨h0, -, -⟩ := hq
  subst h0
  clear hP hD
  refine va_putF (D := D) (ci := 3) (v := .ref (qN 0)) (ty := .object "CoinRails$State") (C := RX3) (T := TX3) (N := 3) hx hb hts iX3 tyX3 tyX3_ok nmX3 hown hK hP2 hD2 hS 0 rfl rfl 0 (by decide) (hts (Cond.fieldLink RX3 12 "CoinRails" "now" "LCoinRails$State;") (by decide +kernel)) (fun _ h9 => h9) rfl hin rfl (by decide +kernel) rfl rfl (Nat.le_of_ble_eq_true rfl) dX3_init_12 (fun H locs hP hD hS => ?_)
  have hP : va_P D vwCl ([(b, .inr (3, [.ref (qN 0), .null, .null]))] ++ mwL cI cR qN (tmS 0) (iS 6)) H := hP
  have hD : va_D (nA b sz) ([(b, .inr (3, [.ref (qN 0), .null, .null]))] ++ mwL cI cR qN (tmS 0) (iS 6)) := hD
  clear hP2 hD2 hPc hA9 hF9 hM hk hz
  refine lv_aload_n hx hb dX3_init_15 rfl (lv_at hl 0 rfl) ?_
  refine va_new (ci := 1) (fs := [.null, .int 0, .int 0]) (C := RX1) (T := TX1) (N := 3) hx hb hts iX1 tyX1 tyX1_ok hown (hts (.classLink RX3 16 RX1) (by decide +kernel)) (hts (.instantiable RX1 3) (by decide +kernel)) (hts (.initialized RX1) (by decide +kernel)) hK hP hD hS hA rfl (fun j hj => by rcases (show j = 0 ∨ j = 1 ∨ j = 2 by omega) with rfl | rfl | rfl <;> rfl) (Nat.le_of_ble_eq_true rfl) (Nat.le_of_ble_eq_true rfl) dX3_init_16 (fun s2 H hP hD hS => ?_)
  refine lv_dup hx hb dX3_init_19 rfl ?_
  have hPc : va_P D vwCl [(s2, .inr (1, [.null, .int 0, .int 0]))] H := P_last hP
  have hA9 : ∀ a, H.size ≤ a → nA b sz a := fun a h => Or.inr (Nat.le_trans (by rw [← hsz]; exact hS.1) h)
  have hF9 : ∀ a, nA s2 H.size a → nA b sz a := fun a h => by
    rcases h with h | h
    · rw [h]; exact D_last hD
    · exact hA9 a h
  refine va_callv (va_runI (As := []) (rest := [.ref s2, .ref b]) ⟨hx, hb, hml, hown, hts⟩ (kX1_init l D cI cR s2 H.size) (cwI 0 hts gX3_init_X1_init rfl rfl rfl (hts (.initialized RX1) (by decide +kernel)) (hts (.methodLink RX3 18 yX1_init) (by decide +kernel)) (hts (.instanceMethod yX1_init) (by decide +kernel)) rfl (by decide +kernel) ⟨(Nat.le_of_ble_eq_true rfl), (Nat.le_of_ble_eq_true rfl)⟩) ⟨nBlindQ, fun U hU hW => ⟨rfl, by rw [hU], by rw [hU]; exact hPc, va_K.moved hW.alike hK, va_AO.moved hW.alike hAO, va_Nw.warmM hW hNw⟩⟩ rfl rfl hl.1 rfl (lv_room (Nat.le_of_ble_eq_true rfl)) dX3_init_20 ⟨(Nat.le_of_ble_eq_true rfl), (Nat.le_of_ble_eq_true rfl)⟩) hS (fun a _ h => hF9 a h) hF9 (fun qH t H1 locs ht hvm hq hM hz hk hS => ?_)
  rw [ht] at hM
  obtain ⟨hP2, hD2⟩ := k_join hP hD hA9 hk hq hM
  obtain ⟨h0, -, -⟩ := hq
  subst h0
  clear hP hD
  refine va_putF (D := D) (ci := 3) (v := .ref (qH 0)) (ty := .object "CoinRails$History") (C := RX3) (T := TX3) (N := 3) hx hb hts iX3 tyX3 tyX3_ok nmX3 hown hK hP2 hD2 hS 0 rfl rfl 1 (by decide) (hts (Cond.fieldLink RX3 19 "CoinRails" "history" "LCoinRails$History;") (by decide +kernel)) (fun _ h9 => h9) rfl hin rfl (by decide +kernel) rfl rfl (Nat.le_of_ble_eq_true rfl) dX3_init_23 (fun H locs hP hD hS => ?_)
  have hP : va_P D vwCl (([(b, .inr (3, [.ref (qN 0), .ref (qH 0), .null]))] ++ mwL cI cR qN (tmS 0) (iS 6)) ++ mwL cI cR qH tmH GH) H := hP
  have hD : va_D (nA b sz) (([(b, .inr (3, [.ref (qN 0), .ref (qH 0), .null]))] ++ mwL cI cR qN (tmS 0) (iS 6)) ++ mwL cI cR qH tmH GH) := hD
  clear hP2 hD2 hPc hA9 hF9 hM hk hz
  refine lv_aload_n hx hb dX3_init_26 rfl (lv_at hl 0 rfl) ?_
  refine va_new (ci := 0) (fs := [.null, .int 0, .null, .null, .int 0]) (C := RX0) (T := TX0) (N := 5) hx hb hts iX0 tyX0 tyX0_ok hown (hts (.classLink RX3 23 RX0) (by decide +kernel)) (hts (.instantiable RX0 5) (by decide +kernel)) (hts (.initialized RX0) (by decide +kernel)) hK hP hD hS hA rfl (fun j hj => by rcases (show j = 0 ∨ j = 1 ∨ j = 2 ∨ j = 3 ∨ j = 4 by omega) with rfl | rfl | rfl | rfl | rfl <;> rfl) (Nat.le_of_ble_eq_true rfl) (Nat.le_of_ble_eq_true rfl) dX3_init_27 (fun s3 H hP hD hS => ?_)
  refine lv_dup hx hb dX3_init_30 rfl ?_
  have hPc : va_P D vwCl [(s3, .inr (0, [.null, .int 0, .null, .null, .int 0]))] H := P_last hP
  have hA9 : ∀ a, H.size ≤ a → nA b sz a := fun a h => Or.inr (Nat.le_trans (by rw [← hsz]; exact hS.1) h)
  have hF9 : ∀ a, nA s3 H.size a → nA b sz a := fun a h => by
    rcases h with h | h
    · rw [h]; exact D_last hD
    · exact hA9 a h
  refine va_callv (va_runIN (As := []) (rest := [.ref s3, .ref b]) ⟨hx, hb, hml, hown, hts⟩ (kX0_init l D cI cR s3 H.size) ⟨va_cnB 0 hts gX3_init_X0_init_n25 rfl rfl rfl hNw (hts (.initialized RX0) (by decide +kernel)) (by decide +kernel) ⟨(Nat.le_of_ble_eq_true rfl), (Nat.le_of_ble_eq_true rfl)⟩, rfl, hts (.instanceMethod yX0_init) (by decide +kernel)⟩ ⟨nBlind, fun U hU hW => ⟨rfl, by rw [hU], by rw [hU]; exact hPc, va_K.moved hW.alike hK⟩⟩ rfl rfl hl.1 rfl (lv_room (Nat.le_of_ble_eq_true rfl)) dX3_init_31 ⟨(Nat.le_of_ble_eq_true rfl), (Nat.le_of_ble_eq_true rfl)⟩) hS (fun a _ h => hF9 a h) hF9 (fun qT t H1 locs ht hvm hq hM hz hk hS => ?_)
  rw [ht] at hM
  obtain ⟨hP2, hD2⟩ := k_join hP hD hA9 hk hq hM
  obtain ⟨h0, -, -⟩ := hq
  subst h0
  clear hP hD
  refine va_putF (D := D) (ci := 3) (v := .ref (qT 0)) (ty := .object "CoinRails$CoinText") (C := RX3) (T := TX3) (N := 3) hx hb hts iX3 tyX3 tyX3_ok nmX3 hown hK hP2 hD2 hS 0 rfl rfl 2 (by decide) (hts (Cond.fieldLink RX3 26 "CoinRails" "text" "LCoinRails$CoinText;") (by decide +kernel)) (fun _ h9 => h9) rfl hin rfl (by decide +kernel) rfl rfl (Nat.le_of_ble_eq_true rfl) dX3_init_34 (fun H locs hP hD hS => ?_)
  have hP : va_P D vwCl ((([(b, .inr (3, [.ref (qN 0), .ref (qH 0), .ref (qT 0)]))] ++ mwL cI cR qN (tmS 0) (iS 6)) ++ mwL cI cR qH tmH GH) ++ mwL cI cR qT tmT zG) H := hP
  have hD : va_D (nA b sz) ((([(b, .inr (3, [.ref (qN 0), .ref (qH 0), .ref (qT 0)]))] ++ mwL cI cR qN (tmS 0) (iS 6)) ++ mwL cI cR qH tmH GH) ++ mwL cI cR qT tmT zG) := hD
  clear hP2 hD2 hPc hA9 hF9 hM hk hz
  obtain ⟨hM, hD2⟩ := mw_cast X3_fin hP hD
  exact W.vret hx hb hr (fun t ht hW => ⟨⟨qCs b qN qH qT, rfl, nOk_of rfl (by decide) (MJ_of hD2) (MA_of hD2), w_end ht hM rfl⟩, hS.F ht⟩) hS.2.2 dX3_init_37
